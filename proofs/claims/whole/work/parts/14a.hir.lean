/-! the cheapest hiring -/
theorem nI_s1 (s : Nat) : nI s + (1 : Int32) = nI (s + 1) := nI_add s 1
theorem SpAt.cong {fx fm gx gm : Mm → Option (Int32 × Mm)} {S : SS} (h : SpAt S gx gm) (h1 : ∀ m, CInv m S → fx m = gx m) (h2 : ∀ m, MInv m S → fm m = gm m) : SpAt S fx fm := by
  obtain ⟨r, S', o, a, b⟩ := h
  exact ⟨r, S', o, fun m hm => by rw [h1 m hm]; exact a m hm, fun m hm => by rw [h2 m hm]; exact b m hm⟩
theorem SpAt.two {fx fm gx gm : Mm → Option (Int32 × Mm)} {S : SS} (hS : OkS S) (x1 x2 : Int32) (lo hi : Nat) (hl : lo ≤ hi) (hh : hi < 1000000)
    (c1 : ∀ m, CInv m S → fx m = if f_X7_in x1 (nI lo) (nI hi) = 0 then some ((-1000001 : Int32), m) else if f_X6_isFlag x2 = 0 then some ((-1000001 : Int32), m) else gx m)
    (c2 : ∀ m, MInv m S → fm m = if f_X7_in x1 (nI lo) (nI hi) = 0 then some ((-1000001 : Int32), m) else if f_X7_in x2 (0 : Int32) (1 : Int32) = 0 then some ((-1000001 : Int32), m) else gm m)
    (h : ∀ n k, lo ≤ n → n ≤ hi → k ≤ 1 → x1 = nI n → x2 = nI k → SpAt S gx gm) : SpAt S fx fm := by
  rcases btw x1 lo hi hl hh with hb | ⟨n, hn1, hn2, rfl⟩
  · have hz : f_X7_in x1 (nI lo) (nI hi) = 0 := in_bad hh (by omega) hb
    exact SpAt.keep hS (-1000001) (fun m hm => by rw [c1 m hm, hz, if_pos rfl]) (fun m hm => by rw [c2 m hm, hz, if_pos rfl])
  have hz : f_X7_in (nI n) (nI lo) (nI hi) = 1 := in_ok hh hn1 hn2
  rcases btw x2 0 1 (by omega) (by omega) with hb | ⟨k, -, hk, rfl⟩
  · have hf : f_X7_in x2 (0 : Int32) (1 : Int32) = 0 := in_bad (lo := 0) (hi := 1) (by omega) (by omega) hb
    exact SpAt.keep hS (-1000001) (fun m hm => by rw [c1 m hm, hz, if_neg (by decide), flag_bad hb, if_pos rfl]) (fun m hm => by rw [c2 m hm, hz, if_neg (by decide), hf, if_pos rfl])
  have hf : f_X7_in (nI k) (0 : Int32) (1 : Int32) = 1 := in_ok (lo := 0) (hi := 1) (by omega) (by omega) hk
  exact (h n k hn1 hn2 hk rfl rfl).cong (fun m hm => by rw [c1 m hm, hz, if_neg (by decide), flag_ok hk, if_neg (by decide)]) (fun m hm => by rw [c2 m hm, hz, if_neg (by decide), hf, if_neg (by decide)])
def ones7 (s : Nat) : Nat := s % 2 + s / 2 % 2 + s / 4 % 2 + s / 8 % 2 + s / 16 % 2 + s / 32 % 2 + s / 64 % 2
theorem bcE : ∀ s, s < 128 → f_J6_bitCount_0f7a4 (nI s) = nI (ones7 s) := by decide +kernel
theorem onesX (x : Int32) : f_X7_ones x = some ((0 : Int32) + (x >>> ((0 : Int32) &&& 31) &&& 1) + (x >>> ((1 : Int32) &&& 31) &&& 1) + (x >>> ((2 : Int32) &&& 31) &&& 1) + (x >>> ((3 : Int32) &&& 31) &&& 1) + (x >>> ((4 : Int32) &&& 31) &&& 1) + (x >>> ((5 : Int32) &&& 31) &&& 1) + (x >>> ((6 : Int32) &&& 31) &&& 1)) := by
  have hF := FU_big
  obtain ⟨f, hf⟩ : ∃ f, FU = f + 8 := ⟨FU - 8, by omega⟩
  unfold f_X7_ones
  rw [hf]
  rfl
theorem onesS : ∀ s, s < 128 → (0 : Int32) + (nI s >>> ((0 : Int32) &&& 31) &&& 1) + (nI s >>> ((1 : Int32) &&& 31) &&& 1) + (nI s >>> ((2 : Int32) &&& 31) &&& 1) + (nI s >>> ((3 : Int32) &&& 31) &&& 1) + (nI s >>> ((4 : Int32) &&& 31) &&& 1) + (nI s >>> ((5 : Int32) &&& 31) &&& 1) + (nI s >>> ((6 : Int32) &&& 31) &&& 1) = nI (ones7 s) := by decide +kernel
theorem onesE {s : Nat} (h : s < 128) : f_X7_ones (nI s) = some (nI (ones7 s)) := by rw [onesX, onesS s h]
theorem ones7_lt (s : Nat) : ones7 s ≤ 7 := by unfold ones7; omega
theorem shE : ∀ n, n < 8 → (1 : Int32) <<< (nI n &&& 31) = nI (2 ^ n) := by decide +kernel
def wE : Option (Nat × Nat) → Int32
  | none => -1000000
  | some q => nI q.1
def pE : Option (Nat × Nat) → Int32
  | none => -1000000
  | some q => nI q.2
def lE : Option (Nat × Nat) → Int32
  | none => 0
  | some q => nI q.2
def chB (b : Option (Nat × Nat)) (s p : Nat) : Bool := match b with
  | none => true
  | some q => decide (p < q.2) || (decide (p = q.2) && decide (ones7 s < ones7 q.1))
def hirV (V : Wv) (n : Nat) : Nat → Option (Nat × Nat)
  | 0 => none
  | s + 1 => if runV n (setHV V s) 0 ≤ runV n (setHV V s) 4 ∧ chB (hirV V n s) s (runV n (setHV V s) 5) = true then some (s, runV n (setHV V s) 5) else hirV V n s
theorem runH_ok {V : Wv} {n h : Nat} (hV : OkV V) (h3 : V 3 + n ≤ 20000) : OkV (runV n (setHV V h)) := runV_ok (setHV_ok hV) n (by rw [setHV_lo (by omega)]; exact h3)
theorem hirV_b {V : Wv} {n : Nat} (hV : OkV V) (h3 : V 3 + n ≤ 20000) : ∀ s q, hirV V n s = some q → q.1 < s ∧ q.2 ≤ 99999 := by
  intro s
  induction s with
  | zero => intro q h; cases h
  | succ s ih =>
    intro q h
    unfold hirV at h
    split at h
    · cases h
      exact ⟨Nat.lt_succ_self s, (runH_ok hV h3).2.2.2.2.2.1⟩
    · have := ih q h; omega
theorem cheapE {m : Mm} {b : Option (Nat × Nat)} {s p : Nat} (e2 : m 240 2 = wE b) (e3 : m 240 3 = pE b) (hs : s < 128) (hp : p ≤ 99999) (hb : ∀ q, b = some q → q.1 < 128 ∧ q.2 ≤ 99999) : f_X1_isCheaper (nI s) (nI p) m = if chB b s p = true then 1 else 0 := by
  unfold f_X1_isCheaper
  cases b with
  | none =>
    have e2' : m 240 2 = -1000000 := e2
    rw [if_pos e2', if_pos e2']
    rfl
  | some q =>
    obtain ⟨h1, h2⟩ := hb q rfl
    have e2' : m 240 2 = nI q.1 := e2
    have e3' : m 240 3 = nI q.2 := e3
    have o1 := ones7_lt s
    have o2 := ones7_lt q.1
    have q1 : (nI q.1 = (-1000000 : Int32)) = False := eq_false (nI_none (by omega))
    have q2 : (nI p = nI q.2) = (p = q.2) := nI_eqE (by omega) (by omega)
    have q3 : (nI (ones7 q.1) ≤ nI (ones7 s)) = (ones7 q.1 ≤ ones7 s) := nI_leE (by omega) (by omega)
    have q4 : (nI q.2 ≤ nI p) = (q.2 ≤ p) := nI_leE (by omega) (by omega)
    rw [e2', e3', bcE _ hs, bcE _ h1]
    simp only [q1, q2, q3, q4, if_false]
    unfold chB
    simp only [Bool.or_eq_true, Bool.and_eq_true, decide_eq_true_eq]
    by_cases hpq : p = q.2
    · rw [if_pos hpq]
      by_cases ho : ones7 q.1 ≤ ones7 s
      · rw [if_pos ho, if_neg (by omega)]
      · rw [if_neg ho, if_pos (by omega)]
    · rw [if_neg hpq]
      by_cases ho : q.2 ≤ p
      · rw [if_pos ho, if_neg (by omega)]
      · rw [if_neg ho, if_pos (by omega)]
theorem cl_fills {m : Mm} {V : Wv} {n h : Nat} (hV : OkV V) (hn : n ≤ 60) (h3 : V 3 ≤ 9999) (hc : CW m 13 V) (hh : h < 2 ^ V 2) : ∃ m', f_X1_fillsWith 13 (nI h) (nI n) m = some ((if runV n (setHV V h) 0 ≤ runV n (setHV V h) 4 then 1 else 0), m') ∧ CW m' 241 (runV n (setHV V h)) ∧ ∀ a, (a < 241 ∨ 249 < a) → m' a = m a := by
  obtain ⟨m1, a1, a2, a3⟩ := cl_become (w0 := 241) (w1 := 13) (by omega) hV.n hV.seats hc
  obtain ⟨m2, b1, b2, b3⟩ := cl_engage (w := 241) hV a2 hh
  obtain ⟨m3, d1, d2, d3⟩ := cl_run (w := 241) (n := n) (by omega) (setHV_ok hV) (by rw [setHV_lo (by omega)]; omega) b2
  unfold f_X1_fillsWith
  rw [a1, bd1_d, b1, bd1_d, d1, bd1_d, isFullE (runH_ok hV (by omega)) d2, nm_d, gd_t (by split <;> decide)]
  exact ⟨m3, rfl, d2, fun a ha => by rw [d3 a (by omega), b3 a (by omega), a3 a (by omega)]⟩
theorem cl_hir {V : Wv} {n : Nat} (hV : OkV V) (hn : n ≤ 30) (h3 : V 3 ≤ 9999) : ∀ (f s : Nat) (m : Mm), CW m 13 V → m 240 2 = wE (hirV V n s) → m 240 3 = pE (hirV V n s) → s ≤ 2 ^ V 2 → 2 ^ V 2 - s < f →
    ∃ m', lp_X1_findCheapest_22 13 f (nI n) (nI (2 ^ V 2)) (nI s) m = some m' ∧ m' 240 2 = wE (hirV V n (2 ^ V 2)) ∧ m' 240 3 = pE (hirV V n (2 ^ V 2)) ∧ ∀ a, (a < 240 ∨ 249 < a) → m' a = m a := by
  have h7 := two_pow_lt hV.n
  intro f
  induction f with
  | zero => intro s m _ _ _ _ h; omega
  | succ f ih =>
    intro s m hc e2 e3 hs hsf
    have hB : ∀ m', lb_X1_findCheapest_22 (lp_X1_findCheapest_22 13 f) 13 (nI n) (nI (2 ^ V 2)) (nI s) m = m' → lp_X1_findCheapest_22 13 (f + 1) (nI n) (nI (2 ^ V 2)) (nI s) m = m' := fun m' h => h
    unfold lb_X1_findCheapest_22 at hB
    have q1 : (nI (2 ^ V 2) ≤ nI s) = (2 ^ V 2 ≤ s) := nI_leE (by omega) (by omega)
    simp only [q1] at hB
    by_cases h : 2 ^ V 2 ≤ s
    · have hs2 : s = 2 ^ V 2 := by omega
      rw [if_pos h] at hB
      refine ⟨m, hB _ rfl, by rw [← hs2]; exact e2, by rw [← hs2]; exact e3, fun _ _ => rfl⟩
    · obtain ⟨m1, a1, a2, a3⟩ := cl_fills (n := n) hV (by omega) h3 hc (show s < 2 ^ V 2 by omega)
      have hU := runH_ok (h := s) hV (show V 3 + n ≤ 20000 by omega)
      have w2 : m1 240 2 = wE (hirV V n s) := by rw [a3 240 (by omega)]; exact e2
      have w3 : m1 240 3 = pE (hirV V n s) := by rw [a3 240 (by omega)]; exact e3
      have hch := cheapE (s := s) (p := runV n (setHV V s) 5) w2 w3 (by omega) hU.2.2.2.2.2.1 (fun q hq => by have := hirV_b hV (show V 3 + n ≤ 20000 by omega) s q hq; omega)
      rw [if_neg h, a1, bd2_d, a2.2.2.2.2.2.1, hch] at hB
      have hc1 : CW m1 13 V := hc.frame fun a ha hb => a3 a (by omega)
      by_cases hst : runV n (setHV V s) 0 ≤ runV n (setHV V s) 4 ∧ chB (hirV V n s) s (runV n (setHV V s) 5) = true
      · have eq1 : hirV V n (s + 1) = some (s, runV n (setHV V s) 5) := by rw [hirV, if_pos hst]
        rw [if_pos hst.1, if_neg (by decide), if_pos hst.2, if_neg (by decide)] at hB
        simp only [nm_d, bd1_d, n1, nI_add] at hB
        rw [st_na (by omega), a2.2.2.2.2.2.1] at hB
        obtain ⟨m', b1, b2, b3, b4⟩ := ih (s + 1) (st_ (st_ m1 240 2 (nI s)) 240 3 (nI (runV n (setHV V s) 5))) (hc1.frame fun a ha hb => by rw [st_na (by omega), st_na (by omega)]) (by rw [eq1, st_n (Or.inr (by omega)), st_s]; rfl) (by rw [eq1, st_s]; rfl) (by omega) (by omega)
        exact ⟨m', hB _ b1, b2, b3, fun a ha => by rw [b4 a ha, st_na (by omega), st_na (by omega), a3 a (by omega)]⟩
      · have eq1 : hirV V n (s + 1) = hirV V n s := by rw [hirV, if_neg hst]
        obtain ⟨m', b1, b2, b3, b4⟩ := ih (s + 1) m1 hc1 (by rw [eq1]; exact w2) (by rw [eq1]; exact w3) (by omega) (by omega)
        refine ⟨m', hB _ ?_, b2, b3, fun a ha => by rw [b4 a ha, a3 a (by omega)]⟩
        rw [n1, nI_add]
        by_cases hst1 : runV n (setHV V s) 0 ≤ runV n (setHV V s) 4
        · rw [if_pos hst1, if_neg (by decide), if_neg (fun e => hst ⟨hst1, e⟩), if_pos rfl]
          exact b1
        · rw [if_neg hst1, if_pos rfl]
          exact b1
theorem mo_hir {V : Wv} {n : Nat} (x2 : Int32) (hV : OkV V) (hn : n ≤ 30) (h3 : V 3 ≤ 9999) : ∀ (f s : Nat) (m : Mm), MW m 304 0 V → s ≤ 2 ^ V 2 → 2 ^ V 2 - s < f →
    ∃ m', lp_X7_hiring_41 f (nI n) x2 (wE (hirV V n s)) (lE (hirV V n s)) (nI s) m = some (wE (hirV V n (2 ^ V 2)), lE (hirV V n (2 ^ V 2)), m') ∧ ∀ a, a ≠ 306 → a ≠ 310 → m' a = m a := by
  have h7 := two_pow_lt hV.n
  have hn7 := hV.n
  intro f
  induction f with
  | zero => intro s m _ _ h; omega
  | succ f ih =>
    intro s m hc hs hsf
    have hB : ∀ m', lb_X7_hiring_41 (lp_X7_hiring_41 f) (nI n) x2 (wE (hirV V n s)) (lE (hirV V n s)) (nI s) m = m' → lp_X7_hiring_41 (f + 1) (nI n) x2 (wE (hirV V n s)) (lE (hirV V n s)) (nI s) m = m' := fun m' h => h
    unfold lb_X7_hiring_41 at hB
    have q1 : (nI (2 ^ V 2) ≤ nI s) = (2 ^ V 2 ≤ s) := nI_leE (by omega) (by omega)
    rw [show ix (2 : Int32) = 2 from rfl, hc.at (by omega), shE _ (by omega)] at hB
    simp only [q1] at hB
    by_cases h : 2 ^ V 2 ≤ s
    · have hs2 : s = 2 ^ V 2 := by omega
      rw [if_pos h] at hB
      exact ⟨m, hB _ (by rw [hs2]), fun _ _ _ => rfl⟩
    · obtain ⟨m1, a1, a2, a3⟩ := mo_triesBy (h := s) hV hc (by omega)
      obtain ⟨m2, b1, b2, b3⟩ := mo_goesOn (n := n) (by omega) (setHV_ok hV) (by rw [setHV_lo (by omega)]; omega) a2
      have hU := runH_ok (h := s) hV (show V 3 + n ≤ 20000 by omega)
      have hU0 := hU.1
      have hU4 := hU.2.2.2.2.1
      have hU5 := hU.2.2.2.2.2.1
      have hch : (if wE (hirV V n s) = (-1000000 : Int32) then (some (1 : Int32))
          else (if nI (runV n (setHV V s) 5) < lE (hirV V n s) then (some (1 : Int32))
          else (if nI (runV n (setHV V s) 5) = lE (hirV V n s) then (bd1 (f_X7_ones (nI s)) fun r10 => (bd1 (f_X7_ones (wE (hirV V n s))) fun r11 => (if r11 ≤ r10 then (some (0 : Int32)) else (some (1 : Int32)))))
          else (some (0 : Int32))))) = some (if chB (hirV V n s) s (runV n (setHV V s) 5) = true then 1 else 0) := by
        cases hb : hirV V n s with
        | none => rw [if_pos (show wE none = -1000000 from rfl)]; rfl
        | some q =>
          obtain ⟨h1, h2⟩ := hirV_b hV (show V 3 + n ≤ 20000 by omega) s q hb
          have o1 := ones7_lt s
          have o2 := ones7_lt q.1
          have z1 : (nI q.1 = (-1000000 : Int32)) = False := eq_false (nI_none (by omega))
          have z2 : (nI (runV n (setHV V s) 5) = nI q.2) = (runV n (setHV V s) 5 = q.2) := nI_eqE (by omega) (by omega)
          have z3 : (nI (ones7 q.1) ≤ nI (ones7 s)) = (ones7 q.1 ≤ ones7 s) := nI_leE (by omega) (by omega)
          have z4 : (nI (runV n (setHV V s) 5) < nI q.2) = (runV n (setHV V s) 5 < q.2) := nI_ltE (by omega) (by omega)
          show (if nI q.1 = (-1000000 : Int32) then _ else (if nI (runV n (setHV V s) 5) < nI q.2 then _ else (if nI (runV n (setHV V s) 5) = nI q.2 then (bd1 (f_X7_ones (nI s)) fun r10 => (bd1 (f_X7_ones (nI q.1)) fun r11 => _)) else _))) = _
          rw [onesE (show s < 128 by omega), onesE (show q.1 < 128 by omega), bd1_d, bd1_d]
          simp only [z1, z2, z3, z4, if_false]
          unfold chB
          simp only [Bool.or_eq_true, Bool.and_eq_true, decide_eq_true_eq]
          by_cases hlt : runV n (setHV V s) 5 < q.2
          · rw [if_pos hlt, if_pos (by omega)]
          · rw [if_neg hlt]
            by_cases hpq : runV n (setHV V s) 5 = q.2
            · rw [if_pos hpq]
              by_cases ho : ones7 q.1 ≤ ones7 s
              · rw [if_pos ho, if_neg (by omega)]
              · rw [if_neg ho, if_pos (by omega)]
            · rw [if_neg hpq, if_neg (by omega)]
      have q2 : (nI (runV n (setHV V s) 4) < nI (runV n (setHV V s) 0)) = (runV n (setHV V s) 4 < runV n (setHV V s) 0) := nI_ltE (by omega) (by omega)
      rw [if_neg h, a1, bd1_d, b1, bd1_d, show ix (5 : Int32) = 5 from rfl, show ix (4 : Int32) = 4 from rfl, show ix (0 : Int32) = 0 from rfl, b2.at (show 5 < 55 by omega), b2.at (show 4 < 55 by omega), b2.at (show 0 < 55 by omega), hch, bd1_d] at hB
      simp only [q2, nm_d, nI_s1] at hB
      have hc2 : MW m2 304 0 V := hc.frame (by rw [b3 304 (by omega) (by omega), a3 304 (by omega)])
      obtain ⟨m', d1, d2⟩ := ih (s + 1) m2 hc2 (by omega) (by omega)
      refine ⟨m', hB _ ?_, fun a g1 g2 => by rw [d2 a g1 g2, b3 a g1 g2, a3 a g1]⟩
      by_cases hst : runV n (setHV V s) 0 ≤ runV n (setHV V s) 4 ∧ chB (hirV V n s) s (runV n (setHV V s) 5) = true
      · have eq1 : hirV V n (s + 1) = some (s, runV n (setHV V s) 5) := by rw [hirV, if_pos hst]
        rw [if_neg (by omega), if_pos hst.2, if_neg (by decide), bd2_d]
        rw [eq1] at d1
        exact d1
      · have eq1 : hirV V n (s + 1) = hirV V n s := by rw [hirV, if_neg hst]
        rw [eq1] at d1
        by_cases hst1 : runV n (setHV V s) 0 ≤ runV n (setHV V s) 4
        · rw [if_neg (by omega), if_neg (fun e => hst ⟨hst1, e⟩), if_pos rfl, bd2_d]
          exact d1
        · rw [if_pos (by omega), bd2_d]
          exact d1
theorem sp_hiring (x1 x2 : Int32) : Sp2 (f_X6_hiring x1 x2) (f_X7_hiring x1 x2) := fun S hS => by
  have hN := hS.2.2.2.1
  have hn := hN.v.n
  have hF := FU_big
  by_cases hz0 : S.2.2.2.1 2 = 0
  · refine SpAt.keep hS (-1000002) (fun m hm => ?_) (fun m hm => ?_)
    · unfold f_X6_hiring
      rw [isNoneE hn hm.2.2.2.1, if_pos hz0]; rfl
    · unfold f_X7_hiring
      rw [isWedE hN hm.2.2.2.1, if_pos hz0]; rfl
  have hW := hN.w (by omega)
  have hV := hW.1
  have h3 := hW.2.1
  have h7 := two_pow_lt hV.n
  refine SpAt.two hS x1 x2 1 30 (by omega) (by omega) (gx := fun m => (bd1 (f_X1_findCheapest 13 x1 m) fun m4 => (some ((f_X1_answer x2 m4), m4)))) (gm := fun m => (bd3 (lp_X7_hiring_41 FU x1 x2 (-1000000 : Int32) (0 : Int32) (0 : Int32) m) fun z20 z21 m22 => (if z20 = (-1000000 : Int32) then (some (z20, m22)) else (if x2 = 0 then (some (z20, m22)) else (some (z21, m22)))))) (fun m hm => ?_) (fun m hm => ?_) ?_
  · unfold f_X6_hiring
    rw [isNoneE hn hm.2.2.2.1, if_neg hz0, if_pos rfl, withinE] <;> rfl
  · unfold f_X7_hiring
    rw [isWedE hN hm.2.2.2.1, if_neg hz0, if_neg (by decide)] <;> rfl
  rintro n k hn1 hn2 hk rfl rfl
  have k0 : (nI k = 0) = (k = 0) := nI_eqE (b := 0) (by omega) (by omega)
  refine SpAt.scr hS (if k = 0 then wE (hirV S.2.2.2.1 n (2 ^ S.2.2.2.1 2)) else pE (hirV S.2.2.2.1 n (2 ^ S.2.2.2.1 2))) (fun m hm => ?_) (fun m hm => ?_)
  · have hc := hm.2.2.2.1
    obtain ⟨m', a1, a2, a3, a4⟩ := cl_hir (n := n) hV hn2 h3 FU 0 (st_ (st_ m 240 2 (-1000000 : Int32)) 240 3 (-1000000 : Int32)) (hc.frame fun a ha hb => by rw [st_na (by omega), st_na (by omega)]) (by rw [st_n (Or.inr (by omega)), st_s]; rfl) (by rw [st_s]; rfl) (Nat.zero_le _) (by omega)
    have a1' : lp_X1_findCheapest_22 13 FU (nI n) (nI (2 ^ S.2.2.2.1 2)) (0 : Int32) (st_ (st_ m 240 2 (-1000000 : Int32)) 240 3 (-1000000 : Int32)) = some m' := a1
    unfold f_X1_findCheapest f_X1_answer
    simp only [nm_d]
    rw [st_na (by omega), st_na (by omega), hc.1, shE _ (by omega), a1', bd1_d, bd1_d, a2, a3]
    simp only [k0]
    exact ⟨m', rfl, fun a ha => by rw [a4 a (by omega), st_na (by omega), st_na (by omega)]⟩
  · have hc := hm.2.2.2.1
    obtain ⟨m', a1, a2⟩ := mo_hir (n := n) (nI k) hV hn2 h3 FU 0 m hc (Nat.zero_le _) (by omega)
    have a1' : lp_X7_hiring_41 FU (nI n) (nI k) (-1000000 : Int32) (0 : Int32) (0 : Int32) m = _ := a1
    simp only [a1', bd3_d, k0]
    refine ⟨m', ?_, fun a _ h1 h2 _ => a2 a h1 h2⟩
    cases hb : hirV S.2.2.2.1 n (2 ^ S.2.2.2.1 2) with
    | none =>
      rw [if_pos (show wE none = -1000000 from rfl)]
      show some ((-1000000 : Int32), m') = some (if k = 0 then (-1000000 : Int32) else (-1000000 : Int32), m')
      rw [ite_self]
    | some q =>
      obtain ⟨h1, h2⟩ := hirV_b hV (show S.2.2.2.1 3 + n ≤ 20000 by omega) _ q hb
      rw [if_neg (show ¬ wE (some q) = (-1000000 : Int32) from nI_none (by omega))]
      by_cases h : k = 0
      · rw [if_pos h, if_pos h]
      · rw [if_neg h, if_neg h]; rfl
