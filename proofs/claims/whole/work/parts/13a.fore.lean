/-! foretold: what is played on other cells changes nothing -/
theorem SpAt.scr {fx fm : Mm → Option (Int32 × Mm)} {S : SS} (hS : OkS S) (r : Int32) (h1 : ∀ m, CInv m S → ∃ m', fx m = some (r, m') ∧ ∀ a, (a < 240 ∨ 262 ≤ a) → m' a = m a) (h2 : ∀ m, MInv m S → ∃ m', fm m = some (r, m') ∧ ∀ a, a ≠ 302 → a ≠ 306 → a ≠ 310 → a ≠ 311 → m' a = m a) : SpAt S fx fm := by
  refine ⟨r, S, hS, fun m hm => ?_, fun m hm => ?_⟩
  · obtain ⟨m', e1, e2⟩ := h1 m hm
    exact ⟨m', e1, hm.frame (fun a _ ha => e2 a (by omega)) ⟨by rw [e2 3 (by omega)], by rw [e2 3 (by omega)], by rw [e2 3 (by omega)]⟩, fun a ha => e2 a (by omega)⟩
  · obtain ⟨m', e1, e2⟩ := h2 m hm
    exact ⟨m', e1, hm.frame (fun a _ ha => e2 a (by omega) (by omega) (by omega) (by omega)) (fun k _ => by rw [e2 298 (by omega) (by omega) (by omega) (by omega)]), fun a ha => e2 a (by omega) (by omega) (by omega) (by omega)⟩
theorem withinE (x a b : Int32) : f_X6_isWithin x a b = f_X7_in x a b := rfl
theorem flag_bad {x : Int32} (h : ¬ (((0 : Nat) : Int) ≤ x.toInt ∧ x.toInt ≤ ((1 : Nat) : Int))) : f_X6_isFlag x = 0 := by
  have e1 : (1 : Int32).toInt = 1 := by decide
  have e0 : (0 : Int32).toInt = 0 := by decide
  unfold f_X6_isFlag
  rw [if_neg (fun e => h (by rw [e]; omega)), if_neg (fun e => h (by rw [e]; omega))]
theorem flag_ok {n : Nat} (h : n ≤ 1) : f_X6_isFlag (nI n) = 1 := by rcases (show n = 0 ∨ n = 1 by omega) with h | h <;> subst h <;> rfl
theorem cl_after {m : Mm} {V : Wv} {n : Nat} (hV : OkV V) (hn : n ≤ 60) (h3 : V 3 ≤ 9999) (hc : CW m 13 V) : ∃ m', f_X1_after 13 (nI n) m = some m' ∧ CW m' 241 (runV n V) ∧ ∀ a, (a < 241 ∨ 249 < a) → m' a = m a := by
  obtain ⟨m1, a1, a2, a3⟩ := cl_become (w0 := 241) (w1 := 13) (by omega) hV.n hV.seats hc
  obtain ⟨m2, b1, b2, b3⟩ := cl_run (w := 241) (n := n) (by omega) hV (by omega) a2
  unfold f_X1_after
  rw [a1, bd1_d, b1, bd1_d]
  exact ⟨m2, rfl, b2, fun a ha => by rw [b3 a (by omega), a3 a (by omega)]⟩
theorem mo_after {m : Mm} {V : Wv} {n : Nat} (hV : OkV V) (hn : n ≤ 60) (h3 : V 3 ≤ 9999) (hm : MW m 304 0 V) : ∃ m1 m', f_X7_copies 304 55 (0 : Int32) 306 55 (0 : Int32) m = some m1 ∧ f_X7_goesOn (nI n) m1 = some m' ∧ MW m' 306 0 (runV n V) ∧ ∀ a, a ≠ 306 → a ≠ 310 → m' a = m a := by
  obtain ⟨m1, a1, a2, a3, a4⟩ := mo_copy (q1 := 304) (z1 := 55) (o1 := 0) (q3 := 306) (z3 := 55) (o3 := 0) (by omega) (by omega) (by omega) (by omega) (by omega) hm
  obtain ⟨m2, b1, b2, b3⟩ := mo_goesOn (n := n) (by omega) hV (by omega) a2
  exact ⟨m1, m2, a1, b1, b2, fun a h1 h2 => by rw [b3 a h1 h2, a3 a h1]⟩
set_option maxHeartbeats 1000000 in
theorem sp_ahead (x1 x2 x3 : Int32) : Sp2 (f_X6_ahead x1 x2 x3) (f_X7_ahead x1 x2 x3) := fun S hS => by
  have hN := hS.2.2.2.1
  have hn := hN.v.n
  rcases gstIx S.2.2.2.1 hn x1 with hb | ⟨g, hg, rfl⟩
  · refine SpAt.keep hS (-1000001) (fun m hm => ?_) (fun m hm => ?_)
    · unfold f_X6_ahead
      rw [(gst_bad hn hb).1 hm.2.2.2.1]; rfl
    · unfold f_X7_ahead
      rw [(gst_bad (w := 13) hn hb).2 hm.2.2.2.1]; rfl
  have hW := hN.w (by omega)
  have hV := hW.1
  have c1 : ∀ m, CInv m S → f_X6_ahead (nI g) x2 x3 m = if f_X7_in x2 (0 : Int32) (60 : Int32) = 0 then some ((-1000001 : Int32), m) else if f_X6_isFlag x3 = 0 then some ((-1000001 : Int32), m) else (bd1 (f_X1_after 13 x2 m) fun m4 => if x3 = 0 then some (m4 246 g, m4) else some (m4 245 g, m4)) := fun m hm => by
    unfold f_X6_ahead
    rw [(gst_ok hn hg).1 hm.2.2.2.1, if_neg (by decide), withinE]
    simp (disch := omega) only [ix_nI, gdM]
  have c2 : ∀ m, MInv m S → f_X7_ahead (nI g) x2 x3 m = if f_X7_in x2 (0 : Int32) (60 : Int32) = 0 then some ((-1000001 : Int32), m) else if f_X7_in x3 (0 : Int32) (1 : Int32) = 0 then some ((-1000001 : Int32), m) else (bd1 (f_X7_copies 304 55 (0 : Int32) 306 55 (0 : Int32) m) fun m5 => (bd1 (f_X7_goesOn x2 m5) fun m6 => (gd_ (¬ ((((6 : Int32) + ((7 : Int32) * nI g)) + (if x3 = 0 then (6 : Int32) else (2 : Int32))) < 0 ∨ 55 ≤ ix (((6 : Int32) + ((7 : Int32) * nI g)) + (if x3 = 0 then (6 : Int32) else (2 : Int32))))) (some ((m6 306 (ix (((6 : Int32) + ((7 : Int32) * nI g)) + (if x3 = 0 then (6 : Int32) else (2 : Int32))))), m6))))) := fun m hm => by
    unfold f_X7_ahead
    rw [(gst_ok (w := 13) hn hg).2 hm.2.2.2.1, bd1_d, if_neg (by decide)]
    rfl
  rcases btw x2 0 60 (by omega) (by omega) with hb | ⟨n, -, hn2, rfl⟩
  · have hz : f_X7_in x2 (0 : Int32) (60 : Int32) = 0 := in_bad (lo := 0) (hi := 60) (by omega) (by omega) hb
    exact SpAt.keep hS (-1000001) (fun m hm => by rw [c1 m hm, hz, if_pos rfl]) (fun m hm => by rw [c2 m hm, hz, if_pos rfl])
  have hz : f_X7_in (nI n) (0 : Int32) (60 : Int32) = 1 := in_ok (lo := 0) (hi := 60) (by omega) (by omega) hn2
  rcases btw x3 0 1 (by omega) (by omega) with hb | ⟨k, -, hk, rfl⟩
  · have hf : f_X7_in x3 (0 : Int32) (1 : Int32) = 0 := in_bad (lo := 0) (hi := 1) (by omega) (by omega) hb
    exact SpAt.keep hS (-1000001) (fun m hm => by rw [c1 m hm, hz, if_neg (by decide), flag_bad hb, if_pos rfl]) (fun m hm => by rw [c2 m hm, hz, if_neg (by decide), hf, if_pos rfl])
  have hf : f_X7_in (nI k) (0 : Int32) (1 : Int32) = 1 := in_ok (lo := 0) (hi := 1) (by omega) (by omega) hk
  have k0 : (nI k = 0) = (k = 0) := nI_eqE (b := 0) (by omega) (by omega)
  have r2 : runV n S.2.2.2.1 2 = S.2.2.2.1 2 := runV_lo (by omega) n
  refine SpAt.scr hS (nI (runV n S.2.2.2.1 (ig g (if k = 0 then 6 else 2)))) (fun m hm => ?_) (fun m hm => ?_)
  · obtain ⟨m', a1, a2, a3⟩ := cl_after (n := n) hV hn2 hW.2.1 hm.2.2.2.1
    rw [c1 m hm, hz, if_neg (by decide), flag_ok hk, if_neg (by decide), a1, bd1_d]
    simp only [k0]
    obtain ⟨d1, d2, d3, d4, d5, d6, d7⟩ := a2.g (g := g) (by rw [r2]; exact hg)
    refine ⟨m', ?_, fun a ha => a3 a (by omega)⟩
    by_cases h : k = 0
    · rw [if_pos h, if_pos h, show m' 246 g = _ from d5]
    · rw [if_neg h, if_neg h, show m' 245 g = _ from d4]
  · obtain ⟨m1, m', a1, a2, a3, a4⟩ := mo_after (n := n) hV hn2 hW.2.1 hm.2.2.2.1
    rw [c2 m hm, hz, if_neg (by decide), hf, if_neg (by decide), a1, bd1_d, a2, bd1_d]
    simp only [k0]
    refine ⟨m', ?_, fun a _ h1 h2 _ => a4 a h1 h2⟩
    have e : (6 : Int32) + (7 : Int32) * nI g + (if k = 0 then (6 : Int32) else (2 : Int32)) = nI (ig g (if k = 0 then 6 else 2)) := by
      by_cases h : k = 0
      · rw [if_pos h, if_pos h]; exact igE g 6
      · rw [if_neg h, if_neg h]; exact igE g 2
    have il : ig g (if k = 0 then 6 else 2) < 55 := ig_lt (n := 7) (by omega) (by omega) (by split <;> omega)
    simp only [e]
    rw [gdN il (by omega), ix_nI (by omega), a3.at il]
/-- the calls that want a wedding and two numbers: refused alike -/
theorem sp_bottle (x1 x2 : Int32) : Sp2 (f_X6_bottle x1 x2) (f_X7_bottle x1 x2) := fun S hS => by
  have hN := hS.2.2.2.1
  have hn := hN.v.n
  by_cases hz0 : S.2.2.2.1 2 = 0
  · refine SpAt.keep hS (-1000002) (fun m hm => ?_) (fun m hm => ?_)
    · unfold f_X6_bottle
      rw [isNoneE hn hm.2.2.2.1, if_pos hz0]; rfl
    · unfold f_X7_bottle
      rw [isWedE hN hm.2.2.2.1, if_pos hz0]; rfl
  have hW := hN.w (by omega)
  have hV := hW.1
  have c1 : ∀ m, CInv m S → f_X6_bottle x1 x2 m = if f_X7_in x1 (0 : Int32) (60 : Int32) = 0 then some ((-1000001 : Int32), m) else if f_X6_isFlag x2 = 0 then some ((-1000001 : Int32), m) else (bd1 (f_X1_after 13 x1 m) fun m4 => if x2 = 0 then some (m4 241 4, m4) else some (m4 241 5, m4)) := fun m hm => by
    unfold f_X6_bottle
    rw [isNoneE hn hm.2.2.2.1, if_neg hz0, if_pos rfl, withinE]
  have c2 : ∀ m, MInv m S → f_X7_bottle x1 x2 m = if f_X7_in x1 (0 : Int32) (60 : Int32) = 0 then some ((-1000001 : Int32), m) else if f_X7_in x2 (0 : Int32) (1 : Int32) = 0 then some ((-1000001 : Int32), m) else (bd1 (f_X7_copies 304 55 (0 : Int32) 306 55 (0 : Int32) m) fun m4 => (bd1 (f_X7_goesOn x1 m4) fun m5 => (gd_ (¬ ((if x2 = 0 then (4 : Int32) else (5 : Int32)) < 0 ∨ 55 ≤ ix (if x2 = 0 then (4 : Int32) else (5 : Int32)))) (some ((m5 306 (ix (if x2 = 0 then (4 : Int32) else (5 : Int32)))), m5))))) := fun m hm => by
    unfold f_X7_bottle
    rw [isWedE hN hm.2.2.2.1, if_neg hz0, if_neg (by decide)]
    rfl
  rcases btw x1 0 60 (by omega) (by omega) with hb | ⟨n, -, hn2, rfl⟩
  · have hz : f_X7_in x1 (0 : Int32) (60 : Int32) = 0 := in_bad (lo := 0) (hi := 60) (by omega) (by omega) hb
    exact SpAt.keep hS (-1000001) (fun m hm => by rw [c1 m hm, hz, if_pos rfl]) (fun m hm => by rw [c2 m hm, hz, if_pos rfl])
  have hz : f_X7_in (nI n) (0 : Int32) (60 : Int32) = 1 := in_ok (lo := 0) (hi := 60) (by omega) (by omega) hn2
  rcases btw x2 0 1 (by omega) (by omega) with hb | ⟨k, -, hk, rfl⟩
  · have hf : f_X7_in x2 (0 : Int32) (1 : Int32) = 0 := in_bad (lo := 0) (hi := 1) (by omega) (by omega) hb
    exact SpAt.keep hS (-1000001) (fun m hm => by rw [c1 m hm, hz, if_neg (by decide), flag_bad hb, if_pos rfl]) (fun m hm => by rw [c2 m hm, hz, if_neg (by decide), hf, if_pos rfl])
  have hf : f_X7_in (nI k) (0 : Int32) (1 : Int32) = 1 := in_ok (lo := 0) (hi := 1) (by omega) (by omega) hk
  have k0 : (nI k = 0) = (k = 0) := nI_eqE (b := 0) (by omega) (by omega)
  refine SpAt.scr hS (nI (runV n S.2.2.2.1 (if k = 0 then 4 else 5))) (fun m hm => ?_) (fun m hm => ?_)
  · obtain ⟨m', a1, a2, a3⟩ := cl_after (n := n) hV hn2 hW.2.1 hm.2.2.2.1
    rw [c1 m hm, hz, if_neg (by decide), flag_ok hk, if_neg (by decide), a1, bd1_d]
    simp only [k0]
    refine ⟨m', ?_, fun a ha => a3 a (by omega)⟩
    by_cases h : k = 0
    · rw [if_pos h, if_pos h, a2.2.2.2.2.1]
    · rw [if_neg h, if_neg h, a2.2.2.2.2.2.1]
  · obtain ⟨m1, m', a1, a2, a3, a4⟩ := mo_after (n := n) hV hn2 hW.2.1 hm.2.2.2.1
    rw [c2 m hm, hz, if_neg (by decide), hf, if_neg (by decide), a1, bd1_d, a2, bd1_d]
    simp only [k0]
    refine ⟨m', ?_, fun a _ h1 h2 _ => a4 a h1 h2⟩
    by_cases h : k = 0
    · simp only [if_pos h]
      rw [gd_t (by decide), show ix (4 : Int32) = 4 from rfl, a3.at (by omega)]
    · simp only [if_neg h]
      rw [gd_t (by decide), show ix (5 : Int32) = 5 from rfl, a3.at (by omega)]
def filV : Nat → Nat → Wv → Option Nat
  | 0, _, _ => none
  | k + 1, d, V => if V 0 ≤ V 4 then some d else filV k (d + 1) (passV V)
theorem isFullE {m : Mm} {w : Nat} {V : Wv} (hV : OkV V) (hc : CW m w V) : f_X5_isFull w m = if V 0 ≤ V 4 then 1 else 0 := by
  have h0 := hV.1
  have h4 := hV.2.2.2.2.1
  unfold f_X5_isFull
  rw [hc.2.2.2.2.1, hc.2.1]
  have q : (nI (V 4) < nI (V 0)) = (V 4 < V 0) := nI_ltE (by omega) (by omega)
  simp only [q]
  by_cases h : V 0 ≤ V 4
  · rw [if_pos h, if_neg (by omega)]
  · rw [if_neg h, if_pos (by omega)]
theorem cl_fil : ∀ (k f d : Nat) (m : Mm) (V : Wv), d + k = 61 → k < f → OkV V → V 3 + k ≤ 20000 → CW m 241 V → ∃ m', lp_X1_minutesToFull_10 f (nI d) m = some (match filV k d V with | some e => .inl (nI e, m') | none => .inr m') ∧ ∀ a, (a < 241 ∨ 249 < a) → m' a = m a := by
  intro k
  induction k with
  | zero =>
    intro f d m V hd hf hV h3 hc
    cases f with
    | zero => omega
    | succ f =>
      refine ⟨m, ?_, fun _ _ => rfl⟩
      show lb_X1_minutesToFull_10 (lp_X1_minutesToFull_10 f) (nI d) m = _
      unfold lb_X1_minutesToFull_10
      rw [if_pos (by rw [show (60 : Int32) = nI 60 from rfl, nI_ltE (by omega) (by omega)]; omega)]
      rfl
  | succ k ih =>
    intro f d m V hd hf hV h3 hc
    cases f with
    | zero => omega
    | succ f =>
      have hB : ∀ m', lb_X1_minutesToFull_10 (lp_X1_minutesToFull_10 f) (nI d) m = m' → lp_X1_minutesToFull_10 (f + 1) (nI d) m = m' := fun m' h => h
      unfold lb_X1_minutesToFull_10 at hB
      rw [if_neg (by rw [show (60 : Int32) = nI 60 from rfl, nI_ltE (by omega) (by omega)]; omega), isFullE hV hc] at hB
      by_cases h : V 0 ≤ V 4
      · refine ⟨m, hB _ ?_, fun _ _ => rfl⟩
        rw [if_pos h, if_neg (by decide)]
        unfold filV
        rw [if_pos h]
      · obtain ⟨m1, a1, a2, a3⟩ := cl_pass hV hc
        obtain ⟨m', e1, e2⟩ := ih f (d + 1) m1 (passV V) (by omega) (by omega) (passV_ok hV (by omega)) (by show V 3 + 1 + k ≤ 20000; omega) a2
        refine ⟨m', hB _ ?_, fun a ha => by rw [e2 a ha, a3 a (by omega)]⟩
        rw [if_neg h, if_pos rfl, a1, bd1_d, nm_d, n1, nI_add]
        unfold filV
        rw [if_neg h]
        exact e1
theorem mo_fil : ∀ (k f d : Nat) (m : Mm) (V : Wv), d + k = 61 → k < f → OkV V → V 3 + k ≤ 20000 → MW m 306 0 V → ∃ m', lp_X7_filled_25 f (nI d) m = some (match filV k d V with | some e => .inl (nI e, m') | none => .inr m') ∧ ∀ a, a ≠ 306 → a ≠ 310 → m' a = m a := by
  intro k
  induction k with
  | zero =>
    intro f d m V hd hf hV h3 hc
    cases f with
    | zero => omega
    | succ f =>
      refine ⟨m, ?_, fun _ _ _ => rfl⟩
      show lb_X7_filled_25 (lp_X7_filled_25 f) (nI d) m = _
      unfold lb_X7_filled_25
      rw [if_pos (by rw [show (61 : Int32) = nI 61 from rfl, nI_leE (by omega) (by omega)]; omega)]
      rfl
  | succ k ih =>
    intro f d m V hd hf hV h3 hc
    cases f with
    | zero => omega
    | succ f =>
      have h0 := hV.1
      have h4 := hV.2.2.2.2.1
      have q : (nI (V 4) < nI (V 0)) = (V 4 < V 0) := nI_ltE (by omega) (by omega)
      have hB : ∀ m', lb_X7_filled_25 (lp_X7_filled_25 f) (nI d) m = m' → lp_X7_filled_25 (f + 1) (nI d) m = m' := fun m' h => h
      unfold lb_X7_filled_25 at hB
      rw [if_neg (by rw [show (61 : Int32) = nI 61 from rfl, nI_leE (by omega) (by omega)]; omega), show ix (4 : Int32) = 4 from rfl, show ix (0 : Int32) = 0 from rfl, hc.at (show 4 < 55 by omega), hc.at (show 0 < 55 by omega)] at hB
      simp only [q] at hB
      by_cases h : V 0 ≤ V 4
      · refine ⟨m, hB _ ?_, fun _ _ _ => rfl⟩
        rw [if_neg (by omega)]
        unfold filV
        rw [if_pos h]
      · obtain ⟨m1, a1, a2, a3, a4⟩ := mo_pass (q := 306) (nq := 55) (by omega) (by omega) hV hc
        obtain ⟨m', e1, e2⟩ := ih f (d + 1) m1 (passV V) (by omega) (by omega) (passV_ok hV (by omega)) (by show V 3 + 1 + k ≤ 20000; omega) a2
        refine ⟨m', hB _ ?_, fun a h1 h2 => by rw [e2 a h1 h2, a3 a h1 h2]⟩
        rw [if_pos (by omega), a1, bd1_d, nm_d, n1, nI_add]
        unfold filV
        rw [if_neg h]
        exact e1
theorem sp_filled : Sp2 f_X6_filled f_X7_filled := fun S hS => by
  have hN := hS.2.2.2.1
  have hn := hN.v.n
  have hF := FU_big
  by_cases hz0 : S.2.2.2.1 2 = 0
  · refine SpAt.keep hS (-1000002) (fun m hm => ?_) (fun m hm => ?_)
    · unfold f_X6_filled
      rw [isNoneE hn hm.2.2.2.1, if_pos hz0]; rfl
    · unfold f_X7_filled
      rw [isWedE hN hm.2.2.2.1, if_pos hz0]; rfl
  have hW := hN.w (by omega)
  have hV := hW.1
  have h3 := hW.2.1
  refine SpAt.scr hS (match filV 61 0 S.2.2.2.1 with | some e => nI e | none => -1000000) (fun m hm => ?_) (fun m hm => ?_)
  · obtain ⟨m1, a1, a2, a3⟩ := cl_become (w0 := 241) (w1 := 13) (by omega) hn hV.seats hm.2.2.2.1
    obtain ⟨m', e1, e2⟩ := cl_fil 61 FU 0 m1 S.2.2.2.1 (by omega) (by omega) hV (by omega) a2
    have e1' : lp_X1_minutesToFull_10 FU (0 : Int32) m1 = _ := e1
    unfold f_X6_filled f_X1_minutesToFull
    rw [isNoneE hn hm.2.2.2.1, if_neg hz0, if_pos rfl, a1, bd1_d, e1']
    refine ⟨m', ?_, fun a ha => by rw [e2 a (by omega), a3 a (by omega)]⟩
    cases filV 61 0 S.2.2.2.1 <;> rfl
  · obtain ⟨m1, a1, a2, a3, a4⟩ := mo_copy (q1 := 304) (z1 := 55) (o1 := 0) (q3 := 306) (z3 := 55) (o3 := 0) (by omega) (by omega) (by omega) (by omega) (by omega) hm.2.2.2.1
    have a1' : f_X7_copies 304 55 (0 : Int32) 306 55 (0 : Int32) m = some m1 := a1
    obtain ⟨m', e1, e2⟩ := mo_fil 61 FU 0 m1 S.2.2.2.1 (by omega) (by omega) hV (by omega) a2
    have e1' : lp_X7_filled_25 FU (0 : Int32) m1 = _ := e1
    unfold f_X7_filled
    rw [isWedE hN hm.2.2.2.1, if_neg hz0, if_neg (by decide), a1', bd1_d, e1']
    refine ⟨m', ?_, fun a _ h1 h2 _ => by rw [e2 a h1 h2, a3 a h1]⟩
    cases filV 61 0 S.2.2.2.1 <;> rfl
