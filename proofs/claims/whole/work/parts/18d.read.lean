theorem c_read {T : Bs} {m : Mm} (hn : T.2 ≤ 110) (hT : ∀ k, T.1 k ≤ 255) (hB : CB m T) (hd : m 3 3 = 0 ∧ m 3 4 = 0 ∧ m 3 5 = 0) :
    (∃ U, aPar T = .inr U ∧ ∃ m' m1 p, f_X3_read m = some (1, m') ∧ m' = st_ m1 2 2 0 ∧ CS T m m1 (.inr p) ∧ CW m1 3 U ∧ IdV U ∧ 1 ≤ U 2 ∧ 1 ≤ U 0) ∨
    (∃ e, aPar T = .inl e ∧ ∃ m' m1, f_X3_read m = some (0, m') ∧ m' = st_ m1 2 2 0 ∧ CS T m m1 (.inl e)) := by
  have hF := FU_big
  have hs : CS T m (st_ (st_ (st_ m 2 3 (0 : Int32)) 3 0 (0 : Int32)) 3 6 (0 : Int32)) (.inr 0) := by
    refine ⟨⟨by rw [st_na (by omega), st_na (by omega), st_n (Or.inr (by omega))]; exact hB.1, fun k hk => by rw [st_na (by omega), st_na (by omega), st_na (by omega)]; exact hB.2 k hk⟩, fun a ha => by rw [st_na (by omega), st_na (by omega), st_na (by omega)], ⟨?_, ?_, ?_⟩, ?_, ?_, Nat.zero_le _⟩
    · rw [st_n (Or.inr (by omega)), st_n (Or.inr (by omega)), st_na (by omega)]; exact hd.1
    · rw [st_n (Or.inr (by omega)), st_n (Or.inr (by omega)), st_na (by omega)]; exact hd.2.1
    · rw [st_n (Or.inr (by omega)), st_n (Or.inr (by omega)), st_na (by omega)]; exact hd.2.2
    · rw [st_na (by omega), st_na (by omega), st_s]; rfl
    · rw [st_na (by omega), st_na (by omega), st_n (Or.inr (by omega))]
  unfold f_X3_read aPar
  simp only [nm_d]
  have loop0 : ∀ m', lp_X3_read_43 FU (0 : Int32) (0 : Int32) m' = some (0, m') := fun m' => by
    obtain ⟨f, hf⟩ : ∃ f, FU = f + 1 := ⟨FU - 1, by omega⟩
    rw [hf]
    show lb_X3_read_43 (lp_X3_read_43 f) (0 : Int32) (0 : Int32) m' = _
    unfold lb_X3_read_43
    rw [if_neg (by decide), if_pos rfl]
  rcases c_law hn hT hs with ⟨l, e1, m1, a1, b1, d1, u1, u2, u3, u4⟩ | ⟨e, e1, m1, a1, b1⟩
  rotate_left
  · rw [a1, bd2_d, if_pos rfl, bd2_d, loop0, bd2_d, e1, gd_t (Or.inl rfl)]
    exact Or.inr ⟨e, rfl, _, m1, rfl, rfl, b1⟩
  rw [a1, bd2_d, if_neg (show ¬ (1 : Int32) = 0 by decide), e1]
  have hid := V0_id (nd := l.1) (hy := l.2.1) d1.2.1 d1.2.2
  have z : ∀ k, 2 ≤ k → V0 l.1 l.2.1 k = 0 := fun k hk => by
    unfold V0
    rw [if_neg (by omega), if_neg (by omega)]
  have hc : CW m1 3 (V0 l.1 l.2.1) := by
    refine ⟨?_, u1, u2, ?_, ?_, ?_, ⟨0, ?_, by rw [z 2 (by omega)]; decide, fun g hg => ?_⟩, fun g hg => ?_⟩
    · rw [u3, st_n (Or.inr (by omega)), st_s, z 2 (by omega)]; rfl
    · rw [b1.2.2.1.1, z 3 (by omega)]; rfl
    · rw [b1.2.2.1.2.1, z 4 (by omega)]; rfl
    · rw [b1.2.2.1.2.2, z 5 (by omega)]; rfl
    · rw [u4, st_s]; rfl
    · rw [z 2 (by omega)] at hg; omega
    · rw [z 2 (by omega)] at hg; omega
  simp only [bnd]
  rcases c_guest hn hT hid b1 hc with ⟨r, e2, m2, a2, b2, c2, d2, d3⟩ | ⟨e, e2, m2, a2, b2⟩
  rotate_left
  · rw [a2, bd2_d, if_pos rfl, bd2_d, loop0, bd2_d, e2, gd_t (Or.inl rfl)]
    exact Or.inr ⟨e, rfl, _, m2, rfl, rfl, b2⟩
  rw [a2, bd2_d, if_neg (show ¬ (1 : Int32) = 0 by decide), bd2_d, e2]
  rcases c_all hn hT 8 FU 0 m2 (addG (V0 l.1 l.2.1) r.1) r.2 (by omega) (by omega) (by omega) (addG_id hid d2 d3) (by rw [addG_2]; omega) (by rw [addG_lo (by omega) (by omega)]; exact d1.1) b2 c2 with ⟨U, z1, m', p', z2, z3, z4, z5, z6, z7⟩ | ⟨e, z1, m', z2, z3⟩
  · rw [show lp_X3_read_43 FU (1 : Int32) (0 : Int32) m2 = _ from z2, bd2_d, gd_t (Or.inr rfl)]
    exact Or.inl ⟨U, z1, _, m', p', rfl, rfl, z3, z4, z5, z6, z7⟩
  · rw [show lp_X3_read_43 FU (1 : Int32) (0 : Int32) m2 = _ from z2, bd2_d, gd_t (Or.inl rfl)]
    exact Or.inr ⟨e, z1, _, m', rfl, rfl, z3⟩
/-! the reference's tokens -/
def MB (m : Mm) (T : Bs) : Prop := m 298 6 = nI T.2 ∧ ∀ k, k < T.2 → m 303 k = nI (T.1 k)
/-- fields 9 to 12 of the reference alone change -/
def MFr (m m' : Mm) : Prop := (∀ a, a ≠ 298 → m' a = m a) ∧ ∀ k, (k < 9 ∨ 12 < k) → m' 298 k = m 298 k
theorem MFr.tr {m m1 m2 : Mm} (h1 : MFr m m1) (h2 : MFr m1 m2) : MFr m m2 := ⟨fun a ha => by rw [h2.1 a ha, h1.1 a ha], fun k hk => by rw [h2.2 k hk, h1.2 k hk]⟩
theorem MFr.st {m : Mm} {k : Nat} {v : Int32} (h : 9 ≤ k ∧ k ≤ 12) : MFr m (st_ m 298 k v) := ⟨fun a ha => st_na ha, fun j hj => st_n (Or.inr (by omega))⟩
theorem MB.fr {m m' : Mm} {T : Bs} (h : MB m T) (hf : MFr m m') : MB m' T := ⟨by rw [hf.2 6 (by omega)]; exact h.1, fun k hk => by rw [hf.1 303 (by omega)]; exact h.2 k hk⟩
theorem byteE {m : Mm} {T : Bs} {q : Nat} (hn : T.2 ≤ 110) (hq : q < 2000) (h : MB m T) : f_X7_byteAt (nI q) m = some (if q < T.2 then nI (T.1 q) else -1) := by
  unfold f_X7_byteAt
  have q1 : (nI T.2 ≤ nI q) = (T.2 ≤ q) := nI_leE (by omega) (by omega)
  rw [h.1]
  simp only [q1]
  by_cases e : T.2 ≤ q
  · rw [if_pos e, if_neg (by omega)]
  · rw [if_neg e, if_pos (by omega), gdN (by omega) (by omega), ix_nI (by omega), h.2 q (by omega)]
theorem digE {T : Bs} {q : Nat} (hT : ∀ k, T.1 k ≤ 255) : f_X7_in (if q < T.2 then nI (T.1 q) else -1) (48 : Int32) (57 : Int32) = if isD T q = true then 1 else 0 := by
  have hb := hT q
  by_cases e : q < T.2
  · have hx := nI_toInt (n := T.1 q) (by omega)
    rw [if_pos e, show f_X7_in (nI (T.1 q)) (48 : Int32) (57 : Int32) = _ from inE (lo := 48) (hi := 57) (by omega) (by omega)]
    by_cases h : isD T q = true
    · have := isD_of.mp h
      rw [if_pos h, if_pos (by omega)]
    · rw [if_neg h, if_neg (fun x => h (isD_of.mpr ⟨e, by omega, by omega⟩))]
  · rw [if_neg e, if_neg (fun x => e (isD_of.mp x).1)]
    decide
/-- the value of the figures from p up to e: of more than two the first two -/
def dval (T : Bs) (p e : Nat) : Nat := if e = p then 0 else if e = p + 1 then T.1 p - 48 else 10 * (T.1 p - 48) + (T.1 (p + 1) - 48)
theorem dig_loop {T : Bs} {p : Nat} (hn : T.2 ≤ 110) (hT : ∀ k, T.1 k ≤ 255) : ∀ (k f q : Nat) (m : Mm), T.2 ≤ q + k → p ≤ q → q ≤ T.2 → k < f → MB m T → m 298 9 = nI q → m 298 10 = nI p → m 298 12 = nI (dval T p q) → (∀ j, p ≤ j → j < q → isD T j = true) →
    ∃ m' e, lp_X7_advances_38 f m = some m' ∧ q ≤ e ∧ e ≤ T.2 ∧ MFr m m' ∧ m' 298 9 = nI e ∧ m' 298 10 = nI p ∧ m' 298 12 = nI (dval T p e) ∧ (∀ j, p ≤ j → j < e → isD T j = true) ∧ ¬ isD T e = true := by
  intro k
  induction k with
  | zero =>
    intro f q m h1 h2 h3 hf hB h9 h10 h12 hd
    cases f with
    | zero => omega
    | succ f =>
      have hnd : ¬ isD T q = true := fun x => by have := isD_of.mp x; omega
      refine ⟨m, q, ?_, Nat.le_refl _, h3, ⟨fun _ _ => rfl, fun _ _ => rfl⟩, h9, h10, h12, hd, hnd⟩
      show lb_X7_advances_38 (lp_X7_advances_38 f) m = _
      unfold lb_X7_advances_38
      rw [h9, byteE hn (by omega) hB, bd1_d, digE hT, if_neg hnd, if_pos rfl]
  | succ k ih =>
    intro f q m h1 h2 h3 hf hB h9 h10 h12 hd
    cases f with
    | zero => omega
    | succ f =>
      have hBd : ∀ m', lb_X7_advances_38 (lp_X7_advances_38 f) m = m' → lp_X7_advances_38 (f + 1) m = m' := fun m' h => h
      unfold lb_X7_advances_38 at hBd
      rw [h9, byteE hn (by omega) hB, bd1_d, digE hT, h10, h12] at hBd
      by_cases hD : isD T q = true
      rotate_left
      · rw [if_neg hD, if_pos rfl] at hBd
        exact ⟨m, q, hBd _ rfl, Nat.le_refl _, h3, ⟨fun _ _ => rfl, fun _ _ => rfl⟩, h9, h10, h12, hd, hD⟩
      have d0 := isD_of.mp hD
      have b0 := hT q
      have hv : (if (2 : Int32) ≤ nI q - nI p then some (nI (dval T p q)) else bd1 (some (if q < T.2 then nI (T.1 q) else -1)) fun r20 => some ((10 : Int32) * nI (dval T p q) + r20 - (48 : Int32))) = some (nI (dval T p (q + 1))) := by
        have q2 : ((2 : Int32) ≤ nI (q - p)) = (2 ≤ q - p) := nI_leE (a := 2) (by omega) (by omega)
        rw [nI_subE h2, bd1_d, if_pos d0.1]
        simp only [q2]
        by_cases e2 : 2 ≤ q - p
        · rw [if_pos e2]
          unfold dval
          rw [if_neg (by omega), if_neg (by omega), if_neg (by omega), if_neg (by omega)]
        · rw [if_neg e2, show (10 : Int32) = nI 10 from rfl, nI_mulE, nI_add, show (48 : Int32) = nI 48 from rfl, nI_subE (by omega)]
          congr 2
          unfold dval
          by_cases e1 : q = p
          · subst e1
            rw [if_pos rfl, if_neg (by omega), if_pos rfl]; omega
          · have e3 : q = p + 1 := by omega
            subst e3
            rw [if_neg (by omega), if_pos rfl, if_neg (by omega), if_neg (by omega)]; omega
      rw [if_pos hD, if_neg (show ¬ (1 : Int32) = 0 by decide), hv, bd1_d] at hBd
      simp only [nm_d] at hBd
      rw [st_n (Or.inr (by omega)), h9, nI_s1] at hBd
      have fr : MFr m (st_ (st_ m 298 12 (nI (dval T p (q + 1)))) 298 9 (nI (q + 1))) := (MFr.st (by omega)).tr (MFr.st (by omega))
      obtain ⟨m', e, z1, z2, z3, z4, z5, z6, z7, z8, z9⟩ := ih f (q + 1) _ (by omega) (by omega) (by omega) (by omega) (hB.fr fr) st_s (by rw [st_n (Or.inr (by omega)), st_n (Or.inr (by omega))]; exact h10) (by rw [st_n (Or.inr (by omega)), st_s]) (fun j hj1 hj2 => by
        by_cases e : j = q
        · subst e; exact hD
        · exact hd j hj1 (by omega))
      exact ⟨m', e, hBd _ z1, by omega, z3, fr.tr z4, z5, z6, z7, z8, z9⟩
def tkO (c : Nat) : Nat := if 97 ≤ c ∧ c ≤ 122 then 1 else if c = 44 then 3 else if c = 59 then 4 else 5
/-- the token at p -/
def TOK (m : Mm) (T : Bs) (p : Nat) : Prop := m 298 10 = nI p ∧ p ≤ T.2 ∧ ((T.2 ≤ p ∧ m 298 11 = 0 ∧ m 298 9 = nI p) ∨
  (isD T p = true ∧ ∃ e, p < e ∧ e ≤ T.2 ∧ (∀ j, p ≤ j → j < e → isD T j = true) ∧ ¬ isD T e = true ∧ m 298 9 = nI e ∧ m 298 11 = (if e - p < 3 then 2 else 5) ∧ m 298 12 = nI (dval T p e)) ∨
  (p < T.2 ∧ ¬ isD T p = true ∧ m 298 9 = nI (p + 1) ∧ m 298 11 = nI (tkO (T.1 p)) ∧ m 298 12 = nI (T.1 p)))
theorem tkE : ∀ c, c < 256 → (if (0 : Int32) ≤ nI c then (if f_X7_in (nI c) (97 : Int32) (122 : Int32) = 0 then (if nI c = (44 : Int32) then (3 : Int32) else (if nI c = (59 : Int32) then (4 : Int32) else (5 : Int32))) else (1 : Int32)) else (0 : Int32)) = nI (tkO c) := by decide +kernel
theorem tkO_ne : ∀ c, c < 256 → ¬ nI (tkO c) = (0 : Int32) := by decide +kernel
set_option maxHeartbeats 1000000 in
theorem m_adv {m : Mm} {T : Bs} {p : Nat} (hn : T.2 ≤ 110) (hT : ∀ k, T.1 k ≤ 255) (hp : p ≤ T.2) (hB : MB m T) (h9 : m 298 9 = nI p) : ∃ m', f_X7_advances m = some m' ∧ TOK m' T p ∧ MFr m m' := by
  have hF := FU_big
  have f1 : MFr m (st_ m 298 10 (nI p)) := MFr.st (by omega)
  have e9 : st_ m 298 10 (nI p) 298 9 = nI p := by rw [st_n (Or.inr (by omega))]; exact h9
  unfold f_X7_advances
  rw [h9, nm_d, nm_d, e9, byteE hn (by omega) (hB.fr f1), bd1_d, nm_d, digE hT]
  by_cases hD : isD T p = true
  · have d0 := isD_of.mp hD
    rw [if_pos hD, if_neg (show ¬ (1 : Int32) = 0 by decide), if_pos d0.1, nm_d]
    have f2 : MFr m (st_ (st_ (st_ m 298 10 (nI p)) 298 12 (nI (T.1 p))) 298 12 (0 : Int32)) := (f1.tr (MFr.st (by omega))).tr (MFr.st (by omega))
    obtain ⟨m1, e, z1, z2, z3, z4, z5, z6, z7, z8, z9⟩ := dig_loop (p := p) hn hT (T.2 - p) FU p _ (by omega) (Nat.le_refl _) hp (by omega) (hB.fr f2) (by rw [st_n (Or.inr (by omega)), st_n (Or.inr (by omega))]; exact e9) (by rw [st_n (Or.inr (by omega)), st_n (Or.inr (by omega)), st_s]) (by rw [st_s]; unfold dval; rw [if_pos rfl]; rfl) (fun j h1 h2 => by omega)
    have hlt : p < e := by
      by_cases x : e = p
      · rw [x] at z9; exact absurd hD z9
      · omega
    rw [z1, bd1_d, z5, z6, nI_subE (by omega)]
    have q3 : ((3 : Int32) ≤ nI (e - p)) = (3 ≤ e - p) := nI_leE (a := 3) (by omega) (by omega)
    simp only [q3, nm_d]
    refine ⟨_, rfl, ⟨by rw [st_n (Or.inr (by omega))]; exact z6, hp, Or.inr (Or.inl ⟨hD, e, hlt, z3, z8, z9, by rw [st_n (Or.inr (by omega))]; exact z5, ?_, by rw [st_n (Or.inr (by omega))]; exact z7⟩)⟩, (f2.tr z4).tr (MFr.st (by omega))⟩
    rw [st_s]
    by_cases x : 3 ≤ e - p
    · rw [if_pos x, if_neg (by omega)]
    · rw [if_neg x, if_pos (by omega)]
  · rw [if_neg hD, if_pos rfl]
    by_cases x : p < T.2
    · have hb := hT p
      rw [if_pos x, tkE _ (by omega)]
      simp only [nm_d, st_s]
      have hne := tkO_ne (T.1 p) (by omega)
      rw [if_neg hne, st_n (Or.inr (by omega)), st_n (Or.inr (by omega)), e9, nI_s1]
      refine ⟨_, rfl, ⟨?_, hp, Or.inr (Or.inr ⟨x, hD, st_s, ?_, ?_⟩)⟩, ((f1.tr (MFr.st (by omega))).tr (MFr.st (by omega))).tr (MFr.st (by omega))⟩
      · rw [st_n (Or.inr (by omega)), st_n (Or.inr (by omega)), st_n (Or.inr (by omega)), st_s]
      · rw [st_n (Or.inr (by omega)), st_s]
      · rw [st_n (Or.inr (by omega)), st_n (Or.inr (by omega)), st_s]
    · rw [if_neg x, if_neg (show ¬ (0 : Int32) ≤ -1 by decide)]
      simp only [nm_d, st_s]
      rw [if_pos trivial, st_n (Or.inr (by omega)), st_n (Or.inr (by omega)), e9, show nI p + (0 : Int32) = nI p from nI_add p 0]
      refine ⟨_, rfl, ⟨?_, hp, Or.inl ⟨by omega, ?_, st_s⟩⟩, ((f1.tr (MFr.st (by omega))).tr (MFr.st (by omega))).tr (MFr.st (by omega))⟩
      · rw [st_n (Or.inr (by omega)), st_n (Or.inr (by omega)), st_n (Or.inr (by omega)), st_s]
      · rw [st_n (Or.inr (by omega)), st_s]
