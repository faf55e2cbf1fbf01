/-! seats in an order, tried -/
theorem c_sit {n : Nat} {P : Pf} (y2 : Int32) (hn : n ≤ 7) (hP : PmO n P) : ∀ (k f i : Nat) (m : Mm), i + k = n → k < f → m 13 0 = nI n → AH m 250 n P → (∀ j, j < i → m 247 (P j) = nI j ∧ m 248 j = nI (P j)) →
    ∃ m', lp_X1_tryOrder_13 13 f y2 (nI (figs P i)) (nI i) m = some (nI (figs P n), m') ∧ (∀ j, j < n → m' 247 (P j) = nI j ∧ m' 248 j = nI (P j)) ∧ ∀ a, a ≠ 247 → a ≠ 248 → m' a = m a := by
  intro k
  induction k with
  | zero =>
    intro f i m hi hf h0 hA hs
    have ei : i = n := by omega
    subst ei
    cases f with
    | zero => omega
    | succ f =>
      refine ⟨m, ?_, hs, fun _ _ _ => rfl⟩
      show lb_X1_tryOrder_13 (lp_X1_tryOrder_13 13 f) 13 y2 (nI (figs P i)) (nI i) m = _
      unfold lb_X1_tryOrder_13
      rw [h0, if_pos (by rw [nI_leE (by omega) (by omega)]; omega)]
  | succ k ih =>
    intro f i m hi hf h0 hA hs
    cases f with
    | zero => omega
    | succ f =>
      have hil : i < n := by omega
      have hPl := hP.1 i hil
      obtain ⟨e1, b1⟩ := hA i hil
      have hB : ∀ m', lb_X1_tryOrder_13 (lp_X1_tryOrder_13 13 f) 13 y2 (nI (figs P i)) (nI i) m = m' → lp_X1_tryOrder_13 13 (f + 1) y2 (nI (figs P i)) (nI i) m = m' := fun m' h => h
      unfold lb_X1_tryOrder_13 f_X5_sit at hB
      rw [h0, if_neg (by rw [nI_leE (by omega) (by omega)]; omega), ix_nI (by omega), e1, ix_nI (by omega)] at hB
      simp (disch := omega) only [gdM, nm_d, bd1_d] at hB
      have e2 : st_ (st_ m 247 (P i) (nI i)) 248 i (nI (P i)) 250 i = nI (P i) := by rw [st_na (by omega), st_na (by omega), e1]
      have hB2 : ∀ m', lp_X1_tryOrder_13 13 f y2 (nI (figs P i) * 10 + st_ (st_ m 247 (P i) (nI i)) 248 i (nI (P i)) 250 i) (nI i + 1) (st_ (st_ m 247 (P i) (nI i)) 248 i (nI (P i))) = m' → lp_X1_tryOrder_13 13 (f + 1) y2 (nI (figs P i)) (nI i) m = m' := hB
      rw [e2, show (10 : Int32) = nI 10 from rfl, nI_mulE, nI_add, nI_s1] at hB2
      obtain ⟨m', z1, z2, z3⟩ := ih f (i + 1) (st_ (st_ m 247 (P i) (nI i)) 248 i (nI (P i))) (by omega) (by omega) (by rw [st_na (by omega), st_na (by omega)]; exact h0) (fun j hj => by rw [st_na (by omega), st_na (by omega)]; exact hA j hj) (fun j hj => by
        by_cases e : j = i
        · subst e; rw [st_s, st_na (by omega), st_s]; exact ⟨rfl, rfl⟩
        · have hne : P j ≠ P i := fun h => e (hP.2.1 j i (by omega) hil h)
          rw [st_n (Or.inr e), st_na (by omega), st_n (Or.inr hne), st_na (by omega)]
          exact hs j (by omega))
      exact ⟨m', hB2 _ z1, z2, fun a h1 h2 => by rw [z3 a h1 h2, st_na h2, st_na h1]⟩
theorem c_try {m : Mm} {V : Wv} {N w : Nat} {P : Pf} {o : Option (Nat × Nat)} (hV : OkV V) (hN : N ≤ 60) (h3 : V 3 ≤ 9999) (hP : PmO (V 2) P) (hc : CW m 13 V) (hA : AH m 250 (V 2) P) (ho : okB o) (hw : w = figs P (V 2)) (e2 : m 240 2 = wE o) (e3 : m 240 3 = pE o) : ∃ m', f_X1_tryOrder 13 (nI N) m = some m' ∧ m' 240 2 = wE (mrV o w (orV V N P)) ∧ m' 240 3 = pE (mrV o w (orV V N P)) ∧ ∀ a, (a < 240 ∨ 249 < a) → m' a = m a := by
  have hF := FU_big
  have hn := hV.n
  subst hw
  obtain ⟨m1, a1, a2, a3⟩ := cl_become (w0 := 241) (w1 := 13) (by omega) hV.n hV.seats hc
  obtain ⟨m2, b1, b2, b3⟩ := c_sit (nI N) hV.n hP (V 2) FU 0 m1 (by omega) (by omega) (by rw [a3 13 (by omega)]; exact hc.1) (fun j hj => by rw [a3 250 (by omega)]; exact hA j hj) (fun j hj => by omega)
  have b1' : lp_X1_tryOrder_13 13 FU (nI N) (0 : Int32) (0 : Int32) m1 = some (nI (figs P (V 2)), m2) := b1
  have hU := ord_ok hV hP
  have hcU : CW m2 241 (ordK V P (V 2)) := by
    have e : ∀ k, k < 6 → ordK V P (V 2) k = V k := fun k hk => ordK_o (Or.inl hk) _
    obtain ⟨h0, h1, h2, h3, h4, h5, ⟨b, h6, h7, h8⟩, hg⟩ := a2
    unfold CW
    rw [b3 241 (by omega) (by omega), e 0 (by omega), e 1 (by omega), e 2 (by omega), e 3 (by omega), e 4 (by omega), e 5 (by omega)]
    refine ⟨h0, h1, h2, h3, h4, h5, ⟨b, h6, h7, fun g hg => by rw [ordK_f (by omega) (by omega)]; exact h8 g hg⟩, fun g hgl => ?_⟩
    obtain ⟨c1, c2, c3, c4, c5, c6, c7⟩ := hg g hgl
    obtain ⟨j, hj, rfl⟩ := hP.2.2 g hgl
    have s4 := ordK_4 (V := V) hP.2.1 (V 2) (Nat.le_refl _) j hj
    unfold CwG
    rw [s4, ordK_f (by omega) (by omega), ordK_f (by omega) (by omega), ordK_f (by omega) (by omega), ordK_f (by omega) (by omega), ordK_f (by omega) (by omega), b3 (241 + 1) (by omega) (by omega), b3 (241 + 2) (by omega) (by omega), b3 (241 + 3) (by omega) (by omega), b3 (241 + 4) (by omega) (by omega), b3 (241 + 5) (by omega) (by omega)]
    exact ⟨c1, c2, c3, c4, c5, (b2 j hj).1, (b2 j hj).2⟩
  obtain ⟨m3, d1, d2, d3⟩ := cl_run (w := 241) (n := N) (by omega) hU (by rw [ordK_o (by omega)]; omega) hcU
  have f240 : m3 240 = m 240 := by rw [d3 240 (by omega), b3 240 (by omega) (by omega), a3 240 (by omega)]
  obtain ⟨m4, g1, g2, g3, g4⟩ := cl_more (o := o) (w := figs P (V 2)) rfl ho (orV_le (N := N) hV (by omega) hP) d2.2.2.2.2.1 (by rw [f240]; exact e2) (by rw [f240]; exact e3)
  unfold f_X1_tryOrder
  rw [a1, bd1_d, b1', bd2_d, d1, bd1_d, g1, bd1_d]
  exact ⟨m4, rfl, g2, g3, fun a ha => by rw [g4 a (by omega), d3 a (by omega), b3 a (by omega) (by omega), a3 a (by omega)]⟩
theorem facN_le {n : Nat} (hn : n ≤ 7) : 1 ≤ facN n ∧ facN n ≤ 5040 := by
  rcases (show n = 0 ∨ n = 1 ∨ n = 2 ∨ n = 3 ∨ n = 4 ∨ n = 5 ∨ n = 6 ∨ n = 7 by omega) with h | h | h | h | h | h | h | h <;> subst h <;> decide
theorem c_first {n : Nat} (y2 : Int32) (hn : n ≤ 7) : ∀ (k f i : Nat) (m : Mm), i + k = n → k < f → m 13 0 = nI n → (∀ j, j < i → m 250 j = nI j) → ∃ m', lp_X1_findOrder_17 13 f y2 (nI (facN i)) (nI i) m = some (nI (facN n), m') ∧ (∀ j, j < n → m' 250 j = nI j) ∧ ∀ a, a ≠ 250 → m' a = m a := by
  intro k
  induction k with
  | zero =>
    intro f i m hi hf h0 hs
    have ei : i = n := by omega
    subst ei
    cases f with
    | zero => omega
    | succ f =>
      refine ⟨m, ?_, hs, fun _ _ => rfl⟩
      show lb_X1_findOrder_17 (lp_X1_findOrder_17 13 f) 13 y2 (nI (facN i)) (nI i) m = _
      unfold lb_X1_findOrder_17
      rw [h0, if_pos (by rw [nI_leE (by omega) (by omega)]; omega)]
  | succ k ih =>
    intro f i m hi hf h0 hs
    cases f with
    | zero => omega
    | succ f =>
      have hB : ∀ m', lb_X1_findOrder_17 (lp_X1_findOrder_17 13 f) 13 y2 (nI (facN i)) (nI i) m = m' → lp_X1_findOrder_17 13 (f + 1) y2 (nI (facN i)) (nI i) m = m' := fun m' h => h
      unfold lb_X1_findOrder_17 at hB
      rw [h0, if_neg (by rw [nI_leE (by omega) (by omega)]; omega), gdN (by omega) (by omega), ix_nI (by omega), nm_d, nI_s1, nI_mulE, nm_d, nm_d, Nat.mul_comm] at hB
      obtain ⟨m', z1, z2, z3⟩ := ih f (i + 1) (st_ m 250 i (nI i)) (by omega) (by omega) (by rw [st_na (by omega)]; exact h0) (fun j hj => by
        by_cases e : j = i
        · subst e; exact st_s
        · rw [st_n (Or.inr e)]; exact hs j (by omega))
      exact ⟨m', hB _ z1, z2, fun a ha => by rw [z3 a ha, st_na ha]⟩
theorem pO_0 : ∀ n, n < 8 → ∀ k, k < n → pO n 0 k = k := by decide +kernel
theorem c_ord {V : Wv} {N : Nat} (hV : OkV V) (h1 : 1 ≤ V 2) (hN : N ≤ 60) (h3 : V 3 ≤ 9999) : ∀ (k f i : Nat) (m : Mm), i + k = facN (V 2) → k < f → CW m 13 V → (i < facN (V 2) → AH m 250 (V 2) (pO (V 2) i)) → m 240 2 = wE (oC V N i) → m 240 3 = pE (oC V N i) →
    ∃ m', lp_X1_findOrder_51 13 f (nI N) (nI (facN (V 2))) (nI i) m = some m' ∧ m' 240 2 = wE (oC V N (facN (V 2))) ∧ m' 240 3 = pE (oC V N (facN (V 2))) ∧ ∀ a, (a < 240 ∨ 250 < a) → m' a = m a := by
  have hn := hV.n
  obtain ⟨hf1, hf2⟩ := facN_le hn
  intro k
  induction k with
  | zero =>
    intro f i m hi hf hc hA e2 e3
    have ei : i = facN (V 2) := by omega
    subst ei
    cases f with
    | zero => omega
    | succ f =>
      refine ⟨m, ?_, e2, e3, fun _ _ => rfl⟩
      show lb_X1_findOrder_51 (lp_X1_findOrder_51 13 f) 13 (nI N) (nI (facN (V 2))) (nI (facN (V 2))) m = _
      unfold lb_X1_findOrder_51
      rw [if_pos (by rw [nI_leE (by omega) (by omega)]; omega)]
  | succ k ih =>
    intro f i m hi hf hc hA e2 e3
    cases f with
    | zero => omega
    | succ f =>
      have hil : i < facN (V 2) := by omega
      have hA' := hA hil
      have hP := pO_pm hn hil
      obtain ⟨x1, y1⟩ := hA' 0 (by omega)
      obtain ⟨x2, y2⟩ := hA' (V 2 - 1) (by omega)
      have hB : ∀ m', lb_X1_findOrder_51 (lp_X1_findOrder_51 13 f) 13 (nI N) (nI (facN (V 2))) (nI i) m = m' → lp_X1_findOrder_51 13 (f + 1) (nI N) (nI (facN (V 2))) (nI i) m = m' := fun m' h => h
      unfold lb_X1_findOrder_51 at hB
      have q0 : (nI (V 2) ≤ (0 : Int32)) = (V 2 ≤ 0) := nI_leE (b := 0) (by omega) (by omega)
      have q1 : (nI (pO (V 2) i (V 2 - 1)) < nI (pO (V 2) i 0)) = (pO (V 2) i (V 2 - 1) < pO (V 2) i 0) := nI_ltE (by omega) (by omega)
      rw [if_neg (by rw [nI_leE (by omega) (by omega)]; omega), hc.1, show nI (V 2) - (1 : Int32) = nI (V 2 - 1) from nI_subE h1, gdN (by omega) (by omega), ix_nI (by omega), ix0, x1, x2] at hB
      simp only [q0, q1] at hB
      rw [if_neg (show ¬ V 2 ≤ 0 by omega)] at hB
      have hok : okB (oC V N i) := by rw [oC_eq hV h1 (by omega) i (by omega)]; exact oM_ok hV (by omega) i (by omega)
      -- try it, or not
      have key : ∃ m1, (if pO (V 2) i (V 2 - 1) < pO (V 2) i 0 then some m else bd1 (f_X1_tryOrder 13 (nI N) m) fun m15 => some m15) = some m1 ∧ m1 240 2 = wE (oC V N (i + 1)) ∧ m1 240 3 = pE (oC V N (i + 1)) ∧ ∀ a, (a < 240 ∨ 249 < a) → m1 a = m a := by
        by_cases h : pO (V 2) i (V 2 - 1) < pO (V 2) i 0
        · rw [if_pos h, oC, if_neg (by omega)]
          exact ⟨m, rfl, e2, e3, fun _ _ => rfl⟩
        · rw [if_neg h, oC, if_pos (by omega)]
          obtain ⟨m1, z1, z2, z3, z4⟩ := c_try hV hN h3 hP hc hA' hok rfl e2 e3
          rw [z1, bd1_d]
          exact ⟨m1, rfl, z2, z3, z4⟩
      obtain ⟨m1, k1, k2, k3, k4⟩ := key
      have hc1 : CW m1 13 V := hc.frame fun a ha hb => k4 a (by omega)
      obtain ⟨m2, n1', n2', n3'⟩ := c_next (m := m1) hn h1 (fun j hj => by rw [k4 250 (by omega)]; exact hA' j hj)
      rw [k1, bd1_d, hc1.1, n1', bd1_d, nm_d, nI_s1] at hB
      obtain ⟨m', z1, z2, z3, z4⟩ := ih f (i + 1) m2 (by omega) (by omega) (hc1.frame fun a ha hb => n3' a (by omega)) (fun hi1 => by
        obtain ⟨Q, hQ, hQk⟩ := nx_some h1 hn hi1
        intro j hj
        have := n2' Q hQ j hj
        rw [hQk j hj] at this
        exact this) (by rw [n3' 240 (by omega)]; exact k2) (by rw [n3' 240 (by omega)]; exact k3)
      exact ⟨m', hB _ z1, z2, z3, fun a ha => by rw [z4 a ha, n3' a (by omega), k4 a (by omega)]⟩
/-! the reference -/
def wM : Option (Nat × Nat) → Int32
  | none => 0
  | some q => nI q.1
def pM : Option (Nat × Nat) → Int32
  | none => -1
  | some q => nI q.2
theorem mo_moreM {o : Option (Nat × Nat)} {w p : Nat} {x : Int32} (hx : x = nI w) (ho : okB o) (hp : p ≤ 999) : (if nI p ≤ pM o then wM o else x) = wM (mrV o w p) ∧ f_X7_greater (nI p) (pM o) = pM (mrV o w p) := by
  subst hx
  unfold f_X7_greater
  cases o with
  | none =>
    have hlt : ¬ nI p ≤ (-1 : Int32) := by
      intro h
      rw [Int32.le_iff_toInt_le, nI_toInt (by omega)] at h
      have : (-1 : Int32).toInt = -1 := by decide
      omega
    constructor
    · show (if nI p ≤ (-1 : Int32) then _ else nI w) = nI w
      rw [if_neg hlt]
    · show (if nI p ≤ (-1 : Int32) then _ else nI p) = nI p
      rw [if_neg hlt]
  | some q =>
    have hq := ho q rfl
    have q1 : (nI p ≤ nI q.2) = (p ≤ q.2) := nI_leE (by omega) (by omega)
    show (if nI p ≤ nI q.2 then nI q.1 else nI w) = _ ∧ (if nI p ≤ nI q.2 then nI q.2 else nI p) = _
    unfold mrV
    simp only [q1]
    by_cases h : p ≤ q.2
    · rw [if_pos h, if_pos h, if_neg (by omega)]
      exact ⟨rfl, rfl⟩
    · rw [if_neg h, if_neg h, if_pos (by omega)]
      exact ⟨rfl, rfl⟩
theorem m_sit {V : Wv} {P : Pf} (y1 y2 y3 y4 : Int32) (hn : V 2 ≤ 7) (hP : PmO (V 2) P) : ∀ (k f i : Nat) (m : Mm), i + k = V 2 → k < f → m 304 2 = nI (V 2) → AH m 311 (V 2) P → MW m 306 0 (ordK V P i) →
    ∃ m', lp_X7_order_85 f y1 y2 y3 y4 (nI (figs P i)) (nI i) m = some (nI (figs P (V 2)), m') ∧ MW m' 306 0 (ordK V P (V 2)) ∧ ∀ a, a ≠ 306 → m' a = m a := by
  intro k
  induction k with
  | zero =>
    intro f i m hi hf h0 hA hs
    have ei : i = V 2 := by omega
    subst ei
    cases f with
    | zero => omega
    | succ f =>
      refine ⟨m, ?_, hs, fun _ _ => rfl⟩
      show lb_X7_order_85 (lp_X7_order_85 f) y1 y2 y3 y4 (nI (figs P (V 2))) (nI (V 2)) m = _
      unfold lb_X7_order_85
      rw [show ix (2 : Int32) = 2 from rfl, h0, if_pos (by rw [nI_leE (by omega) (by omega)]; omega)]
  | succ k ih =>
    intro f i m hi hf h0 hA hs
    cases f with
    | zero => omega
    | succ f =>
      have hil : i < V 2 := by omega
      have hPl := hP.1 i hil
      obtain ⟨e1, b1⟩ := hA i hil
      have i4 : ig (P i) 4 < 55 := ig_lt (n := 7) (by omega) (by omega) (by omega)
      have hB : ∀ m', lb_X7_order_85 (lp_X7_order_85 f) y1 y2 y3 y4 (nI (figs P i)) (nI i) m = m' → lp_X7_order_85 (f + 1) y1 y2 y3 y4 (nI (figs P i)) (nI i) m = m' := fun m' h => h
      unfold lb_X7_order_85 at hB
      rw [show ix (2 : Int32) = 2 from rfl, h0, if_neg (by rw [nI_leE (by omega) (by omega)]; omega), gdN (by omega) (by omega), ix_nI (show i < 2147483648 by omega), e1, show (6 : Int32) + (7 : Int32) * nI (P i) + (4 : Int32) = nI (ig (P i) 4) from igE _ 4, gdN i4 (by omega), ix_nI (by omega), nm_d, gdM (by omega) (by omega), st_na (by omega), e1, tenE, nm_d, nI_s1, nm_d] at hB
      obtain ⟨m', z1, z2, z3⟩ := ih f (i + 1) (st_ m 306 (ig (P i) 4) (nI i)) (by omega) (by omega) (by rw [st_na (by omega)]; exact h0) (fun j hj => by rw [st_na (by omega)]; exact hA j hj) (fun q hq => by
        rw [Nat.zero_add]
        show _ = nI (setP (ordK V P i) (ig (P i) 4) i q)
        by_cases e : q = ig (P i) 4
        · subst e; rw [st_s, setP_eq]
        · rw [st_n (Or.inr e), setP_ne e, hs.at hq])
      refine ⟨m', hB _ ?_, z2, fun a ha => by rw [z3 a ha, st_na ha]⟩
      rw [← z1, show figs P (i + 1) = 10 * figs P i + P i by show figs P i * 10 + P i = _; omega]
theorem m_line {m : Mm} (x1 x2 : Int32) : ∃ m', lp_X7_order_34 FU x1 x2 (0 : Int32) m = some m' ∧ (∀ j, j < 7 → m' 311 j = nI j) ∧ ∀ a, a ≠ 311 → m' a = m a := by
  have hF := FU_big
  have key : ∀ (k f i : Nat) (m : Mm), i + k = 7 → k < f → (∀ j, j < i → m 311 j = nI j) → ∃ m', lp_X7_order_34 f x1 x2 (nI i) m = some m' ∧ (∀ j, j < 7 → m' 311 j = nI j) ∧ ∀ a, a ≠ 311 → m' a = m a := by
    intro k
    induction k with
    | zero =>
      intro f i m hi hf hs
      have ei : i = 7 := by omega
      subst ei
      cases f with
      | zero => omega
      | succ f =>
        refine ⟨m, ?_, hs, fun _ _ => rfl⟩
        show lb_X7_order_34 (lp_X7_order_34 f) x1 x2 (nI 7) m = _
        unfold lb_X7_order_34
        rw [if_pos (by decide)]
    | succ k ih =>
      intro f i m hi hf hs
      cases f with
      | zero => omega
      | succ f =>
        have hB : ∀ m', lb_X7_order_34 (lp_X7_order_34 f) x1 x2 (nI i) m = m' → lp_X7_order_34 (f + 1) x1 x2 (nI i) m = m' := fun m' h => h
        unfold lb_X7_order_34 at hB
        rw [if_neg (by rw [show (7 : Int32) = nI 7 from rfl, nI_leE (by omega) (by omega)]; omega), gdN (by omega) (by omega), ix_nI (by omega), nm_d, nI_s1, nm_d] at hB
        obtain ⟨m', z1, z2, z3⟩ := ih f (i + 1) (st_ m 311 i (nI i)) (by omega) (by omega) (fun j hj => by
          by_cases e : j = i
          · subst e; exact st_s
          · rw [st_n (Or.inr e)]; exact hs j (by omega))
        exact ⟨m', hB _ z1, z2, fun a ha => by rw [z3 a ha, st_na ha]⟩
  exact key 7 FU 0 m (by omega) (by omega) (fun j hj => by omega)
theorem m_ord {V : Wv} {N : Nat} (x2 : Int32) (hV : OkV V) (h1 : 1 ≤ V 2) (hN : N ≤ 60) (h3 : V 3 ≤ 9999) : ∀ (k f i : Nat) (m : Mm), i + k + 1 = facN (V 2) → k + 1 < f → MW m 304 0 V → AH m 311 (V 2) (pO (V 2) i) →
    ∃ m', lp_X7_order_61 f (nI N) x2 (wM (oM V N i)) (pM (oM V N i)) (1 : Int32) m = some (wM (oM V N (facN (V 2))), pM (oM V N (facN (V 2))), m') ∧ ∀ a, a ≠ 306 → a ≠ 310 → a ≠ 311 → m' a = m a := by
  have hn := hV.n
  have hF := FU_big
  obtain ⟨hf1, hf2⟩ := facN_le hn
  intro k
  induction k with
  | zero =>
    intro f i m hi hf hm hA
    obtain ⟨f1, rfl⟩ : ∃ f1, f = f1 + 2 := ⟨f - 2, by omega⟩
    have hil : i < facN (V 2) := by omega
    have hP := pO_pm hn hil
    have hB : ∀ m', lb_X7_order_61 (lp_X7_order_61 (f1 + 1)) (nI N) x2 (wM (oM V N i)) (pM (oM V N i)) (1 : Int32) m = m' → lp_X7_order_61 (f1 + 2) (nI N) x2 (wM (oM V N i)) (pM (oM V N i)) (1 : Int32) m = m' := fun m' h => h
    unfold lb_X7_order_61 at hB
    obtain ⟨m1, a1, a2, a3, a4⟩ := mo_copy (q1 := 304) (z1 := 55) (o1 := 0) (q3 := 306) (z3 := 55) (o3 := 0) (by omega) (by omega) (by omega) (by omega) (by omega) hm
    have a1' : f_X7_copies 304 55 (0 : Int32) 306 55 (0 : Int32) m = some m1 := a1
    have e2 : m 304 2 = nI (V 2) := hm.at (by omega)
    obtain ⟨m2, b1, b2, b3⟩ := m_sit (nI N) x2 (wM (oM V N i)) (pM (oM V N i)) hn hP (V 2) FU 0 m1 (by omega) (by omega) (by rw [a3 304 (by omega)]; exact e2) (fun j hj => by rw [a3 311 (by omega)]; exact hA j hj) a2
    have b1' : lp_X7_order_85 FU (nI N) x2 (wM (oM V N i)) (pM (oM V N i)) (0 : Int32) (0 : Int32) m1 = _ := b1
    obtain ⟨m3, d1, d2, d3⟩ := mo_goesOn (n := N) (by omega) (ord_ok hV hP) (by rw [ordK_o (by omega)]; omega) b2
    obtain ⟨g1, g2⟩ := mo_moreM (o := oM V N i) (w := figs (pO (V 2) i) (V 2)) rfl (oM_ok hV (by omega) i (by omega)) (orV_le (N := N) hV (by omega) hP)
    have g1' : (if nI (runV N (ordK V (pO (V 2) i) (V 2)) 4) ≤ pM (oM V N i) then wM (oM V N i) else nI (figs (pO (V 2) i) (V 2))) = wM (oM V N (i + 1)) := g1
    have g2' : f_X7_greater (nI (runV N (ordK V (pO (V 2) i) (V 2)) 4)) (pM (oM V N i)) = pM (oM V N (i + 1)) := g2
    obtain ⟨m4, n1', n2', n3'⟩ := m_next (m := m3) hn h1 (by rw [d3 304 (by omega) (by omega), b3 304 (by omega), a3 304 (by omega)]; exact e2) (P := pO (V 2) i) (fun j hj => by rw [d3 311 (by omega) (by omega), b3 311 (by omega), a3 311 (by omega)]; exact hA j hj)
    have hi2 : i = facN (V 2) - 1 := by omega
    have hnone : nextP (V 2) (pO (V 2) i) = none := by rw [hi2]; exact nx_none h1 hn
    rw [hnone] at n1'
    have n1'' : f_X7_orders m3 = some ((0 : Int32), m4) := n1'
    rw [if_neg (by decide), a1', bd1_d, b1', bd2_d, d1, bd1_d, show ix (4 : Int32) = 4 from rfl, d2.at (by omega), g1', g2', nm_d, nm_d, n1'', bd2_d] at hB
    have hend : lp_X7_order_61 (f1 + 1) (nI N) x2 (wM (oM V N (i + 1))) (pM (oM V N (i + 1))) (0 : Int32) m4 = some (wM (oM V N (i + 1)), pM (oM V N (i + 1)), m4) := by
      show lb_X7_order_61 (lp_X7_order_61 f1) (nI N) x2 _ _ (0 : Int32) m4 = _
      unfold lb_X7_order_61
      rw [if_pos rfl]
    rw [show facN (V 2) = i + 1 by omega]
    exact ⟨m4, hB _ hend, fun a h1 h2 h3 => by rw [n3' a h3, d3 a h1 h2, b3 a h1, a3 a h1]⟩
  | succ k ih =>
    intro f i m hi hf hm hA
    obtain ⟨f1, rfl⟩ : ∃ f1, f = f1 + 1 := ⟨f - 1, by omega⟩
    have hil : i < facN (V 2) := by omega
    have hP := pO_pm hn hil
    have hB : ∀ m', lb_X7_order_61 (lp_X7_order_61 f1) (nI N) x2 (wM (oM V N i)) (pM (oM V N i)) (1 : Int32) m = m' → lp_X7_order_61 (f1 + 1) (nI N) x2 (wM (oM V N i)) (pM (oM V N i)) (1 : Int32) m = m' := fun m' h => h
    unfold lb_X7_order_61 at hB
    obtain ⟨m1, a1, a2, a3, a4⟩ := mo_copy (q1 := 304) (z1 := 55) (o1 := 0) (q3 := 306) (z3 := 55) (o3 := 0) (by omega) (by omega) (by omega) (by omega) (by omega) hm
    have a1' : f_X7_copies 304 55 (0 : Int32) 306 55 (0 : Int32) m = some m1 := a1
    have e2 : m 304 2 = nI (V 2) := hm.at (by omega)
    obtain ⟨m2, b1, b2, b3⟩ := m_sit (nI N) x2 (wM (oM V N i)) (pM (oM V N i)) hn hP (V 2) FU 0 m1 (by omega) (by omega) (by rw [a3 304 (by omega)]; exact e2) (fun j hj => by rw [a3 311 (by omega)]; exact hA j hj) a2
    have b1' : lp_X7_order_85 FU (nI N) x2 (wM (oM V N i)) (pM (oM V N i)) (0 : Int32) (0 : Int32) m1 = _ := b1
    obtain ⟨m3, d1, d2, d3⟩ := mo_goesOn (n := N) (by omega) (ord_ok hV hP) (by rw [ordK_o (by omega)]; omega) b2
    obtain ⟨g1, g2⟩ := mo_moreM (o := oM V N i) (w := figs (pO (V 2) i) (V 2)) rfl (oM_ok hV (by omega) i (by omega)) (orV_le (N := N) hV (by omega) hP)
    have g1' : (if nI (runV N (ordK V (pO (V 2) i) (V 2)) 4) ≤ pM (oM V N i) then wM (oM V N i) else nI (figs (pO (V 2) i) (V 2))) = wM (oM V N (i + 1)) := g1
    have g2' : f_X7_greater (nI (runV N (ordK V (pO (V 2) i) (V 2)) 4)) (pM (oM V N i)) = pM (oM V N (i + 1)) := g2
    obtain ⟨m4, n1', n2', n3'⟩ := m_next (m := m3) hn h1 (by rw [d3 304 (by omega) (by omega), b3 304 (by omega), a3 304 (by omega)]; exact e2) (P := pO (V 2) i) (fun j hj => by rw [d3 311 (by omega) (by omega), b3 311 (by omega), a3 311 (by omega)]; exact hA j hj)
    obtain ⟨Q, hQ, hQk⟩ := nx_some h1 hn (show i + 1 < facN (V 2) by omega)
    rw [hQ] at n1'
    have n1'' : f_X7_orders m3 = some ((1 : Int32), m4) := n1'
    rw [if_neg (by decide), a1', bd1_d, b1', bd2_d, d1, bd1_d, show ix (4 : Int32) = 4 from rfl, d2.at (by omega), g1', g2', nm_d, nm_d, n1'', bd2_d] at hB
    have fr : ∀ a, a ≠ 306 → a ≠ 310 → a ≠ 311 → m4 a = m a := fun a h1 h2 h3 => by rw [n3' a h3, d3 a h1 h2, b3 a h1, a3 a h1]
    obtain ⟨m', z1, z2⟩ := ih f1 (i + 1) m4 (by omega) (by omega) (hm.frame (fr 304 (by omega) (by omega) (by omega))) (fun j hj => by
      have := n2' Q hQ j hj
      rw [hQk j hj] at this
      exact this)
    exact ⟨m', hB _ z1, fun a h1 h2 h3 => by rw [z2 a h1 h2 h3, fr a h1 h2 h3]⟩
theorem sp_order (x1 x2 : Int32) : Sp2 (f_X6_order x1 x2) (f_X7_order x1 x2) := fun S hS => by
  have hN := hS.2.2.2.1
  have hn := hN.v.n
  have hF := FU_big
  by_cases hz0 : S.2.2.2.1 2 = 0
  · refine SpAt.keep hS (-1000002) (fun m hm => ?_) (fun m hm => ?_)
    · unfold f_X6_order
      rw [isNoneE hn hm.2.2.2.1, if_pos hz0]; rfl
    · unfold f_X7_order
      rw [isWedE hN hm.2.2.2.1, if_pos hz0]; rfl
  have hW := hN.w (by omega)
  have hV := hW.1
  have h3 := hW.2.1
  have h1 := hW.2.2.2
  obtain ⟨hf1, hf2⟩ := facN_le hn
  refine SpAt.two hS x1 x2 1 10 (by omega) (by omega) (gx := fun m => (bd1 (f_X1_findOrder 13 x1 m) fun m4 => (some ((f_X1_answer x2 m4), m4)))) (gm := fun m => (bd1 (lp_X7_order_34 FU x1 x2 (0 : Int32) m) fun m8 => (bd3 (lp_X7_order_61 FU x1 x2 (0 : Int32) (-1 : Int32) (1 : Int32) m8) fun z28 z29 m30 => (if x2 = 0 then (some (z28, m30)) else (some (z29, m30)))))) (fun m hm => ?_) (fun m hm => ?_) ?_
  · unfold f_X6_order
    rw [isNoneE hn hm.2.2.2.1, if_neg hz0, if_pos rfl, withinE] <;> rfl
  · unfold f_X7_order
    rw [isWedE hN hm.2.2.2.1, if_neg hz0, if_neg (by decide)] <;> rfl
  rintro n k hn1 hn2 hk rfl rfl
  have k0 : (nI k = 0) = (k = 0) := nI_eqE (b := 0) (by omega) (by omega)
  have heq := oC_eq (N := n) hV h1 (by omega) (facN (S.2.2.2.1 2)) (Nat.le_refl _)
  obtain ⟨q, hq, -⟩ := oM_max S.2.2.2.1 n (facN (S.2.2.2.1 2)) 0 (by omega)
  refine SpAt.scr hS (if k = 0 then nI q.1 else nI q.2) (fun m hm => ?_) (fun m hm => ?_)
  · have hc := hm.2.2.2.1
    obtain ⟨m1, a1, a2, a3⟩ := c_first (nI n) hn (S.2.2.2.1 2) FU 0 (st_ (st_ m 240 2 (-1000000 : Int32)) 240 3 (-1000000 : Int32)) (by omega) (by omega) (by rw [st_na (by omega), st_na (by omega)]; exact hc.1) (fun j hj => by omega)
    have a1' : lp_X1_findOrder_17 13 FU (nI n) (1 : Int32) (0 : Int32) (st_ (st_ m 240 2 (-1000000 : Int32)) 240 3 (-1000000 : Int32)) = _ := a1
    obtain ⟨m', b1, b2, b3, b4⟩ := c_ord (N := n) hV h1 (by omega) h3 (facN (S.2.2.2.1 2)) FU 0 m1 (by omega) (by omega) (hc.frame fun a ha hb => by rw [a3 a (by omega), st_na (by omega), st_na (by omega)]) (fun _ j hj => by rw [pO_0 _ (by omega) j hj]; exact ⟨a2 j hj, by omega⟩) (by rw [a3 240 (by omega), st_n (Or.inr (by omega)), st_s]; rfl) (by rw [a3 240 (by omega), st_s]; rfl)
    have b1' : lp_X1_findOrder_51 13 FU (nI n) (nI (facN (S.2.2.2.1 2))) (0 : Int32) m1 = some m' := b1
    unfold f_X1_findOrder f_X1_answer
    simp only [nm_d]
    rw [a1', bd2_d, b1', bd1_d, bd1_d, b2, b3, heq, hq]
    simp only [k0]
    exact ⟨m', rfl, fun a ha => by rw [b4 a (by omega), a3 a (by omega), st_na (by omega), st_na (by omega)]⟩
  · have hc := hm.2.2.2.1
    obtain ⟨m1, a1, a2, a3⟩ := m_line (m := m) (nI n) (nI k)
    obtain ⟨m', b1, b2⟩ := m_ord (N := n) (nI k) hV h1 (by omega) h3 (facN (S.2.2.2.1 2) - 1) FU 0 m1 (by omega) (by omega) (hc.frame (a3 304 (by omega))) (fun j hj => by rw [pO_0 _ (by omega) j hj]; exact ⟨a2 j (by omega), by omega⟩)
    have b1' : lp_X7_order_61 FU (nI n) (nI k) (0 : Int32) (-1 : Int32) (1 : Int32) m1 = _ := b1
    simp only [a1, bd1_d, b1', bd3_d, k0, hq]
    refine ⟨m', ?_, fun a _ h1 h2 h4 => by rw [b2 a h1 h2 h4, a3 a h4]⟩
    by_cases h : k = 0
    · rw [if_pos h, if_pos h]; rfl
    · rw [if_neg h, if_neg h]; rfl
