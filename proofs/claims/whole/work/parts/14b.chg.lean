/-! whom to change -/
def mrV (o : Option (Nat × Nat)) (w p : Nat) : Option (Nat × Nat) := match o with
  | none => some (w, p)
  | some q => if q.2 < p then some (w, p) else some q
def okB (o : Option (Nat × Nat)) : Prop := ∀ q, o = some q → q.2 ≤ 999
theorem mrV_ok {o : Option (Nat × Nat)} {w p : Nat} (ho : okB o) (hp : p ≤ 999) : okB (mrV o w p) := by
  intro q hq
  cases o with
  | none => cases hq; exact hp
  | some r =>
    unfold mrV at hq
    simp only at hq
    split at hq
    · cases hq; exact hp
    · exact ho q hq
theorem nI_gtN {p : Nat} (hp : p < 2147483648) : ¬ nI p ≤ (-1000000 : Int32) := by
  intro h
  rw [Int32.le_iff_toInt_le, nI_toInt hp] at h
  have : (-1000000 : Int32).toInt = -1000000 := by decide
  omega
/-- keepIfMore -/
theorem cl_more {m : Mm} {o : Option (Nat × Nat)} {w p : Nat} {x : Int32} (hx : x = nI w) (ho : okB o) (hp : p ≤ 999) (e4 : m 241 4 = nI p) (e2 : m 240 2 = wE o) (e3 : m 240 3 = pE o) : ∃ m', f_X1_keepIfMore x m = some m' ∧ m' 240 2 = wE (mrV o w p) ∧ m' 240 3 = pE (mrV o w p) ∧ ∀ a, a ≠ 240 → m' a = m a := by
  subst hx
  unfold f_X1_keepIfMore
  simp only [nm_d]
  have yes : ∃ m', (some (st_ (st_ m 240 2 (nI w)) 240 3 (st_ m 240 2 (nI w) 241 4)) : Option Mm) = some m' ∧ m' 240 2 = wE (some (w, p)) ∧ m' 240 3 = pE (some (w, p)) ∧ ∀ a, a ≠ 240 → m' a = m a := by
    refine ⟨_, rfl, ?_, ?_, fun a ha => by rw [st_na ha, st_na ha]⟩
    · rw [st_n (Or.inr (by omega)), st_s]; rfl
    · rw [st_s, st_na (by omega), e4]; rfl
  cases o with
  | none =>
    have e3' : m 240 3 = -1000000 := e3
    rw [e4, e3', if_neg (nI_gtN (by omega))]
    exact yes
  | some q =>
    have hq := ho q rfl
    have e3' : m 240 3 = nI q.2 := e3
    have q1 : (nI p ≤ nI q.2) = (p ≤ q.2) := nI_leE (by omega) (by omega)
    have hm : (m 241 4 ≤ m 240 3) = (p ≤ q.2) := by rw [e4, e3', q1]
    simp only [hm]
    unfold mrV
    simp only
    by_cases h : p ≤ q.2
    · rw [if_pos h, if_neg (by omega)]
      exact ⟨m, rfl, e2, e3, fun _ _ => rfl⟩
    · rw [if_neg h, if_pos (by omega)]
      exact yes
theorem mo_more {o : Option (Nat × Nat)} {w p : Nat} {x : Int32} (hx : x = nI w) (ho : okB o) (hp : p ≤ 999) : (if nI p ≤ pE o then wE o else x) = wE (mrV o w p) ∧ f_X7_greater (nI p) (pE o) = pE (mrV o w p) := by
  subst hx
  unfold f_X7_greater
  cases o with
  | none =>
    constructor
    · show (if nI p ≤ (-1000000 : Int32) then _ else nI w) = nI w
      rw [if_neg (nI_gtN (by omega))]
    · show (if nI p ≤ (-1000000 : Int32) then _ else nI p) = nI p
      rw [if_neg (nI_gtN (by omega))]
  | some q =>
    have hq := ho q rfl
    have q1 : (nI p ≤ nI q.2) = (p ≤ q.2) := nI_leE (by omega) (by omega)
    show (if nI p ≤ nI q.2 then nI q.1 else nI w) = _ ∧ (if nI p ≤ nI q.2 then nI q.2 else nI p) = _
    unfold mrV
    simp only [q1]
    by_cases h : p ≤ q.2
    · rw [if_pos h, if_pos h, if_neg (by omega)]
      exact ⟨rfl, rfl⟩
    · rw [if_neg h, if_neg h, if_pos (by omega)]
      exact ⟨rfl, rfl⟩
def chI (V : Wv) (n a : Nat) : Nat → Nat → Option (Nat × Nat) → Option (Nat × Nat)
  | 0, _, o => o
  | k + 1, b, o => chI V n a k (b + 1) (mrV o (10 * a + b) (runV n (swapV V a b) 4))
def chO (V : Wv) (n : Nat) : Nat → Nat → Option (Nat × Nat) → Option (Nat × Nat)
  | 0, _, o => o
  | k + 1, a, o => chO V n k (a + 1) (chI V n a (V 2 - (a + 1)) (a + 1) o)
theorem runS_ok {V : Wv} {n a b : Nat} (hV : OkV V) (h3 : V 3 + n ≤ 20000) (ha : a < V 2) (hb : b < V 2) : OkV (runV n (swapV V a b)) := runV_ok (swapV_ok hV ha hb) n (by rw [swapV_o (by omega)]; exact h3)
theorem tenE (a b : Nat) : (10 : Int32) * nI a + nI b = nI (10 * a + b) := by
  rw [show (10 : Int32) = nI 10 from rfl, nI_mulE, nI_add]
theorem cl_chI {V : Wv} {n a : Nat} (hV : OkV V) (hn : n ≤ 30) (h3 : V 3 ≤ 9999) (ha : a < V 2) : ∀ (k f b : Nat) (m : Mm) (o : Option (Nat × Nat)), b + k = V 2 → k < f → a < b → okB o → CW m 13 V → m 240 2 = wE o → m 240 3 = pE o →
    ∃ m', lp_X1_findChange_27 13 f (nI n) (nI a) (nI b) m = some m' ∧ okB (chI V n a k b o) ∧ m' 240 2 = wE (chI V n a k b o) ∧ m' 240 3 = pE (chI V n a k b o) ∧ ∀ c, (c < 240 ∨ 249 < c) → m' c = m c := by
  have hn7 := hV.n
  intro k
  induction k with
  | zero =>
    intro f b m o hb hf hab ho hc e2 e3
    cases f with
    | zero => omega
    | succ f =>
      refine ⟨m, ?_, ho, e2, e3, fun _ _ => rfl⟩
      show lb_X1_findChange_27 (lp_X1_findChange_27 13 f) 13 (nI n) (nI a) (nI b) m = _
      unfold lb_X1_findChange_27
      rw [hc.1, if_pos (by rw [nI_leE (by omega) (by omega)]; omega)]
  | succ k ih =>
    intro f b m o hb hf hab ho hc e2 e3
    cases f with
    | zero => omega
    | succ f =>
      have hB : ∀ m', lb_X1_findChange_27 (lp_X1_findChange_27 13 f) 13 (nI n) (nI a) (nI b) m = m' → lp_X1_findChange_27 13 (f + 1) (nI n) (nI a) (nI b) m = m' := fun m' h => h
      unfold lb_X1_findChange_27 at hB
      have hbl : b < V 2 := by omega
      obtain ⟨m1, a1, a2, a3⟩ := cl_become (w0 := 241) (w1 := 13) (by omega) hV.n hV.seats hc
      obtain ⟨m2, b1, b2, b3⟩ := cl_trade (w := 241) hV a2 ha hbl (by omega)
      obtain ⟨m3, d1, d2, d3⟩ := cl_run (w := 241) (n := n) (by omega) (swapV_ok hV ha hbl) (by rw [swapV_o (by omega)]; omega) b2
      have f240 : m3 240 = m 240 := by rw [d3 240 (by omega), b3 240 (by omega), a3 240 (by omega)]
      have hp := (runS_ok (n := n) hV (by omega) ha hbl).2.2.2.2.1
      obtain ⟨m4, g1, g2, g3, g4⟩ := cl_more (o := o) (w := 10 * a + b) (tenE a b) ho hp d2.2.2.2.2.1 (by rw [f240]; exact e2) (by rw [f240]; exact e3)
      rw [hc.1, if_neg (by rw [nI_leE (by omega) (by omega)]; omega), a1, bd1_d, b1, bd1_d, d1, bd1_d, g1, bd1_d, nm_d, nI_s1] at hB
      have fr : ∀ c, (c < 240 ∨ 249 < c) → m4 c = m c := fun c hc => by rw [g4 c (by omega), d3 c (by omega), b3 c (by omega), a3 c (by omega)]
      obtain ⟨m', z1, z2, z3, z4, z5⟩ := ih f (b + 1) m4 _ (by omega) (by omega) (by omega) (mrV_ok (w := 10 * a + b) ho hp) (hc.frame fun c h1 h2 => fr c (by omega)) g2 g3
      exact ⟨m', hB _ z1, z2, z3, z4, fun c hc => by rw [z5 c hc, fr c hc]⟩
theorem cl_chO {V : Wv} {n : Nat} (hV : OkV V) (hn : n ≤ 30) (h3 : V 3 ≤ 9999) : ∀ (k f a : Nat) (m : Mm) (o : Option (Nat × Nat)), a + k = V 2 → k < f → okB o → CW m 13 V → m 240 2 = wE o → m 240 3 = pE o →
    ∃ m', lp_X1_findChange_14 13 f (nI n) (nI a) m = some m' ∧ okB (chO V n k a o) ∧ m' 240 2 = wE (chO V n k a o) ∧ m' 240 3 = pE (chO V n k a o) ∧ ∀ c, (c < 240 ∨ 249 < c) → m' c = m c := by
  have hn7 := hV.n
  have hF := FU_big
  intro k
  induction k with
  | zero =>
    intro f a m o hb hf ho hc e2 e3
    cases f with
    | zero => omega
    | succ f =>
      refine ⟨m, ?_, ho, e2, e3, fun _ _ => rfl⟩
      show lb_X1_findChange_14 (lp_X1_findChange_14 13 f) 13 (nI n) (nI a) m = _
      unfold lb_X1_findChange_14
      rw [hc.1, if_pos (by rw [nI_leE (by omega) (by omega)]; omega)]
  | succ k ih =>
    intro f a m o hb hf ho hc e2 e3
    cases f with
    | zero => omega
    | succ f =>
      have hB : ∀ m', lb_X1_findChange_14 (lp_X1_findChange_14 13 f) 13 (nI n) (nI a) m = m' → lp_X1_findChange_14 13 (f + 1) (nI n) (nI a) m = m' := fun m' h => h
      unfold lb_X1_findChange_14 at hB
      obtain ⟨m1, a1, a2, a3, a4, a5⟩ := cl_chI (n := n) (a := a) hV hn h3 (by omega) (V 2 - (a + 1)) FU (a + 1) m o (by omega) (by omega) (by omega) ho hc e2 e3
      rw [hc.1, if_neg (by rw [nI_leE (by omega) (by omega)]; omega)] at hB
      simp only [nm_d, nI_s1, a1, bd1_d] at hB
      obtain ⟨m', z1, z2, z3, z4, z5⟩ := ih f (a + 1) m1 _ (by omega) (by omega) a2 (hc.frame fun c h1 h2 => a5 c (by omega)) a3 a4
      exact ⟨m', hB _ z1, z2, z3, z4, fun c hc => by rw [z5 c hc, a5 c hc]⟩
theorem mo_chI {V : Wv} {n a : Nat} (x2 : Int32) (hV : OkV V) (hn : n ≤ 30) (h3 : V 3 ≤ 9999) (ha : a < V 2) : ∀ (k f b : Nat) (m : Mm) (o : Option (Nat × Nat)), b + k = V 2 → k < f → a < b → okB o → MW m 304 0 V →
    ∃ m', lp_X7_change_59 f (nI n) x2 (wE o) (pE o) (nI a) (nI b) m = some (wE (chI V n a k b o), pE (chI V n a k b o), m') ∧ okB (chI V n a k b o) ∧ ∀ c, c ≠ 306 → c ≠ 310 → m' c = m c := by
  have hn7 := hV.n
  intro k
  induction k with
  | zero =>
    intro f b m o hb hf hab ho hc
    cases f with
    | zero => omega
    | succ f =>
      refine ⟨m, ?_, ho, fun _ _ _ => rfl⟩
      show lb_X7_change_59 (lp_X7_change_59 f) (nI n) x2 (wE o) (pE o) (nI a) (nI b) m = _
      unfold lb_X7_change_59
      rw [show ix (2 : Int32) = 2 from rfl, hc.at (by omega), if_pos (by rw [nI_leE (by omega) (by omega)]; omega)]
      rfl
  | succ k ih =>
    intro f b m o hb hf hab ho hc
    cases f with
    | zero => omega
    | succ f =>
      have hB : ∀ m', lb_X7_change_59 (lp_X7_change_59 f) (nI n) x2 (wE o) (pE o) (nI a) (nI b) m = m' → lp_X7_change_59 (f + 1) (nI n) x2 (wE o) (pE o) (nI a) (nI b) m = m' := fun m' h => h
      unfold lb_X7_change_59 at hB
      have hbl : b < V 2 := by omega
      obtain ⟨m1, a1, a2, a3, a4⟩ := mo_copy (q1 := 304) (z1 := 55) (o1 := 0) (q3 := 306) (z3 := 55) (o3 := 0) (by omega) (by omega) (by omega) (by omega) (by omega) hc
      have a1' : f_X7_copies 304 55 (0 : Int32) 306 55 (0 : Int32) m = some m1 := a1
      obtain ⟨m2, b1, b2, b3, b4⟩ := mo_changes (q := 306) (nq := 55) (by omega) hV.n a2 ha hbl (by omega)
      obtain ⟨m3, d1, d2, d3⟩ := mo_goesOn (n := n) (by omega) (swapV_ok hV ha hbl) (by rw [swapV_o (by omega)]; omega) b2
      have hp := (runS_ok (n := n) hV (by omega) ha hbl).2.2.2.2.1
      obtain ⟨g1, g2⟩ := mo_more (o := o) (w := 10 * a + b) (tenE a b) ho hp
      rw [show ix (2 : Int32) = 2 from rfl, hc.at (by omega), if_neg (by rw [nI_leE (by omega) (by omega)]; omega), a1', bd1_d, b1, bd1_d, d1, bd1_d, show ix (4 : Int32) = 4 from rfl, d2.at (by omega), g1, g2, nm_d, nm_d, nm_d, nI_s1] at hB
      have fr : ∀ c, c ≠ 306 → c ≠ 310 → m3 c = m c := fun c h1 h2 => by rw [d3 c h1 h2, b3 c h1, a3 c h1]
      obtain ⟨m', z1, z2, z3⟩ := ih f (b + 1) m3 _ (by omega) (by omega) (by omega) (mrV_ok (w := 10 * a + b) ho hp) (hc.frame (fr 304 (by omega) (by omega)))
      exact ⟨m', hB _ z1, z2, fun c h1 h2 => by rw [z3 c h1 h2, fr c h1 h2]⟩
theorem mo_chO {V : Wv} {n : Nat} (x2 : Int32) (hV : OkV V) (hn : n ≤ 30) (h3 : V 3 ≤ 9999) : ∀ (k f a : Nat) (m : Mm) (o : Option (Nat × Nat)), a + k = V 2 → k < f → okB o → MW m 304 0 V →
    ∃ m', lp_X7_change_42 f (nI n) x2 (wE o) (pE o) (nI a) m = some (wE (chO V n k a o), pE (chO V n k a o), m') ∧ ∀ c, c ≠ 306 → c ≠ 310 → m' c = m c := by
  have hn7 := hV.n
  have hF := FU_big
  intro k
  induction k with
  | zero =>
    intro f a m o hb hf ho hc
    cases f with
    | zero => omega
    | succ f =>
      refine ⟨m, ?_, fun _ _ _ => rfl⟩
      show lb_X7_change_42 (lp_X7_change_42 f) (nI n) x2 (wE o) (pE o) (nI a) m = _
      unfold lb_X7_change_42
      rw [show ix (2 : Int32) = 2 from rfl, hc.at (by omega), if_pos (by rw [nI_leE (by omega) (by omega)]; omega)]
      rfl
  | succ k ih =>
    intro f a m o hb hf ho hc
    cases f with
    | zero => omega
    | succ f =>
      have hB : ∀ m', lb_X7_change_42 (lp_X7_change_42 f) (nI n) x2 (wE o) (pE o) (nI a) m = m' → lp_X7_change_42 (f + 1) (nI n) x2 (wE o) (pE o) (nI a) m = m' := fun m' h => h
      unfold lb_X7_change_42 at hB
      obtain ⟨m1, a1, a2, a3⟩ := mo_chI (n := n) (a := a) x2 hV hn h3 (by omega) (V 2 - (a + 1)) FU (a + 1) m o (by omega) (by omega) (by omega) ho hc
      rw [show ix (2 : Int32) = 2 from rfl, hc.at (by omega), if_neg (by rw [nI_leE (by omega) (by omega)]; omega)] at hB
      simp only [nm_d, nI_s1, a1, bd3_d] at hB
      obtain ⟨m', z1, z2⟩ := ih f (a + 1) m1 _ (by omega) (by omega) a2 (hc.frame (a3 304 (by omega) (by omega)))
      exact ⟨m', hB _ z1, fun c h1 h2 => by rw [z2 c h1 h2, a3 c h1 h2]⟩
theorem sp_change (x1 x2 : Int32) : Sp2 (f_X6_change x1 x2) (f_X7_change x1 x2) := fun S hS => by
  have hN := hS.2.2.2.1
  have hn := hN.v.n
  have hF := FU_big
  by_cases hz0 : S.2.2.2.1 2 = 0
  · refine SpAt.keep hS (-1000002) (fun m hm => ?_) (fun m hm => ?_)
    · unfold f_X6_change
      rw [isNoneE hn hm.2.2.2.1, if_pos hz0]; rfl
    · unfold f_X7_change
      rw [isWedE hN hm.2.2.2.1, if_pos hz0]; rfl
  have hW := hN.w (by omega)
  have hV := hW.1
  have h3 := hW.2.1
  refine SpAt.two hS x1 x2 1 30 (by omega) (by omega) (gx := fun m => (bd1 (f_X1_findChange 13 x1 m) fun m4 => (some ((f_X1_answer x2 m4), m4)))) (gm := fun m => (bd3 (lp_X7_change_42 FU x1 x2 (-1000000 : Int32) (-1000000 : Int32) (0 : Int32) m) fun z19 z20 m21 => (if x2 = 0 then (some (z19, m21)) else (some (z20, m21))))) (fun m hm => ?_) (fun m hm => ?_) ?_
  · unfold f_X6_change
    rw [isNoneE hn hm.2.2.2.1, if_neg hz0, if_pos rfl, withinE] <;> rfl
  · unfold f_X7_change
    rw [isWedE hN hm.2.2.2.1, if_neg hz0, if_neg (by decide)] <;> rfl
  rintro n k hn1 hn2 hk rfl rfl
  have k0 : (nI k = 0) = (k = 0) := nI_eqE (b := 0) (by omega) (by omega)
  have o0 : okB none := fun q h => by cases h
  refine SpAt.scr hS (if k = 0 then wE (chO S.2.2.2.1 n (S.2.2.2.1 2) 0 none) else pE (chO S.2.2.2.1 n (S.2.2.2.1 2) 0 none)) (fun m hm => ?_) (fun m hm => ?_)
  · have hc := hm.2.2.2.1
    obtain ⟨m', a1, -, a2, a3, a4⟩ := cl_chO (n := n) hV hn2 h3 (S.2.2.2.1 2) FU 0 (st_ (st_ m 240 2 (-1000000 : Int32)) 240 3 (-1000000 : Int32)) none (by omega) (by omega) o0 (hc.frame fun a ha hb => by rw [st_na (by omega), st_na (by omega)]) (by rw [st_n (Or.inr (by omega)), st_s]; rfl) (by rw [st_s]; rfl)
    have a1' : lp_X1_findChange_14 13 FU (nI n) (0 : Int32) (st_ (st_ m 240 2 (-1000000 : Int32)) 240 3 (-1000000 : Int32)) = some m' := a1
    unfold f_X1_findChange f_X1_answer
    simp only [nm_d]
    rw [a1', bd1_d, bd1_d, a2, a3]
    simp only [k0]
    exact ⟨m', rfl, fun a ha => by rw [a4 a (by omega), st_na (by omega), st_na (by omega)]⟩
  · have hc := hm.2.2.2.1
    obtain ⟨m', a1, a2⟩ := mo_chO (n := n) (nI k) hV hn2 h3 (S.2.2.2.1 2) FU 0 m none (by omega) (by omega) o0 hc
    have a1' : lp_X7_change_42 FU (nI n) (nI k) (-1000000 : Int32) (-1000000 : Int32) (0 : Int32) m = _ := a1
    simp only [a1', bd3_d, k0]
    refine ⟨m', ?_, fun a _ h1 h2 _ => a2 a h1 h2⟩
    by_cases h : k = 0
    · rw [if_pos h, if_pos h]
    · rw [if_neg h, if_neg h]
