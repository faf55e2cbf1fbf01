def fdN (V : Wv) : Nat → Nat → Option Nat
  | 0, _ => none
  | k + 1, i => if V (ig i 5) = 1 ∧ V (ig i 2) = 0 then some i else fdN V k (i + 1)
theorem fdN_lt (V : Wv) : ∀ k i g, fdN V k i = some g → i ≤ g ∧ g < i + k := by
  intro k
  induction k with
  | zero => intro i g h; cases h
  | succ k ih =>
    intro i g h
    unfold fdN at h
    split at h
    · cases h; omega
    · have := ih (i + 1) g h; omega
theorem cl_fd {m : Mm} {V : Wv} (hV : OkV V) (hc : CW m 241 V) : ∀ (k f i : Nat), i + k = V 2 → k < f → lp_X1_firstDry_2 f (nI i) m = some (match fdN V k i with | some g => .inl (nI g) | none => .inr 0) := by
  have hn := hV.n
  intro k
  induction k with
  | zero =>
    intro f i hi hf
    cases f with
    | zero => omega
    | succ f =>
      show lb_X1_firstDry_2 (lp_X1_firstDry_2 f) (nI i) m = _
      unfold lb_X1_firstDry_2
      rw [hc.1, if_pos (by rw [nI_leE (by omega) (by omega)]; omega)]
      rfl
  | succ k ih =>
    intro f i hi hf
    cases f with
    | zero => omega
    | succ f =>
      have hg : i < V 2 := by omega
      have hbt := hV.bits i hg
      have h99 := (hV.b hg).2.2.2.1
      have q1 : (nI (V (ig i 5)) = 0) = (V (ig i 5) = 0) := nI_eqE (b := 0) (by omega) (by omega)
      have q2 : (nI (V (ig i 2)) = 0) = (V (ig i 2) = 0) := nI_eqE (b := 0) (by omega) (by omega)
      show lb_X1_firstDry_2 (lp_X1_firstDry_2 f) (nI i) m = _
      unfold lb_X1_firstDry_2
      rw [hc.1, if_neg (by rw [nI_leE (by omega) (by omega)]; omega), cl_hired hV hc hg, gdN (by omega) (by omega), ix_nI (by omega), show m 245 i = _ from (hc.g hg).2.2.2.1]
      simp only [nm_d, q1, q2, n1, nI_add]
      unfold fdN
      by_cases h5 : V (ig i 5) = 0
      · rw [if_pos h5, if_neg (by omega)]
        exact ih f (i + 1) (by omega) (by omega)
      · rw [if_neg h5]
        by_cases h2 : V (ig i 2) = 0
        · rw [if_pos h2, if_pos (by omega)]
        · rw [if_neg h2, if_neg (by omega)]
          exact ih f (i + 1) (by omega) (by omega)
theorem cl_first {m : Mm} {V : Wv} (hV : OkV V) (hc : CW m 241 V) : f_X1_firstDry m = some (match fdN V (V 2) 0 with | some g => nI g | none => -1000000) := by
  have hF := FU_big
  have hn := hV.n
  unfold f_X1_firstDry
  have h' : lp_X1_firstDry_2 FU (0 : Int32) m = _ := cl_fd hV hc (V 2) FU 0 (by omega) (by omega)
  rw [h']
  cases fdN V (V 2) 0 <;> rfl
theorem nI_none {g : Nat} (hg : g < 1000) : ¬ nI g = (-1000000 : Int32) := by
  intro e2
  have h3 := congrArg Int32.toInt e2
  rw [nI_toInt (by omega)] at h3
  have : (-1000000 : Int32).toInt = -1000000 := by decide
  omega
def dryV : Nat → Nat → Wv → Option (Nat × Nat)
  | 0, _, _ => none
  | k + 1, d, V => match fdN V (V 2) 0 with
    | some g => some (g, d)
    | none => dryV k (d + 1) (passV V)
def dryA (o : Option (Nat × Nat)) : Int32 × Int32 := match o with
  | some q => (nI q.1, nI q.2)
  | none => (-1000000, -1000000)
set_option maxHeartbeats 1000000 in
theorem cl_dry : ∀ (k f d : Nat) (m : Mm) (V : Wv), d + k = 61 → k + 1 < f → OkV V → V 3 + k ≤ 20000 → CW m 241 V → m 240 2 = -1000000 → m 240 3 = -1000000 → ∃ m', lp_X1_findDry_22 f (nI d) m = some m' ∧ m' 240 2 = (dryA (dryV k d V)).1 ∧ m' 240 3 = (dryA (dryV k d V)).2 ∧ ∀ a, (a < 240 ∨ 249 < a) → m' a = m a := by
  intro k
  induction k with
  | zero =>
    intro f d m V hd hf hV h3 hc h2 h3'
    cases f with
    | zero => omega
    | succ f =>
      refine ⟨m, ?_, h2, h3', fun _ _ => rfl⟩
      show lb_X1_findDry_22 (lp_X1_findDry_22 f) (nI d) m = _
      unfold lb_X1_findDry_22
      rw [if_pos (by rw [show (60 : Int32) = nI 60 from rfl, nI_ltE (by omega) (by omega)]; omega)]
  | succ k ih =>
    intro f d m V hd hf hV h3 hc h2 h3'
    have hn := hV.n
    cases f with
    | zero => omega
    | succ f =>
      have hB : ∀ m', lb_X1_findDry_22 (lp_X1_findDry_22 f) (nI d) m = m' → lp_X1_findDry_22 (f + 1) (nI d) m = m' := fun m' h => h
      unfold lb_X1_findDry_22 at hB
      rw [if_neg (by rw [show (60 : Int32) = nI 60 from rfl, nI_ltE (by omega) (by omega)]; omega), h2, if_pos rfl, cl_first hV hc, bd1_d] at hB
      simp only [nm_d] at hB
      cases hfd : fdN V (V 2) 0 with
      | none =>
        rw [hfd] at hB
        simp only [st_s, if_true, reduceIte] at hB
        have hc2 : CW (st_ (st_ m 240 2 (-1000000)) 240 3 (-1000000)) 241 V := hc.frame fun a ha hb => by rw [st_na (by omega), st_na (by omega)]
        obtain ⟨m1, a1, a2, a3⟩ := cl_pass hV hc2
        obtain ⟨m', e1, e2, e3, e4⟩ := ih f (d + 1) m1 (passV V) (by omega) (by omega) (passV_ok hV (by omega)) (by show V 3 + 1 + k ≤ 20000; omega) a2 (by rw [a3 240 (by omega), st_n (Or.inr (by omega)), st_s]) (by rw [a3 240 (by omega), st_s])
        refine ⟨m', hB _ ?_, ?_, ?_, fun a ha => by rw [e4 a ha, a3 a (by omega), st_na (by omega), st_na (by omega)]⟩
        · rw [a1, bd1_d, n1, nI_add]; exact e1
        · unfold dryV; rw [hfd]; exact e2
        · unfold dryV; rw [hfd]; exact e3
      | some g =>
        have hg7 := fdN_lt V (V 2) 0 g hfd
        rw [hfd] at hB
        simp only [st_s, if_neg (nI_none (show g < 1000 by omega))] at hB
        have hc2 : CW (st_ (st_ m 240 2 (nI g)) 240 3 (nI d)) 241 V := hc.frame fun a ha hb => by rw [st_na (by omega), st_na (by omega)]
        obtain ⟨m1, a1, a2, a3⟩ := cl_pass hV hc2
        have w2 : m1 240 2 = nI g := by rw [a3 240 (by omega), st_n (Or.inr (by omega)), st_s]
        have w3 : m1 240 3 = nI d := by rw [a3 240 (by omega), st_s]
        refine ⟨m1, hB _ ?_, ?_, ?_, fun a ha => by rw [a3 a (by omega), st_na (by omega), st_na (by omega)]⟩
        · rw [a1, bd1_d, n1, nI_add]
          cases f with
          | zero => omega
          | succ f =>
            show lb_X1_findDry_22 (lp_X1_findDry_22 f) (nI (d + 1)) m1 = _
            unfold lb_X1_findDry_22
            rw [w2, if_neg (nI_none (show g < 1000 by omega))]
            split <;> rfl
        · unfold dryV; rw [hfd]; exact w2
        · unfold dryV; rw [hfd]; exact w3
theorem mo_fd {m : Mm} {V : Wv} {U : Wv} (hV : OkV V) (hU : U 2 = V 2) (hm : MW m 304 0 U) (hc : MW m 306 0 V) (x d : Int32) : ∀ (k f i : Nat), i + k = V 2 → k < f → lp_X7_dry_45 f x d (nI i) m = some (match fdN V k i with | some g => .inl (if x = 0 then nI g else d, m) | none => .inr 0) := by
  have hn := hV.n
  intro k
  induction k with
  | zero =>
    intro f i hi hf
    cases f with
    | zero => omega
    | succ f =>
      show lb_X7_dry_45 (lp_X7_dry_45 f) x d (nI i) m = _
      unfold lb_X7_dry_45
      rw [show ix (2 : Int32) = 2 from rfl, hm.at (by omega), hU, if_pos (by rw [nI_leE (by omega) (by omega)]; omega)]
      rfl
  | succ k ih =>
    intro f i hi hf
    cases f with
    | zero => omega
    | succ f =>
      have hg : i < V 2 := by omega
      have hbt := hV.bits i hg
      have h99 := (hV.b hg).2.2.2.1
      have i5 : ig i 5 < 55 := ig_lt (n := 7) (by omega) (by omega) (by omega)
      have i2 : ig i 2 < 55 := ig_lt (n := 7) (by omega) (by omega) (by omega)
      have q1 : (nI (V (ig i 5)) = (1 : Int32)) = (V (ig i 5) = 1) := nI_eqE (b := 1) (by omega) (by omega)
      have q2 : (nI (V (ig i 2)) = 0) = (V (ig i 2) = 0) := nI_eqE (b := 0) (by omega) (by omega)
      show lb_X7_dry_45 (lp_X7_dry_45 f) x d (nI i) m = _
      unfold lb_X7_dry_45
      rw [show ix (2 : Int32) = 2 from rfl, hm.at (by omega), hU, if_neg (by rw [nI_leE (by omega) (by omega)]; omega)]
      rw [show (6 : Int32) + (7 : Int32) * nI i + (5 : Int32) = nI (ig i 5) from igE i 5, show (6 : Int32) + (7 : Int32) * nI i + (2 : Int32) = nI (ig i 2) from igE i 2]
      simp (disch := omega) only [ix_nI, gdM, hc.at i5, hc.at i2, q1, q2, nm_d]
      unfold fdN
      by_cases h5 : V (ig i 5) = 1
      · rw [if_pos h5]
        by_cases h2 : V (ig i 2) = 0
        · rw [if_pos h2, if_pos (c := V (ig i 5) = 1 ∧ V (ig i 2) = 0) ⟨h5, h2⟩]
          show (if x = 0 then some (Sum.inl (nI i, m)) else some (Sum.inl (d, m))) = some (Sum.inl (if x = 0 then nI i else d, m))
          by_cases hx : x = 0
          · rw [if_pos hx, if_pos hx]
          · rw [if_neg hx, if_neg hx]
        · rw [if_neg h2, if_neg (by omega), n1, nI_add]
          exact ih f (i + 1) (by omega) (by omega)
      · rw [if_neg h5, if_neg (by omega), n1, nI_add]
        exact ih f (i + 1) (by omega) (by omega)
theorem mo_dry (x : Nat) (hx : x ≤ 1) {U : Wv} : ∀ (k f d : Nat) (m : Mm) (V : Wv), d + k = 61 → k < f → OkV V → U 2 = V 2 → V 3 + k ≤ 20000 → MW m 304 0 U → MW m 306 0 V → ∃ m', lp_X7_dry_37 f (nI x) (nI d) m = some (match dryV k d V with | some q => .inl (if x = 0 then nI q.1 else nI q.2, m') | none => .inr m') ∧ ∀ a, a ≠ 306 → a ≠ 310 → m' a = m a := by
  have hF := FU_big
  intro k
  induction k with
  | zero =>
    intro f d m V hd hf hV hU h3 hm hc
    cases f with
    | zero => omega
    | succ f =>
      refine ⟨m, ?_, fun _ _ _ => rfl⟩
      show lb_X7_dry_37 (lp_X7_dry_37 f) (nI x) (nI d) m = _
      unfold lb_X7_dry_37
      rw [if_pos (by rw [show (61 : Int32) = nI 61 from rfl, nI_leE (by omega) (by omega)]; omega)]
      rfl
  | succ k ih =>
    intro f d m V hd hf hV hU h3 hm hc
    have hn := hV.n
    cases f with
    | zero => omega
    | succ f =>
      have q0 : (nI x = 0) = (x = 0) := nI_eqE (b := 0) (by omega) (by omega)
      have hB : ∀ m', lb_X7_dry_37 (lp_X7_dry_37 f) (nI x) (nI d) m = m' → lp_X7_dry_37 (f + 1) (nI x) (nI d) m = m' := fun m' h => h
      unfold lb_X7_dry_37 at hB
      have hfd : lp_X7_dry_45 FU (nI x) (nI d) (0 : Int32) m = _ := mo_fd hV hU hm hc (nI x) (nI d) (V 2) FU 0 (by omega) (by omega)
      rw [if_neg (by rw [show (61 : Int32) = nI 61 from rfl, nI_leE (by omega) (by omega)]; omega), hfd] at hB
      simp only [q0] at hB
      cases hf2 : fdN V (V 2) 0 with
      | none =>
        rw [hf2] at hB
        obtain ⟨m1, a1, a2, a3, a4⟩ := mo_pass (q := 306) (nq := 55) (by omega) (by omega) hV hc
        obtain ⟨m', e1, e2⟩ := ih f (d + 1) m1 (passV V) (by omega) (by omega) (passV_ok hV (by omega)) (by rw [hU, passV_lo (by omega)]) (by show V 3 + 1 + k ≤ 20000; omega) (hm.frame (a3 304 (by omega) (by omega))) a2
        refine ⟨m', hB _ ?_, fun a h1 h2 => by rw [e2 a h1 h2, a3 a h1 h2]⟩
        rw [bdT1_r, a1, bd1_d, nm_d, n1, nI_add]
        unfold dryV
        rw [hf2]
        exact e1
      | some g =>
        rw [hf2] at hB
        refine ⟨m, hB _ ?_, fun _ _ _ => rfl⟩
        rw [bdT1_l]
        unfold dryV
        rw [hf2]
set_option maxHeartbeats 1000000 in
theorem sp_dry (x1 : Int32) : Sp2 (f_X6_dry x1) (f_X7_dry x1) := fun S hS => by
  have hN := hS.2.2.2.1
  have hn := hN.v.n
  have hF := FU_big
  by_cases hz0 : S.2.2.2.1 2 = 0
  · refine SpAt.keep hS (-1000002) (fun m hm => ?_) (fun m hm => ?_)
    · unfold f_X6_dry
      rw [isNoneE hn hm.2.2.2.1, if_pos hz0]; rfl
    · unfold f_X7_dry
      rw [isWedE hN hm.2.2.2.1, if_pos hz0]; rfl
  have hW := hN.w (by omega)
  have hV := hW.1
  have h3 := hW.2.1
  rcases btw x1 0 1 (by omega) (by omega) with hb | ⟨k, -, hk, rfl⟩
  · have hf : f_X7_in x1 (0 : Int32) (1 : Int32) = 0 := in_bad (lo := 0) (hi := 1) (by omega) (by omega) hb
    refine SpAt.keep hS (-1000001) (fun m hm => ?_) (fun m hm => ?_)
    · unfold f_X6_dry
      rw [isNoneE hn hm.2.2.2.1, if_neg hz0, if_pos rfl, flag_bad hb, if_pos rfl]
    · unfold f_X7_dry
      rw [isWedE hN hm.2.2.2.1, if_neg hz0, if_neg (by decide), hf, if_pos rfl]
  have hf : f_X7_in (nI k) (0 : Int32) (1 : Int32) = 1 := in_ok (lo := 0) (hi := 1) (by omega) (by omega) hk
  have k0 : (nI k = 0) = (k = 0) := nI_eqE (b := 0) (by omega) (by omega)
  refine SpAt.scr hS (if k = 0 then (dryA (dryV 61 0 S.2.2.2.1)).1 else (dryA (dryV 61 0 S.2.2.2.1)).2) (fun m hm => ?_) (fun m hm => ?_)
  · have hc2 : CW (st_ (st_ m 240 2 (-1000000)) 240 3 (-1000000)) 13 S.2.2.2.1 := hm.2.2.2.1.frame fun a ha hb => by rw [st_na (by omega), st_na (by omega)]
    obtain ⟨m1, a1, a2, a3⟩ := cl_become (w0 := 241) (w1 := 13) (by omega) hn hV.seats hc2
    obtain ⟨m', e1, e2, e3, e4⟩ := cl_dry 61 FU 0 m1 S.2.2.2.1 (by omega) (by omega) hV (by omega) a2 (by rw [a3 240 (by omega), st_n (Or.inr (by omega)), st_s]) (by rw [a3 240 (by omega), st_s])
    have e1' : lp_X1_findDry_22 FU (0 : Int32) m1 = some m' := e1
    unfold f_X6_dry f_X1_findDry f_X1_answer
    rw [isNoneE hn hm.2.2.2.1, if_neg hz0, if_pos rfl, flag_ok hk, if_neg (by decide), nm_d, nm_d, a1, bd1_d, e1', bd1_d, bd1_d, e2, e3]
    simp only [k0]
    exact ⟨m', rfl, fun a ha => by rw [e4 a (by omega), a3 a (by omega), st_na (by omega), st_na (by omega)]⟩
  · obtain ⟨m1, a1, a2, a3, a4⟩ := mo_copy (q1 := 304) (z1 := 55) (o1 := 0) (q3 := 306) (z3 := 55) (o3 := 0) (by omega) (by omega) (by omega) (by omega) (by omega) hm.2.2.2.1
    have a1' : f_X7_copies 304 55 (0 : Int32) 306 55 (0 : Int32) m = some m1 := a1
    obtain ⟨m', e1, e2⟩ := mo_dry k hk 61 FU 0 m1 S.2.2.2.1 (by omega) (by omega) hV rfl (by omega) (hm.2.2.2.1.frame (a3 304 (by omega))) a2
    have e1' : lp_X7_dry_37 FU (nI k) (0 : Int32) m1 = _ := e1
    unfold f_X7_dry
    rw [isWedE hN hm.2.2.2.1, if_neg hz0, if_neg (by decide), hf, if_neg (by decide), a1', bd1_d, e1']
    refine ⟨m', ?_, fun a _ h1 h2 _ => by rw [e2 a h1 h2, a3 a h1]⟩
    cases dryV 61 0 S.2.2.2.1 with
    | none => by_cases h : k = 0 <;> simp [bdS1_r, dryA]
    | some q => rfl
