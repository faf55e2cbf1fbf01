theorem cl_bel {m : Mm} {V : Wv} (x2 x3 y4 : Int32) (hV : OkV V) (hc : CW m 13 V) : ∀ (f i : Nat), i ≤ V 2 → V 2 - i < f → lp_X1_weighAway_9 13 f x2 x3 y4 (nI (prodTo i fun g => if V (ig g 5) = 0 then 1 else 10)) (nI i) m = some (nI (belV V)) := by
  have hn := hV.n
  intro f
  induction f with
  | zero => intro i _ h; omega
  | succ f ih =>
    intro i hi hif
    have hB : ∀ m', lb_X1_weighAway_9 (lp_X1_weighAway_9 13 f) 13 x2 x3 y4 (nI (prodTo i fun g => if V (ig g 5) = 0 then 1 else 10)) (nI i) m = m' → lp_X1_weighAway_9 13 (f + 1) x2 x3 y4 (nI (prodTo i fun g => if V (ig g 5) = 0 then 1 else 10)) (nI i) m = m' := fun m' h => h
    refine hB _ ?_
    unfold lb_X1_weighAway_9
    rw [hc.1]
    have q : (nI (V 2) ≤ nI i) = (V 2 ≤ i) := nI_leE (by omega) (by omega)
    simp only [q]
    by_cases h : V 2 ≤ i
    · rw [if_pos h, show i = V 2 by omega]; rfl
    · have hb := hV.bits i (by omega)
      have q2 : (nI (V (ig i 5)) = 0) = (V (ig i 5) = 0) := nI_eqE (b := 0) (by omega) (by omega)
      rw [if_neg h, cl_hired hV hc (by omega)]
      simp only [nm_d, q2]
      have e : (if V (ig i 5) = 0 then (1 : Int32) else (10 : Int32)) = nI (if V (ig i 5) = 0 then 1 else 10) := by split <;> rfl
      rw [e, nI_mulE, nI_s1]
      exact ih (i + 1) (by omega) (by omega)
theorem mo_bel {m : Mm} {h : Nat} (x1 x2 x3 y5 : Int32) (hh : h < 128) : ∀ (f i : Nat), i ≤ ones7 h → ones7 h - i < f → lp_X7_away_57 f x1 x2 x3 (nI h) y5 (nI (10 ^ i)) (nI i) m = some (nI (10 ^ ones7 h)) := by
  have hn := ones7_lt h
  intro f
  induction f with
  | zero => intro i _ h; omega
  | succ f ih =>
    intro i hi hif
    have hB : ∀ m', lb_X7_away_57 (lp_X7_away_57 f) x1 x2 x3 (nI h) y5 (nI (10 ^ i)) (nI i) m = m' → lp_X7_away_57 (f + 1) x1 x2 x3 (nI h) y5 (nI (10 ^ i)) (nI i) m = m' := fun m' h => h
    refine hB _ ?_
    unfold lb_X7_away_57
    rw [onesE hh, bd1_d]
    have q : (nI (ones7 h) ≤ nI i) = (ones7 h ≤ i) := nI_leE (by omega) (by omega)
    simp only [q]
    by_cases h' : ones7 h ≤ i
    · rw [if_pos h', show i = ones7 h by omega]
    · rw [if_neg h', nm_d, nm_d, show (10 : Int32) = nI 10 from rfl, nI_mulE, nI_s1, ← Nat.pow_succ]
      exact ih (i + 1) (by omega) (by omega)
theorem cl_ways {m : Mm} {V : Wv} {c s : Nat} (hV : OkV V) (hc : CW m 13 V) (hcc : c ≤ 10) (hs : s < 128) : ∀ (f i : Nat), i ≤ V 2 → V 2 - i < f → lp_X1_waysToStay_5 13 f (nI s) (nI c) (nI (prodTo i fun g => if V (ig g 5) = 0 then 1 else if s / 2 ^ g % 2 = 1 then 10 - c else c)) (nI i) m = some (nI (prodTo (V 2) fun g => if V (ig g 5) = 0 then 1 else if s / 2 ^ g % 2 = 1 then 10 - c else c)) := by
  have hn := hV.n
  generalize hF : (fun g => if V (ig g 5) = 0 then 1 else if s / 2 ^ g % 2 = 1 then 10 - c else c) = F
  intro f
  induction f with
  | zero => intro i _ h; omega
  | succ f ih =>
    intro i hi hif
    have hB : ∀ m', lb_X1_waysToStay_5 (lp_X1_waysToStay_5 13 f) 13 (nI s) (nI c) (nI (prodTo i F)) (nI i) m = m' → lp_X1_waysToStay_5 13 (f + 1) (nI s) (nI c) (nI (prodTo i F)) (nI i) m = m' := fun m' h => h
    refine hB _ ?_
    unfold lb_X1_waysToStay_5
    rw [hc.1]
    have q : (nI (V 2) ≤ nI i) = (V 2 ≤ i) := nI_leE (by omega) (by omega)
    simp only [q]
    by_cases h : V 2 ≤ i
    · rw [if_pos h, show i = V 2 by omega]
    · have hb := hV.bits i (by omega)
      have q2 : (nI (V (ig i 5)) = 0) = (V (ig i 5) = 0) := nI_eqE (b := 0) (by omega) (by omega)
      have q3 : (nI (s / 2 ^ i % 2) = (1 : Int32)) = (s / 2 ^ i % 2 = 1) := nI_eqE (b := 1) (by omega) (by omega)
      rw [if_neg h, cl_hired hV hc (by omega), bitE _ hs _ (by omega)]
      simp only [q2, q3, nm_d]
      have e : (if V (ig i 5) = 0 then some (nI (prodTo i F)) else some (nI (prodTo i F) * (if s / 2 ^ i % 2 = 1 then (10 : Int32) - nI c else nI c))) = some (nI (prodTo (i + 1) F)) := by
        have ef : prodTo (i + 1) F = prodTo i F * (if V (ig i 5) = 0 then 1 else if s / 2 ^ i % 2 = 1 then 10 - c else c) := by rw [← hF]; rfl
        rw [ef]
        split
        · rw [Nat.mul_one]
        · split
          · rw [show (10 : Int32) - nI c = nI (10 - c) from nI_subE (a := 10) hcc, nI_mulE]
          · rw [nI_mulE]
      rw [e, bd1_d, nI_s1]
      exact ih (i + 1) (by omega) (by omega)
theorem mo_ways {m : Mm} {V : Wv} {c s : Nat} (x1 x3 y5 y6 : Int32) (hV : OkV V) (hm : MW m 304 0 V) (hcc : c ≤ 10) (hs : s < 128) (hsub : s &&& hbV V = s) : ∀ (f i : Nat), i ≤ V 2 → V 2 - i < f → lp_X7_away_106 f x1 (nI c) x3 (nI (hbV V)) y5 y6 (nI s) (nI (prodTo i fun g => if V (ig g 5) = 0 then 1 else if (hbV V - s) / 2 ^ g % 2 = 1 then 10 - c else c)) (nI i) m = some (nI (prodTo (V 2) fun g => if V (ig g 5) = 0 then 1 else if (hbV V - s) / 2 ^ g % 2 = 1 then 10 - c else c)) := by
  have hn := hV.n
  have h7 := two_pow_lt hV.n
  have hh := hbV_lt hV
  generalize hF : (fun g => if V (ig g 5) = 0 then 1 else if (hbV V - s) / 2 ^ g % 2 = 1 then 10 - c else c) = F
  intro f
  induction f with
  | zero => intro i _ h; omega
  | succ f ih =>
    intro i hi hif
    have hB : ∀ m', lb_X7_away_106 (lp_X7_away_106 f) x1 (nI c) x3 (nI (hbV V)) y5 y6 (nI s) (nI (prodTo i F)) (nI i) m = m' → lp_X7_away_106 (f + 1) x1 (nI c) x3 (nI (hbV V)) y5 y6 (nI s) (nI (prodTo i F)) (nI i) m = m' := fun m' h => h
    refine hB _ ?_
    unfold lb_X7_away_106 f_X7_has
    rw [show ix (2 : Int32) = 2 from rfl, hm.at (by omega)]
    have q : (nI (V 2) ≤ nI i) = (V 2 ≤ i) := nI_leE (by omega) (by omega)
    simp only [q]
    by_cases h : V 2 ≤ i
    · rw [if_pos h, show i = V 2 by omega]
    · have hb := hV.bits i (by omega)
      have q3 : (nI (s / 2 ^ i % 2) = (1 : Int32)) = (s / 2 ^ i % 2 = 1) := nI_eqE (b := 1) (by omega) (by omega)
      have q4 : (nI (V (ig i 5)) = (1 : Int32)) = (V (ig i 5) = 1) := nI_eqE (b := 1) (by omega) (by omega)
      have hsb := subB (hbV V) (by omega) s hs hsub i (by omega)
      rw [hbV_bit hV (by omega)] at hsb
      rw [if_neg h, bitE _ hs _ (by omega), bitE _ (show hbV V < 128 by omega) _ (by omega), hbV_bit hV (by omega)]
      simp only [q3, q4, nm_d]
      have e : nI (prodTo i F) * (if (if V (ig i 5) = 1 then (1 : Int32) else (0 : Int32)) = 0 then (1 : Int32) else if (if s / 2 ^ i % 2 = 1 then (1 : Int32) else (0 : Int32)) = 0 then (10 : Int32) - nI c else nI c) = nI (prodTo (i + 1) F) := by
        have ef : prodTo (i + 1) F = prodTo i F * (if V (ig i 5) = 0 then 1 else if (hbV V - s) / 2 ^ i % 2 = 1 then 10 - c else c) := by rw [← hF]; rfl
        rw [ef, ← nI_mulE]
        congr 1
        by_cases hv : V (ig i 5) = 0
        · rw [if_neg (show ¬ V (ig i 5) = 1 by omega), if_pos rfl, if_pos hv]; rfl
        · rw [if_pos (show V (ig i 5) = 1 by omega), if_neg (by decide), if_neg hv]
          by_cases hs1 : s / 2 ^ i % 2 = 1
          · rw [if_pos hs1, if_neg (by decide), if_neg (by omega)]
          · rw [if_neg hs1, if_pos rfl, if_pos (by omega), show (10 : Int32) - nI c = nI (10 - c) from nI_subE (a := 10) hcc]
      rw [e, nI_s1]
      exact ih (i + 1) (by omega) (by omega)
set_option maxHeartbeats 1000000 in
theorem cl_aw {V : Wv} {n c : Nat} (y5 : Int32) (hV : OkV V) (hn : n ≤ 30) (hcc : c ≤ 10) (h3 : V 3 ≤ 9999) : ∀ (f s : Nat) (m : Mm), CW m 13 V → s ≤ 2 ^ V 2 → 2 ^ V 2 - s < f →
    ∃ m', lp_X1_weighAway_55 13 f (nI n) (nI c) (nI (sumTo s (awT V n c))) y5 (nI (2 ^ V 2)) (nI s) m = some (nI (sumTo (2 ^ V 2) (awT V n c)), m') ∧ ∀ a, (a < 241 ∨ 249 < a) → m' a = m a := by
  have h7 := two_pow_lt hV.n
  have hn7 := hV.n
  have hF := FU_big
  have hh := hbV_lt hV
  intro f
  induction f with
  | zero => intro s m _ _ h; omega
  | succ f ih =>
    intro s m hc hs hsf
    have hB : ∀ m', lb_X1_weighAway_55 (lp_X1_weighAway_55 13 f) 13 (nI n) (nI c) (nI (sumTo s (awT V n c))) y5 (nI (2 ^ V 2)) (nI s) m = m' → lp_X1_weighAway_55 13 (f + 1) (nI n) (nI c) (nI (sumTo s (awT V n c))) y5 (nI (2 ^ V 2)) (nI s) m = m' := fun m' h => h
    unfold lb_X1_weighAway_55 at hB
    have q1 : (nI (2 ^ V 2) ≤ nI s) = (2 ^ V 2 ≤ s) := nI_leE (by omega) (by omega)
    simp only [q1] at hB
    by_cases h : 2 ^ V 2 ≤ s
    · have hs2 : s = 2 ^ V 2 := by omega
      rw [if_pos h] at hB
      exact ⟨m, hB _ (by rw [hs2]), fun _ _ => rfl⟩
    · have e1 : sumTo (s + 1) (awT V n c) = sumTo s (awT V n c) + awT V n c s := rfl
      have hsub := subE (hbV V) (by omega) s (by omega)
      rw [if_neg h, hc.hb] at hB
      by_cases hx : s &&& hbV V = s
      · rw [decide_eq_true hx] at hsub
        have hx' := of_decide_eq_true hsub
        obtain ⟨m1, a1, a2, a3⟩ := cl_fills (n := n) hV (by omega) h3 hc (show s < 2 ^ V 2 by omega)
        have hc1 : CW m1 13 V := hc.frame fun a ha hb => a3 a (by omega)
        have hw := cl_ways (c := c) (s := s) hV hc1 hcc (by omega) FU 0 (by omega) (by omega)
        have hw' : lp_X1_waysToStay_5 13 FU (nI s) (nI c) (1 : Int32) (0 : Int32) m1 = _ := hw
        unfold f_X1_waysToStay at hB
        rw [if_pos hx', a1, bd2_d, hw', bd1_d, bd1_d, nm_d] at hB
        obtain ⟨m', z1, z2⟩ := ih (s + 1) m1 hc1 (by omega) (by omega)
        refine ⟨m', hB _ ?_, fun a ha => by rw [z2 a ha, a3 a ha]⟩
        have et : awT V n c s = fiF V n c s := if_pos hx
        rw [e1, et] at z1
        unfold fiF at z1
        rw [nI_s1]
        by_cases hf : runV n (setHV V s) 0 ≤ runV n (setHV V s) 4
        · rw [if_pos hf] at z1
          rw [if_pos hf, if_neg (by decide), bd2_d, nI_add, nm_d]
          exact z1
        · rw [if_neg hf] at z1
          rw [if_neg hf, if_pos rfl, bd2_d, nm_d]
          exact z1
      · rw [decide_eq_false hx] at hsub
        rw [if_neg (of_decide_eq_false hsub), bd2_d, nm_d, nI_s1] at hB
        have et : awT V n c s = 0 := if_neg hx
        rw [et, Nat.add_zero] at e1
        obtain ⟨m', z1, z2⟩ := ih (s + 1) m hc (by omega) (by omega)
        rw [e1] at z1
        exact ⟨m', hB _ z1, z2⟩
set_option maxHeartbeats 1000000 in
theorem mo_aw {V : Wv} {n c : Nat} (x3 y6 : Int32) (hV : OkV V) (hn : n ≤ 30) (hcc : c ≤ 10) (h3 : V 3 ≤ 9999) : ∀ (f s : Nat) (m : Mm), MW m 304 0 V → s ≤ hbV V + 1 → hbV V + 1 - s < f →
    ∃ m', lp_X7_away_83 f (nI n) (nI c) x3 (nI (hbV V)) (nI (sumTo s (awM V n c))) y6 (nI s) m = some (nI (sumTo (hbV V + 1) (awM V n c)), m') ∧ ∀ a, a ≠ 306 → a ≠ 310 → m' a = m a := by
  have h7 := two_pow_lt hV.n
  have hn7 := hV.n
  have hF := FU_big
  have hh := hbV_lt hV
  intro f
  induction f with
  | zero => intro s m _ _ h; omega
  | succ f ih =>
    intro s m hm hs hsf
    have hB : ∀ m', lb_X7_away_83 (lp_X7_away_83 f) (nI n) (nI c) x3 (nI (hbV V)) (nI (sumTo s (awM V n c))) y6 (nI s) m = m' → lp_X7_away_83 (f + 1) (nI n) (nI c) x3 (nI (hbV V)) (nI (sumTo s (awM V n c))) y6 (nI s) m = m' := fun m' h => h
    unfold lb_X7_away_83 at hB
    have q1 : (nI (hbV V) < nI s) = (hbV V < s) := nI_ltE (by omega) (by omega)
    simp only [q1] at hB
    by_cases h : hbV V < s
    · have hs2 : s = hbV V + 1 := by omega
      rw [if_pos h] at hB
      exact ⟨m, hB _ (by rw [hs2]), fun _ _ _ => rfl⟩
    · have e1 : sumTo (s + 1) (awM V n c) = sumTo s (awM V n c) + awM V n c s := rfl
      have hsub := subE (hbV V) (by omega) s (by omega)
      rw [if_neg h] at hB
      by_cases hx : s &&& hbV V = s
      · rw [decide_eq_true hx] at hsub
        have hx' := of_decide_eq_true hsub
        have hw := mo_ways (c := c) (s := s) (nI n) x3 (nI (sumTo s (awM V n c))) y6 hV hm hcc (by omega) hx FU 0 (by omega) (by omega)
        have hw' : lp_X7_away_106 FU (nI n) (nI c) x3 (nI (hbV V)) (nI (sumTo s (awM V n c))) y6 (nI s) (1 : Int32) (0 : Int32) m = _ := hw
        obtain ⟨m1, a1, a2, a3⟩ := mo_triesBy (h := hbV V - s) hV hm (by omega)
        obtain ⟨m2, b1, b2, b3⟩ := mo_goesOn (n := n) (by omega) (setHV_ok hV) (by rw [setHV_lo (by omega)]; omega) a2
        have hU := runH_ok (h := hbV V - s) hV (show V 3 + n ≤ 20000 by omega)
        have hU0 := hU.1
        have hU4 := hU.2.2.2.2.1
        have q2 : (nI (runV n (setHV V (hbV V - s)) 4) < nI (runV n (setHV V (hbV V - s)) 0)) = (runV n (setHV V (hbV V - s)) 4 < runV n (setHV V (hbV V - s)) 0) := nI_ltE (by omega) (by omega)
        rw [if_pos hx', hw', bd1_d, subD _ (by omega) s (by omega) hx, a1, bd1_d, b1, bd1_d, show ix (4 : Int32) = 4 from rfl, show ix (0 : Int32) = 0 from rfl, b2.at (show 4 < 55 by omega), b2.at (show 0 < 55 by omega), nm_d, nm_d, bd2_d, nm_d, nI_s1] at hB
        simp only [q2] at hB
        obtain ⟨m', z1, z2⟩ := ih (s + 1) m2 (hm.frame (by rw [b3 304 (by omega) (by omega), a3 304 (by omega)])) (by omega) (by omega)
        refine ⟨m', hB _ ?_, fun a h1 h2 => by rw [z2 a h1 h2, b3 a h1 h2, a3 a h1]⟩
        have et : awM V n c s = fiF V n c (hbV V - s) := if_pos hx
        rw [e1, et] at z1
        unfold fiF at z1
        by_cases hf : runV n (setHV V (hbV V - s)) 0 ≤ runV n (setHV V (hbV V - s)) 4
        · rw [if_pos hf] at z1
          rw [if_neg (by omega), nI_add]
          exact z1
        · rw [if_neg hf] at z1
          rw [if_pos (by omega), show (0 : Int32) = nI 0 from rfl, nI_add]
          exact z1
      · rw [decide_eq_false hx] at hsub
        rw [if_neg (of_decide_eq_false hsub), bd2_d, nm_d, nI_s1] at hB
        have et : awM V n c s = 0 := if_neg hx
        rw [et, Nat.add_zero] at e1
        obtain ⟨m', z1, z2⟩ := ih (s + 1) m hm (by omega) (by omega)
        rw [e1] at z1
        exact ⟨m', hB _ z1, z2⟩
theorem sp_away (x1 x2 x3 : Int32) : Sp2 (f_X6_away x1 x2 x3) (f_X7_away x1 x2 x3) := fun S hS => by
  have hN := hS.2.2.2.1
  have hn := hN.v.n
  have hF := FU_big
  by_cases hz0 : S.2.2.2.1 2 = 0
  · refine SpAt.keep hS (-1000002) (fun m hm => ?_) (fun m hm => ?_)
    · unfold f_X6_away
      rw [isNoneE hn hm.2.2.2.1, if_pos hz0]; rfl
    · unfold f_X7_away
      rw [isWedE hN hm.2.2.2.1, if_pos hz0]; rfl
  have hW := hN.w (by omega)
  have hV := hW.1
  have h3 := hW.2.1
  have h7 := two_pow_lt hV.n
  have hh := hbV_lt hV
  refine SpAt.three hS x1 x2 x3 0 30 0 10 (by omega) (by omega) (by omega) (by omega) (gx := fun m => (bd1 (f_X1_weighAway 13 x1 x2 m) fun m5 => (some ((f_X1_answer x3 m5), m5)))) (gm := fun m => (bd1 (f_X7_hired m) fun r5 => (bd1 (lp_X7_away_57 FU x1 x2 x3 r5 (0 : Int32) (1 : Int32) (0 : Int32) m) fun z10 => (bd2 (lp_X7_away_83 FU x1 x2 x3 r5 (0 : Int32) z10 (0 : Int32) m) fun z30 m31 => (bd1 (lp_X7_away_216 FU x3 z30 z10 z30 z10 m31) fun z36 => (nm_ ((if x3 = 0 then z30 else z10) : Int32) fun j39 => (gd_ (¬ z36 = 0) (some ((j39 / z36), m31))))))))) (fun m hm => ?_) (fun m hm => ?_) ?_
  · unfold f_X6_away
    rw [isNoneE hn hm.2.2.2.1, if_neg hz0, if_pos rfl, withinE, withinE] <;> rfl
  · unfold f_X7_away
    rw [isWedE hN hm.2.2.2.1, if_neg hz0, if_neg (by decide)] <;> rfl
  rintro n c k - hn2 - hc2 hk rfl rfl rfl
  have k0 : (nI k = 0) = (k = 0) := nI_eqE (b := 0) (by omega) (by omega)
  have hA := aw_le (N := n) hV hc2
  obtain ⟨hb1, hb2⟩ := bel_le hV
  have hg : 0 < Nat.gcd (sumTo (2 ^ S.2.2.2.1 2) (awT S.2.2.2.1 n c)) (belV S.2.2.2.1) := Nat.gcd_pos_of_pos_right _ (by omega)
  have hgl : Nat.gcd (sumTo (2 ^ S.2.2.2.1 2) (awT S.2.2.2.1 n c)) (belV S.2.2.2.1) ≤ belV S.2.2.2.1 := Nat.gcd_le_right _ (by omega)
  have hmeq := aw_eq (N := n) (c := c) hV
  have hbeq := bel_eq hV
  generalize hAe : sumTo (2 ^ S.2.2.2.1 2) (awT S.2.2.2.1 n c) = A at hA hg hgl hmeq
  generalize hBe : belV S.2.2.2.1 = B at hb1 hb2 hg hgl hbeq
  have hg0 : ¬ nI (Nat.gcd A B) = 0 := by
    have q : (nI (Nat.gcd A B) = (0 : Int32)) = (Nat.gcd A B = 0) := nI_eqE (b := 0) (by omega) (by omega)
    rw [q]; omega
  have dA := (nI_rem (a := A) (b := Nat.gcd A B) (by omega) (by omega) hg).2
  have dB := (nI_rem (a := B) (b := Nat.gcd A B) (by omega) (by omega) hg).2
  refine SpAt.scr hS (nI ((if k = 0 then A else B) / Nat.gcd A B)) (fun m hm => ?_) (fun m hm => ?_)
  · have hc := hm.2.2.2.1
    have b1 := cl_bel (nI n) (nI c) (0 : Int32) hV hc FU 0 (by omega) (by omega)
    have b1' : lp_X1_weighAway_9 13 FU (nI n) (nI c) (0 : Int32) (1 : Int32) (0 : Int32) m = some (nI B) := by rw [← hBe]; exact b1
    obtain ⟨m1, a1, a2⟩ := cl_aw (n := n) (c := c) (nI B) hV hn2 hc2 h3 FU 0 m hc (Nat.zero_le _) (by omega)
    have a1' : lp_X1_weighAway_55 13 FU (nI n) (nI c) (0 : Int32) (nI B) (nI (2 ^ S.2.2.2.1 2)) (0 : Int32) m = some (nI A, m1) := by rw [← hAe]; exact a1
    have g1 : f_X1_commonDivisor (nI A) (nI B) = some (nI (Nat.gcd A B)) := by
      have := cl_gcd 24 FU 0 A B (by omega) (by omega) (by omega) (by omega) (by omega)
      have g' : lp_X1_commonDivisor_7 FU (nI A) (nI B) (0 : Int32) = _ := this
      unfold f_X1_commonDivisor
      rw [g', bd1_d]
    unfold f_X1_weighAway f_X1_answer
    simp only [nm_d]
    rw [b1', bd1_d, hc.1, shE _ (by omega), a1', bd2_d, g1, bd1_d, if_neg hg0, if_neg hg0, gd_t hg0, gd_t hg0, bd1_d, bd1_d, dA, dB]
    simp only [k0, bd1_d, st_s]
    refine ⟨st_ (st_ m1 240 2 (nI (A / Nat.gcd A B))) 240 3 (nI (B / Nat.gcd A B)), ?_, fun a ha => by rw [st_na (by omega), st_na (by omega), a2 a (by omega)]⟩
    by_cases h : k = 0
    · rw [if_pos h, if_pos h, st_n (Or.inr (by omega)), st_s]
    · rw [if_neg h, if_neg h]
  · have hc := hm.2.2.2.1
    have b1 := mo_bel (m := m) (h := hbV S.2.2.2.1) (nI n) (nI c) (nI k) (0 : Int32) (by omega) FU 0 (Nat.zero_le _) (by have := ones7_lt (hbV S.2.2.2.1); omega)
    have b1' : lp_X7_away_57 FU (nI n) (nI c) (nI k) (nI (hbV S.2.2.2.1)) (0 : Int32) (1 : Int32) (0 : Int32) m = some (nI B) := by rw [hbeq]; exact b1
    obtain ⟨m1, a1, a2⟩ := mo_aw (n := n) (c := c) (nI k) (nI B) hV hn2 hc2 h3 FU 0 m hc (Nat.zero_le _) (by omega)
    have a1' : lp_X7_away_83 FU (nI n) (nI c) (nI k) (nI (hbV S.2.2.2.1)) (0 : Int32) (nI B) (0 : Int32) m = some (nI A, m1) := by rw [← hmeq]; exact a1
    have g1 := mo_gcd (nI k) (nI A) (nI B) m1 24 FU A B (by omega) (by omega) (by omega) (by omega)
    simp only [mo_hired hV hc, bd1_d, b1', a1', bd2_d, g1, nm_d, k0]
    rw [gd_t hg0]
    refine ⟨m1, ?_, fun a _ h1 h2 _ => a2 a h1 h2⟩
    by_cases h : k = 0
    · rw [if_pos h, if_pos h, dA]
    · rw [if_neg h, if_neg h, dB]
