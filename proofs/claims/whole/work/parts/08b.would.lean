/-! the reference's side of a minute -/
theorem MW.at {m : Mm} {q : Nat} {V : Wv} (h : MW m q 0 V) {k : Nat} (hk : k < 55) : m q k = nI (V k) := by
  have := h k hk
  rwa [Nat.zero_add] at this
theorem igE (g f : Nat) : nI 6 + nI 7 * nI g + nI f = nI (ig g f) := by rw [nI_mulE, nI_add, nI_add]; rfl
theorem igE0 (g : Nat) : nI 6 + nI 7 * nI g = nI (ig g 0) := by rw [nI_mulE, nI_add]; rfl
theorem ig_lt {g f n : Nat} (hg : g < n) (hn : n ≤ 7) (hf : f < 7) : ig g f < 55 := by unfold ig; omega
theorem seat_yes {m : Mm} {q nq : Nat} {V : Wv} (hq : 55 ≤ nq) (hV : OkV V) (hm : MW m q 0 V) {g : Nat} (hg : g < V 2) {x : Int32} (hx : nI (V (ig g 4)) = x) :
    ∀ n i, i ≤ g → g - i < n → lp_X7_inSeat_2 q nq n x (nI i) m = some (.inl (nI g)) := by
  have hn := hV.n
  intro n
  induction n with
  | zero => intro i _ h; omega
  | succ n ih =>
    intro i hi hin
    show lb_X7_inSeat_2 (lp_X7_inSeat_2 q nq n) q nq x (nI i) m = _
    unfold lb_X7_inSeat_2
    simp only [nm_d]
    have hs := (hV.b (g := i) (by omega)).2.2.2.2.2.1
    rw [n2, gdN (by omega) (by omega), ix_nI (by omega), hm.at (by omega), if_neg (by rw [nI_leE (by omega) (by omega)]; omega)]
    rw [n6, n7, n4, igE, gdN (by have := ig_lt (f := 4) hg hn (by omega); unfold ig at *; omega) (by unfold ig; omega), ix_nI (by unfold ig; omega), hm.at (ig_lt (n := 7) (by omega) (by omega) (by omega))]
    by_cases h : i = g
    · subst h
      rw [if_pos hx]
    · rw [if_neg, n1, nI_add]
      · exact ih (i + 1) (by omega) (by omega)
      · intro e
        rw [← hx, nI_eqE (by omega) (by have := (hV.b hg).2.2.2.2.2.1; omega)] at e
        exact h (hV.inj i g (by omega) hg e)
theorem seat_no {m : Mm} {q nq : Nat} {V : Wv} (hq : 55 ≤ nq) (hV : OkV V) (hm : MW m q 0 V) {x : Int32} (hx : ∀ g, g < V 2 → nI (V (ig g 4)) ≠ x) :
    ∀ n i, i ≤ V 2 → V 2 - i < n → lp_X7_inSeat_2 q nq n x (nI i) m = some (.inr 0) := by
  have hn := hV.n
  intro n
  induction n with
  | zero => intro i _ h; omega
  | succ n ih =>
    intro i hi hin
    show lb_X7_inSeat_2 (lp_X7_inSeat_2 q nq n) q nq x (nI i) m = _
    unfold lb_X7_inSeat_2
    simp only [nm_d]
    rw [n2, gdN (by omega) (by omega), ix_nI (by omega), hm.at (by omega)]
    by_cases h : i = V 2
    · rw [if_pos (by rw [nI_leE (by omega) (by omega)]; omega)]
    · rw [if_neg (by rw [nI_leE (by omega) (by omega)]; omega)]
      rw [n6, n7, n4, igE, gdN (by unfold ig; omega) (by unfold ig; omega), ix_nI (by unfold ig; omega), hm.at (ig_lt (n := 7) (by omega) (by omega) (by omega)), if_neg (hx i (by omega)), n1, nI_add]
      exact ih (i + 1) (by omega) (by omega)
theorem FU_big : 60000 < FU := by unfold FU; omega
theorem mo_inSeat {m : Mm} {q nq : Nat} {V : Wv} (hq : 55 ≤ nq) (hV : OkV V) (hm : MW m q 0 V) {g : Nat} (hg : g < V 2) {x : Int32} (hx : nI (V (ig g 4)) = x) : f_X7_inSeat q nq x m = some (nI g) := by
  have := FU_big
  have hn := hV.n
  unfold f_X7_inSeat
  rw [show (0 : Int32) = nI 0 from rfl, seat_yes hq hV hm hg hx FU 0 (by omega) (by omega), bdS1_l]
theorem mo_inSeatN {m : Mm} {q nq : Nat} {V : Wv} (hq : 55 ≤ nq) (hV : OkV V) (hm : MW m q 0 V) {x : Int32} (hx : ∀ g, g < V 2 → nI (V (ig g 4)) ≠ x) : f_X7_inSeat q nq x m = some (-1000000) := by
  have := FU_big
  have hn := hV.n
  unfold f_X7_inSeat
  rw [show (0 : Int32) = nI 0 from rfl, seat_no hq hV hm hx FU 0 (by omega) (by omega), bdS1_r]
theorem mo_lastIn {m : Mm} {q nq : Nat} {V : Wv} (hq : 55 ≤ nq) (hV : OkV V) (hm : MW m q 0 V) {s : Nat} (hs : s < 2147483648) : f_X7_lastIn q nq (nI s) m = some (nI (lastSt V s)) := by
  have hn := hV.n
  unfold f_X7_lastIn
  by_cases h : ∃ g, g < V 2 ∧ V (ig g 4) = s
  · obtain ⟨g, hg, e⟩ := h
    rw [mo_inSeat hq hV hm hg (by rw [e]), bd1_d, if_neg, n6, n7, igE, gdN (by unfold ig; omega) (by unfold ig; omega), ix_nI (by unfold ig; omega), hm.at (ig_lt (n := 7) (by omega) (by omega) (by omega)), lastSt_of hV.inj hg e]
    intro e2
    have h3 := congrArg Int32.toInt e2
    rw [nI_toInt (by omega)] at h3
    have : (-1000000 : Int32).toInt = -1000000 := by decide
    omega
  · have h' : ∀ g, g < V 2 → V (ig g 4) ≠ s := fun g hg e => h ⟨g, hg, e⟩
    rw [mo_inSeatN hq hV hm (fun g hg e => by
      rw [nI_eqE (by have := (hV.b hg).2.2.2.2.2.1; omega) hs] at e
      exact h' g hg e), bd1_d, if_pos rfl, lastSt_no h']
    rfl
theorem mo_left {m : Mm} {q nq : Nat} {V : Wv} (hq : 55 ≤ nq) (hV : OkV V) (hm : MW m q 0 V) {g : Nat} (hg : g < V 2) : f_X7_lastIn q nq (nI (V (ig g 4)) - nI 1) m = some (nI (leftV V g)) := by
  have hn := hV.n
  have hs := (hV.b hg).2.2.2.2.2.1
  unfold leftV
  by_cases h : V (ig g 4) = 0
  · rw [if_pos h, h]
    unfold f_X7_lastIn
    rw [mo_inSeatN hq hV hm (fun g hg e => by
      have h3 := congrArg Int32.toInt e
      have hs := (hV.b hg).2.2.2.2.2.1
      rw [nI_toInt (by omega)] at h3
      have : (nI 0 - nI 1).toInt = -1 := by decide
      omega), bd1_d, if_pos rfl]
    rfl
  · rw [if_neg h, nI_subE (by omega)]
    exact mo_lastIn hq hV hm (by omega)
theorem mo_right {m : Mm} {q nq : Nat} {V : Wv} (hq : 55 ≤ nq) (hV : OkV V) (hm : MW m q 0 V) {g : Nat} (hg : g < V 2) : f_X7_lastIn q nq (nI (V (ig g 4)) + nI 1) m = some (nI (rightV V g)) := by
  have hn := hV.n
  have hs := (hV.b hg).2.2.2.2.2.1
  unfold rightV
  rw [nI_add]
  exact mo_lastIn hq hV hm (by omega)
theorem lesserE {a b : Nat} (ha : a < 2147483648) (hb : b < 2147483648) : f_X7_lesser (nI a) (nI b) = nI (min a b) := by
  unfold f_X7_lesser
  simp only [nI_leE hb ha]
  split
  · rw [Nat.min_eq_right (by omega)]
  · rw [Nat.min_eq_left (by omega)]
theorem greaterE {a b : Nat} (ha : a < 2147483648) (hb : b < 2147483648) : f_X7_greater (nI a) (nI b) = nI (max a b) := by
  unfold f_X7_greater
  simp only [nI_leE ha hb]
  split
  · rw [Nat.max_eq_right (by omega)]
  · rw [Nat.max_eq_left (by omega)]
theorem hasE {h s : Nat} (hh : h < 128) (hs : s < 7) : f_X7_has (nI h) (nI s) = nI (h / 2 ^ s % 2) := by
  unfold f_X7_has
  rw [bitE h hh s hs]
  have h2 : h / 2 ^ s % 2 < 2 := Nat.mod_lt _ (by omega)
  by_cases e : h / 2 ^ s % 2 = 1
  · rw [e]; rfl
  · have e0 : h / 2 ^ s % 2 = 0 := by omega
    rw [e0]; rfl
theorem rem4E {a : Nat} (ha : a < 2147483648) : nI a - nI a / (4 : Int32) * (4 : Int32) = nI (a % 4) := pk_rem (d := 4) ha (by omega) (by omega)
theorem rem2E {a : Nat} (ha : a < 2147483648) : nI a - nI a / (2 : Int32) * (2 : Int32) = nI (a % 2) := pk_rem (d := 2) ha (by omega) (by omega)
set_option maxHeartbeats 1000000 in
theorem mo_would {m : Mm} {q nq : Nat} {V : Wv} (hq : 55 ≤ nq) (hV : OkV V) (hm : MW m q 0 V) {g : Nat} (hg : g < V 2) : f_X7_would q nq (nI g) m = some (nI (wouldV V g)) := by
  have hn := hV.n
  obtain ⟨b1, b2, b3, b4, b5, b6, b7, b8, b9⟩ := hV.b hg
  have hL := leftV_le hV g
  have hR := rightV_le hV g
  have hA := auntV_le hV hg
  have hM := manV_le hV hg
  have hI := itsV_le hV hg
  have i0 : ig g 0 < 55 := ig_lt (n := 7) (by omega) (by omega) (by omega)
  have i1 : ig g 1 < 55 := ig_lt (n := 7) (by omega) (by omega) (by omega)
  have i2 : ig g 2 < 55 := ig_lt (n := 7) (by omega) (by omega) (by omega)
  have i4 : ig g 4 < 55 := ig_lt (n := 7) (by omega) (by omega) (by omega)
  have hN1 := hV.2.1
  have hN3 := hV.2.2.2.1
  unfold f_X7_would
  simp only [nm_d]
  rw [show (6 : Int32) + (7 : Int32) * nI g + (4 : Int32) = nI (ig g 4) from igE g 4, show (6 : Int32) + (7 : Int32) * nI g + (1 : Int32) = nI (ig g 1) from igE g 1, show (6 : Int32) + (7 : Int32) * nI g + (2 : Int32) = nI (ig g 2) from igE g 2, show (6 : Int32) + (7 : Int32) * nI g = nI (ig g 0) from igE0 g]
  have x1 : ix (1 : Int32) = 1 := rfl
  have x3 : ix (3 : Int32) = 3 := rfl
  have g1 : ∀ {α : Type} (x : Option α), gd_ (¬ ((1 : Int32) < 0 ∨ nq ≤ 1)) x = x := fun x => gd_t (by intro h; rcases h with h | h; exact absurd h (by decide); omega)
  have g3 : ∀ {α : Type} (x : Option α), gd_ (¬ ((3 : Int32) < 0 ∨ nq ≤ 3)) x = x := fun x => gd_t (by intro h; rcases h with h | h; exact absurd h (by decide); omega)
  have ml := mo_left hq hV hm hg
  have mr := mo_right hq hV hm hg
  rw [← n1] at ml mr
  simp (disch := omega) only [nm_d, gdM, ix_nI, x1, x3, g1, g3, hm.at i0, hm.at i1, hm.at i2, hm.at i4, hm.at (show 1 < 55 by omega), hm.at (show 3 < 55 by omega), ml, mr, bd1_d, le0E, nI_add, rem4E, rem2E, hasE]
  rw [show V (ig g 1) + (if 0 < leftV V g then 1 else 0) + (if 0 < rightV V g then 1 else 0) = auntV V g from rfl]
  have hman : (if nI (V 1 / 2 ^ (V 3 % 4) % 2) = 0 then some (0 : Int32) else some (nI (V (ig g 1)))) = some (nI (manV V g)) := by
    unfold manV
    by_cases h : V 1 / 2 ^ (V 3 % 4) % 2 = 1
    · rw [if_pos h, h]; rfl
    · have h0 : V 1 / 2 ^ (V 3 % 4) % 2 = 0 := by omega
      rw [if_neg h, h0]; rfl
  rw [hman]
  simp only [bd1_d]
  have hits : (if nI (V (ig g 0)) = (1 : Int32) then some (nI (auntV V g)) else if nI (V (ig g 0)) = (2 : Int32) then some (if nI (leftV V g + rightV V g) ≤ 0 then nI (auntV V g) else f_X7_greater (nI (auntV V g)) ((1 : Int32) + f_X7_greater (nI (leftV V g)) (nI (rightV V g)))) else if nI (V (ig g 0)) = (3 : Int32) then some (if nI (V 3 % 2) = (1 : Int32) then (0 : Int32) else nI (auntV V g)) else if nI (V (ig g 0)) = (4 : Int32) then some (nI (manV V g)) else some (nI (manV V g) + (2 : Int32))) = some (nI (itsV V g)) := by
    unfold itsV
    simp (disch := omega) only [greaterE, n0, n1, n2, n3, n4, nI_eqE, nI_leE, nI_add]
    rcases (show V (ig g 0) = 1 ∨ V (ig g 0) = 2 ∨ V (ig g 0) = 3 ∨ V (ig g 0) = 4 ∨ V (ig g 0) = 5 by omega) with h | h | h | h | h <;> simp only [h, if_true, if_false, reduceIte, Nat.reduceEqDiff, reduceCtorEq]
    · by_cases hl : leftV V g + rightV V g ≤ 0
      · rw [if_pos hl, if_pos (show leftV V g + rightV V g = 0 by omega)]
      · rw [if_neg hl, if_neg (show ¬ (leftV V g + rightV V g = 0) by omega)]
    · by_cases h3 : V 3 % 2 = 1
      · rw [if_pos h3, if_pos h3]
      · rw [if_neg h3, if_neg h3]
  rw [hits, bd1_d, n9, lesserE (by omega) (by omega), lesserE (by omega) (by omega)]
  rfl
