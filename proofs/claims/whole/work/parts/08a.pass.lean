/-! a minute: the class's pass, the reference's passes, both are passV -/
theorem fa_and' (a b : Nat) : nI a &&& nI b = nI (a &&& b) := by
  apply Int32.toBitVec_inj.mp
  rw [Int32.toBitVec_and]
  show BitVec.ofNat 32 a &&& BitVec.ofNat 32 b = BitVec.ofNat 32 (a &&& b)
  apply BitVec.eq_of_toNat_eq
  rw [BitVec.toNat_and, BitVec.toNat_ofNat, BitVec.toNat_ofNat, BitVec.toNat_ofNat, Nat.and_mod_two_pow]
theorem bitE : ∀ h, h < 128 → ∀ s, s < 7 → (nI h >>> (nI s &&& 31)) &&& (1 : Int32) = nI (h / 2 ^ s % 2) := by decide +kernel
theorem mod4E (a : Nat) : nI a &&& (3 : Int32) = nI (a % 4) := by
  show nI a &&& nI 3 = _
  rw [fa_and', show (3 : Nat) = 2 ^ 2 - 1 from rfl, Nat.and_two_pow_sub_one_eq_mod]
theorem mod2E (a : Nat) : nI a &&& (1 : Int32) = nI (a % 2) := by
  show nI a &&& nI 1 = _
  rw [fa_and', show (1 : Nat) = 2 ^ 1 - 1 from rfl, Nat.and_two_pow_sub_one_eq_mod]
theorem OkV.b {V : Wv} (h : OkV V) {g : Nat} (hg : g < V 2) : GdV V g := h.2.2.2.2.2.2.1 g hg
theorem OkV.inj {V : Wv} (h : OkV V) : ∀ g h, g < V 2 → h < V 2 → V (ig g 4) = V (ig h 4) → g = h := h.2.2.2.2.2.2.2.1
theorem OkV.sur {V : Wv} (h : OkV V) : ∀ p, p < V 2 → ∃ g, g < V 2 ∧ V (ig g 4) = p := h.2.2.2.2.2.2.2.2
theorem OkV.n {V : Wv} (h : OkV V) : V 2 ≤ 7 := h.2.2.1
theorem CW.g {m : Mm} {w : Nat} {V : Wv} (h : CW m w V) {g : Nat} (hg : g < V 2) : CwG m w V g := h.2.2.2.2.2.2.2 g hg
theorem nI_small {a b : Nat} (h : a = b) : nI a = nI b := by rw [h]
theorem cl_lastIn {m : Mm} {w : Nat} {V : Wv} (hV : OkV V) (hc : CW m w V) {p : Nat} (hp : p < 2147483648) : f_X5_lastIn w (nI p) m = some (nI (lastSt V p)) := by
  have hn := hV.n
  unfold f_X5_lastIn
  rw [if_neg (nI_pos hp), hc.1]
  by_cases h : V 2 ≤ p
  · rw [if_pos (by rw [nI_leE (by omega) hp]; exact h), lastSt_no (fun g hg e => by have := (hV.b hg).2.2.2.2.2.1; omega)]
    rfl
  · rw [if_neg (by rw [nI_leE (by omega) hp]; exact h)]
    obtain ⟨g, hg, hs⟩ := hV.sur p (by omega)
    have h7 : m (w + 7) p = nI g := by
      have := (hc.g hg).2.2.2.2.2.2
      rw [hs] at this; exact this
    have h5 := (hc.g hg).2.2.2.2.1
    rw [gdN (by omega) hp, ix_nI hp, h7, gdN (by omega) (by omega), ix_nI (by omega), h5, lastSt_of hV.inj hg hs]
theorem cl_left {m : Mm} {w : Nat} {V : Wv} (hV : OkV V) (hc : CW m w V) {g : Nat} (hg : g < V 2) : f_X5_lastIn w (nI (V (ig g 4)) - 1) m = some (nI (leftV V g)) := by
  have hn := hV.n
  have hs := (hV.b hg).2.2.2.2.2.1
  unfold leftV
  by_cases h : V (ig g 4) = 0
  · rw [if_pos h, h]
    unfold f_X5_lastIn
    rw [if_pos (by decide)]
    rfl
  · rw [if_neg h, n1, nI_subE (by omega)]
    exact cl_lastIn hV hc (by omega)
theorem cl_right {m : Mm} {w : Nat} {V : Wv} (hV : OkV V) (hc : CW m w V) {g : Nat} (hg : g < V 2) : f_X5_lastIn w (nI (V (ig g 4)) + 1) m = some (nI (rightV V g)) := by
  have hn := hV.n
  have hs := (hV.b hg).2.2.2.2.2.1
  unfold rightV
  rw [n1, nI_add]
  exact cl_lastIn hV hc (by omega)
theorem leftV_le {V : Wv} (hV : OkV V) (g : Nat) : leftV V g ≤ 9 := by
  unfold leftV
  split
  · omega
  · exact lastSt_le hV _
theorem rightV_le {V : Wv} (hV : OkV V) (g : Nat) : rightV V g ≤ 9 := lastSt_le hV _
theorem le0E {L : Nat} (h : L < 2147483648) : (if nI L ≤ 0 then (0 : Int32) else 1) = nI (if 0 < L then 1 else 0) := by
  by_cases h0 : L = 0
  · subst h0; rfl
  · rw [if_neg (by rw [n0, nI_leE h (by omega)]; omega), if_pos (by omega)]
    rfl
theorem maxE {a b : Nat} (ha : a < 2147483648) (hb : b < 2147483648) : (if nI a < nI b then nI b else nI a) = nI (max a b) := by
  by_cases h : a < b
  · rw [if_pos (by rw [nI_ltE ha hb]; exact h), Nat.max_eq_right (by omega)]
  · rw [if_neg (by rw [nI_ltE ha hb]; exact h), Nat.max_eq_left (by omega)]
theorem minE {a b : Nat} (ha : a < 2147483648) (hb : b < 2147483648) : (if nI b < nI a then nI b else nI a) = nI (min a b) := by
  by_cases h : b < a
  · rw [if_pos (by rw [nI_ltE hb ha]; exact h), Nat.min_eq_right (by omega)]
  · rw [if_neg (by rw [nI_ltE hb ha]; exact h), Nat.min_eq_left (by omega)]
theorem maxM (a b : Nat) : (if a < b then nI b else nI a) = nI (max a b) := by
  by_cases h : a < b
  · rw [if_pos h, Nat.max_eq_right (by omega)]
  · rw [if_neg h, Nat.max_eq_left (by omega)]
theorem minM (a b : Nat) : (if b < a then nI b else nI a) = nI (min a b) := by
  by_cases h : b < a
  · rw [if_pos h, Nat.min_eq_right (by omega)]
  · rw [if_neg h, Nat.min_eq_left (by omega)]
theorem auntV_le {V : Wv} (hV : OkV V) {g : Nat} (hg : g < V 2) : auntV V g ≤ 11 := by
  have := (hV.b hg).2.2.1
  unfold auntV
  split <;> split <;> omega
theorem manV_le {V : Wv} (hV : OkV V) {g : Nat} (hg : g < V 2) : manV V g ≤ 9 := by
  have := (hV.b hg).2.2.1
  unfold manV
  split <;> omega
theorem itsV_le {V : Wv} (hV : OkV V) {g : Nat} (hg : g < V 2) : itsV V g ≤ 20 := by
  have h1 := auntV_le hV hg
  have h2 := manV_le hV hg
  have h3 := leftV_le hV g
  have h4 := rightV_le hV g
  unfold itsV
  split
  · omega
  split
  · split <;> omega
  split
  · split <;> omega
  split <;> omega
theorem wouldV_le {V : Wv} (g : Nat) : wouldV V g ≤ 9 := by unfold wouldV; omega
theorem wouldV_well {V : Wv} (g : Nat) : wouldV V g ≤ V (ig g 2) := by unfold wouldV; omega
theorem shedV_le {V : Wv} (g : Nat) : shedV V g ≤ 9 := by
  unfold shedV
  split
  · exact wouldV_le g
  · omega
theorem shedV_well {V : Wv} (g : Nat) : shedV V g ≤ V (ig g 2) := by
  unfold shedV
  split
  · exact wouldV_well g
  · omega
set_option maxHeartbeats 1000000 in
theorem cl_sheds {m : Mm} {w : Nat} {V : Wv} (hV : OkV V) (hc : CW m w V) {g : Nat} (hg : g < V 2) : f_X5_sheds w (nI g) m = some (nI (wouldV V g)) := by
  have hn := hV.n
  obtain ⟨b1, b2, b3, b4, b5, b6, b7, b8, b9⟩ := hV.b hg
  obtain ⟨e1, e2, e3, e4, e5, e6, e7⟩ := hc.g hg
  have hL := leftV_le hV g
  have hR := rightV_le hV g
  have hA := auntV_le hV hg
  have hM := manV_le hV hg
  have hI := itsV_le hV hg
  unfold f_X5_sheds
  simp (disch := omega) only [nm_d, gdM, ix_nI, e6, e2, e1, e4, cl_left hV hc hg, cl_right hV hc hg, bd1_d, le0E, nI_add, hc.2.2.1, hc.2.2.2.1]
  rw [show V (ig g 1) + (if 0 < leftV V g then 1 else 0) + (if 0 < rightV V g then 1 else 0) = auntV V g from rfl]
  rw [mod4E, bitE _ (by have := hV.2.1; omega) _ (by omega)]
  have hman : (if nI (V 1 / 2 ^ (V 3 % 4) % 2) = (1 : Int32) then some (nI (V (ig g 1))) else some (0 : Int32)) = some (nI (manV V g)) := by
    unfold manV
    by_cases h : V 1 / 2 ^ (V 3 % 4) % 2 = 1
    · rw [if_pos h, if_pos (by rw [h]; rfl)]
    · rw [if_neg h, if_neg (by rw [n1, nI_eqE (by omega) (by omega)]; exact h)]
      rfl
  rw [hman]
  simp only [bd1_d]
  have hits : (if nI (V (ig g 0)) = (2 : Int32) then (bd1 (if 0 < nI (leftV V g) then some (if nI (auntV V g) < (if nI (leftV V g) < nI (rightV V g) then nI (rightV V g) else nI (leftV V g)) + 1 then (if nI (leftV V g) < nI (rightV V g) then nI (rightV V g) else nI (leftV V g)) + 1 else nI (auntV V g)) else if nI (rightV V g) ≤ 0 then some (nI (auntV V g)) else some (if nI (auntV V g) < (if nI (leftV V g) < nI (rightV V g) then nI (rightV V g) else nI (leftV V g)) + 1 then (if nI (leftV V g) < nI (rightV V g) then nI (rightV V g) else nI (leftV V g)) + 1 else nI (auntV V g))) fun j22 => some j22) else if nI (V (ig g 0)) = (3 : Int32) then some (if nI (V 3) &&& (1 : Int32) = (1 : Int32) then (0 : Int32) else nI (auntV V g)) else if nI (V (ig g 0)) = (4 : Int32) then some (nI (manV V g)) else if nI (V (ig g 0)) = (5 : Int32) then some (nI (manV V g) + (2 : Int32)) else some (nI (auntV V g))) = some (nI (itsV V g)) := by
    unfold itsV
    rw [mod2E]
    simp (disch := omega) only [maxM, n0, n1, n2, n3, n4, n5, nI_eqE, nI_ltE, nI_leE, nI_add]
    rcases (show V (ig g 0) = 1 ∨ V (ig g 0) = 2 ∨ V (ig g 0) = 3 ∨ V (ig g 0) = 4 ∨ V (ig g 0) = 5 by omega) with h | h | h | h | h <;> simp only [h, if_true, if_false, reduceIte, Nat.reduceEqDiff, reduceCtorEq, bd1_d]
    · by_cases hl : 0 < leftV V g
      · rw [if_pos hl, bd1_d, if_neg (show ¬ (leftV V g + rightV V g = 0) by omega)]
        apply congrArg; apply nI_small; omega
      · rw [if_neg hl]
        by_cases hr : rightV V g ≤ 0
        · rw [if_pos hr, bd1_d, if_pos (show leftV V g + rightV V g = 0 by omega)]
        · rw [if_neg hr, bd1_d, if_neg (show ¬ (leftV V g + rightV V g = 0) by omega)]
          apply congrArg; apply nI_small; omega
    · by_cases h3 : V 3 % 2 = 1
      · rw [if_pos h3, if_pos h3]
      · rw [if_neg h3, if_neg h3]
  rw [hits, bd1_d, n9, minE (by omega) (by omega)]
  apply congrArg
  rw [minE (by omega) (by omega)]
  rfl
