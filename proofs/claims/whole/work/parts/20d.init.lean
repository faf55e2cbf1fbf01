def rL (A B sp : Nat) (r : Rm) (i : Nat) : Rm := fun a j => if a = A then (if j < i then some (B + sp * j) else none) else if B ≤ a ∧ a < B + sp * i then rfZ a j else r a j
theorem FR.rL {r : Rm} {A B sp i : Nat} (hr : FR r B) (hA : A < B) : FR (rL A B sp r i) (B + sp * i) := fun a ha => by
  funext j
  have h0 : B ≤ B + sp * i := Nat.le_add_right _ _
  unfold Jvm.Pilot.CTearGuestsLaw_law_r3782_ec6d03.rL
  rw [if_neg (by omega), if_neg (by omega), hr a (by omega)]
theorem rL_lo {r : Rm} {A B sp i a : Nat} (h : a < B) (hA : a ≠ A) : rL A B sp r i a = r a := by
  funext j
  unfold rL
  rw [if_neg hA, if_neg (by omega)]
theorem rL_in {r : Rm} {A B sp i a : Nat} (h : B ≤ a ∧ a < B + sp * i) (hA : a ≠ A) : rL A B sp r i a = rfZ a := by
  funext j
  unfold rL
  rw [if_neg hA, if_pos h]
theorem rL_out {r : Rm} {A B sp i a : Nat} (h : ¬ (B ≤ a ∧ a < B + sp * i)) (hA : a ≠ A) : rL A B sp r i a = r a := by
  funext j
  unfold rL
  rw [if_neg hA, if_neg h]
theorem rL_A {r : Rm} {A B sp i j : Nat} : rL A B sp r i A j = if j < i then some (B + sp * j) else none := if_pos rfl
theorem rL_0 {r : Rm} {A B sp : Nat} (h : r A = fun _ => none) : rL A B sp r 0 = r := by
  funext a j
  unfold rL
  by_cases e : a = A
  · subst e; rw [if_pos rfl, if_neg (by omega), h]
  · rw [if_neg e, if_neg (by omega)]
theorem rL_s {r : Rm} {A B sp i : Nat} (hA : A < B) : ur (fin (rL A B sp r i) (B + sp * i) (B + sp * i + sp)) A i (B + sp * i) = rL A B sp r (i + 1) := by
  have h0 : B ≤ B + sp * i := Nat.le_add_right _ _
  have h1 : sp * (i + 1) = sp * i + sp := Nat.mul_succ sp i
  funext a j
  by_cases e : a = A
  · subst e
    rw [ur_s, fin_out (by omega), rL_A, rL_A]
    by_cases hj : j = i
    · rw [if_pos hj, if_pos (by omega), hj]
    · rw [if_neg hj]
      by_cases hj2 : j < i
      · rw [if_pos hj2, if_pos (by omega)]
      · rw [if_neg hj2, if_neg (by omega)]
  · rw [ur_off _ e]
    by_cases hi : B + sp * i ≤ a ∧ a < B + sp * i + sp
    · rw [fin_in hi, rL_in (by omega) e]
    · rw [fin_out hi]
      by_cases h2 : B ≤ a ∧ a < B + sp * i
      · rw [rL_in h2 e, rL_in (by omega) e]
      · rw [rL_out h2 e, rL_out (by omega) e]
theorem vpin {i N : Nat} (h : i < N) (h2 : i < 2147483648) : vp_in (nI i) N := fun hh => by
  rcases hh with hh | hh
  · exact nI_pos h2 hh
  · have e : (nI i).toNatClampNeg = i := ix_nI h2
    rw [e] at hh; omega
theorem isW_b {i : Nat} (h : i < 24) : IsW (24 + 9 * i) := by
  have := isW_before (i := nI i) (by rw [ix_nI (by omega)]; intro hh; rcases hh with hh | hh; exact nI_pos (by omega) hh; omega)
  rw [ix_nI (by omega)] at this
  exact this
theorem isW_m {i : Nat} (h : i < 2) : IsW (280 + 9 * i) := by
  have := isW_images (i := nI i) (by rw [ix_nI (by omega)]; intro hh; rcases hh with hh | hh; exact nI_pos (by omega) hh; omega)
  rw [ix_nI (by omega)] at this
  exact this
theorem isR_b {i : Nat} (h : i < 8) : IsR (264 + 2 * i) := by
  have := isR_rows (i := nI i) (by rw [ix_nI (by omega)]; intro hh; rcases hh with hh | hh; exact nI_pos (by omega) hh; omega)
  rw [ix_nI (by omega)] at this
  exact this
theorem lp0 (l : Launch) (G : Gx) {r : Rm} {Z' : Zx} (hr : FR r 24) (hg : r 22 0 = some 23) (kend : PZ G (KZ l G RX0 cX0_init 2 wsX0_init 2 217 1728 Z') (1 + 9 * 24) (24 + 71 * 24) 40 [(1, .int (nI 24)), (0, .ref (G.1 + 22))] [] (mz, rL 23 24 9 r 24, 24 + 9 * 24)) : ∀ t i, i + t = 24 → PZ G (KZ l G RX0 cX0_init 2 wsX0_init 2 217 1728 Z') (1 + 9 * i) (24 + 71 * i) 15 [(1, .int (nI i)), (0, .ref (G.1 + 22))] [] (mz, rL 23 24 9 r i, 24 + 9 * i) := by
  intro t
  induction t with
  | zero =>
    intro i hi
    have e : i = 24 := by omega
    subst e
    refine pz_iload_n (i := 1) 0 rfl rfl 16 dX0_init_15 rfl ?_
    refine pz_bipush (v := 24) (by decide) 18 dX0_init_16 rfl ?_
    exact pz_icmp_ge 40 21 dX0_init_18 (by decide) rfl (fun _ => kend) (fun h => absurd (by decide) h)
  | succ t ih =>
    intro i hi
    have hq : IsW (24 + 9 * i) := isW_b (by omega)
    have hF : FR (rL 23 24 9 r i) (24 + 9 * i) := FR.rL hr (by omega)
    refine pz_iload_n (i := 1) 0 rfl rfl 16 dX0_init_15 rfl ?_
    refine pz_bipush (v := 24) (by decide) 18 dX0_init_16 rfl ?_
    refine pz_icmp_ge 40 21 dX0_init_18 (by decide) rfl (fun h => absurd h (by rw [show (24 : Int32) = nI 24 from rfl, nI_leE (by omega) (by omega)]; omega)) (fun _ => ?_)
    refine pz_aload_n (i := 0) 1 rfl rfl 22 dX0_init_21 rfl ?_
    refine pz_getR (a := 22) (q := 23) (C := RX0) (T := TX0) (N := 3) (ci := 0) 0 25 dX0_init_22 rfl (fun w h => List.mem_cons_of_mem _ (List.mem_append_left _ (List.mem_append_right _ h))) (List.mem_of_getElem? (i := 5) rfl) (by omega) (by decide) (by decide) rfl (by decide) rfl (by rw [rL_lo (by omega) (by omega)]; exact hg) ?_
    refine pz_iload_n (i := 1) 0 rfl rfl 26 dX0_init_25 rfl ?_
    refine pz_new (ci := 5) (C := RX5) (T := TX5) (N := 15) (ty := tyX5) 29 dX0_init_26 rfl (fun w h => List.mem_cons_of_mem _ (List.mem_append_right _ h)) tyX5_ok dfX5 (List.mem_of_getElem? (i := 4) rfl) (List.mem_of_getElem? (i := 6) rfl) (List.mem_of_getElem? (i := 7) rfl) hq.o (by decide) rfl rfl (hF _ (Nat.le_refl _)) (show _ ≤ 217 by omega) (show _ ≤ 1728 by omega) ?_
    refine pz_dup rfl 30 dX0_init_29 rfl ?_
    refine pz_initN (a := 24 + 9 * i) (d := 1) (mc := 8) (ms := 56) (Z1 := (mz, fin (rL 23 24 9 r i) (24 + 9 * i) (24 + 9 * i + 9), 24 + 9 * i + 9)) 33 dX0_init_30 rfl (List.mem_of_getElem? (i := 3) rfl) ggX0_init_X5_init rfl (List.mem_of_getElem? (i := 7) rfl) (List.mem_of_getElem? (i := 8) rfl) rfl (by decide +kernel) ⟨(Nat.le_of_ble_eq_true rfl), (Nat.le_of_ble_eq_true rfl)⟩ ⟨(show _ ≤ 217 by omega), (show _ ≤ 1728 by omega)⟩ (c5_init l G _ hq hF) (Nat.le_of_ble_eq_true rfl) ?_
    refine pz_aast (a := 23) (q := 24 + 9 * i) (N := 24) 34 dX0_init_33 rfl (Or.inr ⟨rfl, rfl, rfl⟩) (by omega) (by decide) (by omega) hq.o (vpin (by omega) (by omega)) ?_
    refine pz_iinc (z := 1) (v := nI (i + 1)) 0 rfl (show nI i + Int32.ofInt 1 = nI (i + 1) from nI_s1 i) [(1, .int (nI (i + 1))), (0, .ref (G.1 + 22))] 37 dX0_init_34 rfl (show 1 < 2 by omega) rfl ?_
    refine pz_goto 15 dX0_init_37 (by decide) ?_
    refine PZ.cast (ih (i + 1) (by omega)) (by omega) (by omega) ?_
    rw [ix_nI (by omega), rL_s (by omega), show 24 + 9 * (i + 1) = 24 + 9 * i + 9 by omega]
theorem e0_end {r : Rm} (hr : FR r 22) : rL 23 24 9 (ur r 22 0 23) 24 = fin r 22 240 := by
  funext a
  by_cases h : 22 ≤ a ∧ a < 240
  · rw [fin_in h]
    by_cases e : a = 23
    · subst e
      funext j
      rw [rL_A]
      unfold rfZ
      by_cases hj : j < 24
      · rw [if_pos hj, if_pos (Or.inr ⟨Or.inr rfl, hj⟩), rf23]
      · rw [if_neg hj, if_neg]
        rintro (⟨h1, -⟩ | ⟨-, h2⟩)
        · revert h1; decide
        · exact hj h2
    · by_cases e2 : a = 22
      · subst e2
        rw [rL_lo (by omega) (by omega)]
        funext j
        rw [ur_s, hr _ (Nat.le_refl _)]
        unfold rfZ
        by_cases hj : j = 0
        · subst hj; rfl
        · rw [if_neg hj, if_neg]
          rintro (⟨-, h1, h2⟩ | ⟨h1, -⟩)
          · have h1' : isRf 0 j = true := h1
            unfold isRf at h1'
            simp at h1'
            omega
          · revert h1; decide
      · rw [rL_in (by omega) e]
  · rw [fin_out h, rL_out (by omega) (by omega), ur_off _ (by omega)]
theorem c0_init (l : Launch) (G : Gx) {r : Rm} (hr : FR r 22) : CnZ l G 2 217 1728 yX0_init wsX0_init 22 (mz, r, 23) (mz, fin r 22 240, 240) := by
  refine CnZ.of (own := RX0) (cc := cX0_init) (nL := 2) (by decide) rfl rfl rfl (by omega) ?_
  refine pz_aload_n (i := 0) 0 rfl rfl 1 dX0_init_0 rfl ?_
  refine pz_obj 4 dX0_init_1 rfl (List.mem_of_getElem? (i := 1) rfl) (List.mem_of_getElem? (i := 2) rfl) (List.mem_of_getElem? (i := 3) rfl) (Nat.le_of_ble_eq_true rfl) (Nat.le_of_ble_eq_true rfl) ?_
  refine pz_aload_n (i := 0) 0 rfl rfl 5 dX0_init_4 rfl ?_
  refine pz_bipush (v := 24) (by decide) 7 dX0_init_5 rfl ?_
  refine pz_newQ (N := 24) (kd := 11) (C := "TearGuests$Wedding") 10 dX0_init_7 rfl (by decide) (by decide) (Or.inr ⟨rfl, rfl⟩) (List.mem_of_getElem? (i := 4) rfl) (by decide) (by omega) (hr 23 (by omega)) (Nat.le_of_ble_eq_true rfl) (Nat.le_of_ble_eq_true rfl) ?_
  show PZ G _ 1 24 10 _ _ (mz, _, 24)
  have f0 := FR.up hr (n2 := 24) (by omega)
  refine pz_putF (a := 22) (q := 23) (C := RX0) (T := TX0) (N := 3) (ci := 0) (ty0 := tyX0) (ty := (.array (.object "TearGuests$Wedding"))) 0 13 dX0_init_10 rfl (fun w h => List.mem_cons_of_mem _ (List.mem_append_left _ (List.mem_append_right _ h))) tyX0_ok nmX0 (List.mem_of_getElem? (i := 5) rfl) (by omega) (by decide) (by decide) rfl (by decide) rfl rfl (show RX0 ≠ "TearGuestsLaw" by decide) rfl (by decide +kernel) (fun _ => rfl) (fun _ => rfl) ?_
  have f1 : FR (ur r 22 0 (23)) (24) := FR.ur (FR.up f0 (by omega)) (by omega)
  refine pz_iconst (v := 0) (by decide) 14 dX0_init_13 rfl ?_
  refine pz_istore_n (i := 1) rfl [(1, .int 0), (0, .ref (G.1 + 22))] 15 dX0_init_14 rfl (show 1 < 2 by omega) rfl ?_
  refine PZ.cast (lp0 l G (r := (ur r 22 0 (23))) (f1.up (by omega)) (by rw [ur_s]; rfl) ?_ 24 0 rfl) rfl rfl (by rw [rL_0 (by rw [ur_off _ (by omega)]; exact hr _ (by omega))])
  exact pz_vret dX0_init_40 (by rw [e0_end hr])
