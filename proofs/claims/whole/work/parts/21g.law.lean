theorem la_loop {l : Launch} {G : Gx} {b L : Nat} {xs : Nat → Int32} (hL : L ≤ 384) : ∀ t i mm, L + 6 ≤ i + t → i ≤ 390 → Iv mm → PW G (KL l G b L xs) 18 (lvL G b i) [] mm := by
  intro t
  induction t with
  | zero =>
    intro i mm hi hi2 hI
    refine pw_iload_n (i := 3) 0 rfl rfl 19 dL_law_18 rfl ?_
    refine pw_aload_n (i := 0) 3 rfl rfl 20 dL_law_19 rfl ?_
    refine pl_slen 21 dL_law_20 rfl ?_
    refine pw_bipush (v := 6) (by decide) 23 dL_law_21 rfl ?_
    refine pw_isub 24 dL_law_23 rfl ?_
    refine pw_icmp_gt 1138 27 dL_law_24 (by decide) rfl (fun _ => ?_) (fun h => absurd (sub6 hL (by omega) h) (by omega))
    refine pw_iconst (v := 1) (by decide) 1139 dL_law_1138 rfl ?_
    exact pl_ret dL_law_1139
  | succ t ih =>
    intro i mm hi hi2 hI
    refine pw_iload_n (i := 3) 0 rfl rfl 19 dL_law_18 rfl ?_
    refine pw_aload_n (i := 0) 3 rfl rfl 20 dL_law_19 rfl ?_
    refine pl_slen 21 dL_law_20 rfl ?_
    refine pw_bipush (v := 6) (by decide) 23 dL_law_21 rfl ?_
    refine pw_isub 24 dL_law_23 rfl ?_
    refine pw_icmp_gt 1138 27 dL_law_24 (by decide) rfl (fun _ => ?_) (fun h => ?_)
    · refine pw_iconst (v := 1) (by decide) 1139 dL_law_1138 rfl ?_
      exact pl_ret dL_law_1139
    have hi6 := sub6 hL (by omega) h
    have kend : ∀ m', Iv m' → PW G (KL l G b L xs) 1132 (lvL G b i) [] m' := fun m' hI' => by
      refine pw_iinc (z := 6) (v := nI (i + 6)) 0 rfl (show nI i + nI 6 = nI (i + 6) from nI_add i 6) (lvL G b (i + 6)) 1135 dL_law_1132 rfl (show 3 < 4 by omega) rfl ?_
      exact pw_goto 18 dL_law_1135 (by decide) (ih (i + 6) m' (by omega) (by omega) hI')
    refine pw_aload_n (i := 0) 3 rfl rfl 28 dL_law_27 rfl ?_
    refine pw_iload_n (i := 3) 0 rfl rfl 29 dL_law_28 rfl ?_
    refine pl_sld 30 dL_law_29 rfl (vpin (by omega) (by omega)) ?_
    refine pw_bipush (v := 31) (by decide) 32 dL_law_30 rfl ?_
    refine pw_iand 33 dL_law_32 rfl ?_
    obtain ⟨n, hn, e⟩ := and31 (xs (ix (nI i)))
    rw [e]
    clear e
    match n, hn with
    | 0, _ => exact pw_tableIn 176 dL_law_33 (by decide) (by decide) rfl (by decide) (la_row hi6 hL hI kend)
    | 1, _ => exact pw_tableIn 219 dL_law_33 (by decide) (by decide) rfl (by decide) (la_set hi6 hL hI kend)
    | 2, _ => exact pw_tableIn 262 dL_law_33 (by decide) (by decide) rfl (by decide) (la_copy hi6 hL hI kend)
    | 3, _ => exact pw_tableIn 325 dL_law_33 (by decide) (by decide) rfl (by decide) (la_drop hi6 hL hI kend)
    | 4, _ => exact pw_tableIn 348 dL_law_33 (by decide) (by decide) rfl (by decide) (la_feed hi6 hL hI kend)
    | 5, _ => exact pw_tableIn 371 dL_law_33 (by decide) (by decide) rfl (by decide) (la_wedding hi6 hL hI kend)
    | 6, _ => exact pw_tableIn 384 dL_law_33 (by decide) (by decide) rfl (by decide) (la_fault hi6 hL hI kend)
    | 7, _ => exact pw_tableIn 397 dL_law_33 (by decide) (by decide) rfl (by decide) (la_minutes hi6 hL hI kend)
    | 8, _ => exact pw_tableIn 420 dL_law_33 (by decide) (by decide) rfl (by decide) (la_hire hi6 hL hI kend)
    | 9, _ => exact pw_tableIn 453 dL_law_33 (by decide) (by decide) rfl (by decide) (la_swap hi6 hL hI kend)
    | 10, _ => exact pw_tableIn 486 dL_law_33 (by decide) (by decide) rfl (by decide) (la_hymns hi6 hL hI kend)
    | 11, _ => exact pw_tableIn 509 dL_law_33 (by decide) (by decide) rfl (by decide) (la_undo hi6 hL hI kend)
    | 12, _ => exact pw_tableIn 522 dL_law_33 (by decide) (by decide) rfl (by decide) (la_guest hi6 hL hI kend)
    | 13, _ => exact pw_tableIn 555 dL_law_33 (by decide) (by decide) rfl (by decide) (la_seat hi6 hL hI kend)
    | 14, _ => exact pw_tableIn 578 dL_law_33 (by decide) (by decide) rfl (by decide) (la_ahead hi6 hL hI kend)
    | 15, _ => exact pw_tableIn 621 dL_law_33 (by decide) (by decide) rfl (by decide) (la_bottle hi6 hL hI kend)
    | 16, _ => exact pw_tableIn 654 dL_law_33 (by decide) (by decide) rfl (by decide) (la_filled hi6 hL hI kend)
    | 17, _ => exact pw_tableIn 667 dL_law_33 (by decide) (by decide) rfl (by decide) (la_dry hi6 hL hI kend)
    | 18, _ => exact pw_tableIn 690 dL_law_33 (by decide) (by decide) rfl (by decide) (la_hiring hi6 hL hI kend)
    | 19, _ => exact pw_tableIn 723 dL_law_33 (by decide) (by decide) rfl (by decide) (la_order hi6 hL hI kend)
    | 20, _ => exact pw_tableIn 756 dL_law_33 (by decide) (by decide) rfl (by decide) (la_change hi6 hL hI kend)
    | 21, _ => exact pw_tableIn 789 dL_law_33 (by decide) (by decide) rfl (by decide) (la_fits hi6 hL hI kend)
    | 22, _ => exact pw_tableIn 852 dL_law_33 (by decide) (by decide) rfl (by decide) (la_away hi6 hL hI kend)
    | 23, _ => exact pw_tableIn 895 dL_law_33 (by decide) (by decide) rfl (by decide) (la_drawn hi6 hL hI kend)
    | 24, _ => exact pw_tableIn 938 dL_law_33 (by decide) (by decide) rfl (by decide) (la_image hi6 hL hI kend)
    | 25, _ => exact pw_tableIn 961 dL_law_33 (by decide) (by decide) rfl (by decide) (la_restore hi6 hL hI kend)
    | 26, _ => exact pw_tableIn 984 dL_law_33 (by decide) (by decide) rfl (by decide) (la_kind hi6 hL hI kend)
    | 27, _ => exact pw_tableIn 1007 dL_law_33 (by decide) (by decide) rfl (by decide) (la_as hi6 hL hI kend)
    | 28, _ => exact pw_tableIn 1040 dL_law_33 (by decide) (by decide) rfl (by decide) (la_ask hi6 hL hI kend)
    | 29, _ => exact pw_tableIn 1073 dL_law_33 (by decide) (by decide) rfl (by decide) (la_trace hi6 hL hI kend)
    | 30, _ => exact pw_tableIn 1096 dL_law_33 (by decide) (by decide) rfl (by decide) (la_count hi6 hL hI kend)
    | 31, _ => exact pw_tableIn 1119 dL_law_33 (by decide) (by decide) rfl (by decide) (la_status hi6 hL hI kend)
    | n + 32, hn => exact absurd hn (by omega)
theorem la_begin {l : Launch} {G : Gx} {b L : Nat} {xs : Nat → Int32} (hL : L ≤ 384) : PZ G (KL l G b L xs) 0 0 0 [(0, .ref b)] [] (mz, rz, 0) := by
  have hz : FR rz 0 := fun _ _ => rfl
  have hz2 : FR (fin rz 0 298) 298 := FR.fin hz (by omega) (by omega)
  refine pz_new (ci := 6) (C := RX6) (T := TX6) (N := 10) (ty := tyX6) 3 dL_law_0 rfl (fun w h => List.mem_append_left _ (List.mem_append_left _ (List.mem_append_left _ (List.mem_append_left _ (List.mem_append_left _ (List.mem_append_left _ (List.mem_append_left _ (List.mem_append_left _ (List.mem_append_right _ h))))))))) tyX6_ok dfX6 (List.mem_of_getElem? (i := 0) rfl) (List.mem_of_getElem? (i := 1) rfl) (List.mem_of_getElem? (i := 2) rfl) (by decide) (by decide) rfl rfl rfl (Nat.le_of_ble_eq_true rfl) (Nat.le_of_ble_eq_true rfl) ?_
  refine pz_dup rfl 4 dL_law_3 rfl ?_
  refine pz_initC (a := 0) (d := 3) (mc := 297) (ms := 2677) (Z1 := (mz, fin rz 0 298, 298)) 7 dL_law_4 rfl (List.mem_of_getElem? (i := 6) rfl) gL_law_X6_init rfl (List.mem_of_getElem? (i := 2) rfl) (List.mem_of_getElem? (i := 7) rfl) rfl (by decide +kernel) ⟨(Nat.le_of_ble_eq_true rfl), (Nat.le_of_ble_eq_true rfl)⟩ ⟨(Nat.le_of_ble_eq_true rfl), (Nat.le_of_ble_eq_true rfl)⟩ (c6_init l G hz) (Nat.le_of_ble_eq_true rfl) ?_
  refine pz_astore_n (i := 1) rfl [(1, .ref (G.1 + 0)), (0, .ref b)] 8 dL_law_7 rfl (show 1 < 4 by omega) rfl ?_
  refine pz_new (ci := 7) (C := RX7) (T := TX7) (N := 24) (ty := tyX7) 11 dL_law_8 rfl (fun w h => List.mem_append_left _ (List.mem_append_left _ (List.mem_append_left _ (List.mem_append_left _ (List.mem_append_left _ (List.mem_append_left _ (List.mem_append_left _ (List.mem_append_right _ h)))))))) tyX7_ok dfX7 (List.mem_of_getElem? (i := 3) rfl) (List.mem_of_getElem? (i := 4) rfl) (List.mem_of_getElem? (i := 5) rfl) (by decide) (by decide) rfl rfl (hz2 298 (Nat.le_refl _)) (Nat.le_of_ble_eq_true rfl) (Nat.le_of_ble_eq_true rfl) ?_
  refine pz_dup rfl 12 dL_law_11 rfl ?_
  refine pz_initC (a := 298) (d := 1) (mc := 14) (ms := 2113) (Z1 := (mLn 8, fin (fin rz 0 298) 298 313, 313)) 15 dL_law_12 rfl (List.mem_of_getElem? (i := 78) rfl) gL_law_X7_init rfl (List.mem_of_getElem? (i := 5) rfl) (List.mem_of_getElem? (i := 79) rfl) rfl (by decide +kernel) ⟨(Nat.le_of_ble_eq_true rfl), (Nat.le_of_ble_eq_true rfl)⟩ ⟨(Nat.le_of_ble_eq_true rfl), (Nat.le_of_ble_eq_true rfl)⟩ (c7_init l G hz2) (Nat.le_of_ble_eq_true rfl) ?_
  refine pz_astore_n (i := 2) rfl [(2, .ref (G.1 + 298)), (1, .ref (G.1 + 0)), (0, .ref b)] 16 dL_law_15 rfl (show 2 < 4 by omega) rfl ?_
  refine PZ.toW (fun a ha => ?_) ?_
  · by_cases h : 298 ≤ a ∧ a < 313
    · rw [fin_in h]
    · rw [fin_out h, fin_in (by omega)]
  refine pw_iconst (v := 0) (by decide) 17 dL_law_16 rfl ?_
  refine pw_istore_n (i := 3) rfl (lvL G b 0) 18 dL_law_17 rfl (show 3 < 4 by omega) rfl ?_
  exact la_loop hL 390 0 _ (by omega) (by omega) Iv_0
