theorem lw_X7_row_c67 : Cond.constant RX7 67 (-1000001 : Int32) ∈ wsX7_row := by decide +kernel
theorem fi_X7_row_7 : ∀ w ∈ wsX70, w ∈ wsX7_row := by decide +kernel
theorem lk_X7_row_7 : Cond.fieldLink RX7 7 (TX7 0).1 (TX7 0).2.1 (TX7 0).2.2.1 ∈ wsX7_row := by decide +kernel
theorem lk_X7_row_13 : Cond.fieldLink RX7 13 (TX7 1).1 (TX7 1).2.1 (TX7 1).2.2.1 ∈ wsX7_row := by decide +kernel
theorem lk_X7_row_16 : Cond.fieldLink RX7 16 (TX7 2).1 (TX7 2).2.1 (TX7 2).2.2.1 ∈ wsX7_row := by decide +kernel
set_option maxHeartbeats 4000000 in
set_option maxRecDepth 100000 in
theorem kl_X7_row_52 {l : Launch} {G : Gx}  {r : Int32} {mF : Mm}  : ∀ (n : Nat) (y1 : Int32) (y3 : Int32) (y4 : Int32) (m : Mm) (a0 : Mm), lp_X7_row_52 n y1 y3 y4 m = some a0 → PW G (KM l G RX7 cX7_row 5 (some .int) wsX7_row 2 (Qi G r mF)) 78 [(0, .ref (G.1 + 298)), (3, .int y3)] [] a0 → PW G (KM l G RX7 cX7_row 5 (some .int) wsX7_row 2 (Qi G r mF)) 52 [(0, .ref (G.1 + 298)), (1, .int y1), (3, .int y3), (4, .int y4)] [] m := by
  intro n
  induction n with
  | zero => intro y1 y3 y4 m a0 h hk; cases h
  | succ n ih =>
    intro y1 y3 y4 m a0 h hk
    have h : lb_X7_row_52 (lp_X7_row_52 n) y1 y3 y4 m = _ := h
    unfold lb_X7_row_52 at h
    refine pw_iload 3 rfl 54 dX7_row_52 rfl ?_
    refine pw_bipush (v := (40 : Int32)) (by decide) 56 dX7_row_54 rfl ?_
    refine pw_icmp_ge 78 59 dX7_row_56 (by decide) rfl (fun c8 => ?_) (fun c8 => ?_)
    · have h := if_t h c8
      refine pw_sub [0, 2] [(0, .ref (G.1 + 298)), (3, .int y3)] rfl ?_
      cases h; exact hk
    · have h := if_f h c8
      refine pw_aload_n 0 rfl rfl 60 dX7_row_59 rfl ?_
      refine pw_getR 2 63 dX7_row_60 rfl fi_X7_row_7 lk_X7_row_16 la_298 ly_298 (by decide) rfl (by decide) rfl rf_298_2 ?_
      refine pw_bipush (v := (40 : Int32)) (by decide) 65 dX7_row_63 rfl ?_
      refine pw_iload_n 1 rfl rfl 66 dX7_row_65 rfl ?_
      refine pw_imul 67 dX7_row_66 rfl ?_
      refine pw_iload 3 rfl 69 dX7_row_67 rfl ?_
      refine pw_iadd 70 dX7_row_69 rfl ?_
      refine pw_iconst (v := (0 : Int32)) (by decide) 71 dX7_row_70 rfl ?_
      obtain ⟨h11, h⟩ := gd_e h
      refine pw_iast 72 dX7_row_71 rfl la_301 ly_301 h11 ?_
      obtain ⟨m9, em9, h⟩ := nmE_ h
      refine pw_mem em9 ?_
      obtain ⟨v10, ev10, h⟩ := nmE_ h
      refine pw_iinc 3 rfl (by rw [ev10]; rfl) [(4, .int v10), (0, .ref (G.1 + 298)), (1, .int y1), (3, .int y3)] 75 dX7_row_72 rfl (Nat.le_of_ble_eq_true rfl) rfl ?_
      refine pw_goto 52 dX7_row_75 (by decide) ?_
      refine pw_sub [1, 2, 3, 0] [(0, .ref (G.1 + 298)), (1, .int y1), (3, .int y3), (4, .int v10)] rfl ?_
      exact ih y1 y3 v10 m9 a0 h hk
set_option maxHeartbeats 4000000 in
set_option maxRecDepth 100000 in
theorem k_X7_row {l : Launch} {G : Gx} {x1 : Int32} {x2 : Int32} {x3 : Int32} {m mF : Mm} {r : Int32}  (h : f_X7_row x1 x2 x3 m = some (r, mF)) : Cn l G 2 yX7_row wsX7_row [.ref (G.1 + 298), .int x1, .int x2, .int x3] m (Qi G r mF) := by
  unfold f_X7_row at h
  refine Cn.of (own := RX7) (lv := [(0, .ref (G.1 + 298)), (1, .int x1), (2, .int x2), (3, .int x3)]) (by decide) rfl rfl (Nat.le_of_ble_eq_true rfl) rfl ?_
  refine pw_iload_n 1 rfl rfl 1 dX7_row_0 rfl ?_
  obtain ⟨r1, hr1, h⟩ := bd1_e h
  refine pw_callSi 4 dX7_row_1 rfl [.int x1] 1 ⟨gX7_row_X7_isRow, rfl, sgS_X7_isRow, ⟨Nat.le_of_ble_eq_true rfl, Nat.le_of_ble_eq_true rfl⟩, ⟨Nat.le_refl _, Nat.le_refl _⟩⟩ (k_X7_isRow hr1) rfl rfl (Nat.le_of_ble_eq_true rfl) ?_
  refine pw_if_eq 22 7 dX7_row_4 (by decide) rfl (fun c2 => ?_) (fun c2 => ?_)
  · have h := if_t h c2
    refine pw_ldc 24 lw_X7_row_c67 dX7_row_22 rfl ?_
    exact pw_iret dX7_row_24 (pr_inj h)
  · have h := if_f h c2
    refine pw_iload_n 2 rfl rfl 8 dX7_row_7 rfl ?_
    refine pw_iconst (v := (0 : Int32)) (by decide) 9 dX7_row_8 rfl ?_
    refine pw_iconst (v := (2 : Int32)) (by decide) 10 dX7_row_9 rfl ?_
    refine pw_callSi 13 dX7_row_10 rfl [.int x2, .int (0 : Int32), .int (2 : Int32)] 3 ⟨gX7_row_X7_in, rfl, sgS_X7_in, ⟨Nat.le_of_ble_eq_true rfl, Nat.le_of_ble_eq_true rfl⟩, ⟨Nat.le_refl _, Nat.le_refl _⟩⟩ (k_X7_in rfl) rfl rfl (Nat.le_of_ble_eq_true rfl) ?_
    refine pw_if_eq 22 16 dX7_row_13 (by decide) rfl (fun c3 => ?_) (fun c3 => ?_)
    · have h := if_t h c3
      refine pw_ldc 24 lw_X7_row_c67 dX7_row_22 rfl ?_
      exact pw_iret dX7_row_24 (pr_inj h)
    · have h := if_f h c3
      refine pw_iload_n 3 rfl rfl 17 dX7_row_16 rfl ?_
      refine pw_bipush (v := (40 : Int32)) (by decide) 19 dX7_row_17 rfl ?_
      refine pw_icmp_le 25 22 dX7_row_19 (by decide) rfl (fun c4 => ?_) (fun c4 => ?_)
      · have h := if_t h c4
        refine pw_iload_n 3 rfl rfl 26 dX7_row_25 rfl ?_
        refine pw_if_ge 35 29 dX7_row_26 (by decide) rfl (fun c5 => ?_) (fun c5 => ?_)
        · have h := if_t h c5
          refine pw_aload_n 0 rfl rfl 36 dX7_row_35 rfl ?_
          refine pw_getR 0 39 dX7_row_36 rfl fi_X7_row_7 lk_X7_row_7 la_298 ly_298 (by decide) rfl (by decide) rfl rf_298_0 ?_
          refine pw_iload_n 1 rfl rfl 40 dX7_row_39 rfl ?_
          refine pw_iload_n 2 rfl rfl 41 dX7_row_40 rfl ?_
          obtain ⟨h17, h⟩ := gd_e h
          refine pw_iast 42 dX7_row_41 rfl la_299 ly_299 h17 ?_
          obtain ⟨m6, em6, h⟩ := nmE_ h
          refine pw_mem em6 ?_
          refine pw_aload_n 0 rfl rfl 43 dX7_row_42 rfl ?_
          refine pw_getR 1 46 dX7_row_43 rfl fi_X7_row_7 lk_X7_row_13 la_298 ly_298 (by decide) rfl (by decide) rfl rf_298_1 ?_
          refine pw_iload_n 1 rfl rfl 47 dX7_row_46 rfl ?_
          refine pw_iload_n 3 rfl rfl 48 dX7_row_47 rfl ?_
          obtain ⟨h16, h⟩ := gd_e h
          refine pw_iast 49 dX7_row_48 rfl la_300 ly_300 h16 ?_
          obtain ⟨m7, em7, h⟩ := nmE_ h
          refine pw_mem em7 ?_
          refine pw_iconst (v := (0 : Int32)) (by decide) 50 dX7_row_49 rfl ?_
          refine pw_istore [(4, .int (0 : Int32)), (0, .ref (G.1 + 298)), (1, .int x1), (2, .int x2), (3, .int x3)] 52 dX7_row_50 rfl (Nat.le_of_ble_eq_true rfl) rfl ?_
          obtain ⟨m12, h13, h⟩ := bd1_e h
          have hL52_h13 : PW G (KM l G RX7 cX7_row 5 (some .int) wsX7_row 2 (Qi G r mF)) 78 [(0, .ref (G.1 + 298)), (3, .int x3)] [] m12 := by
            refine pw_aload_n 0 rfl rfl 79 dX7_row_78 rfl ?_
            refine pw_iload_n 1 rfl rfl 80 dX7_row_79 rfl ?_
            obtain ⟨r15, m14, hr15, h⟩ := bd2_e h
            refine pw_callVi 83 dX7_row_80 rfl [.int x3] 1 ⟨gX7_row_X7_well, rfl, sgV_X7_well, ⟨Nat.le_of_ble_eq_true rfl, Nat.le_of_ble_eq_true rfl⟩, ⟨Nat.le_refl _, Nat.le_refl _⟩⟩ ly_298 (by decide) la_298 rfl (k_X7_well hr15) rfl rfl (Nat.le_of_ble_eq_true rfl) ?_
            exact pw_iret dX7_row_83 (pr_inj h)
          refine pw_sub [1, 2, 4, 0] [(0, .ref (G.1 + 298)), (1, .int x1), (3, .int x3), (4, .int (0 : Int32))] rfl ?_
          exact kl_X7_row_52 FU x1 x3 (0 : Int32) m7 m12 h13 hL52_h13
        · have h := if_f h c5
          refine pw_aload_n 0 rfl rfl 30 dX7_row_29 rfl ?_
          refine pw_iconst (v := (4 : Int32)) (by decide) 31 dX7_row_30 rfl ?_
          obtain ⟨r19, m18, hr19, h⟩ := bd2_e h
          refine pw_callVi 34 dX7_row_31 rfl [.int (4 : Int32)] 1 ⟨gX7_row_X7_found, rfl, sgV_X7_found, ⟨Nat.le_of_ble_eq_true rfl, Nat.le_of_ble_eq_true rfl⟩, ⟨Nat.le_refl _, Nat.le_refl _⟩⟩ ly_298 (by decide) la_298 rfl (k_X7_found hr19) rfl rfl (Nat.le_of_ble_eq_true rfl) ?_
          exact pw_iret dX7_row_34 (pr_inj h)
      · have h := if_f h c4
        refine pw_ldc 24 lw_X7_row_c67 dX7_row_22 rfl ?_
        exact pw_iret dX7_row_24 (pr_inj h)
theorem fi_X7_set_7 : ∀ w ∈ wsX70, w ∈ wsX7_set := by decide +kernel
theorem lk_X7_set_13 : Cond.fieldLink RX7 13 (TX7 1).1 (TX7 1).2.1 (TX7 1).2.2.1 ∈ wsX7_set := by decide +kernel
theorem lk_X7_set_16 : Cond.fieldLink RX7 16 (TX7 2).1 (TX7 2).2.1 (TX7 2).2.2.1 ∈ wsX7_set := by decide +kernel
theorem lk_X7_set_7 : Cond.fieldLink RX7 7 (TX7 0).1 (TX7 0).2.1 (TX7 0).2.2.1 ∈ wsX7_set := by decide +kernel
theorem lw_X7_set_c67 : Cond.constant RX7 67 (-1000001 : Int32) ∈ wsX7_set := by decide +kernel
set_option maxHeartbeats 4000000 in
set_option maxRecDepth 100000 in
theorem k_X7_set {l : Launch} {G : Gx} {x1 : Int32} {x2 : Int32} {x3 : Int32} {m mF : Mm} {r : Int32}  (h : f_X7_set x1 x2 x3 m = some (r, mF)) : Cn l G 2 yX7_set wsX7_set [.ref (G.1 + 298), .int x1, .int x2, .int x3] m (Qi G r mF) := by
  unfold f_X7_set at h
  refine Cn.of (own := RX7) (lv := [(0, .ref (G.1 + 298)), (1, .int x1), (2, .int x2), (3, .int x3)]) (by decide) rfl rfl (Nat.le_of_ble_eq_true rfl) rfl ?_
  refine pw_iload_n 1 rfl rfl 1 dX7_set_0 rfl ?_
  obtain ⟨r1, hr1, h⟩ := bd1_e h
  refine pw_callSi 4 dX7_set_1 rfl [.int x1] 1 ⟨gX7_set_X7_isRow, rfl, sgS_X7_isRow, ⟨Nat.le_of_ble_eq_true rfl, Nat.le_of_ble_eq_true rfl⟩, ⟨Nat.le_refl _, Nat.le_refl _⟩⟩ (k_X7_isRow hr1) rfl rfl (Nat.le_of_ble_eq_true rfl) ?_
  refine pw_if_ne 10 7 dX7_set_4 (by decide) rfl (fun c2 => ?_) (fun c2 => ?_)
  · have h := if_f h c2
    refine pw_aload_n 0 rfl rfl 11 dX7_set_10 rfl ?_
    refine pw_iload_n 1 rfl rfl 12 dX7_set_11 rfl ?_
    obtain ⟨r3, hr3, h⟩ := bd1_e h
    refine pw_callVi 15 dX7_set_12 rfl [.int x1] 1 ⟨gX7_set_X7_isMissing, rfl, sgV_X7_isMissing, ⟨Nat.le_of_ble_eq_true rfl, Nat.le_of_ble_eq_true rfl⟩, ⟨Nat.le_refl _, Nat.le_refl _⟩⟩ ly_298 (by decide) la_298 rfl (k_X7_isMissing hr3) rfl rfl (Nat.le_of_ble_eq_true rfl) ?_
    refine pw_if_eq 24 18 dX7_set_15 (by decide) rfl (fun c4 => ?_) (fun c4 => ?_)
    · have h := if_t h c4
      refine pw_iload_n 2 rfl rfl 25 dX7_set_24 rfl ?_
      refine pw_iconst (v := (0 : Int32)) (by decide) 26 dX7_set_25 rfl ?_
      refine pw_aload_n 0 rfl rfl 27 dX7_set_26 rfl ?_
      refine pw_getR 1 30 dX7_set_27 rfl fi_X7_set_7 lk_X7_set_13 la_298 ly_298 (by decide) rfl (by decide) rfl rf_298_1 ?_
      refine pw_iload_n 1 rfl rfl 31 dX7_set_30 rfl ?_
      obtain ⟨h5, h⟩ := gd_e h
      refine pw_iald 32 dX7_set_31 rfl la_300 ly_300 h5 ?_
      refine pw_iconst (v := (1 : Int32)) (by decide) 33 dX7_set_32 rfl ?_
      refine pw_isub 34 dX7_set_33 rfl ?_
      refine pw_callSi 37 dX7_set_34 rfl [.int x2, .int (0 : Int32), .int ((m 300 (ix x1)) - (1 : Int32))] 3 ⟨gX7_set_X7_in, rfl, sgS_X7_in, ⟨Nat.le_of_ble_eq_true rfl, Nat.le_of_ble_eq_true rfl⟩, ⟨Nat.le_refl _, Nat.le_refl _⟩⟩ (k_X7_in rfl) rfl rfl (Nat.le_of_ble_eq_true rfl) ?_
      refine pw_if_ne 46 40 dX7_set_37 (by decide) rfl (fun c6 => ?_) (fun c6 => ?_)
      · have h := if_f h c6
        refine pw_aload_n 0 rfl rfl 47 dX7_set_46 rfl ?_
        refine pw_getR 2 50 dX7_set_47 rfl fi_X7_set_7 lk_X7_set_16 la_298 ly_298 (by decide) rfl (by decide) rfl rf_298_2 ?_
        refine pw_bipush (v := (40 : Int32)) (by decide) 52 dX7_set_50 rfl ?_
        refine pw_iload_n 1 rfl rfl 53 dX7_set_52 rfl ?_
        refine pw_imul 54 dX7_set_53 rfl ?_
        refine pw_iload_n 2 rfl rfl 55 dX7_set_54 rfl ?_
        refine pw_iadd 56 dX7_set_55 rfl ?_
        refine pw_aload_n 0 rfl rfl 57 dX7_set_56 rfl ?_
        refine pw_getR 0 60 dX7_set_57 rfl fi_X7_set_7 lk_X7_set_7 la_298 ly_298 (by decide) rfl (by decide) rfl rf_298_0 ?_
        refine pw_iload_n 1 rfl rfl 61 dX7_set_60 rfl ?_
        obtain ⟨h7, h⟩ := gd_e h
        refine pw_iald 62 dX7_set_61 rfl la_299 ly_299 h7 ?_
        refine pw_iload_n 3 rfl rfl 63 dX7_set_62 rfl ?_
        refine pw_callSi 66 dX7_set_63 rfl [.int (m 299 (ix x1)), .int x3] 2 ⟨gX7_set_X7_cut, rfl, sgS_X7_cut, ⟨Nat.le_of_ble_eq_true rfl, Nat.le_of_ble_eq_true rfl⟩, ⟨Nat.le_refl _, Nat.le_refl _⟩⟩ (k_X7_cut rfl) rfl rfl (Nat.le_of_ble_eq_true rfl) ?_
        obtain ⟨v8, ev8, h⟩ := nmE_ h
        refine pw_top ev8 ?_
        obtain ⟨h13, h⟩ := gd_e h
        refine pw_iast 67 dX7_set_66 rfl la_301 ly_301 h13 ?_
        obtain ⟨m9, em9, h⟩ := nmE_ h
        refine pw_mem em9 ?_
        refine pw_aload_n 0 rfl rfl 68 dX7_set_67 rfl ?_
        refine pw_aload_n 0 rfl rfl 69 dX7_set_68 rfl ?_
        refine pw_getR 2 72 dX7_set_69 rfl fi_X7_set_7 lk_X7_set_16 la_298 ly_298 (by decide) rfl (by decide) rfl rf_298_2 ?_
        refine pw_bipush (v := (40 : Int32)) (by decide) 74 dX7_set_72 rfl ?_
        refine pw_iload_n 1 rfl rfl 75 dX7_set_74 rfl ?_
        refine pw_imul 76 dX7_set_75 rfl ?_
        refine pw_iload_n 2 rfl rfl 77 dX7_set_76 rfl ?_
        refine pw_iadd 78 dX7_set_77 rfl ?_
        obtain ⟨h10, h⟩ := gd_e h
        refine pw_iald 79 dX7_set_78 rfl la_301 ly_301 h10 ?_
        obtain ⟨r12, m11, hr12, h⟩ := bd2_e h
        refine pw_callVi 82 dX7_set_79 rfl [.int (m9 301 (ix (((40 : Int32) * x1) + x2)))] 1 ⟨gX7_set_X7_well, rfl, sgV_X7_well, ⟨Nat.le_of_ble_eq_true rfl, Nat.le_of_ble_eq_true rfl⟩, ⟨Nat.le_refl _, Nat.le_refl _⟩⟩ ly_298 (by decide) la_298 rfl (k_X7_well hr12) rfl rfl (Nat.le_of_ble_eq_true rfl) ?_
        exact pw_iret dX7_set_82 (pr_inj h)
      · have h := if_t h c6
        refine pw_aload_n 0 rfl rfl 41 dX7_set_40 rfl ?_
        refine pw_iconst (v := (2 : Int32)) (by decide) 42 dX7_set_41 rfl ?_
        obtain ⟨r15, m14, hr15, h⟩ := bd2_e h
        refine pw_callVi 45 dX7_set_42 rfl [.int (2 : Int32)] 1 ⟨gX7_set_X7_found, rfl, sgV_X7_found, ⟨Nat.le_of_ble_eq_true rfl, Nat.le_of_ble_eq_true rfl⟩, ⟨Nat.le_refl _, Nat.le_refl _⟩⟩ ly_298 (by decide) la_298 rfl (k_X7_found hr15) rfl rfl (Nat.le_of_ble_eq_true rfl) ?_
        exact pw_iret dX7_set_45 (pr_inj h)
    · have h := if_f h c4
      refine pw_aload_n 0 rfl rfl 19 dX7_set_18 rfl ?_
      refine pw_iconst (v := (1 : Int32)) (by decide) 20 dX7_set_19 rfl ?_
      obtain ⟨r17, m16, hr17, h⟩ := bd2_e h
      refine pw_callVi 23 dX7_set_20 rfl [.int (1 : Int32)] 1 ⟨gX7_set_X7_found, rfl, sgV_X7_found, ⟨Nat.le_of_ble_eq_true rfl, Nat.le_of_ble_eq_true rfl⟩, ⟨Nat.le_refl _, Nat.le_refl _⟩⟩ ly_298 (by decide) la_298 rfl (k_X7_found hr17) rfl rfl (Nat.le_of_ble_eq_true rfl) ?_
      exact pw_iret dX7_set_23 (pr_inj h)
  · have h := if_t h c2
    refine pw_ldc 9 lw_X7_set_c67 dX7_set_7 rfl ?_
    exact pw_iret dX7_set_9 (pr_inj h)
theorem fi_X7_isPart_7 : ∀ w ∈ wsX70, w ∈ wsX7_isPart := by decide +kernel
theorem lk_X7_isPart_13 : Cond.fieldLink RX7 13 (TX7 1).1 (TX7 1).2.1 (TX7 1).2.2.1 ∈ wsX7_isPart := by decide +kernel
set_option maxHeartbeats 4000000 in
set_option maxRecDepth 100000 in
theorem k_X7_isPart {l : Launch} {G : Gx} {x1 : Int32} {x2 : Int32} {x3 : Int32} {m : Mm} {r : Int32}  (h : f_X7_isPart x1 x2 x3 m = some r) : Cn l G 0 yX7_isPart wsX7_isPart [.ref (G.1 + 298), .int x1, .int x2, .int x3] m (Qi G r m) := by
  unfold f_X7_isPart at h
  refine Cn.of (own := RX7) (lv := [(0, .ref (G.1 + 298)), (1, .int x1), (2, .int x2), (3, .int x3)]) (by decide) rfl rfl (Nat.le_of_ble_eq_true rfl) rfl ?_
  refine pw_iload_n 2 rfl rfl 1 dX7_isPart_0 rfl ?_
  refine pw_if_lt 34 4 dX7_isPart_1 (by decide) rfl (fun c1 => ?_) (fun c1 => ?_)
  · have h := if_t h c1
    refine pw_iconst (v := (0 : Int32)) (by decide) 35 dX7_isPart_34 rfl ?_
    exact pw_zret dX7_isPart_35 (by decide) ⟨Option.some.inj h, rfl⟩
  · have h := if_f h c1
    refine pw_iload_n 3 rfl rfl 5 dX7_isPart_4 rfl ?_
    refine pw_if_lt 34 8 dX7_isPart_5 (by decide) rfl (fun c2 => ?_) (fun c2 => ?_)
    · have h := if_t h c2
      refine pw_iconst (v := (0 : Int32)) (by decide) 35 dX7_isPart_34 rfl ?_
      exact pw_zret dX7_isPart_35 (by decide) ⟨Option.some.inj h, rfl⟩
    · have h := if_f h c2
      refine pw_iload_n 2 rfl rfl 9 dX7_isPart_8 rfl ?_
      refine pw_aload_n 0 rfl rfl 10 dX7_isPart_9 rfl ?_
      refine pw_getR 1 13 dX7_isPart_10 rfl fi_X7_isPart_7 lk_X7_isPart_13 la_298 ly_298 (by decide) rfl (by decide) rfl rf_298_1 ?_
      refine pw_iload_n 1 rfl rfl 14 dX7_isPart_13 rfl ?_
      obtain ⟨h3, h⟩ := gd_e h
      refine pw_iald 15 dX7_isPart_14 rfl la_300 ly_300 h3 ?_
      refine pw_icmp_gt 34 18 dX7_isPart_15 (by decide) rfl (fun c4 => ?_) (fun c4 => ?_)
      · have h := if_t h c4
        refine pw_iconst (v := (0 : Int32)) (by decide) 35 dX7_isPart_34 rfl ?_
        exact pw_zret dX7_isPart_35 (by decide) ⟨Option.some.inj h, rfl⟩
      · have h := if_f h c4
        refine pw_iload_n 3 rfl rfl 19 dX7_isPart_18 rfl ?_
        refine pw_aload_n 0 rfl rfl 20 dX7_isPart_19 rfl ?_
        refine pw_getR 1 23 dX7_isPart_20 rfl fi_X7_isPart_7 lk_X7_isPart_13 la_298 ly_298 (by decide) rfl (by decide) rfl rf_298_1 ?_
        refine pw_iload_n 1 rfl rfl 24 dX7_isPart_23 rfl ?_
        obtain ⟨h5, h⟩ := gd_e h
        refine pw_iald 25 dX7_isPart_24 rfl la_300 ly_300 h5 ?_
        refine pw_iload_n 2 rfl rfl 26 dX7_isPart_25 rfl ?_
        refine pw_isub 27 dX7_isPart_26 rfl ?_
        refine pw_icmp_gt 34 30 dX7_isPart_27 (by decide) rfl (fun c6 => ?_) (fun c6 => ?_)
        · have h := if_t h c6
          refine pw_iconst (v := (0 : Int32)) (by decide) 35 dX7_isPart_34 rfl ?_
          exact pw_zret dX7_isPart_35 (by decide) ⟨Option.some.inj h, rfl⟩
        · have h := if_f h c6
          refine pw_iconst (v := (1 : Int32)) (by decide) 31 dX7_isPart_30 rfl ?_
          refine pw_goto 35 dX7_isPart_31 (by decide) ?_
          exact pw_zret dX7_isPart_35 (by decide) ⟨Option.some.inj h, rfl⟩
theorem lw_X7_copy_c67 : Cond.constant RX7 67 (-1000001 : Int32) ∈ wsX7_copy := by decide +kernel
theorem fi_X7_copy_7 : ∀ w ∈ wsX70, w ∈ wsX7_copy := by decide +kernel
theorem lk_X7_copy_7 : Cond.fieldLink RX7 7 (TX7 0).1 (TX7 0).2.1 (TX7 0).2.2.1 ∈ wsX7_copy := by decide +kernel
theorem lk_X7_copy_19 : Cond.fieldLink RX7 19 (TX7 3).1 (TX7 3).2.1 (TX7 3).2.2.1 ∈ wsX7_copy := by decide +kernel
theorem lk_X7_copy_16 : Cond.fieldLink RX7 16 (TX7 2).1 (TX7 2).2.1 (TX7 2).2.2.1 ∈ wsX7_copy := by decide +kernel
set_option maxHeartbeats 4000000 in
set_option maxRecDepth 100000 in
theorem kl_X7_copy_92 {l : Launch} {G : Gx}  {r : Int32} {mF : Mm}  : ∀ (n : Nat) (y1 : Int32) (y2 : Int32) (y3 : Int32) (y4 : Int32) (y5 : Int32) (y6 : Int32) (m : Mm) (a0 : Mm), lp_X7_copy_92 n y1 y2 y3 y4 y5 y6 m = some a0 → PW G (KM l G RX7 cX7_copy 7 (some .int) wsX7_copy 2 (Qi G r mF)) 126 [(0, .ref (G.1 + 298)), (3, .int y3), (4, .int y4), (5, .int y5)] [] a0 → PW G (KM l G RX7 cX7_copy 7 (some .int) wsX7_copy 2 (Qi G r mF)) 92 [(0, .ref (G.1 + 298)), (1, .int y1), (2, .int y2), (3, .int y3), (4, .int y4), (5, .int y5), (6, .int y6)] [] m := by
  intro n
  induction n with
  | zero => intro y1 y2 y3 y4 y5 y6 m a0 h hk; cases h
  | succ n ih =>
    intro y1 y2 y3 y4 y5 y6 m a0 h hk
    have h : lb_X7_copy_92 (lp_X7_copy_92 n) y1 y2 y3 y4 y5 y6 m = _ := h
    unfold lb_X7_copy_92 at h
    refine pw_iload 6 rfl 94 dX7_copy_92 rfl ?_
    refine pw_iload 5 rfl 96 dX7_copy_94 rfl ?_
    refine pw_icmp_ge 126 99 dX7_copy_96 (by decide) rfl (fun c20 => ?_) (fun c20 => ?_)
    · have h := if_t h c20
      refine pw_sub [0, 3, 4, 5] [(0, .ref (G.1 + 298)), (3, .int y3), (4, .int y4), (5, .int y5)] rfl ?_
      cases h; exact hk
    · have h := if_f h c20
      refine pw_aload_n 0 rfl rfl 100 dX7_copy_99 rfl ?_
      refine pw_getR 3 103 dX7_copy_100 rfl fi_X7_copy_7 lk_X7_copy_19 la_298 ly_298 (by decide) rfl (by decide) rfl rf_298_3 ?_
      refine pw_iload 6 rfl 105 dX7_copy_103 rfl ?_
      refine pw_aload_n 0 rfl rfl 106 dX7_copy_105 rfl ?_
      refine pw_getR 2 109 dX7_copy_106 rfl fi_X7_copy_7 lk_X7_copy_16 la_298 ly_298 (by decide) rfl (by decide) rfl rf_298_2 ?_
      refine pw_bipush (v := (40 : Int32)) (by decide) 111 dX7_copy_109 rfl ?_
      refine pw_iload_n 1 rfl rfl 112 dX7_copy_111 rfl ?_
      refine pw_imul 113 dX7_copy_112 rfl ?_
      refine pw_iload_n 2 rfl rfl 114 dX7_copy_113 rfl ?_
      refine pw_iadd 115 dX7_copy_114 rfl ?_
      refine pw_iload 6 rfl 117 dX7_copy_115 rfl ?_
      refine pw_iadd 118 dX7_copy_117 rfl ?_
      obtain ⟨h21, h⟩ := gd_e h
      refine pw_iald 119 dX7_copy_118 rfl la_301 ly_301 h21 ?_
      obtain ⟨v22, ev22, h⟩ := nmE_ h
      refine pw_top ev22 ?_
      obtain ⟨h25, h⟩ := gd_e h
      refine pw_iast 120 dX7_copy_119 rfl la_302 ly_302 h25 ?_
      obtain ⟨m23, em23, h⟩ := nmE_ h
      refine pw_mem em23 ?_
      obtain ⟨v24, ev24, h⟩ := nmE_ h
      refine pw_iinc 6 rfl (by rw [ev24]; rfl) [(6, .int v24), (0, .ref (G.1 + 298)), (1, .int y1), (2, .int y2), (3, .int y3), (4, .int y4), (5, .int y5)] 123 dX7_copy_120 rfl (Nat.le_of_ble_eq_true rfl) rfl ?_
      refine pw_goto 92 dX7_copy_123 (by decide) ?_
      refine pw_sub [1, 2, 3, 4, 5, 6, 0] [(0, .ref (G.1 + 298)), (1, .int y1), (2, .int y2), (3, .int y3), (4, .int y4), (5, .int y5), (6, .int v24)] rfl ?_
      exact ih y1 y2 y3 y4 y5 v24 m23 a0 h hk
set_option maxHeartbeats 4000000 in
set_option maxRecDepth 100000 in
theorem kl_X7_copy_129 {l : Launch} {G : Gx}  {r : Int32} {mF : Mm}  : ∀ (n : Nat) (y3 : Int32) (y4 : Int32) (y5 : Int32) (y6 : Int32) (m : Mm) (a0 : Mm), lp_X7_copy_129 n y3 y4 y5 y6 m = some a0 → PW G (KM l G RX7 cX7_copy 7 (some .int) wsX7_copy 2 (Qi G r mF)) 164 [(0, .ref (G.1 + 298)), (5, .int y5)] [] a0 → PW G (KM l G RX7 cX7_copy 7 (some .int) wsX7_copy 2 (Qi G r mF)) 129 [(0, .ref (G.1 + 298)), (3, .int y3), (4, .int y4), (5, .int y5), (6, .int y6)] [] m := by
  intro n
  induction n with
  | zero => intro y3 y4 y5 y6 m a0 h hk; cases h
  | succ n ih =>
    intro y3 y4 y5 y6 m a0 h hk
    have h : lb_X7_copy_129 (lp_X7_copy_129 n) y3 y4 y5 y6 m = _ := h
    unfold lb_X7_copy_129 at h
    refine pw_iload 4 rfl 131 dX7_copy_129 rfl ?_
    refine pw_iload 3 rfl 133 dX7_copy_131 rfl ?_
    refine pw_icmp_ge 164 136 dX7_copy_133 (by decide) rfl (fun c28 => ?_) (fun c28 => ?_)
    · have h := if_t h c28
      refine pw_sub [0, 3] [(0, .ref (G.1 + 298)), (5, .int y5)] rfl ?_
      cases h; exact hk
    · have h := if_f h c28
      refine pw_aload_n 0 rfl rfl 137 dX7_copy_136 rfl ?_
      refine pw_getR 2 140 dX7_copy_137 rfl fi_X7_copy_7 lk_X7_copy_16 la_298 ly_298 (by decide) rfl (by decide) rfl rf_298_2 ?_
      refine pw_bipush (v := (40 : Int32)) (by decide) 142 dX7_copy_140 rfl ?_
      refine pw_iload_n 1 rfl rfl 143 dX7_copy_142 rfl ?_
      refine pw_imul 144 dX7_copy_143 rfl ?_
      refine pw_iload 2 rfl 146 dX7_copy_144 rfl ?_
      refine pw_iadd 147 dX7_copy_146 rfl ?_
      refine pw_iload 4 rfl 149 dX7_copy_147 rfl ?_
      refine pw_iadd 150 dX7_copy_149 rfl ?_
      refine pw_aload_n 0 rfl rfl 151 dX7_copy_150 rfl ?_
      refine pw_getR 3 154 dX7_copy_151 rfl fi_X7_copy_7 lk_X7_copy_19 la_298 ly_298 (by decide) rfl (by decide) rfl rf_298_3 ?_
      refine pw_iload 4 rfl 156 dX7_copy_154 rfl ?_
      obtain ⟨h29, h⟩ := gd_e h
      refine pw_iald 157 dX7_copy_156 rfl la_302 ly_302 h29 ?_
      obtain ⟨v30, ev30, h⟩ := nmE_ h
      refine pw_top ev30 ?_
      obtain ⟨h33, h⟩ := gd_e h
      refine pw_iast 158 dX7_copy_157 rfl la_301 ly_301 h33 ?_
      obtain ⟨m31, em31, h⟩ := nmE_ h
      refine pw_mem em31 ?_
      obtain ⟨v32, ev32, h⟩ := nmE_ h
      refine pw_iinc 4 rfl (by rw [ev32]; rfl) [(6, .int v32), (0, .ref (G.1 + 298)), (3, .int y3), (4, .int y4), (5, .int y5)] 161 dX7_copy_158 rfl (Nat.le_of_ble_eq_true rfl) rfl ?_
      refine pw_goto 129 dX7_copy_161 (by decide) ?_
      refine pw_sub [1, 2, 3, 4, 0] [(0, .ref (G.1 + 298)), (3, .int y3), (4, .int y4), (5, .int y5), (6, .int v32)] rfl ?_
      exact ih y3 y4 y5 v32 m31 a0 h hk
set_option maxHeartbeats 4000000 in
set_option maxRecDepth 100000 in
theorem k_X7_copy {l : Launch} {G : Gx} {x1 : Int32} {x2 : Int32} {x3 : Int32} {x4 : Int32} {x5 : Int32} {m mF : Mm} {r : Int32}  (h : f_X7_copy x1 x2 x3 x4 x5 m = some (r, mF)) : Cn l G 2 yX7_copy wsX7_copy [.ref (G.1 + 298), .int x1, .int x2, .int x3, .int x4, .int x5] m (Qi G r mF) := by
  unfold f_X7_copy at h
  refine Cn.of (own := RX7) (lv := [(0, .ref (G.1 + 298)), (1, .int x1), (2, .int x2), (3, .int x3), (4, .int x4), (5, .int x5)]) (by decide) rfl rfl (Nat.le_of_ble_eq_true rfl) rfl ?_
  refine pw_iload_n 1 rfl rfl 1 dX7_copy_0 rfl ?_
  obtain ⟨r1, hr1, h⟩ := bd1_e h
  refine pw_callSi 4 dX7_copy_1 rfl [.int x1] 1 ⟨gX7_copy_X7_isRow, rfl, sgS_X7_isRow, ⟨Nat.le_of_ble_eq_true rfl, Nat.le_of_ble_eq_true rfl⟩, ⟨Nat.le_refl _, Nat.le_refl _⟩⟩ (k_X7_isRow hr1) rfl rfl (Nat.le_of_ble_eq_true rfl) ?_
  refine pw_if_eq 14 7 dX7_copy_4 (by decide) rfl (fun c2 => ?_) (fun c2 => ?_)
  · have h := if_t h c2
    refine pw_ldc 16 lw_X7_copy_c67 dX7_copy_14 rfl ?_
    exact pw_iret dX7_copy_16 (pr_inj h)
  · have h := if_f h c2
    refine pw_iload_n 3 rfl rfl 8 dX7_copy_7 rfl ?_
    obtain ⟨r3, hr3, h⟩ := bd1_e h
    refine pw_callSi 11 dX7_copy_8 rfl [.int x3] 1 ⟨gX7_copy_X7_isRow, rfl, sgS_X7_isRow, ⟨Nat.le_of_ble_eq_true rfl, Nat.le_of_ble_eq_true rfl⟩, ⟨Nat.le_refl _, Nat.le_refl _⟩⟩ (k_X7_isRow hr3) rfl rfl (Nat.le_of_ble_eq_true rfl) ?_
    refine pw_if_ne 17 14 dX7_copy_11 (by decide) rfl (fun c4 => ?_) (fun c4 => ?_)
    · have h := if_f h c4
      refine pw_aload_n 0 rfl rfl 18 dX7_copy_17 rfl ?_
      refine pw_iload_n 1 rfl rfl 19 dX7_copy_18 rfl ?_
      obtain ⟨r5, hr5, h⟩ := bd1_e h
      refine pw_callVi 22 dX7_copy_19 rfl [.int x1] 1 ⟨gX7_copy_X7_isMissing, rfl, sgV_X7_isMissing, ⟨Nat.le_of_ble_eq_true rfl, Nat.le_of_ble_eq_true rfl⟩, ⟨Nat.le_refl _, Nat.le_refl _⟩⟩ ly_298 (by decide) la_298 rfl (k_X7_isMissing hr5) rfl rfl (Nat.le_of_ble_eq_true rfl) ?_
      refine pw_if_ne 33 25 dX7_copy_22 (by decide) rfl (fun c6 => ?_) (fun c6 => ?_)
      · have h := if_f h c6
        refine pw_aload_n 0 rfl rfl 34 dX7_copy_33 rfl ?_
        refine pw_iconst (v := (1 : Int32)) (by decide) 35 dX7_copy_34 rfl ?_
        obtain ⟨r8, m7, hr8, h⟩ := bd2_e h
        refine pw_callVi 38 dX7_copy_35 rfl [.int (1 : Int32)] 1 ⟨gX7_copy_X7_found, rfl, sgV_X7_found, ⟨Nat.le_of_ble_eq_true rfl, Nat.le_of_ble_eq_true rfl⟩, ⟨Nat.le_refl _, Nat.le_refl _⟩⟩ ly_298 (by decide) la_298 rfl (k_X7_found hr8) rfl rfl (Nat.le_of_ble_eq_true rfl) ?_
        exact pw_iret dX7_copy_38 (pr_inj h)
      · have h := if_t h c6
        refine pw_aload_n 0 rfl rfl 26 dX7_copy_25 rfl ?_
        refine pw_iload_n 3 rfl rfl 27 dX7_copy_26 rfl ?_
        obtain ⟨r9, hr9, h⟩ := bd1_e h
        refine pw_callVi 30 dX7_copy_27 rfl [.int x3] 1 ⟨gX7_copy_X7_isMissing, rfl, sgV_X7_isMissing, ⟨Nat.le_of_ble_eq_true rfl, Nat.le_of_ble_eq_true rfl⟩, ⟨Nat.le_refl _, Nat.le_refl _⟩⟩ ly_298 (by decide) la_298 rfl (k_X7_isMissing hr9) rfl rfl (Nat.le_of_ble_eq_true rfl) ?_
        refine pw_if_eq 39 33 dX7_copy_30 (by decide) rfl (fun c10 => ?_) (fun c10 => ?_)
        · have h := if_t h c10
          refine pw_aload_n 0 rfl rfl 40 dX7_copy_39 rfl ?_
          refine pw_getR 0 43 dX7_copy_40 rfl fi_X7_copy_7 lk_X7_copy_7 la_298 ly_298 (by decide) rfl (by decide) rfl rf_298_0 ?_
          refine pw_iload_n 1 rfl rfl 44 dX7_copy_43 rfl ?_
          obtain ⟨h11, h⟩ := gd_e h
          refine pw_iald 45 dX7_copy_44 rfl la_299 ly_299 h11 ?_
          refine pw_aload_n 0 rfl rfl 46 dX7_copy_45 rfl ?_
          refine pw_getR 0 49 dX7_copy_46 rfl fi_X7_copy_7 lk_X7_copy_7 la_298 ly_298 (by decide) rfl (by decide) rfl rf_298_0 ?_
          refine pw_iload_n 3 rfl rfl 50 dX7_copy_49 rfl ?_
          obtain ⟨h12, h⟩ := gd_e h
          refine pw_iald 51 dX7_copy_50 rfl la_299 ly_299 h12 ?_
          refine pw_icmp_eq 60 54 dX7_copy_51 (by decide) rfl (fun c13 => ?_) (fun c13 => ?_)
          · have h := if_t h c13
            refine pw_aload_n 0 rfl rfl 61 dX7_copy_60 rfl ?_
            refine pw_iload_n 1 rfl rfl 62 dX7_copy_61 rfl ?_
            refine pw_iload_n 2 rfl rfl 63 dX7_copy_62 rfl ?_
            refine pw_iload 5 rfl 65 dX7_copy_63 rfl ?_
            obtain ⟨r14, hr14, h⟩ := bd1_e h
            refine pw_callVi 68 dX7_copy_65 rfl [.int x1, .int x2, .int x5] 3 ⟨gX7_copy_X7_isPart, rfl, sgV_X7_isPart, ⟨Nat.le_of_ble_eq_true rfl, Nat.le_of_ble_eq_true rfl⟩, ⟨Nat.le_refl _, Nat.le_refl _⟩⟩ ly_298 (by decide) la_298 rfl (k_X7_isPart hr14) rfl rfl (Nat.le_of_ble_eq_true rfl) ?_
            refine pw_if_eq 83 71 dX7_copy_68 (by decide) rfl (fun c15 => ?_) (fun c15 => ?_)
            · have h := if_t h c15
              refine pw_aload_n 0 rfl rfl 84 dX7_copy_83 rfl ?_
              refine pw_iconst (v := (2 : Int32)) (by decide) 85 dX7_copy_84 rfl ?_
              obtain ⟨r17, m16, hr17, h⟩ := bd2_e h
              refine pw_callVi 88 dX7_copy_85 rfl [.int (2 : Int32)] 1 ⟨gX7_copy_X7_found, rfl, sgV_X7_found, ⟨Nat.le_of_ble_eq_true rfl, Nat.le_of_ble_eq_true rfl⟩, ⟨Nat.le_refl _, Nat.le_refl _⟩⟩ ly_298 (by decide) la_298 rfl (k_X7_found hr17) rfl rfl (Nat.le_of_ble_eq_true rfl) ?_
              exact pw_iret dX7_copy_88 (pr_inj h)
            · have h := if_f h c15
              refine pw_aload_n 0 rfl rfl 72 dX7_copy_71 rfl ?_
              refine pw_iload_n 3 rfl rfl 73 dX7_copy_72 rfl ?_
              refine pw_iload 4 rfl 75 dX7_copy_73 rfl ?_
              refine pw_iload 5 rfl 77 dX7_copy_75 rfl ?_
              obtain ⟨r18, hr18, h⟩ := bd1_e h
              refine pw_callVi 80 dX7_copy_77 rfl [.int x3, .int x4, .int x5] 3 ⟨gX7_copy_X7_isPart, rfl, sgV_X7_isPart, ⟨Nat.le_of_ble_eq_true rfl, Nat.le_of_ble_eq_true rfl⟩, ⟨Nat.le_refl _, Nat.le_refl _⟩⟩ ly_298 (by decide) la_298 rfl (k_X7_isPart hr18) rfl rfl (Nat.le_of_ble_eq_true rfl) ?_
              refine pw_if_ne 89 83 dX7_copy_80 (by decide) rfl (fun c19 => ?_) (fun c19 => ?_)
              · have h := if_f h c19
                refine pw_iconst (v := (0 : Int32)) (by decide) 90 dX7_copy_89 rfl ?_
                refine pw_istore [(6, .int (0 : Int32)), (0, .ref (G.1 + 298)), (1, .int x1), (2, .int x2), (3, .int x3), (4, .int x4), (5, .int x5)] 92 dX7_copy_90 rfl (Nat.le_of_ble_eq_true rfl) rfl ?_
                obtain ⟨m26, h27, h⟩ := bd1_e h
                have hL92_h27 : PW G (KM l G RX7 cX7_copy 7 (some .int) wsX7_copy 2 (Qi G r mF)) 126 [(0, .ref (G.1 + 298)), (3, .int x3), (4, .int x4), (5, .int x5)] [] m26 := by
                  refine pw_iconst (v := (0 : Int32)) (by decide) 127 dX7_copy_126 rfl ?_
                  refine pw_istore [(6, .int (0 : Int32)), (0, .ref (G.1 + 298)), (3, .int x3), (4, .int x4), (5, .int x5)] 129 dX7_copy_127 rfl (Nat.le_of_ble_eq_true rfl) rfl ?_
                  obtain ⟨m34, h35, h⟩ := bd1_e h
                  have hL129_h35 : PW G (KM l G RX7 cX7_copy 7 (some .int) wsX7_copy 2 (Qi G r mF)) 164 [(0, .ref (G.1 + 298)), (5, .int x5)] [] m34 := by
                    refine pw_aload_n 0 rfl rfl 165 dX7_copy_164 rfl ?_
                    refine pw_iload 1 rfl 167 dX7_copy_165 rfl ?_
                    obtain ⟨r37, m36, hr37, h⟩ := bd2_e h
                    refine pw_callVi 170 dX7_copy_167 rfl [.int x5] 1 ⟨gX7_copy_X7_well, rfl, sgV_X7_well, ⟨Nat.le_of_ble_eq_true rfl, Nat.le_of_ble_eq_true rfl⟩, ⟨Nat.le_refl _, Nat.le_refl _⟩⟩ ly_298 (by decide) la_298 rfl (k_X7_well hr37) rfl rfl (Nat.le_of_ble_eq_true rfl) ?_
                    exact pw_iret dX7_copy_170 (pr_inj h)
                  refine pw_sub [1, 2, 3, 4, 0] [(0, .ref (G.1 + 298)), (3, .int x3), (4, .int x4), (5, .int x5), (6, .int (0 : Int32))] rfl ?_
                  exact kl_X7_copy_129 FU x3 x4 x5 (0 : Int32) m26 m34 h35 hL129_h35
                refine pw_sub [1, 2, 3, 4, 5, 6, 0] [(0, .ref (G.1 + 298)), (1, .int x1), (2, .int x2), (3, .int x3), (4, .int x4), (5, .int x5), (6, .int (0 : Int32))] rfl ?_
                exact kl_X7_copy_92 FU x1 x2 x3 x4 x5 (0 : Int32) m m26 h27 hL92_h27
              · have h := if_t h c19
                refine pw_aload_n 0 rfl rfl 84 dX7_copy_83 rfl ?_
                refine pw_iconst (v := (2 : Int32)) (by decide) 85 dX7_copy_84 rfl ?_
                obtain ⟨r39, m38, hr39, h⟩ := bd2_e h
                refine pw_callVi 88 dX7_copy_85 rfl [.int (2 : Int32)] 1 ⟨gX7_copy_X7_found, rfl, sgV_X7_found, ⟨Nat.le_of_ble_eq_true rfl, Nat.le_of_ble_eq_true rfl⟩, ⟨Nat.le_refl _, Nat.le_refl _⟩⟩ ly_298 (by decide) la_298 rfl (k_X7_found hr39) rfl rfl (Nat.le_of_ble_eq_true rfl) ?_
                exact pw_iret dX7_copy_88 (pr_inj h)
          · have h := if_f h c13
            refine pw_aload_n 0 rfl rfl 55 dX7_copy_54 rfl ?_
            refine pw_iconst (v := (5 : Int32)) (by decide) 56 dX7_copy_55 rfl ?_
            obtain ⟨r41, m40, hr41, h⟩ := bd2_e h
            refine pw_callVi 59 dX7_copy_56 rfl [.int (5 : Int32)] 1 ⟨gX7_copy_X7_found, rfl, sgV_X7_found, ⟨Nat.le_of_ble_eq_true rfl, Nat.le_of_ble_eq_true rfl⟩, ⟨Nat.le_refl _, Nat.le_refl _⟩⟩ ly_298 (by decide) la_298 rfl (k_X7_found hr41) rfl rfl (Nat.le_of_ble_eq_true rfl) ?_
            exact pw_iret dX7_copy_59 (pr_inj h)
        · have h := if_f h c10
          refine pw_aload_n 0 rfl rfl 34 dX7_copy_33 rfl ?_
          refine pw_iconst (v := (1 : Int32)) (by decide) 35 dX7_copy_34 rfl ?_
          obtain ⟨r43, m42, hr43, h⟩ := bd2_e h
          refine pw_callVi 38 dX7_copy_35 rfl [.int (1 : Int32)] 1 ⟨gX7_copy_X7_found, rfl, sgV_X7_found, ⟨Nat.le_of_ble_eq_true rfl, Nat.le_of_ble_eq_true rfl⟩, ⟨Nat.le_refl _, Nat.le_refl _⟩⟩ ly_298 (by decide) la_298 rfl (k_X7_found hr43) rfl rfl (Nat.le_of_ble_eq_true rfl) ?_
          exact pw_iret dX7_copy_38 (pr_inj h)
    · have h := if_t h c4
      refine pw_ldc 16 lw_X7_copy_c67 dX7_copy_14 rfl ?_
      exact pw_iret dX7_copy_16 (pr_inj h)
theorem fi_X7_drop_7 : ∀ w ∈ wsX70, w ∈ wsX7_drop := by decide +kernel
theorem lk_X7_drop_7 : Cond.fieldLink RX7 7 (TX7 0).1 (TX7 0).2.1 (TX7 0).2.2.1 ∈ wsX7_drop := by decide +kernel
theorem lw_X7_drop_c53 : Cond.constant RX7 53 (-1000000 : Int32) ∈ wsX7_drop := by decide +kernel
theorem lk_X7_drop_13 : Cond.fieldLink RX7 13 (TX7 1).1 (TX7 1).2.1 (TX7 1).2.2.1 ∈ wsX7_drop := by decide +kernel
theorem lw_X7_drop_c67 : Cond.constant RX7 67 (-1000001 : Int32) ∈ wsX7_drop := by decide +kernel
set_option maxHeartbeats 4000000 in
set_option maxRecDepth 100000 in
theorem k_X7_drop {l : Launch} {G : Gx} {x1 : Int32} {m mF : Mm} {r : Int32}  (h : f_X7_drop x1 m = some (r, mF)) : Cn l G 2 yX7_drop wsX7_drop [.ref (G.1 + 298), .int x1] m (Qi G r mF) := by
  unfold f_X7_drop at h
  refine Cn.of (own := RX7) (lv := [(0, .ref (G.1 + 298)), (1, .int x1)]) (by decide) rfl rfl (Nat.le_of_ble_eq_true rfl) rfl ?_
  refine pw_iload_n 1 rfl rfl 1 dX7_drop_0 rfl ?_
  obtain ⟨r1, hr1, h⟩ := bd1_e h
  refine pw_callSi 4 dX7_drop_1 rfl [.int x1] 1 ⟨gX7_drop_X7_isRow, rfl, sgS_X7_isRow, ⟨Nat.le_of_ble_eq_true rfl, Nat.le_of_ble_eq_true rfl⟩, ⟨Nat.le_refl _, Nat.le_refl _⟩⟩ (k_X7_isRow hr1) rfl rfl (Nat.le_of_ble_eq_true rfl) ?_
  refine pw_if_ne 10 7 dX7_drop_4 (by decide) rfl (fun c2 => ?_) (fun c2 => ?_)
  · have h := if_f h c2
    refine pw_aload_n 0 rfl rfl 11 dX7_drop_10 rfl ?_
    refine pw_iload_n 1 rfl rfl 12 dX7_drop_11 rfl ?_
    obtain ⟨r3, hr3, h⟩ := bd1_e h
    refine pw_callVi 15 dX7_drop_12 rfl [.int x1] 1 ⟨gX7_drop_X7_isMissing, rfl, sgV_X7_isMissing, ⟨Nat.le_of_ble_eq_true rfl, Nat.le_of_ble_eq_true rfl⟩, ⟨Nat.le_refl _, Nat.le_refl _⟩⟩ ly_298 (by decide) la_298 rfl (k_X7_isMissing hr3) rfl rfl (Nat.le_of_ble_eq_true rfl) ?_
    refine pw_if_eq 24 18 dX7_drop_15 (by decide) rfl (fun c4 => ?_) (fun c4 => ?_)
    · have h := if_t h c4
      refine pw_aload_n 0 rfl rfl 25 dX7_drop_24 rfl ?_
      refine pw_getR 0 28 dX7_drop_25 rfl fi_X7_drop_7 lk_X7_drop_7 la_298 ly_298 (by decide) rfl (by decide) rfl rf_298_0 ?_
      refine pw_iload_n 1 rfl rfl 29 dX7_drop_28 rfl ?_
      refine pw_ldc 31 lw_X7_drop_c53 dX7_drop_29 rfl ?_
      obtain ⟨h9, h⟩ := gd_e h
      refine pw_iast 32 dX7_drop_31 rfl la_299 ly_299 h9 ?_
      obtain ⟨m5, em5, h⟩ := nmE_ h
      refine pw_mem em5 ?_
      refine pw_aload_n 0 rfl rfl 33 dX7_drop_32 rfl ?_
      refine pw_aload_n 0 rfl rfl 34 dX7_drop_33 rfl ?_
      refine pw_getR 1 37 dX7_drop_34 rfl fi_X7_drop_7 lk_X7_drop_13 la_298 ly_298 (by decide) rfl (by decide) rfl rf_298_1 ?_
      refine pw_iload_n 1 rfl rfl 38 dX7_drop_37 rfl ?_
      obtain ⟨h6, h⟩ := gd_e h
      refine pw_iald 39 dX7_drop_38 rfl la_300 ly_300 h6 ?_
      obtain ⟨r8, m7, hr8, h⟩ := bd2_e h
      refine pw_callVi 42 dX7_drop_39 rfl [.int (m5 300 (ix x1))] 1 ⟨gX7_drop_X7_well, rfl, sgV_X7_well, ⟨Nat.le_of_ble_eq_true rfl, Nat.le_of_ble_eq_true rfl⟩, ⟨Nat.le_refl _, Nat.le_refl _⟩⟩ ly_298 (by decide) la_298 rfl (k_X7_well hr8) rfl rfl (Nat.le_of_ble_eq_true rfl) ?_
      exact pw_iret dX7_drop_42 (pr_inj h)
    · have h := if_f h c4
      refine pw_aload_n 0 rfl rfl 19 dX7_drop_18 rfl ?_
      refine pw_iconst (v := (1 : Int32)) (by decide) 20 dX7_drop_19 rfl ?_
      obtain ⟨r11, m10, hr11, h⟩ := bd2_e h
      refine pw_callVi 23 dX7_drop_20 rfl [.int (1 : Int32)] 1 ⟨gX7_drop_X7_found, rfl, sgV_X7_found, ⟨Nat.le_of_ble_eq_true rfl, Nat.le_of_ble_eq_true rfl⟩, ⟨Nat.le_refl _, Nat.le_refl _⟩⟩ ly_298 (by decide) la_298 rfl (k_X7_found hr11) rfl rfl (Nat.le_of_ble_eq_true rfl) ?_
      exact pw_iret dX7_drop_23 (pr_inj h)
  · have h := if_t h c2
    refine pw_ldc 9 lw_X7_drop_c67 dX7_drop_7 rfl ?_
    exact pw_iret dX7_drop_9 (pr_inj h)
theorem fi_X7_feed_7 : ∀ w ∈ wsX70, w ∈ wsX7_feed := by decide +kernel
theorem lk_X7_feed_85 : Cond.fieldLink RX7 85 (TX7 6).1 (TX7 6).2.1 (TX7 6).2.2.1 ∈ wsX7_feed := by decide +kernel
theorem lk_X7_feed_22 : Cond.fieldLink RX7 22 (TX7 5).1 (TX7 5).2.1 (TX7 5).2.2.1 ∈ wsX7_feed := by decide +kernel
theorem lw_X7_feed_c88 : Cond.constant RX7 88 (-1000003 : Int32) ∈ wsX7_feed := by decide +kernel
theorem lw_X7_feed_c67 : Cond.constant RX7 67 (-1000001 : Int32) ∈ wsX7_feed := by decide +kernel
set_option maxHeartbeats 4000000 in
set_option maxRecDepth 100000 in
theorem k_X7_feed {l : Launch} {G : Gx} {x1 : Int32} {m mF : Mm} {r : Int32}  (h : f_X7_feed x1 m = some (r, mF)) : Cn l G 1 yX7_feed wsX7_feed [.ref (G.1 + 298), .int x1] m (Qi G r mF) := by
  unfold f_X7_feed at h
  refine Cn.of (own := RX7) (lv := [(0, .ref (G.1 + 298)), (1, .int x1)]) (by decide) rfl rfl (Nat.le_of_ble_eq_true rfl) rfl ?_
  refine pw_iload_n 1 rfl rfl 1 dX7_feed_0 rfl ?_
  refine pw_iconst (v := (0 : Int32)) (by decide) 2 dX7_feed_1 rfl ?_
  refine pw_sipush (v := (255 : Int32)) (by decide) 5 dX7_feed_2 rfl ?_
  refine pw_callSi 8 dX7_feed_5 rfl [.int x1, .int (0 : Int32), .int (255 : Int32)] 3 ⟨gX7_feed_X7_in, rfl, sgS_X7_in, ⟨Nat.le_of_ble_eq_true rfl, Nat.le_of_ble_eq_true rfl⟩, ⟨Nat.le_refl _, Nat.le_refl _⟩⟩ (k_X7_in rfl) rfl rfl (Nat.le_of_ble_eq_true rfl) ?_
  refine pw_if_ne 14 11 dX7_feed_8 (by decide) rfl (fun c1 => ?_) (fun c1 => ?_)
  · have h := if_f h c1
    refine pw_aload_n 0 rfl rfl 15 dX7_feed_14 rfl ?_
    refine pw_getI 6 18 dX7_feed_15 rfl fi_X7_feed_7 lk_X7_feed_85 la_298 ly_298 (by decide) rfl (by decide) rfl ?_
    refine pw_bipush (v := (110 : Int32)) (by decide) 20 dX7_feed_18 rfl ?_
    refine pw_icmp_ne 26 23 dX7_feed_20 (by decide) rfl (fun c2 => ?_) (fun c2 => ?_)
    · have h := if_f h c2
      refine pw_aload_n 0 rfl rfl 27 dX7_feed_26 rfl ?_
      refine pw_getR 5 30 dX7_feed_27 rfl fi_X7_feed_7 lk_X7_feed_22 la_298 ly_298 (by decide) rfl (by decide) rfl rf_298_5 ?_
      refine pw_aload_n 0 rfl rfl 31 dX7_feed_30 rfl ?_
      refine pw_getI 6 34 dX7_feed_31 rfl fi_X7_feed_7 lk_X7_feed_85 la_298 ly_298 (by decide) rfl (by decide) rfl ?_
      refine pw_iload_n 1 rfl rfl 35 dX7_feed_34 rfl ?_
      obtain ⟨h6, h⟩ := gd_e h
      refine pw_iast 36 dX7_feed_35 rfl la_303 ly_303 h6 ?_
      obtain ⟨m3, em3, h⟩ := nmE_ h
      refine pw_mem em3 ?_
      refine pw_aload_n 0 rfl rfl 37 dX7_feed_36 rfl ?_
      refine pw_dup rfl 38 dX7_feed_37 rfl ?_
      refine pw_getI 6 41 dX7_feed_38 rfl fi_X7_feed_7 lk_X7_feed_85 la_298 ly_298 (by decide) rfl (by decide) rfl ?_
      refine pw_iconst (v := (1 : Int32)) (by decide) 42 dX7_feed_41 rfl ?_
      refine pw_iadd 43 dX7_feed_42 rfl ?_
      obtain ⟨v4, ev4, h⟩ := nmE_ h
      refine pw_top ev4 ?_
      refine pw_put (ty0 := tyX7) (ty := .int) 6 46 dX7_feed_43 rfl fi_X7_feed_7 tyX7_ok nmX7 lk_X7_feed_85 la_298 ly_298 (by decide) rfl (by decide) rfl rfl rfl rfl rfl ?_
      obtain ⟨m5, em5, h⟩ := nmE_ h
      refine pw_mem em5 ?_
      refine pw_aload_n 0 rfl rfl 47 dX7_feed_46 rfl ?_
      refine pw_getI 6 50 dX7_feed_47 rfl fi_X7_feed_7 lk_X7_feed_85 la_298 ly_298 (by decide) rfl (by decide) rfl ?_
      exact pw_iret dX7_feed_50 (pr_inj h)
    · have h := if_t h c2
      refine pw_ldc 25 lw_X7_feed_c88 dX7_feed_23 rfl ?_
      exact pw_iret dX7_feed_25 (pr_inj h)
  · have h := if_t h c1
    refine pw_ldc 13 lw_X7_feed_c67 dX7_feed_11 rfl ?_
    exact pw_iret dX7_feed_13 (pr_inj h)
theorem fi_X7_byteAt_7 : ∀ w ∈ wsX70, w ∈ wsX7_byteAt := by decide +kernel
theorem lk_X7_byteAt_85 : Cond.fieldLink RX7 85 (TX7 6).1 (TX7 6).2.1 (TX7 6).2.2.1 ∈ wsX7_byteAt := by decide +kernel
theorem lk_X7_byteAt_22 : Cond.fieldLink RX7 22 (TX7 5).1 (TX7 5).2.1 (TX7 5).2.2.1 ∈ wsX7_byteAt := by decide +kernel
set_option maxHeartbeats 4000000 in
set_option maxRecDepth 100000 in
theorem k_X7_byteAt {l : Launch} {G : Gx} {x1 : Int32} {m : Mm} {r : Int32}  (h : f_X7_byteAt x1 m = some r) : Cn l G 0 yX7_byteAt wsX7_byteAt [.ref (G.1 + 298), .int x1] m (Qi G r m) := by
  unfold f_X7_byteAt at h
  refine Cn.of (own := RX7) (lv := [(0, .ref (G.1 + 298)), (1, .int x1)]) (by decide) rfl rfl (Nat.le_of_ble_eq_true rfl) rfl ?_
  refine pw_iload_n 1 rfl rfl 1 dX7_byteAt_0 rfl ?_
  refine pw_aload_n 0 rfl rfl 2 dX7_byteAt_1 rfl ?_
  refine pw_getI 6 5 dX7_byteAt_2 rfl fi_X7_byteAt_7 lk_X7_byteAt_85 la_298 ly_298 (by decide) rfl (by decide) rfl ?_
  refine pw_icmp_ge 17 8 dX7_byteAt_5 (by decide) rfl (fun c1 => ?_) (fun c1 => ?_)
  · have h := if_t h c1
    refine pw_iconst (v := (-1 : Int32)) (by decide) 18 dX7_byteAt_17 rfl ?_
    exact pw_iret dX7_byteAt_18 ⟨Option.some.inj h, rfl⟩
  · have h := if_f h c1
    refine pw_aload_n 0 rfl rfl 9 dX7_byteAt_8 rfl ?_
    refine pw_getR 5 12 dX7_byteAt_9 rfl fi_X7_byteAt_7 lk_X7_byteAt_22 la_298 ly_298 (by decide) rfl (by decide) rfl rf_298_5 ?_
    refine pw_iload_n 1 rfl rfl 13 dX7_byteAt_12 rfl ?_
    obtain ⟨h2, h⟩ := gd_e h
    refine pw_iald 14 dX7_byteAt_13 rfl la_303 ly_303 h2 ?_
    refine pw_goto 18 dX7_byteAt_14 (by decide) ?_
    exact pw_iret dX7_byteAt_18 ⟨Option.some.inj h, rfl⟩
theorem fi_X7_advances_7 : ∀ w ∈ wsX70, w ∈ wsX7_advances := by decide +kernel
theorem lk_X7_advances_89 : Cond.fieldLink RX7 89 (TX7 9).1 (TX7 9).2.1 (TX7 9).2.2.1 ∈ wsX7_advances := by decide +kernel
theorem lk_X7_advances_92 : Cond.fieldLink RX7 92 (TX7 10).1 (TX7 10).2.1 (TX7 10).2.2.1 ∈ wsX7_advances := by decide +kernel
theorem lk_X7_advances_98 : Cond.fieldLink RX7 98 (TX7 12).1 (TX7 12).2.1 (TX7 12).2.2.1 ∈ wsX7_advances := by decide +kernel
theorem lk_X7_advances_101 : Cond.fieldLink RX7 101 (TX7 11).1 (TX7 11).2.1 (TX7 11).2.2.1 ∈ wsX7_advances := by decide +kernel
set_option maxHeartbeats 4000000 in
set_option maxRecDepth 100000 in
theorem kl_X7_advances_38 {l : Launch} {G : Gx}   {mF : Mm}  : ∀ (n : Nat) (m : Mm) (a0 : Mm), lp_X7_advances_38 n m = some a0 → PW G (KM l G RX7 cX7_advances 2 none wsX7_advances 1 (Qv G mF)) 112 [(0, .ref (G.1 + 298))] [] a0 → PW G (KM l G RX7 cX7_advances 2 none wsX7_advances 1 (Qv G mF)) 38 [(0, .ref (G.1 + 298))] [] m := by
  intro n
  induction n with
  | zero => intro m a0 h hk; cases h
  | succ n ih =>
    intro m a0 h hk
    have h : lb_X7_advances_38 (lp_X7_advances_38 n) m = _ := h
    unfold lb_X7_advances_38 at h
    refine pw_aload_n 0 rfl rfl 39 dX7_advances_38 rfl ?_
    refine pw_aload_n 0 rfl rfl 40 dX7_advances_39 rfl ?_
    refine pw_getI 9 43 dX7_advances_40 rfl fi_X7_advances_7 lk_X7_advances_89 la_298 ly_298 (by decide) rfl (by decide) rfl ?_
    obtain ⟨r17, hr17, h⟩ := bd1_e h
    refine pw_callVi 46 dX7_advances_43 rfl [.int (m 298 9)] 1 ⟨gX7_advances_X7_byteAt, rfl, sgV_X7_byteAt, ⟨Nat.le_of_ble_eq_true rfl, Nat.le_of_ble_eq_true rfl⟩, ⟨Nat.le_refl _, Nat.le_refl _⟩⟩ ly_298 (by decide) la_298 rfl (k_X7_byteAt hr17) rfl rfl (Nat.le_of_ble_eq_true rfl) ?_
    refine pw_bipush (v := (48 : Int32)) (by decide) 48 dX7_advances_46 rfl ?_
    refine pw_bipush (v := (57 : Int32)) (by decide) 50 dX7_advances_48 rfl ?_
    refine pw_callSi 53 dX7_advances_50 rfl [.int r17, .int (48 : Int32), .int (57 : Int32)] 3 ⟨gX7_advances_X7_in, rfl, sgS_X7_in, ⟨Nat.le_of_ble_eq_true rfl, Nat.le_of_ble_eq_true rfl⟩, ⟨Nat.le_refl _, Nat.le_refl _⟩⟩ (k_X7_in rfl) rfl rfl (Nat.le_of_ble_eq_true rfl) ?_
    refine pw_if_eq 112 56 dX7_advances_53 (by decide) rfl (fun c18 => ?_) (fun c18 => ?_)
    · have h := if_t h c18
      refine pw_sub [0] [(0, .ref (G.1 + 298))] rfl ?_
      cases h; exact hk
    · have h := if_f h c18
      refine pw_aload_n 0 rfl rfl 57 dX7_advances_56 rfl ?_
      refine pw_aload_n 0 rfl rfl 58 dX7_advances_57 rfl ?_
      refine pw_getI 9 61 dX7_advances_58 rfl fi_X7_advances_7 lk_X7_advances_89 la_298 ly_298 (by decide) rfl (by decide) rfl ?_
      refine pw_aload_n 0 rfl rfl 62 dX7_advances_61 rfl ?_
      refine pw_getI 10 65 dX7_advances_62 rfl fi_X7_advances_7 lk_X7_advances_92 la_298 ly_298 (by decide) rfl (by decide) rfl ?_
      refine pw_isub 66 dX7_advances_65 rfl ?_
      refine pw_iconst (v := (2 : Int32)) (by decide) 67 dX7_advances_66 rfl ?_
      obtain ⟨j21, qj21, h⟩ := bd1_e h
      have hJ96_j21 : PW G (KM l G RX7 cX7_advances 2 none wsX7_advances 1 (Qv G mF)) 96 [(0, .ref (G.1 + 298))] [.int j21, .ref (G.1 + 298)] m := by
        refine pw_put (ty0 := tyX7) (ty := .int) 12 99 dX7_advances_96 rfl fi_X7_advances_7 tyX7_ok nmX7 lk_X7_advances_98 la_298 ly_298 (by decide) rfl (by decide) rfl rfl rfl rfl rfl ?_
        obtain ⟨m22, em22, h⟩ := nmE_ h
        refine pw_mem em22 ?_
        refine pw_aload_n 0 rfl rfl 100 dX7_advances_99 rfl ?_
        refine pw_dup rfl 101 dX7_advances_100 rfl ?_
        refine pw_getI 9 104 dX7_advances_101 rfl fi_X7_advances_7 lk_X7_advances_89 la_298 ly_298 (by decide) rfl (by decide) rfl ?_
        refine pw_iconst (v := (1 : Int32)) (by decide) 105 dX7_advances_104 rfl ?_
        refine pw_iadd 106 dX7_advances_105 rfl ?_
        obtain ⟨v23, ev23, h⟩ := nmE_ h
        refine pw_top ev23 ?_
        refine pw_put (ty0 := tyX7) (ty := .int) 9 109 dX7_advances_106 rfl fi_X7_advances_7 tyX7_ok nmX7 lk_X7_advances_89 la_298 ly_298 (by decide) rfl (by decide) rfl rfl rfl rfl rfl ?_
        obtain ⟨m24, em24, h⟩ := nmE_ h
        refine pw_mem em24 ?_
        refine pw_goto 38 dX7_advances_109 (by decide) ?_
        refine pw_sub [0] [(0, .ref (G.1 + 298))] rfl ?_
        exact ih m24 a0 h hk
      refine pw_icmp_ge 92 70 dX7_advances_67 (by decide) rfl (fun c19 => ?_) (fun c19 => ?_)
      · have qj21 := if_t qj21 c19
        refine pw_aload_n 0 rfl rfl 93 dX7_advances_92 rfl ?_
        refine pw_getI 12 96 dX7_advances_93 rfl fi_X7_advances_7 lk_X7_advances_98 la_298 ly_298 (by decide) rfl (by decide) rfl ?_
        refine pw_sub [0] [(0, .ref (G.1 + 298))] rfl ?_
        cases qj21; exact hJ96_j21
      · have qj21 := if_f qj21 c19
        refine pw_bipush (v := (10 : Int32)) (by decide) 72 dX7_advances_70 rfl ?_
        refine pw_aload_n 0 rfl rfl 73 dX7_advances_72 rfl ?_
        refine pw_getI 12 76 dX7_advances_73 rfl fi_X7_advances_7 lk_X7_advances_98 la_298 ly_298 (by decide) rfl (by decide) rfl ?_
        refine pw_imul 77 dX7_advances_76 rfl ?_
        refine pw_aload_n 0 rfl rfl 78 dX7_advances_77 rfl ?_
        refine pw_aload_n 0 rfl rfl 79 dX7_advances_78 rfl ?_
        refine pw_getI 9 82 dX7_advances_79 rfl fi_X7_advances_7 lk_X7_advances_89 la_298 ly_298 (by decide) rfl (by decide) rfl ?_
        obtain ⟨r20, hr20, qj21⟩ := bd1_e qj21
        refine pw_callVi 85 dX7_advances_82 rfl [.int (m 298 9)] 1 ⟨gX7_advances_X7_byteAt, rfl, sgV_X7_byteAt, ⟨Nat.le_of_ble_eq_true rfl, Nat.le_of_ble_eq_true rfl⟩, ⟨Nat.le_refl _, Nat.le_refl _⟩⟩ ly_298 (by decide) la_298 rfl (k_X7_byteAt hr20) rfl rfl (Nat.le_of_ble_eq_true rfl) ?_
        refine pw_iadd 86 dX7_advances_85 rfl ?_
        refine pw_bipush (v := (48 : Int32)) (by decide) 88 dX7_advances_86 rfl ?_
        refine pw_isub 89 dX7_advances_88 rfl ?_
        refine pw_goto 96 dX7_advances_89 (by decide) ?_
        refine pw_sub [0] [(0, .ref (G.1 + 298))] rfl ?_
        cases qj21; exact hJ96_j21
set_option maxHeartbeats 4000000 in
set_option maxRecDepth 100000 in
theorem k_X7_advances {l : Launch} {G : Gx}  {m mF : Mm}   (h : f_X7_advances m = some mF) : Cn l G 1 yX7_advances wsX7_advances [.ref (G.1 + 298)] m (Qv G mF) := by
  unfold f_X7_advances at h
  refine Cn.of (own := RX7) (lv := [(0, .ref (G.1 + 298))]) (by decide) rfl rfl (Nat.le_of_ble_eq_true rfl) rfl ?_
  refine pw_aload_n 0 rfl rfl 1 dX7_advances_0 rfl ?_
  refine pw_aload_n 0 rfl rfl 2 dX7_advances_1 rfl ?_
  refine pw_getI 9 5 dX7_advances_2 rfl fi_X7_advances_7 lk_X7_advances_89 la_298 ly_298 (by decide) rfl (by decide) rfl ?_
  obtain ⟨v1, ev1, h⟩ := nmE_ h
  refine pw_top ev1 ?_
  refine pw_put (ty0 := tyX7) (ty := .int) 10 8 dX7_advances_5 rfl fi_X7_advances_7 tyX7_ok nmX7 lk_X7_advances_92 la_298 ly_298 (by decide) rfl (by decide) rfl rfl rfl rfl rfl ?_
  obtain ⟨m2, em2, h⟩ := nmE_ h
  refine pw_mem em2 ?_
  refine pw_aload_n 0 rfl rfl 9 dX7_advances_8 rfl ?_
  refine pw_aload_n 0 rfl rfl 10 dX7_advances_9 rfl ?_
  refine pw_getI 9 13 dX7_advances_10 rfl fi_X7_advances_7 lk_X7_advances_89 la_298 ly_298 (by decide) rfl (by decide) rfl ?_
  obtain ⟨r3, hr3, h⟩ := bd1_e h
  refine pw_callVi 16 dX7_advances_13 rfl [.int (m2 298 9)] 1 ⟨gX7_advances_X7_byteAt, rfl, sgV_X7_byteAt, ⟨Nat.le_of_ble_eq_true rfl, Nat.le_of_ble_eq_true rfl⟩, ⟨Nat.le_refl _, Nat.le_refl _⟩⟩ ly_298 (by decide) la_298 rfl (k_X7_byteAt hr3) rfl rfl (Nat.le_of_ble_eq_true rfl) ?_
  refine pw_istore_n (hf := rfl) [(1, .int r3), (0, .ref (G.1 + 298))] 17 dX7_advances_16 rfl (Nat.le_of_ble_eq_true rfl) rfl ?_
  refine pw_aload_n 1 rfl rfl 18 dX7_advances_17 rfl ?_
  refine pw_iload_n 0 rfl rfl 19 dX7_advances_18 rfl ?_
  refine pw_put (ty0 := tyX7) (ty := .int) 12 22 dX7_advances_19 rfl fi_X7_advances_7 tyX7_ok nmX7 lk_X7_advances_98 la_298 ly_298 (by decide) rfl (by decide) rfl rfl rfl rfl rfl ?_
  obtain ⟨m4, em4, h⟩ := nmE_ h
  refine pw_mem em4 ?_
  refine pw_iload_n 0 rfl rfl 23 dX7_advances_22 rfl ?_
  refine pw_bipush (v := (48 : Int32)) (by decide) 25 dX7_advances_23 rfl ?_
  refine pw_bipush (v := (57 : Int32)) (by decide) 27 dX7_advances_25 rfl ?_
  refine pw_callSi 30 dX7_advances_27 rfl [.int r3, .int (48 : Int32), .int (57 : Int32)] 3 ⟨gX7_advances_X7_in, rfl, sgS_X7_in, ⟨Nat.le_of_ble_eq_true rfl, Nat.le_of_ble_eq_true rfl⟩, ⟨Nat.le_refl _, Nat.le_refl _⟩⟩ (k_X7_in rfl) rfl rfl (Nat.le_of_ble_eq_true rfl) ?_
  refine pw_if_eq 135 33 dX7_advances_30 (by decide) rfl (fun c5 => ?_) (fun c5 => ?_)
  · have h := if_t h c5
    refine pw_aload_n 1 rfl rfl 136 dX7_advances_135 rfl ?_
    refine pw_iload_n 0 rfl rfl 137 dX7_advances_136 rfl ?_
    obtain ⟨j10, ej10, h⟩ := nmE_ h
    have hJ180_j10 : PW G (KM l G RX7 cX7_advances 2 none wsX7_advances 1 (Qv G mF)) 180 [(0, .ref (G.1 + 298))] [.int j10, .ref (G.1 + 298)] m4 := by
      refine pw_put (ty0 := tyX7) (ty := .int) 11 183 dX7_advances_180 rfl fi_X7_advances_7 tyX7_ok nmX7 lk_X7_advances_101 la_298 ly_298 (by decide) rfl (by decide) rfl rfl rfl rfl rfl ?_
      obtain ⟨m11, em11, h⟩ := nmE_ h
      refine pw_mem em11 ?_
      refine pw_aload_n 0 rfl rfl 184 dX7_advances_183 rfl ?_
      refine pw_dup rfl 185 dX7_advances_184 rfl ?_
      refine pw_getI 9 188 dX7_advances_185 rfl fi_X7_advances_7 lk_X7_advances_89 la_298 ly_298 (by decide) rfl (by decide) rfl ?_
      refine pw_aload_n 0 rfl rfl 189 dX7_advances_188 rfl ?_
      refine pw_getI 11 192 dX7_advances_189 rfl fi_X7_advances_7 lk_X7_advances_101 la_298 ly_298 (by decide) rfl (by decide) rfl ?_
      obtain ⟨j13, ej13, h⟩ := nmE_ h
      have hJ200_j13 : PW G (KM l G RX7 cX7_advances 2 none wsX7_advances 1 (Qv G mF)) 200 [] [.int j13, .int (m11 298 9), .ref (G.1 + 298)] m11 := by
        refine pw_iadd 201 dX7_advances_200 rfl ?_
        obtain ⟨v14, ev14, h⟩ := nmE_ h
        refine pw_top ev14 ?_
        refine pw_put (ty0 := tyX7) (ty := .int) 9 204 dX7_advances_201 rfl fi_X7_advances_7 tyX7_ok nmX7 lk_X7_advances_89 la_298 ly_298 (by decide) rfl (by decide) rfl rfl rfl rfl rfl ?_
        obtain ⟨m15, em15, h⟩ := nmE_ h
        refine pw_mem em15 ?_
        exact pw_vret dX7_advances_204 (Option.some.inj h)
      refine pw_if_ne 199 195 dX7_advances_192 (by decide) rfl (fun c12 => ?_) (fun c12 => ?_)
      · have ej13 := if_fv ej13 c12
        refine pw_iconst (v := (1 : Int32)) (by decide) 200 dX7_advances_199 rfl ?_
        refine pw_sub [] [] rfl ?_
        subst ej13; exact hJ200_j13
      · have ej13 := if_tv ej13 c12
        refine pw_iconst (v := (0 : Int32)) (by decide) 196 dX7_advances_195 rfl ?_
        refine pw_goto 200 dX7_advances_196 (by decide) ?_
        refine pw_sub [] [] rfl ?_
        subst ej13; exact hJ200_j13
    refine pw_if_ge 144 140 dX7_advances_137 (by decide) rfl (fun c6 => ?_) (fun c6 => ?_)
    · have ej10 := if_tv ej10 c6
      refine pw_iload_n 0 rfl rfl 145 dX7_advances_144 rfl ?_
      refine pw_bipush (v := (97 : Int32)) (by decide) 147 dX7_advances_145 rfl ?_
      refine pw_bipush (v := (122 : Int32)) (by decide) 149 dX7_advances_147 rfl ?_
      refine pw_callSi 152 dX7_advances_149 rfl [.int r3, .int (97 : Int32), .int (122 : Int32)] 3 ⟨gX7_advances_X7_in, rfl, sgS_X7_in, ⟨Nat.le_of_ble_eq_true rfl, Nat.le_of_ble_eq_true rfl⟩, ⟨Nat.le_refl _, Nat.le_refl _⟩⟩ (k_X7_in rfl) rfl rfl (Nat.le_of_ble_eq_true rfl) ?_
      refine pw_if_eq 159 155 dX7_advances_152 (by decide) rfl (fun c7 => ?_) (fun c7 => ?_)
      · have ej10 := if_tv ej10 c7
        refine pw_iload_n 0 rfl rfl 160 dX7_advances_159 rfl ?_
        refine pw_bipush (v := (44 : Int32)) (by decide) 162 dX7_advances_160 rfl ?_
        refine pw_icmp_ne 169 165 dX7_advances_162 (by decide) rfl (fun c8 => ?_) (fun c8 => ?_)
        · have ej10 := if_fv ej10 c8
          refine pw_iload_n 0 rfl rfl 170 dX7_advances_169 rfl ?_
          refine pw_bipush (v := (59 : Int32)) (by decide) 172 dX7_advances_170 rfl ?_
          refine pw_icmp_ne 179 175 dX7_advances_172 (by decide) rfl (fun c9 => ?_) (fun c9 => ?_)
          · have ej10 := if_fv ej10 c9
            refine pw_iconst (v := (5 : Int32)) (by decide) 180 dX7_advances_179 rfl ?_
            refine pw_sub [1] [(0, .ref (G.1 + 298))] rfl ?_
            subst ej10; exact hJ180_j10
          · have ej10 := if_tv ej10 c9
            refine pw_iconst (v := (4 : Int32)) (by decide) 176 dX7_advances_175 rfl ?_
            refine pw_goto 180 dX7_advances_176 (by decide) ?_
            refine pw_sub [1] [(0, .ref (G.1 + 298))] rfl ?_
            subst ej10; exact hJ180_j10
        · have ej10 := if_tv ej10 c8
          refine pw_iconst (v := (3 : Int32)) (by decide) 166 dX7_advances_165 rfl ?_
          refine pw_goto 180 dX7_advances_166 (by decide) ?_
          refine pw_sub [1] [(0, .ref (G.1 + 298))] rfl ?_
          subst ej10; exact hJ180_j10
      · have ej10 := if_fv ej10 c7
        refine pw_iconst (v := (1 : Int32)) (by decide) 156 dX7_advances_155 rfl ?_
        refine pw_goto 180 dX7_advances_156 (by decide) ?_
        refine pw_sub [1] [(0, .ref (G.1 + 298))] rfl ?_
        subst ej10; exact hJ180_j10
    · have ej10 := if_fv ej10 c6
      refine pw_iconst (v := (0 : Int32)) (by decide) 141 dX7_advances_140 rfl ?_
      refine pw_goto 180 dX7_advances_141 (by decide) ?_
      refine pw_sub [1] [(0, .ref (G.1 + 298))] rfl ?_
      subst ej10; exact hJ180_j10
  · have h := if_f h c5
    refine pw_aload_n 1 rfl rfl 34 dX7_advances_33 rfl ?_
    refine pw_iconst (v := (0 : Int32)) (by decide) 35 dX7_advances_34 rfl ?_
    refine pw_put (ty0 := tyX7) (ty := .int) 12 38 dX7_advances_35 rfl fi_X7_advances_7 tyX7_ok nmX7 lk_X7_advances_98 la_298 ly_298 (by decide) rfl (by decide) rfl rfl rfl rfl rfl ?_
    obtain ⟨m16, em16, h⟩ := nmE_ h
    refine pw_mem em16 ?_
    obtain ⟨m25, h26, h⟩ := bd1_e h
    have hL38_h26 : PW G (KM l G RX7 cX7_advances 2 none wsX7_advances 1 (Qv G mF)) 112 [(0, .ref (G.1 + 298))] [] m25 := by
      refine pw_aload_n 0 rfl rfl 113 dX7_advances_112 rfl ?_
      refine pw_aload_n 0 rfl rfl 114 dX7_advances_113 rfl ?_
      refine pw_getI 9 117 dX7_advances_114 rfl fi_X7_advances_7 lk_X7_advances_89 la_298 ly_298 (by decide) rfl (by decide) rfl ?_
      refine pw_aload_n 0 rfl rfl 118 dX7_advances_117 rfl ?_
      refine pw_getI 10 121 dX7_advances_118 rfl fi_X7_advances_7 lk_X7_advances_92 la_298 ly_298 (by decide) rfl (by decide) rfl ?_
      refine pw_isub 122 dX7_advances_121 rfl ?_
      refine pw_iconst (v := (3 : Int32)) (by decide) 123 dX7_advances_122 rfl ?_
      obtain ⟨j28, ej28, h⟩ := nmE_ h
      have hJ131_j28 : PW G (KM l G RX7 cX7_advances 2 none wsX7_advances 1 (Qv G mF)) 131 [] [.int j28, .ref (G.1 + 298)] m25 := by
        refine pw_put (ty0 := tyX7) (ty := .int) 11 134 dX7_advances_131 rfl fi_X7_advances_7 tyX7_ok nmX7 lk_X7_advances_101 la_298 ly_298 (by decide) rfl (by decide) rfl rfl rfl rfl rfl ?_
        obtain ⟨m29, em29, h⟩ := nmE_ h
        refine pw_mem em29 ?_
        exact pw_vret dX7_advances_134 (Option.some.inj h)
      refine pw_icmp_ge 130 126 dX7_advances_123 (by decide) rfl (fun c27 => ?_) (fun c27 => ?_)
      · have ej28 := if_tv ej28 c27
        refine pw_iconst (v := (5 : Int32)) (by decide) 131 dX7_advances_130 rfl ?_
        refine pw_sub [] [] rfl ?_
        subst ej28; exact hJ131_j28
      · have ej28 := if_fv ej28 c27
        refine pw_iconst (v := (2 : Int32)) (by decide) 127 dX7_advances_126 rfl ?_
        refine pw_goto 131 dX7_advances_127 (by decide) ?_
        refine pw_sub [] [] rfl ?_
        subst ej28; exact hJ131_j28
    refine pw_sub [1] [(0, .ref (G.1 + 298))] rfl ?_
    exact kl_X7_advances_38 FU m16 m25 h26 hL38_h26
theorem fi_X7_isWell_7 : ∀ w ∈ wsX70, w ∈ wsX7_isWell := by decide +kernel
theorem lk_X7_isWell_104 : Cond.fieldLink RX7 104 (TX7 8).1 (TX7 8).2.1 (TX7 8).2.2.1 ∈ wsX7_isWell := by decide +kernel
set_option maxHeartbeats 4000000 in
set_option maxRecDepth 100000 in
theorem k_X7_isWell {l : Launch} {G : Gx}  {m : Mm} {r : Int32}  (h : f_X7_isWell m = r) : Cn l G 0 yX7_isWell wsX7_isWell [.ref (G.1 + 298)] m (Qi G r m) := by
  unfold f_X7_isWell at h
  refine Cn.of (own := RX7) (lv := [(0, .ref (G.1 + 298))]) (by decide) rfl rfl (Nat.le_of_ble_eq_true rfl) rfl ?_
  refine pw_aload_n 0 rfl rfl 1 dX7_isWell_0 rfl ?_
  refine pw_getI 8 4 dX7_isWell_1 rfl fi_X7_isWell_7 lk_X7_isWell_104 la_298 ly_298 (by decide) rfl (by decide) rfl ?_
  refine pw_if_ge 11 7 dX7_isWell_4 (by decide) rfl (fun c1 => ?_) (fun c1 => ?_)
  · have h := if_t h c1
    refine pw_iconst (v := (0 : Int32)) (by decide) 12 dX7_isWell_11 rfl ?_
    exact pw_zret dX7_isWell_12 (by decide) ⟨h, rfl⟩
  · have h := if_f h c1
    refine pw_iconst (v := (1 : Int32)) (by decide) 8 dX7_isWell_7 rfl ?_
    refine pw_goto 12 dX7_isWell_8 (by decide) ?_
    exact pw_zret dX7_isWell_12 (by decide) ⟨h, rfl⟩
theorem fi_X7_takes_7 : ∀ w ∈ wsX70, w ∈ wsX7_takes := by decide +kernel
theorem lk_X7_takes_98 : Cond.fieldLink RX7 98 (TX7 12).1 (TX7 12).2.1 (TX7 12).2.2.1 ∈ wsX7_takes := by decide +kernel
theorem lk_X7_takes_92 : Cond.fieldLink RX7 92 (TX7 10).1 (TX7 10).2.1 (TX7 10).2.2.1 ∈ wsX7_takes := by decide +kernel
theorem lk_X7_takes_104 : Cond.fieldLink RX7 104 (TX7 8).1 (TX7 8).2.1 (TX7 8).2.2.1 ∈ wsX7_takes := by decide +kernel
theorem lk_X7_takes_111 : Cond.fieldLink RX7 111 (TX7 7).1 (TX7 7).2.1 (TX7 7).2.2.1 ∈ wsX7_takes := by decide +kernel
set_option maxHeartbeats 4000000 in
set_option maxRecDepth 100000 in
theorem k_X7_takes {l : Launch} {G : Gx} {x1 : Int32} {x2 : Int32} {m mF : Mm} {r : Int32}  (h : f_X7_takes x1 x2 m = some (r, mF)) : Cn l G 2 yX7_takes wsX7_takes [.ref (G.1 + 298), .int x1, .int x2] m (Qi G r mF) := by
  unfold f_X7_takes at h
  refine Cn.of (own := RX7) (lv := [(0, .ref (G.1 + 298)), (1, .int x1), (2, .int x2)]) (by decide) rfl rfl (Nat.le_of_ble_eq_true rfl) rfl ?_
  refine pw_aload_n 0 rfl rfl 1 dX7_takes_0 rfl ?_
  refine pw_callVi 4 dX7_takes_1 rfl [] 0 ⟨gX7_takes_X7_isWell, rfl, sgV_X7_isWell, ⟨Nat.le_of_ble_eq_true rfl, Nat.le_of_ble_eq_true rfl⟩, ⟨Nat.le_refl _, Nat.le_refl _⟩⟩ ly_298 (by decide) la_298 rfl (k_X7_isWell rfl) rfl rfl (Nat.le_of_ble_eq_true rfl) ?_
  refine pw_if_ne 9 7 dX7_takes_4 (by decide) rfl (fun c1 => ?_) (fun c1 => ?_)
  · have h := if_f h c1
    refine pw_iload_n 1 rfl rfl 10 dX7_takes_9 rfl ?_
    refine pw_if_ne 28 13 dX7_takes_10 (by decide) rfl (fun c2 => ?_) (fun c2 => ?_)
    · have h := if_f h c2
      refine pw_aload_n 0 rfl rfl 29 dX7_takes_28 rfl ?_
      refine pw_getI 12 32 dX7_takes_29 rfl fi_X7_takes_7 lk_X7_takes_98 la_298 ly_298 (by decide) rfl (by decide) rfl ?_
      obtain ⟨v3, ev3, h⟩ := nmE_ h
      refine pw_top ev3 ?_
      refine pw_istore_n (hf := rfl) [(3, .int v3), (0, .ref (G.1 + 298)), (1, .int x1), (2, .int x2)] 33 dX7_takes_32 rfl (Nat.le_of_ble_eq_true rfl) rfl ?_
      refine pw_aload_n 1 rfl rfl 34 dX7_takes_33 rfl ?_
      obtain ⟨m4, hm4, h⟩ := bd1_e h
      refine pw_callVv 37 dX7_takes_34 rfl [] 0 ⟨gX7_takes_X7_advances, rfl, sgV_X7_advances, ⟨Nat.le_of_ble_eq_true rfl, Nat.le_of_ble_eq_true rfl⟩, ⟨Nat.le_refl _, Nat.le_refl _⟩⟩ ly_298 (by decide) la_298 rfl (k_X7_advances hm4) rfl rfl (Nat.le_of_ble_eq_true rfl) ?_
      refine pw_iload_n 0 rfl rfl 38 dX7_takes_37 rfl ?_
      exact pw_iret dX7_takes_38 (pr_inj h)
    · have h := if_t h c2
      refine pw_aload_n 0 rfl rfl 14 dX7_takes_13 rfl ?_
      refine pw_aload_n 0 rfl rfl 15 dX7_takes_14 rfl ?_
      refine pw_getI 10 18 dX7_takes_15 rfl fi_X7_takes_7 lk_X7_takes_92 la_298 ly_298 (by decide) rfl (by decide) rfl ?_
      obtain ⟨v5, ev5, h⟩ := nmE_ h
      refine pw_top ev5 ?_
      refine pw_put (ty0 := tyX7) (ty := .int) 8 21 dX7_takes_18 rfl fi_X7_takes_7 tyX7_ok nmX7 lk_X7_takes_104 la_298 ly_298 (by decide) rfl (by decide) rfl rfl rfl rfl rfl ?_
      obtain ⟨m6, em6, h⟩ := nmE_ h
      refine pw_mem em6 ?_
      refine pw_aload_n 0 rfl rfl 22 dX7_takes_21 rfl ?_
      refine pw_iload_n 2 rfl rfl 23 dX7_takes_22 rfl ?_
      refine pw_put (ty0 := tyX7) (ty := .int) 7 26 dX7_takes_23 rfl fi_X7_takes_7 tyX7_ok nmX7 lk_X7_takes_111 la_298 ly_298 (by decide) rfl (by decide) rfl rfl rfl rfl rfl ?_
      obtain ⟨m7, em7, h⟩ := nmE_ h
      refine pw_mem em7 ?_
      refine pw_iconst (v := (0 : Int32)) (by decide) 27 dX7_takes_26 rfl ?_
      exact pw_iret dX7_takes_27 (pr_inj h)
  · have h := if_t h c1
    refine pw_iconst (v := (0 : Int32)) (by decide) 8 dX7_takes_7 rfl ?_
    exact pw_iret dX7_takes_8 (pr_inj h)
theorem fi_X7_figure_7 : ∀ w ∈ wsX70, w ∈ wsX7_figure := by decide +kernel
theorem lk_X7_figure_98 : Cond.fieldLink RX7 98 (TX7 12).1 (TX7 12).2.1 (TX7 12).2.2.1 ∈ wsX7_figure := by decide +kernel
theorem lk_X7_figure_101 : Cond.fieldLink RX7 101 (TX7 11).1 (TX7 11).2.1 (TX7 11).2.2.1 ∈ wsX7_figure := by decide +kernel
set_option maxHeartbeats 4000000 in
set_option maxRecDepth 100000 in
theorem k_X7_figure {l : Launch} {G : Gx} {x1 : Int32} {x2 : Int32} {m mF : Mm} {r : Int32}  (h : f_X7_figure x1 x2 m = some (r, mF)) : Cn l G 3 yX7_figure wsX7_figure [.ref (G.1 + 298), .int x1, .int x2] m (Qi G r mF) := by
  unfold f_X7_figure at h
  refine Cn.of (own := RX7) (lv := [(0, .ref (G.1 + 298)), (1, .int x1), (2, .int x2)]) (by decide) rfl rfl (Nat.le_of_ble_eq_true rfl) rfl ?_
  refine pw_aload_n 0 rfl rfl 1 dX7_figure_0 rfl ?_
  refine pw_callVi 4 dX7_figure_1 rfl [] 0 ⟨gX7_figure_X7_isWell, rfl, sgV_X7_isWell, ⟨Nat.le_of_ble_eq_true rfl, Nat.le_of_ble_eq_true rfl⟩, ⟨Nat.le_refl _, Nat.le_refl _⟩⟩ ly_298 (by decide) la_298 rfl (k_X7_isWell rfl) rfl rfl (Nat.le_of_ble_eq_true rfl) ?_
  refine pw_if_eq 22 7 dX7_figure_4 (by decide) rfl (fun c1 => ?_) (fun c1 => ?_)
  · have h := if_t h c1
    refine pw_aload_n 0 rfl rfl 23 dX7_figure_22 rfl ?_
    refine pw_aload_n 0 rfl rfl 24 dX7_figure_23 rfl ?_
    refine pw_getI 12 27 dX7_figure_24 rfl fi_X7_figure_7 lk_X7_figure_98 la_298 ly_298 (by decide) rfl (by decide) rfl ?_
    refine pw_iload_n 1 rfl rfl 28 dX7_figure_27 rfl ?_
    refine pw_iload_n 2 rfl rfl 29 dX7_figure_28 rfl ?_
    refine pw_callSi 32 dX7_figure_29 rfl [.int (m 298 12), .int x1, .int x2] 3 ⟨gX7_figure_X7_in, rfl, sgS_X7_in, ⟨Nat.le_of_ble_eq_true rfl, Nat.le_of_ble_eq_true rfl⟩, ⟨Nat.le_refl _, Nat.le_refl _⟩⟩ (k_X7_in rfl) rfl rfl (Nat.le_of_ble_eq_true rfl) ?_
    refine pw_iconst (v := (2 : Int32)) (by decide) 33 dX7_figure_32 rfl ?_
    obtain ⟨r3, m2, hr3, h⟩ := bd2_e h
    refine pw_callVi 36 dX7_figure_33 rfl [.int (f_X7_in (m 298 12) x1 x2), .int (2 : Int32)] 2 ⟨gX7_figure_X7_takes, rfl, sgV_X7_takes, ⟨Nat.le_of_ble_eq_true rfl, Nat.le_of_ble_eq_true rfl⟩, ⟨Nat.le_refl _, Nat.le_refl _⟩⟩ ly_298 (by decide) la_298 rfl (k_X7_takes hr3) rfl rfl (Nat.le_of_ble_eq_true rfl) ?_
    exact pw_iret dX7_figure_36 (pr_inj h)
  · have h := if_f h c1
    refine pw_aload_n 0 rfl rfl 8 dX7_figure_7 rfl ?_
    refine pw_getI 11 11 dX7_figure_8 rfl fi_X7_figure_7 lk_X7_figure_101 la_298 ly_298 (by decide) rfl (by decide) rfl ?_
    refine pw_iconst (v := (2 : Int32)) (by decide) 12 dX7_figure_11 rfl ?_
    refine pw_icmp_eq 22 15 dX7_figure_12 (by decide) rfl (fun c4 => ?_) (fun c4 => ?_)
    · have h := if_t h c4
      refine pw_aload_n 0 rfl rfl 23 dX7_figure_22 rfl ?_
      refine pw_aload_n 0 rfl rfl 24 dX7_figure_23 rfl ?_
      refine pw_getI 12 27 dX7_figure_24 rfl fi_X7_figure_7 lk_X7_figure_98 la_298 ly_298 (by decide) rfl (by decide) rfl ?_
      refine pw_iload_n 1 rfl rfl 28 dX7_figure_27 rfl ?_
      refine pw_iload_n 2 rfl rfl 29 dX7_figure_28 rfl ?_
      refine pw_callSi 32 dX7_figure_29 rfl [.int (m 298 12), .int x1, .int x2] 3 ⟨gX7_figure_X7_in, rfl, sgS_X7_in, ⟨Nat.le_of_ble_eq_true rfl, Nat.le_of_ble_eq_true rfl⟩, ⟨Nat.le_refl _, Nat.le_refl _⟩⟩ (k_X7_in rfl) rfl rfl (Nat.le_of_ble_eq_true rfl) ?_
      refine pw_iconst (v := (2 : Int32)) (by decide) 33 dX7_figure_32 rfl ?_
      obtain ⟨r6, m5, hr6, h⟩ := bd2_e h
      refine pw_callVi 36 dX7_figure_33 rfl [.int (f_X7_in (m 298 12) x1 x2), .int (2 : Int32)] 2 ⟨gX7_figure_X7_takes, rfl, sgV_X7_takes, ⟨Nat.le_of_ble_eq_true rfl, Nat.le_of_ble_eq_true rfl⟩, ⟨Nat.le_refl _, Nat.le_refl _⟩⟩ ly_298 (by decide) la_298 rfl (k_X7_takes hr6) rfl rfl (Nat.le_of_ble_eq_true rfl) ?_
      exact pw_iret dX7_figure_36 (pr_inj h)
    · have h := if_f h c4
      refine pw_aload_n 0 rfl rfl 16 dX7_figure_15 rfl ?_
      refine pw_iconst (v := (0 : Int32)) (by decide) 17 dX7_figure_16 rfl ?_
      refine pw_iconst (v := (1 : Int32)) (by decide) 18 dX7_figure_17 rfl ?_
      obtain ⟨r8, m7, hr8, h⟩ := bd2_e h
      refine pw_callVi 21 dX7_figure_18 rfl [.int (0 : Int32), .int (1 : Int32)] 2 ⟨gX7_figure_X7_takes, rfl, sgV_X7_takes, ⟨Nat.le_of_ble_eq_true rfl, Nat.le_of_ble_eq_true rfl⟩, ⟨Nat.le_refl _, Nat.le_refl _⟩⟩ ly_298 (by decide) la_298 rfl (k_X7_takes hr8) rfl rfl (Nat.le_of_ble_eq_true rfl) ?_
      exact pw_iret dX7_figure_21 (pr_inj h)
set_option maxHeartbeats 4000000 in
set_option maxRecDepth 100000 in
theorem k_X7_kindOf {l : Launch} {G : Gx} {x0 : Int32} {m : Mm} {r : Int32}  (h : f_X7_kindOf x0 = r) : Cn l G 0 yX7_kindOf wsX7_kindOf [.int x0] m (Qi G r m) := by
  unfold f_X7_kindOf at h
  refine Cn.of (own := RX7) (lv := [(0, .int x0)]) (by decide) rfl rfl (Nat.le_of_ble_eq_true rfl) rfl ?_
  refine pw_iload_n 0 rfl rfl 1 dX7_kindOf_0 rfl ?_
  refine pw_bipush (v := (97 : Int32)) (by decide) 3 dX7_kindOf_1 rfl ?_
  refine pw_icmp_ne 10 6 dX7_kindOf_3 (by decide) rfl (fun c1 => ?_) (fun c1 => ?_)
  · have h := if_f h c1
    refine pw_iload_n 0 rfl rfl 11 dX7_kindOf_10 rfl ?_
    refine pw_bipush (v := (114 : Int32)) (by decide) 13 dX7_kindOf_11 rfl ?_
    refine pw_icmp_ne 20 16 dX7_kindOf_13 (by decide) rfl (fun c2 => ?_) (fun c2 => ?_)
    · have h := if_f h c2
      refine pw_iload_n 0 rfl rfl 21 dX7_kindOf_20 rfl ?_
      refine pw_bipush (v := (99 : Int32)) (by decide) 23 dX7_kindOf_21 rfl ?_
      refine pw_icmp_ne 30 26 dX7_kindOf_23 (by decide) rfl (fun c3 => ?_) (fun c3 => ?_)
      · have h := if_f h c3
        refine pw_iload_n 0 rfl rfl 31 dX7_kindOf_30 rfl ?_
        refine pw_bipush (v := (109 : Int32)) (by decide) 33 dX7_kindOf_31 rfl ?_
        refine pw_icmp_ne 40 36 dX7_kindOf_33 (by decide) rfl (fun c4 => ?_) (fun c4 => ?_)
        · have h := if_f h c4
          refine pw_iload_n 0 rfl rfl 41 dX7_kindOf_40 rfl ?_
          refine pw_bipush (v := (111 : Int32)) (by decide) 43 dX7_kindOf_41 rfl ?_
          refine pw_icmp_ne 50 46 dX7_kindOf_43 (by decide) rfl (fun c5 => ?_) (fun c5 => ?_)
          · have h := if_f h c5
            refine pw_iconst (v := (0 : Int32)) (by decide) 51 dX7_kindOf_50 rfl ?_
            exact pw_iret dX7_kindOf_51 ⟨h, rfl⟩
          · have h := if_t h c5
            refine pw_iconst (v := (5 : Int32)) (by decide) 47 dX7_kindOf_46 rfl ?_
            refine pw_goto 51 dX7_kindOf_47 (by decide) ?_
            exact pw_iret dX7_kindOf_51 ⟨h, rfl⟩
        · have h := if_t h c4
          refine pw_iconst (v := (4 : Int32)) (by decide) 37 dX7_kindOf_36 rfl ?_
          refine pw_goto 51 dX7_kindOf_37 (by decide) ?_
          exact pw_iret dX7_kindOf_51 ⟨h, rfl⟩
      · have h := if_t h c3
        refine pw_iconst (v := (3 : Int32)) (by decide) 27 dX7_kindOf_26 rfl ?_
        refine pw_goto 51 dX7_kindOf_27 (by decide) ?_
        exact pw_iret dX7_kindOf_51 ⟨h, rfl⟩
    · have h := if_t h c2
      refine pw_iconst (v := (2 : Int32)) (by decide) 17 dX7_kindOf_16 rfl ?_
      refine pw_goto 51 dX7_kindOf_17 (by decide) ?_
      exact pw_iret dX7_kindOf_51 ⟨h, rfl⟩
  · have h := if_t h c1
    refine pw_iconst (v := (1 : Int32)) (by decide) 7 dX7_kindOf_6 rfl ?_
    refine pw_goto 51 dX7_kindOf_7 (by decide) ?_
    exact pw_iret dX7_kindOf_51 ⟨h, rfl⟩
theorem fi_X7_follows_7 : ∀ w ∈ wsX70, w ∈ wsX7_follows := by decide +kernel
theorem lk_X7_follows_101 : Cond.fieldLink RX7 101 (TX7 11).1 (TX7 11).2.1 (TX7 11).2.2.1 ∈ wsX7_follows := by decide +kernel
set_option maxHeartbeats 4000000 in
set_option maxRecDepth 100000 in
theorem k_X7_follows {l : Launch} {G : Gx} {x1 : Int32} {x2 : Int32} {m mF : Mm} {r : Int32}  (h : f_X7_follows x1 x2 m = some (r, mF)) : Cn l G 4 yX7_follows wsX7_follows [.ref (G.1 + 298), .int x1, .int x2] m (Qi G r mF) := by
  unfold f_X7_follows at h
  refine Cn.of (own := RX7) (lv := [(0, .ref (G.1 + 298)), (1, .int x1), (2, .int x2)]) (by decide) rfl rfl (Nat.le_of_ble_eq_true rfl) rfl ?_
  refine pw_aload_n 0 rfl rfl 1 dX7_follows_0 rfl ?_
  refine pw_aload_n 0 rfl rfl 2 dX7_follows_1 rfl ?_
  refine pw_getI 11 5 dX7_follows_2 rfl fi_X7_follows_7 lk_X7_follows_101 la_298 ly_298 (by decide) rfl (by decide) rfl ?_
  refine pw_iconst (v := (3 : Int32)) (by decide) 6 dX7_follows_5 rfl ?_
  obtain ⟨j2, ej2, h⟩ := nmE_ h
  have hJ14_j2 : PW G (KM l G RX7 cX7_follows 3 (some .int) wsX7_follows 4 (Qi G r mF)) 14 [(0, .ref (G.1 + 298)), (1, .int x1), (2, .int x2)] [.int j2, .ref (G.1 + 298)] m := by
    refine pw_iconst (v := (1 : Int32)) (by decide) 15 dX7_follows_14 rfl ?_
    obtain ⟨r4, m3, hr4, h⟩ := bd2_e h
    refine pw_callVi 18 dX7_follows_15 rfl [.int j2, .int (1 : Int32)] 2 ⟨gX7_follows_X7_takes, rfl, sgV_X7_takes, ⟨Nat.le_of_ble_eq_true rfl, Nat.le_of_ble_eq_true rfl⟩, ⟨Nat.le_refl _, Nat.le_refl _⟩⟩ ly_298 (by decide) la_298 rfl (k_X7_takes hr4) rfl rfl (Nat.le_of_ble_eq_true rfl) ?_
    refine pw_pop rfl 19 dX7_follows_18 rfl ?_
    refine pw_aload_n 0 rfl rfl 20 dX7_follows_19 rfl ?_
    refine pw_iload_n 1 rfl rfl 21 dX7_follows_20 rfl ?_
    refine pw_iload_n 2 rfl rfl 22 dX7_follows_21 rfl ?_
    obtain ⟨r6, m5, hr6, h⟩ := bd2_e h
    refine pw_callVi 25 dX7_follows_22 rfl [.int x1, .int x2] 2 ⟨gX7_follows_X7_figure, rfl, sgV_X7_figure, ⟨Nat.le_of_ble_eq_true rfl, Nat.le_of_ble_eq_true rfl⟩, ⟨Nat.le_refl _, Nat.le_refl _⟩⟩ ly_298 (by decide) la_298 rfl (k_X7_figure hr6) rfl rfl (Nat.le_of_ble_eq_true rfl) ?_
    exact pw_iret dX7_follows_25 (pr_inj h)
  refine pw_icmp_ne 13 9 dX7_follows_6 (by decide) rfl (fun c1 => ?_) (fun c1 => ?_)
  · have ej2 := if_fv ej2 c1
    refine pw_iconst (v := (0 : Int32)) (by decide) 14 dX7_follows_13 rfl ?_
    refine pw_sub [0, 1, 2] [(0, .ref (G.1 + 298)), (1, .int x1), (2, .int x2)] rfl ?_
    subst ej2; exact hJ14_j2
  · have ej2 := if_tv ej2 c1
    refine pw_iconst (v := (1 : Int32)) (by decide) 10 dX7_follows_9 rfl ?_
    refine pw_goto 14 dX7_follows_10 (by decide) ?_
    refine pw_sub [0, 1, 2] [(0, .ref (G.1 + 298)), (1, .int x1), (2, .int x2)] rfl ?_
    subst ej2; exact hJ14_j2
theorem fi_X7_readsGuest_7 : ∀ w ∈ wsX70, w ∈ wsX7_readsGuest := by decide +kernel
theorem lk_X7_readsGuest_98 : Cond.fieldLink RX7 98 (TX7 12).1 (TX7 12).2.1 (TX7 12).2.2.1 ∈ wsX7_readsGuest := by decide +kernel
theorem lk_X7_readsGuest_28 : Cond.fieldLink RX7 28 (TX7 14).1 (TX7 14).2.1 (TX7 14).2.2.1 ∈ wsX7_readsGuest := by decide +kernel
theorem lk_X7_readsGuest_101 : Cond.fieldLink RX7 101 (TX7 11).1 (TX7 11).2.1 (TX7 11).2.2.1 ∈ wsX7_readsGuest := by decide +kernel
set_option maxHeartbeats 4000000 in
set_option maxRecDepth 100000 in
theorem k_X7_readsGuest {l : Launch} {G : Gx}  {m mF : Mm}   (h : f_X7_readsGuest m = some mF) : Cn l G 5 yX7_readsGuest wsX7_readsGuest [.ref (G.1 + 298)] m (Qv G mF) := by
  unfold f_X7_readsGuest at h
  refine Cn.of (own := RX7) (lv := [(0, .ref (G.1 + 298))]) (by decide) rfl rfl (Nat.le_of_ble_eq_true rfl) rfl ?_
  refine pw_aload_n 0 rfl rfl 1 dX7_readsGuest_0 rfl ?_
  refine pw_getI 12 4 dX7_readsGuest_1 rfl fi_X7_readsGuest_7 lk_X7_readsGuest_98 la_298 ly_298 (by decide) rfl (by decide) rfl ?_
  refine pw_callSi 7 dX7_readsGuest_4 rfl [.int (m 298 12)] 1 ⟨gX7_readsGuest_X7_kindOf, rfl, sgS_X7_kindOf, ⟨Nat.le_of_ble_eq_true rfl, Nat.le_of_ble_eq_true rfl⟩, ⟨Nat.le_refl _, Nat.le_refl _⟩⟩ (k_X7_kindOf rfl) rfl rfl (Nat.le_of_ble_eq_true rfl) ?_
  obtain ⟨v1, ev1, h⟩ := nmE_ h
  refine pw_top ev1 ?_
  refine pw_istore_n (hf := rfl) [(1, .int v1), (0, .ref (G.1 + 298))] 8 dX7_readsGuest_7 rfl (Nat.le_of_ble_eq_true rfl) rfl ?_
  refine pw_aload_n 1 rfl rfl 9 dX7_readsGuest_8 rfl ?_
  refine pw_aload_n 1 rfl rfl 10 dX7_readsGuest_9 rfl ?_
  refine pw_getR 14 13 dX7_readsGuest_10 rfl fi_X7_readsGuest_7 lk_X7_readsGuest_28 la_298 ly_298 (by decide) rfl (by decide) rfl rf_298_14 ?_
  refine pw_iconst (v := (2 : Int32)) (by decide) 14 dX7_readsGuest_13 rfl ?_
  refine pw_iald 15 dX7_readsGuest_14 rfl la_305 ly_305 (vp_lit rfl rfl) ?_
  refine pw_bipush (v := (7 : Int32)) (by decide) 17 dX7_readsGuest_15 rfl ?_
  obtain ⟨j3, ej3, h⟩ := nmE_ h
  have hJ25_j3 : PW G (KM l G RX7 cX7_readsGuest 6 none wsX7_readsGuest 5 (Qv G mF)) 25 [(0, .ref (G.1 + 298)), (1, .int v1)] [.int j3, .ref (G.1 + 298)] m := by
    refine pw_iconst (v := (3 : Int32)) (by decide) 26 dX7_readsGuest_25 rfl ?_
    obtain ⟨r5, m4, hr5, h⟩ := bd2_e h
    refine pw_callVi 29 dX7_readsGuest_26 rfl [.int j3, .int (3 : Int32)] 2 ⟨gX7_readsGuest_X7_takes, rfl, sgV_X7_takes, ⟨Nat.le_of_ble_eq_true rfl, Nat.le_of_ble_eq_true rfl⟩, ⟨Nat.le_refl _, Nat.le_refl _⟩⟩ ly_298 (by decide) la_298 rfl (k_X7_takes hr5) rfl rfl (Nat.le_of_ble_eq_true rfl) ?_
    refine pw_pop rfl 30 dX7_readsGuest_29 rfl ?_
    refine pw_bipush (v := (6 : Int32)) (by decide) 32 dX7_readsGuest_30 rfl ?_
    refine pw_bipush (v := (7 : Int32)) (by decide) 34 dX7_readsGuest_32 rfl ?_
    refine pw_aload_n 0 rfl rfl 35 dX7_readsGuest_34 rfl ?_
    refine pw_getR 14 38 dX7_readsGuest_35 rfl fi_X7_readsGuest_7 lk_X7_readsGuest_28 la_298 ly_298 (by decide) rfl (by decide) rfl rf_298_14 ?_
    refine pw_iconst (v := (2 : Int32)) (by decide) 39 dX7_readsGuest_38 rfl ?_
    refine pw_iald 40 dX7_readsGuest_39 rfl la_305 ly_305 (vp_lit rfl rfl) ?_
    refine pw_bipush (v := (7 : Int32)) (by decide) 42 dX7_readsGuest_40 rfl ?_
    obtain ⟨j7, ej7, h⟩ := nmE_ h
    have hJ55_j7 : PW G (KM l G RX7 cX7_readsGuest 6 none wsX7_readsGuest 5 (Qv G mF)) 55 [(0, .ref (G.1 + 298)), (1, .int v1)] [.int j7, .int (7 : Int32), .int (6 : Int32)] m4 := by
      refine pw_imul 56 dX7_readsGuest_55 rfl ?_
      refine pw_iadd 57 dX7_readsGuest_56 rfl ?_
      obtain ⟨v8, ev8, h⟩ := nmE_ h
      refine pw_top ev8 ?_
      refine pw_istore_n (hf := rfl) [(2, .int v8), (0, .ref (G.1 + 298)), (1, .int v1)] 58 dX7_readsGuest_57 rfl (Nat.le_of_ble_eq_true rfl) rfl ?_
      refine pw_aload_n 1 rfl rfl 59 dX7_readsGuest_58 rfl ?_
      refine pw_iconst (v := (0 : Int32)) (by decide) 60 dX7_readsGuest_59 rfl ?_
      refine pw_bipush (v := (9 : Int32)) (by decide) 62 dX7_readsGuest_60 rfl ?_
      obtain ⟨r10, m9, hr10, h⟩ := bd2_e h
      refine pw_callVi 65 dX7_readsGuest_62 rfl [.int (0 : Int32), .int (9 : Int32)] 2 ⟨gX7_readsGuest_X7_figure, rfl, sgV_X7_figure, ⟨Nat.le_of_ble_eq_true rfl, Nat.le_of_ble_eq_true rfl⟩, ⟨Nat.le_refl _, Nat.le_refl _⟩⟩ ly_298 (by decide) la_298 rfl (k_X7_figure hr10) rfl rfl (Nat.le_of_ble_eq_true rfl) ?_
      refine pw_istore_n (hf := rfl) [(3, .int r10), (2, .int v8), (0, .ref (G.1 + 298)), (1, .int v1)] 66 dX7_readsGuest_65 rfl (Nat.le_of_ble_eq_true rfl) rfl ?_
      refine pw_aload_n 2 rfl rfl 67 dX7_readsGuest_66 rfl ?_
      refine pw_iconst (v := (0 : Int32)) (by decide) 68 dX7_readsGuest_67 rfl ?_
      refine pw_bipush (v := (99 : Int32)) (by decide) 70 dX7_readsGuest_68 rfl ?_
      obtain ⟨r12, m11, hr12, h⟩ := bd2_e h
      refine pw_callVi 73 dX7_readsGuest_70 rfl [.int (0 : Int32), .int (99 : Int32)] 2 ⟨gX7_readsGuest_X7_follows, rfl, sgV_X7_follows, ⟨Nat.le_of_ble_eq_true rfl, Nat.le_of_ble_eq_true rfl⟩, ⟨Nat.le_refl _, Nat.le_refl _⟩⟩ ly_298 (by decide) la_298 rfl (k_X7_follows hr12) rfl rfl (Nat.le_of_ble_eq_true rfl) ?_
      refine pw_istore [(4, .int r12), (3, .int r10), (2, .int v8), (0, .ref (G.1 + 298)), (1, .int v1)] 75 dX7_readsGuest_73 rfl (Nat.le_of_ble_eq_true rfl) rfl ?_
      refine pw_aload_n 3 rfl rfl 76 dX7_readsGuest_75 rfl ?_
      refine pw_iconst (v := (0 : Int32)) (by decide) 77 dX7_readsGuest_76 rfl ?_
      refine pw_bipush (v := (9 : Int32)) (by decide) 79 dX7_readsGuest_77 rfl ?_
      obtain ⟨r14, m13, hr14, h⟩ := bd2_e h
      refine pw_callVi 82 dX7_readsGuest_79 rfl [.int (0 : Int32), .int (9 : Int32)] 2 ⟨gX7_readsGuest_X7_follows, rfl, sgV_X7_follows, ⟨Nat.le_of_ble_eq_true rfl, Nat.le_of_ble_eq_true rfl⟩, ⟨Nat.le_refl _, Nat.le_refl _⟩⟩ ly_298 (by decide) la_298 rfl (k_X7_follows hr14) rfl rfl (Nat.le_of_ble_eq_true rfl) ?_
      refine pw_istore [(5, .int r14), (4, .int r12), (3, .int r10), (2, .int v8), (0, .ref (G.1 + 298)), (1, .int v1)] 84 dX7_readsGuest_82 rfl (Nat.le_of_ble_eq_true rfl) rfl ?_
      refine pw_aload_n 4 rfl rfl 85 dX7_readsGuest_84 rfl ?_
      refine pw_aload_n 4 rfl rfl 86 dX7_readsGuest_85 rfl ?_
      refine pw_getI 11 89 dX7_readsGuest_86 rfl fi_X7_readsGuest_7 lk_X7_readsGuest_101 la_298 ly_298 (by decide) rfl (by decide) rfl ?_
      refine pw_iconst (v := (4 : Int32)) (by decide) 90 dX7_readsGuest_89 rfl ?_
      obtain ⟨j16, ej16, h⟩ := nmE_ h
      have hJ98_j16 : PW G (KM l G RX7 cX7_readsGuest 6 none wsX7_readsGuest 5 (Qv G mF)) 98 [(0, .ref (G.1 + 298)), (1, .int v1), (2, .int v8), (3, .int r10), (4, .int r12), (5, .int r14)] [.int j16, .ref (G.1 + 298)] m13 := by
        refine pw_iconst (v := (1 : Int32)) (by decide) 99 dX7_readsGuest_98 rfl ?_
        obtain ⟨r18, m17, hr18, h⟩ := bd2_e h
        refine pw_callVi 102 dX7_readsGuest_99 rfl [.int j16, .int (1 : Int32)] 2 ⟨gX7_readsGuest_X7_takes, rfl, sgV_X7_takes, ⟨Nat.le_of_ble_eq_true rfl, Nat.le_of_ble_eq_true rfl⟩, ⟨Nat.le_refl _, Nat.le_refl _⟩⟩ ly_298 (by decide) la_298 rfl (k_X7_takes hr18) rfl rfl (Nat.le_of_ble_eq_true rfl) ?_
        refine pw_pop rfl 103 dX7_readsGuest_102 rfl ?_
        refine pw_aload_n 0 rfl rfl 104 dX7_readsGuest_103 rfl ?_
        refine pw_callVi 107 dX7_readsGuest_104 rfl [] 0 ⟨gX7_readsGuest_X7_isWell, rfl, sgV_X7_isWell, ⟨Nat.le_of_ble_eq_true rfl, Nat.le_of_ble_eq_true rfl⟩, ⟨Nat.le_refl _, Nat.le_refl _⟩⟩ ly_298 (by decide) la_298 rfl (k_X7_isWell rfl) rfl rfl (Nat.le_of_ble_eq_true rfl) ?_
        refine pw_if_eq 179 110 dX7_readsGuest_107 (by decide) rfl (fun c19 => ?_) (fun c19 => ?_)
        · have h := if_t h c19
          exact pw_vret dX7_readsGuest_179 (Option.some.inj h)
        · have h := if_f h c19
          refine pw_aload_n 0 rfl rfl 111 dX7_readsGuest_110 rfl ?_
          refine pw_getR 14 114 dX7_readsGuest_111 rfl fi_X7_readsGuest_7 lk_X7_readsGuest_28 la_298 ly_298 (by decide) rfl (by decide) rfl rf_298_14 ?_
          refine pw_iload_n 2 rfl rfl 115 dX7_readsGuest_114 rfl ?_
          refine pw_iload_n 1 rfl rfl 116 dX7_readsGuest_115 rfl ?_
          obtain ⟨h34, h⟩ := gd_e h
          refine pw_iast 117 dX7_readsGuest_116 rfl la_305 ly_305 h34 ?_
          obtain ⟨m20, em20, h⟩ := nmE_ h
          refine pw_mem em20 ?_
          refine pw_aload_n 0 rfl rfl 118 dX7_readsGuest_117 rfl ?_
          refine pw_getR 14 121 dX7_readsGuest_118 rfl fi_X7_readsGuest_7 lk_X7_readsGuest_28 la_298 ly_298 (by decide) rfl (by decide) rfl rf_298_14 ?_
          refine pw_iload_n 2 rfl rfl 122 dX7_readsGuest_121 rfl ?_
          refine pw_iconst (v := (1 : Int32)) (by decide) 123 dX7_readsGuest_122 rfl ?_
          refine pw_iadd 124 dX7_readsGuest_123 rfl ?_
          refine pw_iload_n 3 rfl rfl 125 dX7_readsGuest_124 rfl ?_
          obtain ⟨h33, h⟩ := gd_e h
          refine pw_iast 126 dX7_readsGuest_125 rfl la_305 ly_305 h33 ?_
          obtain ⟨m21, em21, h⟩ := nmE_ h
          refine pw_mem em21 ?_
          refine pw_aload_n 0 rfl rfl 127 dX7_readsGuest_126 rfl ?_
          refine pw_getR 14 130 dX7_readsGuest_127 rfl fi_X7_readsGuest_7 lk_X7_readsGuest_28 la_298 ly_298 (by decide) rfl (by decide) rfl rf_298_14 ?_
          refine pw_iload_n 2 rfl rfl 131 dX7_readsGuest_130 rfl ?_
          refine pw_iconst (v := (2 : Int32)) (by decide) 132 dX7_readsGuest_131 rfl ?_
          refine pw_iadd 133 dX7_readsGuest_132 rfl ?_
          refine pw_iload 4 rfl 135 dX7_readsGuest_133 rfl ?_
          obtain ⟨h32, h⟩ := gd_e h
          refine pw_iast 136 dX7_readsGuest_135 rfl la_305 ly_305 h32 ?_
          obtain ⟨m22, em22, h⟩ := nmE_ h
          refine pw_mem em22 ?_
          refine pw_aload_n 0 rfl rfl 137 dX7_readsGuest_136 rfl ?_
          refine pw_getR 14 140 dX7_readsGuest_137 rfl fi_X7_readsGuest_7 lk_X7_readsGuest_28 la_298 ly_298 (by decide) rfl (by decide) rfl rf_298_14 ?_
          refine pw_iload_n 2 rfl rfl 141 dX7_readsGuest_140 rfl ?_
          refine pw_iconst (v := (3 : Int32)) (by decide) 142 dX7_readsGuest_141 rfl ?_
          refine pw_iadd 143 dX7_readsGuest_142 rfl ?_
          refine pw_iload 5 rfl 145 dX7_readsGuest_143 rfl ?_
          obtain ⟨h31, h⟩ := gd_e h
          refine pw_iast 146 dX7_readsGuest_145 rfl la_305 ly_305 h31 ?_
          obtain ⟨m23, em23, h⟩ := nmE_ h
          refine pw_mem em23 ?_
          refine pw_aload_n 0 rfl rfl 147 dX7_readsGuest_146 rfl ?_
          refine pw_getR 14 150 dX7_readsGuest_147 rfl fi_X7_readsGuest_7 lk_X7_readsGuest_28 la_298 ly_298 (by decide) rfl (by decide) rfl rf_298_14 ?_
          refine pw_iload_n 2 rfl rfl 151 dX7_readsGuest_150 rfl ?_
          refine pw_iconst (v := (4 : Int32)) (by decide) 152 dX7_readsGuest_151 rfl ?_
          refine pw_iadd 153 dX7_readsGuest_152 rfl ?_
          refine pw_aload_n 0 rfl rfl 154 dX7_readsGuest_153 rfl ?_
          refine pw_getR 14 157 dX7_readsGuest_154 rfl fi_X7_readsGuest_7 lk_X7_readsGuest_28 la_298 ly_298 (by decide) rfl (by decide) rfl rf_298_14 ?_
          refine pw_iconst (v := (2 : Int32)) (by decide) 158 dX7_readsGuest_157 rfl ?_
          refine pw_iald 159 dX7_readsGuest_158 rfl la_305 ly_305 (vp_lit rfl rfl) ?_
          obtain ⟨v24, ev24, h⟩ := nmE_ h
          refine pw_top ev24 ?_
          obtain ⟨h30, h⟩ := gd_e h
          refine pw_iast 160 dX7_readsGuest_159 rfl la_305 ly_305 h30 ?_
          obtain ⟨m25, em25, h⟩ := nmE_ h
          refine pw_mem em25 ?_
          refine pw_aload_n 0 rfl rfl 161 dX7_readsGuest_160 rfl ?_
          refine pw_getR 14 164 dX7_readsGuest_161 rfl fi_X7_readsGuest_7 lk_X7_readsGuest_28 la_298 ly_298 (by decide) rfl (by decide) rfl rf_298_14 ?_
          refine pw_iload_n 2 rfl rfl 165 dX7_readsGuest_164 rfl ?_
          refine pw_iconst (v := (5 : Int32)) (by decide) 166 dX7_readsGuest_165 rfl ?_
          refine pw_iadd 167 dX7_readsGuest_166 rfl ?_
          refine pw_iconst (v := (1 : Int32)) (by decide) 168 dX7_readsGuest_167 rfl ?_
          obtain ⟨h29, h⟩ := gd_e h
          refine pw_iast 169 dX7_readsGuest_168 rfl la_305 ly_305 h29 ?_
          obtain ⟨m26, em26, h⟩ := nmE_ h
          refine pw_mem em26 ?_
          refine pw_aload_n 0 rfl rfl 170 dX7_readsGuest_169 rfl ?_
          refine pw_getR 14 173 dX7_readsGuest_170 rfl fi_X7_readsGuest_7 lk_X7_readsGuest_28 la_298 ly_298 (by decide) rfl (by decide) rfl rf_298_14 ?_
          refine pw_iconst (v := (2 : Int32)) (by decide) 174 dX7_readsGuest_173 rfl ?_
          refine pw_dup2_11 rfl rfl 175 dX7_readsGuest_174 rfl ?_
          refine pw_iald 176 dX7_readsGuest_175 rfl la_305 ly_305 (vp_lit rfl rfl) ?_
          refine pw_iconst (v := (1 : Int32)) (by decide) 177 dX7_readsGuest_176 rfl ?_
          refine pw_iadd 178 dX7_readsGuest_177 rfl ?_
          obtain ⟨v27, ev27, h⟩ := nmE_ h
          refine pw_top ev27 ?_
          refine pw_iast 179 dX7_readsGuest_178 rfl la_305 ly_305 (vp_lit rfl rfl) ?_
          obtain ⟨m28, em28, h⟩ := nmE_ h
          refine pw_mem em28 ?_
          exact pw_vret dX7_readsGuest_179 (Option.some.inj h)
      refine pw_icmp_ne 97 93 dX7_readsGuest_90 (by decide) rfl (fun c15 => ?_) (fun c15 => ?_)
      · have ej16 := if_fv ej16 c15
        refine pw_iconst (v := (0 : Int32)) (by decide) 98 dX7_readsGuest_97 rfl ?_
        refine pw_sub [4, 5, 3, 2, 1, 0] [(0, .ref (G.1 + 298)), (1, .int v1), (2, .int v8), (3, .int r10), (4, .int r12), (5, .int r14)] rfl ?_
        subst ej16; exact hJ98_j16
      · have ej16 := if_tv ej16 c15
        refine pw_iconst (v := (1 : Int32)) (by decide) 94 dX7_readsGuest_93 rfl ?_
        refine pw_goto 98 dX7_readsGuest_94 (by decide) ?_
        refine pw_sub [4, 5, 3, 2, 1, 0] [(0, .ref (G.1 + 298)), (1, .int v1), (2, .int v8), (3, .int r10), (4, .int r12), (5, .int r14)] rfl ?_
        subst ej16; exact hJ98_j16
    refine pw_icmp_ge 54 45 dX7_readsGuest_42 (by decide) rfl (fun c6 => ?_) (fun c6 => ?_)
    · have ej7 := if_tv ej7 c6
      refine pw_iconst (v := (0 : Int32)) (by decide) 55 dX7_readsGuest_54 rfl ?_
      refine pw_sub [0, 1] [(0, .ref (G.1 + 298)), (1, .int v1)] rfl ?_
      subst ej7; exact hJ55_j7
    · have ej7 := if_fv ej7 c6
      refine pw_aload_n 0 rfl rfl 46 dX7_readsGuest_45 rfl ?_
      refine pw_getR 14 49 dX7_readsGuest_46 rfl fi_X7_readsGuest_7 lk_X7_readsGuest_28 la_298 ly_298 (by decide) rfl (by decide) rfl rf_298_14 ?_
      refine pw_iconst (v := (2 : Int32)) (by decide) 50 dX7_readsGuest_49 rfl ?_
      refine pw_iald 51 dX7_readsGuest_50 rfl la_305 ly_305 (vp_lit rfl rfl) ?_
      refine pw_goto 55 dX7_readsGuest_51 (by decide) ?_
      refine pw_sub [0, 1] [(0, .ref (G.1 + 298)), (1, .int v1)] rfl ?_
      subst ej7; exact hJ55_j7
  refine pw_icmp_ge 24 20 dX7_readsGuest_17 (by decide) rfl (fun c2 => ?_) (fun c2 => ?_)
  · have ej3 := if_tv ej3 c2
    refine pw_iconst (v := (0 : Int32)) (by decide) 25 dX7_readsGuest_24 rfl ?_
    refine pw_sub [1, 0] [(0, .ref (G.1 + 298)), (1, .int v1)] rfl ?_
    subst ej3; exact hJ25_j3
  · have ej3 := if_fv ej3 c2
    refine pw_iconst (v := (1 : Int32)) (by decide) 21 dX7_readsGuest_20 rfl ?_
    refine pw_goto 25 dX7_readsGuest_21 (by decide) ?_
    refine pw_sub [1, 0] [(0, .ref (G.1 + 298)), (1, .int v1)] rfl ?_
    subst ej3; exact hJ25_j3
set_option maxHeartbeats 4000000 in
set_option maxRecDepth 100000 in
theorem k_X7_must {l : Launch} {G : Gx} {x1 : Int32} {m mF : Mm}   (h : f_X7_must x1 m = some mF) : Cn l G 3 yX7_must wsX7_must [.ref (G.1 + 298), .int x1] m (Qv G mF) := by
  unfold f_X7_must at h
  refine Cn.of (own := RX7) (lv := [(0, .ref (G.1 + 298)), (1, .int x1)]) (by decide) rfl rfl (Nat.le_of_ble_eq_true rfl) rfl ?_
  refine pw_aload_n 0 rfl rfl 1 dX7_must_0 rfl ?_
  refine pw_callVi 4 dX7_must_1 rfl [] 0 ⟨gX7_must_X7_isWell, rfl, sgV_X7_isWell, ⟨Nat.le_of_ble_eq_true rfl, Nat.le_of_ble_eq_true rfl⟩, ⟨Nat.le_refl _, Nat.le_refl _⟩⟩ ly_298 (by decide) la_298 rfl (k_X7_isWell rfl) rfl rfl (Nat.le_of_ble_eq_true rfl) ?_
  refine pw_if_eq 18 7 dX7_must_4 (by decide) rfl (fun c1 => ?_) (fun c1 => ?_)
  · have h := if_t h c1
    exact pw_vret dX7_must_18 (Option.some.inj h)
  · have h := if_f h c1
    refine pw_iload_n 1 rfl rfl 8 dX7_must_7 rfl ?_
    refine pw_if_ne 18 11 dX7_must_8 (by decide) rfl (fun c2 => ?_) (fun c2 => ?_)
    · have h := if_f h c2
      exact pw_vret dX7_must_18 (Option.some.inj h)
    · have h := if_t h c2
      refine pw_aload_n 0 rfl rfl 12 dX7_must_11 rfl ?_
      refine pw_iconst (v := (0 : Int32)) (by decide) 13 dX7_must_12 rfl ?_
      refine pw_iconst (v := (1 : Int32)) (by decide) 14 dX7_must_13 rfl ?_
      obtain ⟨r4, m3, hr4, h⟩ := bd2_e h
      refine pw_callVi 17 dX7_must_14 rfl [.int (0 : Int32), .int (1 : Int32)] 2 ⟨gX7_must_X7_takes, rfl, sgV_X7_takes, ⟨Nat.le_of_ble_eq_true rfl, Nat.le_of_ble_eq_true rfl⟩, ⟨Nat.le_refl _, Nat.le_refl _⟩⟩ ly_298 (by decide) la_298 rfl (k_X7_takes hr4) rfl rfl (Nat.le_of_ble_eq_true rfl) ?_
      refine pw_pop rfl 18 dX7_must_17 rfl ?_
      exact pw_vret dX7_must_18 (Option.some.inj h)
theorem fi_X7_wedding_7 : ∀ w ∈ wsX70, w ∈ wsX7_wedding := by decide +kernel
theorem lk_X7_wedding_28 : Cond.fieldLink RX7 28 (TX7 14).1 (TX7 14).2.1 (TX7 14).2.2.1 ∈ wsX7_wedding := by decide +kernel
theorem lk_X7_wedding_89 : Cond.fieldLink RX7 89 (TX7 9).1 (TX7 9).2.1 (TX7 9).2.2.1 ∈ wsX7_wedding := by decide +kernel
theorem lk_X7_wedding_104 : Cond.fieldLink RX7 104 (TX7 8).1 (TX7 8).2.1 (TX7 8).2.2.1 ∈ wsX7_wedding := by decide +kernel
theorem lk_X7_wedding_101 : Cond.fieldLink RX7 101 (TX7 11).1 (TX7 11).2.1 (TX7 11).2.2.1 ∈ wsX7_wedding := by decide +kernel
theorem lk_X7_wedding_98 : Cond.fieldLink RX7 98 (TX7 12).1 (TX7 12).2.1 (TX7 12).2.2.1 ∈ wsX7_wedding := by decide +kernel
theorem lk_X7_wedding_85 : Cond.fieldLink RX7 85 (TX7 6).1 (TX7 6).2.1 (TX7 6).2.2.1 ∈ wsX7_wedding := by decide +kernel
theorem lk_X7_wedding_25 : Cond.fieldLink RX7 25 (TX7 13).1 (TX7 13).2.1 (TX7 13).2.2.1 ∈ wsX7_wedding := by decide +kernel
theorem lk_X7_wedding_142 : Cond.fieldLink RX7 142 (TX7 17).1 (TX7 17).2.1 (TX7 17).2.2.1 ∈ wsX7_wedding := by decide +kernel
theorem lw_X7_wedding_c137 : Cond.constant RX7 137 (-1000100 : Int32) ∈ wsX7_wedding := by decide +kernel
set_option maxHeartbeats 4000000 in
set_option maxRecDepth 100000 in
theorem kl_X7_wedding_2 {l : Launch} {G : Gx}  {r : Int32} {mF : Mm}  : ∀ (n : Nat) (y1 : Int32) (m : Mm) (a0 : Mm), lp_X7_wedding_2 n y1 m = some a0 → PW G (KM l G RX7 cX7_wedding 2 (some .int) wsX7_wedding 6 (Qi G r mF)) 21 [(0, .ref (G.1 + 298))] [] a0 → PW G (KM l G RX7 cX7_wedding 2 (some .int) wsX7_wedding 6 (Qi G r mF)) 2 [(0, .ref (G.1 + 298)), (1, .int y1)] [] m := by
  intro n
  induction n with
  | zero => intro y1 m a0 h hk; cases h
  | succ n ih =>
    intro y1 m a0 h hk
    have h : lb_X7_wedding_2 (lp_X7_wedding_2 n) y1 m = _ := h
    unfold lb_X7_wedding_2 at h
    refine pw_iload_n 1 rfl rfl 3 dX7_wedding_2 rfl ?_
    refine pw_bipush (v := (55 : Int32)) (by decide) 5 dX7_wedding_3 rfl ?_
    refine pw_icmp_ge 21 8 dX7_wedding_5 (by decide) rfl (fun c1 => ?_) (fun c1 => ?_)
    · have h := if_t h c1
      refine pw_sub [0] [(0, .ref (G.1 + 298))] rfl ?_
      cases h; exact hk
    · have h := if_f h c1
      refine pw_aload_n 0 rfl rfl 9 dX7_wedding_8 rfl ?_
      refine pw_getR 14 12 dX7_wedding_9 rfl fi_X7_wedding_7 lk_X7_wedding_28 la_298 ly_298 (by decide) rfl (by decide) rfl rf_298_14 ?_
      refine pw_iload_n 1 rfl rfl 13 dX7_wedding_12 rfl ?_
      refine pw_iconst (v := (0 : Int32)) (by decide) 14 dX7_wedding_13 rfl ?_
      obtain ⟨h4, h⟩ := gd_e h
      refine pw_iast 15 dX7_wedding_14 rfl la_305 ly_305 h4 ?_
      obtain ⟨m2, em2, h⟩ := nmE_ h
      refine pw_mem em2 ?_
      obtain ⟨v3, ev3, h⟩ := nmE_ h
      refine pw_iinc 1 rfl (by rw [ev3]; rfl) [(1, .int v3), (0, .ref (G.1 + 298))] 18 dX7_wedding_15 rfl (Nat.le_of_ble_eq_true rfl) rfl ?_
      refine pw_goto 2 dX7_wedding_18 (by decide) ?_
      refine pw_sub [1, 0] [(0, .ref (G.1 + 298)), (1, .int v3)] rfl ?_
      exact ih v3 m2 a0 h hk
set_option maxHeartbeats 4000000 in
set_option maxRecDepth 100000 in
theorem kl_X7_wedding_135 {l : Launch} {G : Gx}  {r : Int32} {mF : Mm}  : ∀ (n : Nat) (m : Mm) (a0 : Mm), lp_X7_wedding_135 n m = some a0 → PW G (KM l G RX7 cX7_wedding 2 (some .int) wsX7_wedding 6 (Qi G r mF)) 167 [(0, .ref (G.1 + 298))] [] a0 → PW G (KM l G RX7 cX7_wedding 2 (some .int) wsX7_wedding 6 (Qi G r mF)) 135 [(0, .ref (G.1 + 298))] [] m := by
  intro n
  induction n with
  | zero => intro m a0 h hk; cases h
  | succ n ih =>
    intro m a0 h hk
    have h : lb_X7_wedding_135 (lp_X7_wedding_135 n) m = _ := h
    unfold lb_X7_wedding_135 at h
    refine pw_aload_n 0 rfl rfl 136 dX7_wedding_135 rfl ?_
    refine pw_callVi 139 dX7_wedding_136 rfl [] 0 ⟨gX7_wedding_X7_isWell, rfl, sgV_X7_isWell, ⟨Nat.le_of_ble_eq_true rfl, Nat.le_of_ble_eq_true rfl⟩, ⟨Nat.le_refl _, Nat.le_refl _⟩⟩ ly_298 (by decide) la_298 rfl (k_X7_isWell rfl) rfl rfl (Nat.le_of_ble_eq_true rfl) ?_
    refine pw_if_eq 167 142 dX7_wedding_139 (by decide) rfl (fun c29 => ?_) (fun c29 => ?_)
    · have h := if_t h c29
      refine pw_sub [0] [(0, .ref (G.1 + 298))] rfl ?_
      cases h; exact hk
    · have h := if_f h c29
      refine pw_aload_n 0 rfl rfl 143 dX7_wedding_142 rfl ?_
      refine pw_getI 11 146 dX7_wedding_143 rfl fi_X7_wedding_7 lk_X7_wedding_101 la_298 ly_298 (by decide) rfl (by decide) rfl ?_
      refine pw_iconst (v := (1 : Int32)) (by decide) 147 dX7_wedding_146 rfl ?_
      refine pw_icmp_ne 167 150 dX7_wedding_147 (by decide) rfl (fun c30 => ?_) (fun c30 => ?_)
      · have h := if_f h c30
        refine pw_sub [0] [(0, .ref (G.1 + 298))] rfl ?_
        cases h; exact hk
      · have h := if_t h c30
        refine pw_aload_n 0 rfl rfl 151 dX7_wedding_150 rfl ?_
        refine pw_getI 12 154 dX7_wedding_151 rfl fi_X7_wedding_7 lk_X7_wedding_98 la_298 ly_298 (by decide) rfl (by decide) rfl ?_
        refine pw_callSi 157 dX7_wedding_154 rfl [.int (m 298 12)] 1 ⟨gX7_wedding_X7_kindOf, rfl, sgS_X7_kindOf, ⟨Nat.le_of_ble_eq_true rfl, Nat.le_of_ble_eq_true rfl⟩, ⟨Nat.le_refl _, Nat.le_refl _⟩⟩ (k_X7_kindOf rfl) rfl rfl (Nat.le_of_ble_eq_true rfl) ?_
        refine pw_if_le 167 160 dX7_wedding_157 (by decide) rfl (fun c31 => ?_) (fun c31 => ?_)
        · have h := if_t h c31
          refine pw_sub [0] [(0, .ref (G.1 + 298))] rfl ?_
          cases h; exact hk
        · have h := if_f h c31
          refine pw_aload_n 0 rfl rfl 161 dX7_wedding_160 rfl ?_
          obtain ⟨m32, hm32, h⟩ := bd1_e h
          refine pw_callVv 164 dX7_wedding_161 rfl [] 0 ⟨gX7_wedding_X7_readsGuest, rfl, sgV_X7_readsGuest, ⟨Nat.le_of_ble_eq_true rfl, Nat.le_of_ble_eq_true rfl⟩, ⟨Nat.le_refl _, Nat.le_refl _⟩⟩ ly_298 (by decide) la_298 rfl (k_X7_readsGuest hm32) rfl rfl (Nat.le_of_ble_eq_true rfl) ?_
          refine pw_goto 135 dX7_wedding_164 (by decide) ?_
          refine pw_sub [0] [(0, .ref (G.1 + 298))] rfl ?_
          exact ih m32 a0 h hk
set_option maxHeartbeats 4000000 in
set_option maxRecDepth 100000 in
theorem k_X7_wedding {l : Launch} {G : Gx}  {m mF : Mm} {r : Int32}  (h : f_X7_wedding m = some (r, mF)) : Cn l G 6 yX7_wedding wsX7_wedding [.ref (G.1 + 298)] m (Qi G r mF) := by
  unfold f_X7_wedding at h
  refine Cn.of (own := RX7) (lv := [(0, .ref (G.1 + 298))]) (by decide) rfl rfl (Nat.le_of_ble_eq_true rfl) rfl ?_
  refine pw_iconst (v := (0 : Int32)) (by decide) 1 dX7_wedding_0 rfl ?_
  refine pw_istore_n (hf := rfl) [(1, .int (0 : Int32)), (0, .ref (G.1 + 298))] 2 dX7_wedding_1 rfl (Nat.le_of_ble_eq_true rfl) rfl ?_
  obtain ⟨m5, h6, h⟩ := bd1_e h
  have hL2_h6 : PW G (KM l G RX7 cX7_wedding 2 (some .int) wsX7_wedding 6 (Qi G r mF)) 21 [(0, .ref (G.1 + 298))] [] m5 := by
    refine pw_aload_n 0 rfl rfl 22 dX7_wedding_21 rfl ?_
    refine pw_iconst (v := (0 : Int32)) (by decide) 23 dX7_wedding_22 rfl ?_
    refine pw_put (ty0 := tyX7) (ty := .int) 9 26 dX7_wedding_23 rfl fi_X7_wedding_7 tyX7_ok nmX7 lk_X7_wedding_89 la_298 ly_298 (by decide) rfl (by decide) rfl rfl rfl rfl rfl ?_
    obtain ⟨m7, em7, h⟩ := nmE_ h
    refine pw_mem em7 ?_
    refine pw_aload_n 0 rfl rfl 27 dX7_wedding_26 rfl ?_
    refine pw_iconst (v := (-1 : Int32)) (by decide) 28 dX7_wedding_27 rfl ?_
    refine pw_put (ty0 := tyX7) (ty := .int) 8 31 dX7_wedding_28 rfl fi_X7_wedding_7 tyX7_ok nmX7 lk_X7_wedding_104 la_298 ly_298 (by decide) rfl (by decide) rfl rfl rfl rfl rfl ?_
    obtain ⟨m8, em8, h⟩ := nmE_ h
    refine pw_mem em8 ?_
    refine pw_aload_n 0 rfl rfl 32 dX7_wedding_31 rfl ?_
    obtain ⟨m9, hm9, h⟩ := bd1_e h
    refine pw_callVv 35 dX7_wedding_32 rfl [] 0 ⟨gX7_wedding_X7_advances, rfl, sgV_X7_advances, ⟨Nat.le_of_ble_eq_true rfl, Nat.le_of_ble_eq_true rfl⟩, ⟨Nat.le_refl _, Nat.le_refl _⟩⟩ ly_298 (by decide) la_298 rfl (k_X7_advances hm9) rfl rfl (Nat.le_of_ble_eq_true rfl) ?_
    refine pw_aload_n 0 rfl rfl 36 dX7_wedding_35 rfl ?_
    refine pw_aload_n 0 rfl rfl 37 dX7_wedding_36 rfl ?_
    refine pw_getI 11 40 dX7_wedding_37 rfl fi_X7_wedding_7 lk_X7_wedding_101 la_298 ly_298 (by decide) rfl (by decide) rfl ?_
    refine pw_iconst (v := (1 : Int32)) (by decide) 41 dX7_wedding_40 rfl ?_
    obtain ⟨j12, ej12, h⟩ := nmE_ h
    have hJ58_j12 : PW G (KM l G RX7 cX7_wedding 2 (some .int) wsX7_wedding 6 (Qi G r mF)) 58 [(0, .ref (G.1 + 298))] [.int j12, .ref (G.1 + 298)] m9 := by
      refine pw_iconst (v := (1 : Int32)) (by decide) 59 dX7_wedding_58 rfl ?_
      obtain ⟨r14, m13, hr14, h⟩ := bd2_e h
      refine pw_callVi 62 dX7_wedding_59 rfl [.int j12, .int (1 : Int32)] 2 ⟨gX7_wedding_X7_takes, rfl, sgV_X7_takes, ⟨Nat.le_of_ble_eq_true rfl, Nat.le_of_ble_eq_true rfl⟩, ⟨Nat.le_refl _, Nat.le_refl _⟩⟩ ly_298 (by decide) la_298 rfl (k_X7_takes hr14) rfl rfl (Nat.le_of_ble_eq_true rfl) ?_
      refine pw_pop rfl 63 dX7_wedding_62 rfl ?_
      refine pw_aload_n 0 rfl rfl 64 dX7_wedding_63 rfl ?_
      refine pw_getR 14 67 dX7_wedding_64 rfl fi_X7_wedding_7 lk_X7_wedding_28 la_298 ly_298 (by decide) rfl (by decide) rfl rf_298_14 ?_
      refine pw_iconst (v := (0 : Int32)) (by decide) 68 dX7_wedding_67 rfl ?_
      refine pw_aload_n 0 rfl rfl 69 dX7_wedding_68 rfl ?_
      refine pw_iconst (v := (1 : Int32)) (by decide) 70 dX7_wedding_69 rfl ?_
      refine pw_bipush (v := (99 : Int32)) (by decide) 72 dX7_wedding_70 rfl ?_
      obtain ⟨r16, m15, hr16, h⟩ := bd2_e h
      refine pw_callVi 75 dX7_wedding_72 rfl [.int (1 : Int32), .int (99 : Int32)] 2 ⟨gX7_wedding_X7_figure, rfl, sgV_X7_figure, ⟨Nat.le_of_ble_eq_true rfl, Nat.le_of_ble_eq_true rfl⟩, ⟨Nat.le_refl _, Nat.le_refl _⟩⟩ ly_298 (by decide) la_298 rfl (k_X7_figure hr16) rfl rfl (Nat.le_of_ble_eq_true rfl) ?_
      refine pw_iast 76 dX7_wedding_75 rfl la_305 ly_305 (vp_lit rfl rfl) ?_
      obtain ⟨m17, em17, h⟩ := nmE_ h
      refine pw_mem em17 ?_
      refine pw_aload_n 0 rfl rfl 77 dX7_wedding_76 rfl ?_
      refine pw_getR 14 80 dX7_wedding_77 rfl fi_X7_wedding_7 lk_X7_wedding_28 la_298 ly_298 (by decide) rfl (by decide) rfl rf_298_14 ?_
      refine pw_iconst (v := (1 : Int32)) (by decide) 81 dX7_wedding_80 rfl ?_
      refine pw_aload_n 0 rfl rfl 82 dX7_wedding_81 rfl ?_
      refine pw_iconst (v := (0 : Int32)) (by decide) 83 dX7_wedding_82 rfl ?_
      refine pw_bipush (v := (15 : Int32)) (by decide) 85 dX7_wedding_83 rfl ?_
      obtain ⟨r19, m18, hr19, h⟩ := bd2_e h
      refine pw_callVi 88 dX7_wedding_85 rfl [.int (0 : Int32), .int (15 : Int32)] 2 ⟨gX7_wedding_X7_follows, rfl, sgV_X7_follows, ⟨Nat.le_of_ble_eq_true rfl, Nat.le_of_ble_eq_true rfl⟩, ⟨Nat.le_refl _, Nat.le_refl _⟩⟩ ly_298 (by decide) la_298 rfl (k_X7_follows hr19) rfl rfl (Nat.le_of_ble_eq_true rfl) ?_
      refine pw_iast 89 dX7_wedding_88 rfl la_305 ly_305 (vp_lit rfl rfl) ?_
      obtain ⟨m20, em20, h⟩ := nmE_ h
      refine pw_mem em20 ?_
      refine pw_aload_n 0 rfl rfl 90 dX7_wedding_89 rfl ?_
      refine pw_aload_n 0 rfl rfl 91 dX7_wedding_90 rfl ?_
      refine pw_getI 11 94 dX7_wedding_91 rfl fi_X7_wedding_7 lk_X7_wedding_101 la_298 ly_298 (by decide) rfl (by decide) rfl ?_
      refine pw_iconst (v := (4 : Int32)) (by decide) 95 dX7_wedding_94 rfl ?_
      obtain ⟨j22, ej22, h⟩ := nmE_ h
      have hJ103_j22 : PW G (KM l G RX7 cX7_wedding 2 (some .int) wsX7_wedding 6 (Qi G r mF)) 103 [(0, .ref (G.1 + 298))] [.int j22, .ref (G.1 + 298)] m20 := by
        refine pw_iconst (v := (1 : Int32)) (by decide) 104 dX7_wedding_103 rfl ?_
        obtain ⟨r24, m23, hr24, h⟩ := bd2_e h
        refine pw_callVi 107 dX7_wedding_104 rfl [.int j22, .int (1 : Int32)] 2 ⟨gX7_wedding_X7_takes, rfl, sgV_X7_takes, ⟨Nat.le_of_ble_eq_true rfl, Nat.le_of_ble_eq_true rfl⟩, ⟨Nat.le_refl _, Nat.le_refl _⟩⟩ ly_298 (by decide) la_298 rfl (k_X7_takes hr24) rfl rfl (Nat.le_of_ble_eq_true rfl) ?_
        refine pw_pop rfl 108 dX7_wedding_107 rfl ?_
        refine pw_aload_n 0 rfl rfl 109 dX7_wedding_108 rfl ?_
        refine pw_aload_n 0 rfl rfl 110 dX7_wedding_109 rfl ?_
        refine pw_getI 11 113 dX7_wedding_110 rfl fi_X7_wedding_7 lk_X7_wedding_101 la_298 ly_298 (by decide) rfl (by decide) rfl ?_
        refine pw_iconst (v := (1 : Int32)) (by decide) 114 dX7_wedding_113 rfl ?_
        obtain ⟨j27, ej27, h⟩ := nmE_ h
        have hJ132_j27 : PW G (KM l G RX7 cX7_wedding 2 (some .int) wsX7_wedding 6 (Qi G r mF)) 132 [(0, .ref (G.1 + 298))] [.int j27, .ref (G.1 + 298)] m23 := by
          obtain ⟨m28, hm28, h⟩ := bd1_e h
          refine pw_callVv 135 dX7_wedding_132 rfl [.int j27] 1 ⟨gX7_wedding_X7_must, rfl, sgV_X7_must, ⟨Nat.le_of_ble_eq_true rfl, Nat.le_of_ble_eq_true rfl⟩, ⟨Nat.le_refl _, Nat.le_refl _⟩⟩ ly_298 (by decide) la_298 rfl (k_X7_must hm28) rfl rfl (Nat.le_of_ble_eq_true rfl) ?_
          obtain ⟨m33, h34, h⟩ := bd1_e h
          have hL135_h34 : PW G (KM l G RX7 cX7_wedding 2 (some .int) wsX7_wedding 6 (Qi G r mF)) 167 [(0, .ref (G.1 + 298))] [] m33 := by
            refine pw_aload_n 0 rfl rfl 168 dX7_wedding_167 rfl ?_
            refine pw_aload_n 0 rfl rfl 169 dX7_wedding_168 rfl ?_
            refine pw_getI 11 172 dX7_wedding_169 rfl fi_X7_wedding_7 lk_X7_wedding_101 la_298 ly_298 (by decide) rfl (by decide) rfl ?_
            obtain ⟨j36, ej36, h⟩ := nmE_ h
            have hJ180_j36 : PW G (KM l G RX7 cX7_wedding 2 (some .int) wsX7_wedding 6 (Qi G r mF)) 180 [(0, .ref (G.1 + 298))] [.int j36, .ref (G.1 + 298)] m33 := by
              obtain ⟨m37, hm37, h⟩ := bd1_e h
              refine pw_callVv 183 dX7_wedding_180 rfl [.int j36] 1 ⟨gX7_wedding_X7_must, rfl, sgV_X7_must, ⟨Nat.le_of_ble_eq_true rfl, Nat.le_of_ble_eq_true rfl⟩, ⟨Nat.le_refl _, Nat.le_refl _⟩⟩ ly_298 (by decide) la_298 rfl (k_X7_must hm37) rfl rfl (Nat.le_of_ble_eq_true rfl) ?_
              refine pw_aload_n 0 rfl rfl 184 dX7_wedding_183 rfl ?_
              refine pw_iconst (v := (0 : Int32)) (by decide) 185 dX7_wedding_184 rfl ?_
              refine pw_put (ty0 := tyX7) (ty := .int) 6 188 dX7_wedding_185 rfl fi_X7_wedding_7 tyX7_ok nmX7 lk_X7_wedding_85 la_298 ly_298 (by decide) rfl (by decide) rfl rfl rfl rfl rfl ?_
              obtain ⟨m38, em38, h⟩ := nmE_ h
              refine pw_mem em38 ?_
              refine pw_aload_n 0 rfl rfl 189 dX7_wedding_188 rfl ?_
              refine pw_callVi 192 dX7_wedding_189 rfl [] 0 ⟨gX7_wedding_X7_isWell, rfl, sgV_X7_isWell, ⟨Nat.le_of_ble_eq_true rfl, Nat.le_of_ble_eq_true rfl⟩, ⟨Nat.le_refl _, Nat.le_refl _⟩⟩ ly_298 (by decide) la_298 rfl (k_X7_isWell rfl) rfl rfl (Nat.le_of_ble_eq_true rfl) ?_
              refine pw_if_ne 203 195 dX7_wedding_192 (by decide) rfl (fun c39 => ?_) (fun c39 => ?_)
              · have h := if_f h c39
                refine pw_aload_n 0 rfl rfl 204 dX7_wedding_203 rfl ?_
                refine pw_getR 14 207 dX7_wedding_204 rfl fi_X7_wedding_7 lk_X7_wedding_28 la_298 ly_298 (by decide) rfl (by decide) rfl rf_298_14 ?_
                refine pw_iconst (v := (0 : Int32)) (by decide) 208 dX7_wedding_207 rfl ?_
                refine pw_aload_n 0 rfl rfl 209 dX7_wedding_208 rfl ?_
                refine pw_getR 13 212 dX7_wedding_209 rfl fi_X7_wedding_7 lk_X7_wedding_25 la_298 ly_298 (by decide) rfl (by decide) rfl rf_298_13 ?_
                refine pw_iconst (v := (0 : Int32)) (by decide) 213 dX7_wedding_212 rfl ?_
                obtain ⟨m40, hm40, h⟩ := bd1_e h
                refine pw_callSv 216 dX7_wedding_213 rfl [.ref (G.1 + 305), .int (0 : Int32), .ref (G.1 + 304), .int (0 : Int32)] 4 ⟨gX7_wedding_X7_copies, rfl, sgS_X7_copies, ⟨Nat.le_of_ble_eq_true rfl, Nat.le_of_ble_eq_true rfl⟩, ⟨Nat.le_refl _, Nat.le_refl _⟩⟩ (k_X7_copies la_305 ly_305 la_304 ly_304 hm40) rfl rfl (Nat.le_of_ble_eq_true rfl) ?_
                refine pw_aload_n 0 rfl rfl 217 dX7_wedding_216 rfl ?_
                refine pw_iconst (v := (0 : Int32)) (by decide) 218 dX7_wedding_217 rfl ?_
                refine pw_put (ty0 := tyX7) (ty := .int) 17 221 dX7_wedding_218 rfl fi_X7_wedding_7 tyX7_ok nmX7 lk_X7_wedding_142 la_298 ly_298 (by decide) rfl (by decide) rfl rfl rfl rfl rfl ?_
                obtain ⟨m41, em41, h⟩ := nmE_ h
                refine pw_mem em41 ?_
                refine pw_aload_n 0 rfl rfl 222 dX7_wedding_221 rfl ?_
                refine pw_getR 13 225 dX7_wedding_222 rfl fi_X7_wedding_7 lk_X7_wedding_25 la_298 ly_298 (by decide) rfl (by decide) rfl rf_298_13 ?_
                refine pw_iconst (v := (2 : Int32)) (by decide) 226 dX7_wedding_225 rfl ?_
                refine pw_iald 227 dX7_wedding_226 rfl la_304 ly_304 (vp_lit rfl rfl) ?_
                exact pw_iret dX7_wedding_227 (pr_inj h)
              · have h := if_t h c39
                refine pw_ldc 197 lw_X7_wedding_c137 dX7_wedding_195 rfl ?_
                refine pw_aload_n 0 rfl rfl 198 dX7_wedding_197 rfl ?_
                refine pw_getI 8 201 dX7_wedding_198 rfl fi_X7_wedding_7 lk_X7_wedding_104 la_298 ly_298 (by decide) rfl (by decide) rfl ?_
                refine pw_isub 202 dX7_wedding_201 rfl ?_
                exact pw_iret dX7_wedding_202 (pr_inj h)
            refine pw_if_ne 179 175 dX7_wedding_172 (by decide) rfl (fun c35 => ?_) (fun c35 => ?_)
            · have ej36 := if_fv ej36 c35
              refine pw_iconst (v := (0 : Int32)) (by decide) 180 dX7_wedding_179 rfl ?_
              refine pw_sub [0] [(0, .ref (G.1 + 298))] rfl ?_
              subst ej36; exact hJ180_j36
            · have ej36 := if_tv ej36 c35
              refine pw_iconst (v := (1 : Int32)) (by decide) 176 dX7_wedding_175 rfl ?_
              refine pw_goto 180 dX7_wedding_176 (by decide) ?_
              refine pw_sub [0] [(0, .ref (G.1 + 298))] rfl ?_
              subst ej36; exact hJ180_j36
          refine pw_sub [0] [(0, .ref (G.1 + 298))] rfl ?_
          exact kl_X7_wedding_135 FU m28 m33 h34 hL135_h34
        refine pw_icmp_ne 131 117 dX7_wedding_114 (by decide) rfl (fun c25 => ?_) (fun c25 => ?_)
        · have ej27 := if_fv ej27 c25
          refine pw_iconst (v := (0 : Int32)) (by decide) 132 dX7_wedding_131 rfl ?_
          refine pw_sub [0] [(0, .ref (G.1 + 298))] rfl ?_
          subst ej27; exact hJ132_j27
        · have ej27 := if_tv ej27 c25
          refine pw_aload_n 0 rfl rfl 118 dX7_wedding_117 rfl ?_
          refine pw_getI 12 121 dX7_wedding_118 rfl fi_X7_wedding_7 lk_X7_wedding_98 la_298 ly_298 (by decide) rfl (by decide) rfl ?_
          refine pw_callSi 124 dX7_wedding_121 rfl [.int (m23 298 12)] 1 ⟨gX7_wedding_X7_kindOf, rfl, sgS_X7_kindOf, ⟨Nat.le_of_ble_eq_true rfl, Nat.le_of_ble_eq_true rfl⟩, ⟨Nat.le_refl _, Nat.le_refl _⟩⟩ (k_X7_kindOf rfl) rfl rfl (Nat.le_of_ble_eq_true rfl) ?_
          refine pw_if_le 131 127 dX7_wedding_124 (by decide) rfl (fun c26 => ?_) (fun c26 => ?_)
          · have ej27 := if_tv ej27 c26
            refine pw_iconst (v := (0 : Int32)) (by decide) 132 dX7_wedding_131 rfl ?_
            refine pw_sub [0] [(0, .ref (G.1 + 298))] rfl ?_
            subst ej27; exact hJ132_j27
          · have ej27 := if_fv ej27 c26
            refine pw_iconst (v := (1 : Int32)) (by decide) 128 dX7_wedding_127 rfl ?_
            refine pw_goto 132 dX7_wedding_128 (by decide) ?_
            refine pw_sub [0] [(0, .ref (G.1 + 298))] rfl ?_
            subst ej27; exact hJ132_j27
      refine pw_icmp_ne 102 98 dX7_wedding_95 (by decide) rfl (fun c21 => ?_) (fun c21 => ?_)
      · have ej22 := if_fv ej22 c21
        refine pw_iconst (v := (0 : Int32)) (by decide) 103 dX7_wedding_102 rfl ?_
        refine pw_sub [0] [(0, .ref (G.1 + 298))] rfl ?_
        subst ej22; exact hJ103_j22
      · have ej22 := if_tv ej22 c21
        refine pw_iconst (v := (1 : Int32)) (by decide) 99 dX7_wedding_98 rfl ?_
        refine pw_goto 103 dX7_wedding_99 (by decide) ?_
        refine pw_sub [0] [(0, .ref (G.1 + 298))] rfl ?_
        subst ej22; exact hJ103_j22
    refine pw_icmp_ne 57 44 dX7_wedding_41 (by decide) rfl (fun c10 => ?_) (fun c10 => ?_)
    · have ej12 := if_fv ej12 c10
      refine pw_iconst (v := (0 : Int32)) (by decide) 58 dX7_wedding_57 rfl ?_
      refine pw_sub [0] [(0, .ref (G.1 + 298))] rfl ?_
      subst ej12; exact hJ58_j12
    · have ej12 := if_tv ej12 c10
      refine pw_aload_n 0 rfl rfl 45 dX7_wedding_44 rfl ?_
      refine pw_getI 12 48 dX7_wedding_45 rfl fi_X7_wedding_7 lk_X7_wedding_98 la_298 ly_298 (by decide) rfl (by decide) rfl ?_
      refine pw_bipush (v := (119 : Int32)) (by decide) 50 dX7_wedding_48 rfl ?_
      refine pw_icmp_ne 57 53 dX7_wedding_50 (by decide) rfl (fun c11 => ?_) (fun c11 => ?_)
      · have ej12 := if_fv ej12 c11
        refine pw_iconst (v := (0 : Int32)) (by decide) 58 dX7_wedding_57 rfl ?_
        refine pw_sub [0] [(0, .ref (G.1 + 298))] rfl ?_
        subst ej12; exact hJ58_j12
      · have ej12 := if_tv ej12 c11
        refine pw_iconst (v := (1 : Int32)) (by decide) 54 dX7_wedding_53 rfl ?_
        refine pw_goto 58 dX7_wedding_54 (by decide) ?_
        refine pw_sub [0] [(0, .ref (G.1 + 298))] rfl ?_
        subst ej12; exact hJ58_j12
  refine pw_sub [1, 0] [(0, .ref (G.1 + 298)), (1, .int (0 : Int32))] rfl ?_
  exact kl_X7_wedding_2 FU (0 : Int32) m m5 h6 hL2_h6
