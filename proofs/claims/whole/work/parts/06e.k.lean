theorem lw_X6_away_c63 : Cond.constant RX6 63 (-1000001 : Int32) ∈ wsX6_away := by decide +kernel
theorem fi_X6_away_6 : ∀ w ∈ wsX60, w ∈ wsX6_away := by decide +kernel
theorem lk_X6_away_39 : Cond.fieldLink RX6 39 (TX6 4).1 (TX6 4).2.1 (TX6 4).2.2.1 ∈ wsX6_away := by decide +kernel
theorem lk_X6_away_25 : Cond.fieldLink RX6 25 (TX6 2).1 (TX6 2).2.1 (TX6 2).2.2.1 ∈ wsX6_away := by decide +kernel
theorem lw_X6_away_c135 : Cond.constant RX6 135 (-1000002 : Int32) ∈ wsX6_away := by decide +kernel
set_option maxHeartbeats 4000000 in
set_option maxRecDepth 100000 in
theorem k_X6_away {l : Launch} {G : Gx} {x1 : Int32} {x2 : Int32} {x3 : Int32} {m mF : Mm} {r : Int32}  (h : f_X6_away x1 x2 x3 m = some (r, mF)) : Cn l G 6 yX6_away wsX6_away [.ref (G.1 + 0), .int x1, .int x2, .int x3] m (Qi G r mF) := by
  unfold f_X6_away at h
  refine Cn.of (own := RX6) (lv := [(0, .ref (G.1 + 0)), (1, .int x1), (2, .int x2), (3, .int x3)]) (by decide) rfl rfl (Nat.le_of_ble_eq_true rfl) rfl ?_
  refine pw_aload_n 0 rfl rfl 1 dX6_away_0 rfl ?_
  refine pw_callVi 4 dX6_away_1 rfl [] 0 ⟨gX6_away_X6_isNone, rfl, sgV_X6_isNone, ⟨Nat.le_of_ble_eq_true rfl, Nat.le_of_ble_eq_true rfl⟩, ⟨Nat.le_refl _, Nat.le_refl _⟩⟩ ly_0 (by decide) la_0 rfl (k_X6_isNone rfl) rfl rfl (Nat.le_of_ble_eq_true rfl) ?_
  refine pw_if_eq 10 7 dX6_away_4 (by decide) rfl (fun c1 => ?_) (fun c1 => ?_)
  · have h := if_t h c1
    refine pw_iload_n 1 rfl rfl 11 dX6_away_10 rfl ?_
    refine pw_iconst (v := (0 : Int32)) (by decide) 12 dX6_away_11 rfl ?_
    refine pw_bipush (v := (30 : Int32)) (by decide) 14 dX6_away_12 rfl ?_
    refine pw_callSi 17 dX6_away_14 rfl [.int x1, .int (0 : Int32), .int (30 : Int32)] 3 ⟨gX6_away_X6_isWithin, rfl, sgS_X6_isWithin, ⟨Nat.le_of_ble_eq_true rfl, Nat.le_of_ble_eq_true rfl⟩, ⟨Nat.le_refl _, Nat.le_refl _⟩⟩ (k_X6_isWithin rfl) rfl rfl (Nat.le_of_ble_eq_true rfl) ?_
    refine pw_if_eq 37 20 dX6_away_17 (by decide) rfl (fun c2 => ?_) (fun c2 => ?_)
    · have h := if_t h c2
      refine pw_ldc 39 lw_X6_away_c63 dX6_away_37 rfl ?_
      exact pw_iret dX6_away_39 (pr_inj h)
    · have h := if_f h c2
      refine pw_iload_n 2 rfl rfl 21 dX6_away_20 rfl ?_
      refine pw_iconst (v := (0 : Int32)) (by decide) 22 dX6_away_21 rfl ?_
      refine pw_bipush (v := (10 : Int32)) (by decide) 24 dX6_away_22 rfl ?_
      refine pw_callSi 27 dX6_away_24 rfl [.int x2, .int (0 : Int32), .int (10 : Int32)] 3 ⟨gX6_away_X6_isWithin, rfl, sgS_X6_isWithin, ⟨Nat.le_of_ble_eq_true rfl, Nat.le_of_ble_eq_true rfl⟩, ⟨Nat.le_refl _, Nat.le_refl _⟩⟩ (k_X6_isWithin rfl) rfl rfl (Nat.le_of_ble_eq_true rfl) ?_
      refine pw_if_eq 37 30 dX6_away_27 (by decide) rfl (fun c3 => ?_) (fun c3 => ?_)
      · have h := if_t h c3
        refine pw_ldc 39 lw_X6_away_c63 dX6_away_37 rfl ?_
        exact pw_iret dX6_away_39 (pr_inj h)
      · have h := if_f h c3
        refine pw_iload_n 3 rfl rfl 31 dX6_away_30 rfl ?_
        refine pw_callSi 34 dX6_away_31 rfl [.int x3] 1 ⟨gX6_away_X6_isFlag, rfl, sgS_X6_isFlag, ⟨Nat.le_of_ble_eq_true rfl, Nat.le_of_ble_eq_true rfl⟩, ⟨Nat.le_refl _, Nat.le_refl _⟩⟩ (k_X6_isFlag rfl) rfl rfl (Nat.le_of_ble_eq_true rfl) ?_
        refine pw_if_ne 40 37 dX6_away_34 (by decide) rfl (fun c4 => ?_) (fun c4 => ?_)
        · have h := if_f h c4
          refine pw_aload_n 0 rfl rfl 41 dX6_away_40 rfl ?_
          refine pw_getR 4 44 dX6_away_41 rfl fi_X6_away_6 lk_X6_away_39 la_0 ly_0 (by decide) rfl (by decide) rfl rf_0_4 ?_
          refine pw_aload_n 0 rfl rfl 45 dX6_away_44 rfl ?_
          refine pw_getR 2 48 dX6_away_45 rfl fi_X6_away_6 lk_X6_away_25 la_0 ly_0 (by decide) rfl (by decide) rfl rf_0_2 ?_
          refine pw_iload_n 1 rfl rfl 49 dX6_away_48 rfl ?_
          refine pw_iload_n 2 rfl rfl 50 dX6_away_49 rfl ?_
          obtain ⟨m5, hm5, h⟩ := bd1_e h
          refine pw_callVv 53 dX6_away_50 rfl [.ref (G.1 + 13), .int x1, .int x2] 3 ⟨gX6_away_X1_weighAway, rfl, sgV_X1_weighAway, ⟨Nat.le_of_ble_eq_true rfl, Nat.le_of_ble_eq_true rfl⟩, ⟨Nat.le_refl _, Nat.le_refl _⟩⟩ ly_240 (by decide) la_240 rfl (k_X1_weighAway isW_13 hm5) rfl rfl (Nat.le_of_ble_eq_true rfl) ?_
          refine pw_aload_n 0 rfl rfl 54 dX6_away_53 rfl ?_
          refine pw_getR 4 57 dX6_away_54 rfl fi_X6_away_6 lk_X6_away_39 la_0 ly_0 (by decide) rfl (by decide) rfl rf_0_4 ?_
          refine pw_iload_n 3 rfl rfl 58 dX6_away_57 rfl ?_
          refine pw_callVi 61 dX6_away_58 rfl [.int x3] 1 ⟨gX6_away_X1_answer, rfl, sgV_X1_answer, ⟨Nat.le_of_ble_eq_true rfl, Nat.le_of_ble_eq_true rfl⟩, ⟨Nat.le_refl _, Nat.le_refl _⟩⟩ ly_240 (by decide) la_240 rfl (k_X1_answer rfl) rfl rfl (Nat.le_of_ble_eq_true rfl) ?_
          exact pw_iret dX6_away_61 (pr_inj h)
        · have h := if_t h c4
          refine pw_ldc 39 lw_X6_away_c63 dX6_away_37 rfl ?_
          exact pw_iret dX6_away_39 (pr_inj h)
  · have h := if_f h c1
    refine pw_ldc 9 lw_X6_away_c135 dX6_away_7 rfl ?_
    exact pw_iret dX6_away_9 (pr_inj h)
theorem fi_X1_season_1 : ∀ w ∈ wsX10, w ∈ wsX1_season := by decide +kernel
theorem lk_X1_season_12 : Cond.fieldLink RX1 12 (TX1 0).1 (TX1 0).2.1 (TX1 0).2.2.1 ∈ wsX1_season := by decide +kernel
theorem fi_X1_season_5 : ∀ w ∈ wsX50, w ∈ wsX1_season := by decide +kernel
theorem lk_X1_season_49 : Cond.fieldLink RX1 49 (TX5 0).1 (TX5 0).2.1 (TX5 0).2.2.1 ∈ wsX1_season := by decide +kernel
theorem lw_X1_season_c113 : Cond.constantLong RX1 113 (16807 : Int64) ∈ wsX1_season := by decide +kernel
theorem lw_X1_season_c115 : Cond.constantLong RX1 115 (2147483647 : Int64) ∈ wsX1_season := by decide +kernel
theorem lk_X1_season_102 : Cond.fieldLink RX1 102 (TX5 6).1 (TX5 6).2.1 (TX5 6).2.2.1 ∈ wsX1_season := by decide +kernel
theorem lw_X1_season_c117 : Cond.constantLong RX1 117 (7 : Int64) ∈ wsX1_season := by decide +kernel
theorem lk_X1_season_122 : Cond.fieldLink RX1 122 (TX5 13).1 (TX5 13).2.1 (TX5 13).2.2.1 ∈ wsX1_season := by decide +kernel
set_option maxHeartbeats 4000000 in
set_option maxRecDepth 100000 in
theorem kl_X1_season_15 {l : Launch} {G : Gx}   {mF : Mm}  : ∀ (n : Nat) (y2 : Int32) (y4 : Int64) (y6 : Int32) (m : Mm) (a0 : Mm), lp_X1_season_15 n y2 y4 y6 m = some a0 → PW G (KM l G RX1 cX1_season 8 (some (.object "TearGuests$Wedding")) wsX1_season 3 (Qr G 241 mF)) 137 [(0, .ref (G.1 + 240))] [] a0 → PW G (KM l G RX1 cX1_season 8 (some (.object "TearGuests$Wedding")) wsX1_season 3 (Qr G 241 mF)) 15 [(0, .ref (G.1 + 240)), (2, .int y2), (4, .long y4), (6, .int y6)] [] m := by
  intro n
  induction n with
  | zero => intro y2 y4 y6 m a0 h hk; cases h
  | succ n ih =>
    intro y2 y4 y6 m a0 h hk
    have h : lb_X1_season_15 (lp_X1_season_15 n) y2 y4 y6 m = _ := h
    unfold lb_X1_season_15 at h
    refine pw_iload 3 rfl 17 dX1_season_15 rfl ?_
    refine pw_iload_n 1 rfl rfl 18 dX1_season_17 rfl ?_
    refine pw_icmp_ge 137 21 dX1_season_18 (by decide) rfl (fun c3 => ?_) (fun c3 => ?_)
    · have h := if_t h c3
      refine pw_sub [0] [(0, .ref (G.1 + 240))] rfl ?_
      cases h; exact hk
    · have h := if_f h c3
      refine pw_aload_n 0 rfl rfl 22 dX1_season_21 rfl ?_
      refine pw_getR 0 25 dX1_season_22 rfl fi_X1_season_1 lk_X1_season_12 la_240 ly_240 (by decide) rfl (by decide) rfl rf_240_0 ?_
      refine pw_getI 0 28 dX1_season_25 rfl fi_X1_season_5 lk_X1_season_49 la_241 ly_241 (by decide) rfl (by decide) rfl ?_
      refine pw_if_le 137 31 dX1_season_28 (by decide) rfl (fun c4 => ?_) (fun c4 => ?_)
      · have h := if_t h c4
        refine pw_sub [0] [(0, .ref (G.1 + 240))] rfl ?_
        cases h; exact hk
      · have h := if_f h c4
        refine pw_lload 2 rfl 33 dX1_season_31 rfl ?_
        refine pw_ldc2 36 lw_X1_season_c113 dX1_season_33 rfl ?_
        refine pw_lmul 37 dX1_season_36 rfl ?_
        refine pw_ldc2 40 lw_X1_season_c115 dX1_season_37 rfl ?_
        refine pw_lrem (by decide) 41 dX1_season_40 rfl ?_
        obtain ⟨v5, ev5, h⟩ := nmE_ h
        refine pw_topl ev5 ?_
        refine pw_lstore [(4, .long v5), (0, .ref (G.1 + 240)), (2, .int y2), (6, .int y6)] 43 dX1_season_41 rfl (Nat.le_of_ble_eq_true rfl) rfl ?_
        refine pw_aload_n 1 rfl rfl 44 dX1_season_43 rfl ?_
        refine pw_getR 0 47 dX1_season_44 rfl fi_X1_season_1 lk_X1_season_12 la_240 ly_240 (by decide) rfl (by decide) rfl rf_240_0 ?_
        refine pw_aload_n 1 rfl rfl 48 dX1_season_47 rfl ?_
        refine pw_getR 0 51 dX1_season_48 rfl fi_X1_season_1 lk_X1_season_12 la_240 ly_240 (by decide) rfl (by decide) rfl rf_240_0 ?_
        refine pw_getI 6 54 dX1_season_51 rfl fi_X1_season_5 lk_X1_season_102 la_241 ly_241 (by decide) rfl (by decide) rfl ?_
        refine pw_iconst (v := (1 : Int32)) (by decide) 55 dX1_season_54 rfl ?_
        refine pw_lload 0 rfl 57 dX1_season_55 rfl ?_
        refine pw_aload_n 1 rfl rfl 58 dX1_season_57 rfl ?_
        refine pw_getR 0 61 dX1_season_58 rfl fi_X1_season_1 lk_X1_season_12 la_240 ly_240 (by decide) rfl (by decide) rfl rf_240_0 ?_
        refine pw_getI 0 64 dX1_season_61 rfl fi_X1_season_5 lk_X1_season_49 la_241 ly_241 (by decide) rfl (by decide) rfl ?_
        refine pw_i2l 65 dX1_season_64 rfl ?_
        obtain ⟨h6, h⟩ := gd_e h
        refine pw_lrem h6 66 dX1_season_65 rfl ?_
        refine pw_l2i 67 dX1_season_66 rfl ?_
        refine pw_ishl 68 dX1_season_67 rfl ?_
        refine pw_ixor 69 dX1_season_68 rfl ?_
        obtain ⟨m7, hm7, h⟩ := bd1_e h
        refine pw_callVv 72 dX1_season_69 rfl [.int ((m 241 6) ^^^ ((1 : Int32) <<< (((v5 - v5 / ((m 241 0)).toInt64 * ((m 241 0)).toInt64)).toInt32 &&& 31)))] 1 ⟨gX1_season_X5_engage, rfl, sgV_X5_engage, ⟨Nat.le_of_ble_eq_true rfl, Nat.le_of_ble_eq_true rfl⟩, ⟨Nat.le_refl _, Nat.le_refl _⟩⟩ ly_241 (by decide) la_241 rfl (k_X5_engage isW_241 hm7) rfl rfl (Nat.le_of_ble_eq_true rfl) ?_
        refine pw_lload 0 rfl 74 dX1_season_72 rfl ?_
        refine pw_ldc2 77 lw_X1_season_c117 dX1_season_74 rfl ?_
        refine pw_lrem (by decide) 78 dX1_season_77 rfl ?_
        refine pw_l2i 79 dX1_season_78 rfl ?_
        obtain ⟨v8, ev8, h⟩ := nmE_ h
        refine pw_top ev8 ?_
        refine pw_istore [(7, .int v8), (4, .long v5), (0, .ref (G.1 + 240)), (2, .int y2), (6, .int y6)] 81 dX1_season_79 rfl (Nat.le_of_ble_eq_true rfl) rfl ?_
        refine pw_aload_n 2 rfl rfl 82 dX1_season_81 rfl ?_
        refine pw_getR 0 85 dX1_season_82 rfl fi_X1_season_1 lk_X1_season_12 la_240 ly_240 (by decide) rfl (by decide) rfl rf_240_0 ?_
        refine pw_iload 0 rfl 87 dX1_season_85 rfl ?_
        refine pw_iconst (v := (1 : Int32)) (by decide) 88 dX1_season_87 rfl ?_
        refine pw_iadd 89 dX1_season_88 rfl ?_
        refine pw_callVi 92 dX1_season_89 rfl [.int (v8 + (1 : Int32))] 1 ⟨gX1_season_X5_has, rfl, sgV_X5_has, ⟨Nat.le_of_ble_eq_true rfl, Nat.le_of_ble_eq_true rfl⟩, ⟨Nat.le_refl _, Nat.le_refl _⟩⟩ ly_241 (by decide) la_241 rfl (k_X5_has isW_241 rfl) rfl rfl (Nat.le_of_ble_eq_true rfl) ?_
        obtain ⟨m13, qm13, h⟩ := bd1_e h
        have hJ124_m13 : PW G (KM l G RX1 cX1_season 8 (some (.object "TearGuests$Wedding")) wsX1_season 3 (Qr G 241 mF)) 124 [(0, .ref (G.1 + 240)), (2, .int y2), (4, .long v5), (6, .int y6)] [] m13 := by
          refine pw_aload_n 0 rfl rfl 125 dX1_season_124 rfl ?_
          refine pw_getR 0 128 dX1_season_125 rfl fi_X1_season_1 lk_X1_season_12 la_240 ly_240 (by decide) rfl (by decide) rfl rf_240_0 ?_
          obtain ⟨m14, hm14, h⟩ := bd1_e h
          refine pw_callVv 131 dX1_season_128 rfl [] 0 ⟨gX1_season_X5_pass, rfl, sgV_X5_pass, ⟨Nat.le_of_ble_eq_true rfl, Nat.le_of_ble_eq_true rfl⟩, ⟨Nat.le_refl _, Nat.le_refl _⟩⟩ ly_241 (by decide) la_241 rfl (k_X5_pass isW_241 hm14) rfl rfl (Nat.le_of_ble_eq_true rfl) ?_
          obtain ⟨v15, ev15, h⟩ := nmE_ h
          refine pw_iinc 3 rfl (by rw [ev15]; rfl) [(6, .int v15), (0, .ref (G.1 + 240)), (2, .int y2), (4, .long v5)] 134 dX1_season_131 rfl (Nat.le_of_ble_eq_true rfl) rfl ?_
          refine pw_goto 15 dX1_season_134 (by decide) ?_
          refine pw_sub [1, 2, 3, 0] [(0, .ref (G.1 + 240)), (2, .int y2), (4, .long v5), (6, .int v15)] rfl ?_
          exact ih y2 v5 v15 m14 a0 h hk
        refine pw_if_eq 124 95 dX1_season_92 (by decide) rfl (fun c9 => ?_) (fun c9 => ?_)
        · have qm13 := if_t qm13 c9
          refine pw_sub [2, 3, 1, 4] [(0, .ref (G.1 + 240)), (2, .int y2), (4, .long v5), (6, .int y6)] rfl ?_
          cases qm13; exact hJ124_m13
        · have qm13 := if_f qm13 c9
          refine pw_aload_n 2 rfl rfl 96 dX1_season_95 rfl ?_
          refine pw_getR 0 99 dX1_season_96 rfl fi_X1_season_1 lk_X1_season_12 la_240 ly_240 (by decide) rfl (by decide) rfl rf_240_0 ?_
          refine pw_aload_n 2 rfl rfl 100 dX1_season_99 rfl ?_
          refine pw_getR 0 103 dX1_season_100 rfl fi_X1_season_1 lk_X1_season_12 la_240 ly_240 (by decide) rfl (by decide) rfl rf_240_0 ?_
          refine pw_getR 13 106 dX1_season_103 rfl fi_X1_season_5 lk_X1_season_122 la_241 ly_241 (by decide) rfl (by decide) rfl rf_241_13 ?_
          refine pw_iload 0 rfl 108 dX1_season_106 rfl ?_
          obtain ⟨h10, qm13⟩ := gd_e qm13
          refine pw_iald 109 dX1_season_108 rfl la_248 ly_248 h10 ?_
          refine pw_aload_n 2 rfl rfl 110 dX1_season_109 rfl ?_
          refine pw_getR 0 113 dX1_season_110 rfl fi_X1_season_1 lk_X1_season_12 la_240 ly_240 (by decide) rfl (by decide) rfl rf_240_0 ?_
          refine pw_getR 13 116 dX1_season_113 rfl fi_X1_season_5 lk_X1_season_122 la_241 ly_241 (by decide) rfl (by decide) rfl rf_241_13 ?_
          refine pw_iload 0 rfl 118 dX1_season_116 rfl ?_
          refine pw_iconst (v := (1 : Int32)) (by decide) 119 dX1_season_118 rfl ?_
          refine pw_iadd 120 dX1_season_119 rfl ?_
          obtain ⟨h11, qm13⟩ := gd_e qm13
          refine pw_iald 121 dX1_season_120 rfl la_248 ly_248 h11 ?_
          obtain ⟨m12, hm12, qm13⟩ := bd1_e qm13
          refine pw_callVv 124 dX1_season_121 rfl [.int (m7 248 (ix v8)), .int (m7 248 (ix (v8 + (1 : Int32))))] 2 ⟨gX1_season_X5_trade, rfl, sgV_X5_trade, ⟨Nat.le_of_ble_eq_true rfl, Nat.le_of_ble_eq_true rfl⟩, ⟨Nat.le_refl _, Nat.le_refl _⟩⟩ ly_241 (by decide) la_241 rfl (k_X5_trade isW_241 hm12) rfl rfl (Nat.le_of_ble_eq_true rfl) ?_
          refine pw_sub [2, 3, 1, 4] [(0, .ref (G.1 + 240)), (2, .int y2), (4, .long v5), (6, .int y6)] rfl ?_
          cases qm13; exact hJ124_m13
set_option maxHeartbeats 4000000 in
set_option maxRecDepth 100000 in
theorem k_X1_season {l : Launch} {G : Gx} {w1 : Nat} {x2 : Int32} {x3 : Int32} {m mF : Mm}  (hw1 : IsW w1) (h : f_X1_season w1 x2 x3 m = some mF) : Cn l G 3 yX1_season wsX1_season [.ref (G.1 + 240), .ref (G.1 + w1), .int x2, .int x3] m (Qr G 241 mF) := by
  unfold f_X1_season at h
  refine Cn.of (own := RX1) (lv := [(0, .ref (G.1 + 240)), (1, .ref (G.1 + w1)), (2, .int x2), (3, .int x3)]) (by decide) rfl rfl (Nat.le_of_ble_eq_true rfl) rfl ?_
  refine pw_aload_n 0 rfl rfl 1 dX1_season_0 rfl ?_
  refine pw_getR 0 4 dX1_season_1 rfl fi_X1_season_1 lk_X1_season_12 la_240 ly_240 (by decide) rfl (by decide) rfl rf_240_0 ?_
  refine pw_aload_n 1 rfl rfl 5 dX1_season_4 rfl ?_
  obtain ⟨m1, hm1, h⟩ := bd1_e h
  refine pw_callVv 8 dX1_season_5 rfl [.ref (G.1 + w1)] 1 ⟨gX1_season_X5_become, rfl, sgV_X5_become, ⟨Nat.le_of_ble_eq_true rfl, Nat.le_of_ble_eq_true rfl⟩, ⟨Nat.le_refl _, Nat.le_refl _⟩⟩ ly_241 (by decide) la_241 rfl (k_X5_become isW_241 hw1 hm1) rfl rfl (Nat.le_of_ble_eq_true rfl) ?_
  refine pw_iload_n 3 rfl rfl 9 dX1_season_8 rfl ?_
  refine pw_i2l 10 dX1_season_9 rfl ?_
  obtain ⟨v2, ev2, h⟩ := nmE_ h
  refine pw_topl ev2 ?_
  refine pw_lstore [(4, .long v2), (0, .ref (G.1 + 240)), (1, .ref (G.1 + w1)), (2, .int x2), (3, .int x3)] 12 dX1_season_10 rfl (Nat.le_of_ble_eq_true rfl) rfl ?_
  refine pw_iconst (v := (0 : Int32)) (by decide) 13 dX1_season_12 rfl ?_
  refine pw_istore [(6, .int (0 : Int32)), (4, .long v2), (0, .ref (G.1 + 240)), (1, .ref (G.1 + w1)), (2, .int x2), (3, .int x3)] 15 dX1_season_13 rfl (Nat.le_of_ble_eq_true rfl) rfl ?_
  obtain ⟨m16, h17, h⟩ := bd1_e h
  have hL15_h17 : PW G (KM l G RX1 cX1_season 8 (some (.object "TearGuests$Wedding")) wsX1_season 3 (Qr G 241 mF)) 137 [(0, .ref (G.1 + 240))] [] m16 := by
    refine pw_aload_n 0 rfl rfl 138 dX1_season_137 rfl ?_
    refine pw_getR 0 141 dX1_season_138 rfl fi_X1_season_1 lk_X1_season_12 la_240 ly_240 (by decide) rfl (by decide) rfl rf_240_0 ?_
    exact pw_aret dX1_season_141 ⟨rfl, Option.some.inj h⟩
  refine pw_sub [2, 4, 1, 0] [(0, .ref (G.1 + 240)), (2, .int x2), (4, .long v2), (6, .int (0 : Int32))] rfl ?_
  exact kl_X1_season_15 FU x2 v2 (0 : Int32) m1 m16 h17 hL15_h17
theorem lw_X6_drawn_c63 : Cond.constant RX6 63 (-1000001 : Int32) ∈ wsX6_drawn := by decide +kernel
theorem lw_X6_drawn_c252 : Cond.constant RX6 252 (999999 : Int32) ∈ wsX6_drawn := by decide +kernel
theorem fi_X6_drawn_6 : ∀ w ∈ wsX60, w ∈ wsX6_drawn := by decide +kernel
theorem lk_X6_drawn_39 : Cond.fieldLink RX6 39 (TX6 4).1 (TX6 4).2.1 (TX6 4).2.2.1 ∈ wsX6_drawn := by decide +kernel
theorem lk_X6_drawn_25 : Cond.fieldLink RX6 25 (TX6 2).1 (TX6 2).2.1 (TX6 2).2.2.1 ∈ wsX6_drawn := by decide +kernel
theorem fi_X6_drawn_5 : ∀ w ∈ wsX50, w ∈ wsX6_drawn := by decide +kernel
theorem lk_X6_drawn_203 : Cond.fieldLink RX6 203 (TX5 5).1 (TX5 5).2.1 (TX5 5).2.2.1 ∈ wsX6_drawn := by decide +kernel
theorem lk_X6_drawn_145 : Cond.fieldLink RX6 145 (TX5 4).1 (TX5 4).2.1 (TX5 4).2.2.1 ∈ wsX6_drawn := by decide +kernel
theorem lw_X6_drawn_c135 : Cond.constant RX6 135 (-1000002 : Int32) ∈ wsX6_drawn := by decide +kernel
set_option maxHeartbeats 4000000 in
set_option maxRecDepth 100000 in
theorem k_X6_drawn {l : Launch} {G : Gx} {x1 : Int32} {x2 : Int32} {x3 : Int32} {m mF : Mm} {r : Int32}  (h : f_X6_drawn x1 x2 x3 m = some (r, mF)) : Cn l G 4 yX6_drawn wsX6_drawn [.ref (G.1 + 0), .int x1, .int x2, .int x3] m (Qi G r mF) := by
  unfold f_X6_drawn at h
  refine Cn.of (own := RX6) (lv := [(0, .ref (G.1 + 0)), (1, .int x1), (2, .int x2), (3, .int x3)]) (by decide) rfl rfl (Nat.le_of_ble_eq_true rfl) rfl ?_
  refine pw_aload_n 0 rfl rfl 1 dX6_drawn_0 rfl ?_
  refine pw_callVi 4 dX6_drawn_1 rfl [] 0 ⟨gX6_drawn_X6_isNone, rfl, sgV_X6_isNone, ⟨Nat.le_of_ble_eq_true rfl, Nat.le_of_ble_eq_true rfl⟩, ⟨Nat.le_refl _, Nat.le_refl _⟩⟩ ly_0 (by decide) la_0 rfl (k_X6_isNone rfl) rfl rfl (Nat.le_of_ble_eq_true rfl) ?_
  refine pw_if_eq 10 7 dX6_drawn_4 (by decide) rfl (fun c1 => ?_) (fun c1 => ?_)
  · have h := if_t h c1
    refine pw_iload_n 1 rfl rfl 11 dX6_drawn_10 rfl ?_
    refine pw_iconst (v := (0 : Int32)) (by decide) 12 dX6_drawn_11 rfl ?_
    refine pw_bipush (v := (60 : Int32)) (by decide) 14 dX6_drawn_12 rfl ?_
    refine pw_callSi 17 dX6_drawn_14 rfl [.int x1, .int (0 : Int32), .int (60 : Int32)] 3 ⟨gX6_drawn_X6_isWithin, rfl, sgS_X6_isWithin, ⟨Nat.le_of_ble_eq_true rfl, Nat.le_of_ble_eq_true rfl⟩, ⟨Nat.le_refl _, Nat.le_refl _⟩⟩ (k_X6_isWithin rfl) rfl rfl (Nat.le_of_ble_eq_true rfl) ?_
    refine pw_if_eq 37 20 dX6_drawn_17 (by decide) rfl (fun c2 => ?_) (fun c2 => ?_)
    · have h := if_t h c2
      refine pw_ldc 39 lw_X6_drawn_c63 dX6_drawn_37 rfl ?_
      exact pw_iret dX6_drawn_39 (pr_inj h)
    · have h := if_f h c2
      refine pw_iload_n 2 rfl rfl 21 dX6_drawn_20 rfl ?_
      refine pw_iconst (v := (1 : Int32)) (by decide) 22 dX6_drawn_21 rfl ?_
      refine pw_ldc 24 lw_X6_drawn_c252 dX6_drawn_22 rfl ?_
      refine pw_callSi 27 dX6_drawn_24 rfl [.int x2, .int (1 : Int32), .int (999999 : Int32)] 3 ⟨gX6_drawn_X6_isWithin, rfl, sgS_X6_isWithin, ⟨Nat.le_of_ble_eq_true rfl, Nat.le_of_ble_eq_true rfl⟩, ⟨Nat.le_refl _, Nat.le_refl _⟩⟩ (k_X6_isWithin rfl) rfl rfl (Nat.le_of_ble_eq_true rfl) ?_
      refine pw_if_eq 37 30 dX6_drawn_27 (by decide) rfl (fun c3 => ?_) (fun c3 => ?_)
      · have h := if_t h c3
        refine pw_ldc 39 lw_X6_drawn_c63 dX6_drawn_37 rfl ?_
        exact pw_iret dX6_drawn_39 (pr_inj h)
      · have h := if_f h c3
        refine pw_iload_n 3 rfl rfl 31 dX6_drawn_30 rfl ?_
        refine pw_callSi 34 dX6_drawn_31 rfl [.int x3] 1 ⟨gX6_drawn_X6_isFlag, rfl, sgS_X6_isFlag, ⟨Nat.le_of_ble_eq_true rfl, Nat.le_of_ble_eq_true rfl⟩, ⟨Nat.le_refl _, Nat.le_refl _⟩⟩ (k_X6_isFlag rfl) rfl rfl (Nat.le_of_ble_eq_true rfl) ?_
        refine pw_if_ne 40 37 dX6_drawn_34 (by decide) rfl (fun c4 => ?_) (fun c4 => ?_)
        · have h := if_f h c4
          refine pw_aload_n 0 rfl rfl 41 dX6_drawn_40 rfl ?_
          refine pw_getR 4 44 dX6_drawn_41 rfl fi_X6_drawn_6 lk_X6_drawn_39 la_0 ly_0 (by decide) rfl (by decide) rfl rf_0_4 ?_
          refine pw_aload_n 0 rfl rfl 45 dX6_drawn_44 rfl ?_
          refine pw_getR 2 48 dX6_drawn_45 rfl fi_X6_drawn_6 lk_X6_drawn_25 la_0 ly_0 (by decide) rfl (by decide) rfl rf_0_2 ?_
          refine pw_iload_n 1 rfl rfl 49 dX6_drawn_48 rfl ?_
          refine pw_iload_n 2 rfl rfl 50 dX6_drawn_49 rfl ?_
          obtain ⟨m5, hm5, h⟩ := bd1_e h
          refine pw_callVr 53 dX6_drawn_50 rfl [.ref (G.1 + 13), .int x1, .int x2] 3 ⟨gX6_drawn_X1_season, rfl, sgV_X1_season, ⟨Nat.le_of_ble_eq_true rfl, Nat.le_of_ble_eq_true rfl⟩, ⟨Nat.le_refl _, Nat.le_refl _⟩⟩ ly_240 (by decide) la_240 rfl (k_X1_season isW_13 hm5) rfl rfl (Nat.le_of_ble_eq_true rfl) ?_
          refine pw_astore [(4, .ref (G.1 + 241)), (0, .ref (G.1 + 0)), (1, .int x1), (2, .int x2), (3, .int x3)] 55 dX6_drawn_53 rfl (Nat.le_of_ble_eq_true rfl) rfl ?_
          refine pw_iload_n 4 rfl rfl 56 dX6_drawn_55 rfl ?_
          refine pw_if_ne 67 59 dX6_drawn_56 (by decide) rfl (fun c7 => ?_) (fun c7 => ?_)
          · have h := if_f h c7
            refine pw_aload 0 rfl 69 dX6_drawn_67 rfl ?_
            refine pw_getI 5 72 dX6_drawn_69 rfl fi_X6_drawn_5 lk_X6_drawn_203 la_241 ly_241 (by decide) rfl (by decide) rfl ?_
            exact pw_iret dX6_drawn_72 (pr_inj h)
          · have h := if_t h c7
            refine pw_aload 0 rfl 61 dX6_drawn_59 rfl ?_
            refine pw_getI 4 64 dX6_drawn_61 rfl fi_X6_drawn_5 lk_X6_drawn_145 la_241 ly_241 (by decide) rfl (by decide) rfl ?_
            refine pw_goto 72 dX6_drawn_64 (by decide) ?_
            exact pw_iret dX6_drawn_72 (pr_inj h)
        · have h := if_t h c4
          refine pw_ldc 39 lw_X6_drawn_c63 dX6_drawn_37 rfl ?_
          exact pw_iret dX6_drawn_39 (pr_inj h)
  · have h := if_f h c1
    refine pw_ldc 9 lw_X6_drawn_c135 dX6_drawn_7 rfl ?_
    exact pw_iret dX6_drawn_9 (pr_inj h)
theorem lw_X6_image_c63 : Cond.constant RX6 63 (-1000001 : Int32) ∈ wsX6_image := by decide +kernel
theorem fi_X6_image_6 : ∀ w ∈ wsX60, w ∈ wsX6_image := by decide +kernel
theorem lk_X6_image_50 : Cond.fieldLink RX6 50 (TX6 6).1 (TX6 6).2.1 (TX6 6).2.2.1 ∈ wsX6_image := by decide +kernel
theorem lk_X6_image_25 : Cond.fieldLink RX6 25 (TX6 2).1 (TX6 2).2.1 (TX6 2).2.2.1 ∈ wsX6_image := by decide +kernel
theorem lw_X6_image_c135 : Cond.constant RX6 135 (-1000002 : Int32) ∈ wsX6_image := by decide +kernel
set_option maxHeartbeats 4000000 in
set_option maxRecDepth 100000 in
theorem k_X6_image {l : Launch} {G : Gx} {x1 : Int32} {m mF : Mm} {r : Int32}  (h : f_X6_image x1 m = some (r, mF)) : Cn l G 2 yX6_image wsX6_image [.ref (G.1 + 0), .int x1] m (Qi G r mF) := by
  unfold f_X6_image at h
  refine Cn.of (own := RX6) (lv := [(0, .ref (G.1 + 0)), (1, .int x1)]) (by decide) rfl rfl (Nat.le_of_ble_eq_true rfl) rfl ?_
  refine pw_iload_n 1 rfl rfl 1 dX6_image_0 rfl ?_
  refine pw_if_lt 9 4 dX6_image_1 (by decide) rfl (fun c1 => ?_) (fun c1 => ?_)
  · have h := if_t h c1
    refine pw_ldc 11 lw_X6_image_c63 dX6_image_9 rfl ?_
    exact pw_iret dX6_image_11 (pr_inj h)
  · have h := if_f h c1
    refine pw_iload_n 1 rfl rfl 5 dX6_image_4 rfl ?_
    refine pw_iconst (v := (2 : Int32)) (by decide) 6 dX6_image_5 rfl ?_
    refine pw_icmp_lt 12 9 dX6_image_6 (by decide) rfl (fun c2 => ?_) (fun c2 => ?_)
    · have h := if_t h c2
      refine pw_aload_n 0 rfl rfl 13 dX6_image_12 rfl ?_
      refine pw_callVi 16 dX6_image_13 rfl [] 0 ⟨gX6_image_X6_isNone, rfl, sgV_X6_isNone, ⟨Nat.le_of_ble_eq_true rfl, Nat.le_of_ble_eq_true rfl⟩, ⟨Nat.le_refl _, Nat.le_refl _⟩⟩ ly_0 (by decide) la_0 rfl (k_X6_isNone rfl) rfl rfl (Nat.le_of_ble_eq_true rfl) ?_
      refine pw_if_eq 22 19 dX6_image_16 (by decide) rfl (fun c3 => ?_) (fun c3 => ?_)
      · have h := if_t h c3
        refine pw_aload_n 0 rfl rfl 23 dX6_image_22 rfl ?_
        refine pw_getR 6 26 dX6_image_23 rfl fi_X6_image_6 lk_X6_image_50 la_0 ly_0 (by decide) rfl (by decide) rfl rf_0_6 ?_
        refine pw_iload_n 1 rfl rfl 27 dX6_image_26 rfl ?_
        obtain ⟨h4, h⟩ := gd_e h
        refine pw_aaldW 28 dX6_image_27 rfl la_262 ly_262 h4 ?_
        obtain ⟨w5, ew5, h⟩ := nmE_ h
        refine pw_topr ew5 ?_
        have hw5 : IsW w5 := by rw [ew5]; exact isW_images h4
        refine pw_aload_n 0 rfl rfl 29 dX6_image_28 rfl ?_
        refine pw_getR 2 32 dX6_image_29 rfl fi_X6_image_6 lk_X6_image_25 la_0 ly_0 (by decide) rfl (by decide) rfl rf_0_2 ?_
        obtain ⟨m6, hm6, h⟩ := bd1_e h
        refine pw_callVv 35 dX6_image_32 rfl [.ref (G.1 + 13)] 1 ⟨gX6_image_X5_become, rfl, sgV_X5_become, ⟨Nat.le_of_ble_eq_true rfl, Nat.le_of_ble_eq_true rfl⟩, ⟨Nat.le_refl _, Nat.le_refl _⟩⟩ hw5.o (by decide) hw5.lt rfl (k_X5_become hw5 isW_13 hm6) rfl rfl (Nat.le_of_ble_eq_true rfl) ?_
        refine pw_iconst (v := (1 : Int32)) (by decide) 36 dX6_image_35 rfl ?_
        exact pw_iret dX6_image_36 (pr_inj h)
      · have h := if_f h c3
        refine pw_ldc 21 lw_X6_image_c135 dX6_image_19 rfl ?_
        exact pw_iret dX6_image_21 (pr_inj h)
    · have h := if_f h c2
      refine pw_ldc 11 lw_X6_image_c63 dX6_image_9 rfl ?_
      exact pw_iret dX6_image_11 (pr_inj h)
theorem lw_X6_restore_c63 : Cond.constant RX6 63 (-1000001 : Int32) ∈ wsX6_restore := by decide +kernel
theorem fi_X6_restore_6 : ∀ w ∈ wsX60, w ∈ wsX6_restore := by decide +kernel
theorem lk_X6_restore_50 : Cond.fieldLink RX6 50 (TX6 6).1 (TX6 6).2.1 (TX6 6).2.2.1 ∈ wsX6_restore := by decide +kernel
theorem fi_X6_restore_5 : ∀ w ∈ wsX50, w ∈ wsX6_restore := by decide +kernel
theorem lk_X6_restore_126 : Cond.fieldLink RX6 126 (TX5 0).1 (TX5 0).2.1 (TX5 0).2.2.1 ∈ wsX6_restore := by decide +kernel
theorem lk_X6_restore_25 : Cond.fieldLink RX6 25 (TX6 2).1 (TX6 2).2.1 (TX6 2).2.2.1 ∈ wsX6_restore := by decide +kernel
theorem lk_X6_restore_32 : Cond.fieldLink RX6 32 (TX6 3).1 (TX6 3).2.1 (TX6 3).2.2.1 ∈ wsX6_restore := by decide +kernel
theorem lw_X6_restore_c135 : Cond.constant RX6 135 (-1000002 : Int32) ∈ wsX6_restore := by decide +kernel
set_option maxHeartbeats 4000000 in
set_option maxRecDepth 100000 in
theorem k_X6_restore {l : Launch} {G : Gx} {x1 : Int32} {m mF : Mm} {r : Int32}  (h : f_X6_restore x1 m = some (r, mF)) : Cn l G 2 yX6_restore wsX6_restore [.ref (G.1 + 0), .int x1] m (Qi G r mF) := by
  unfold f_X6_restore at h
  refine Cn.of (own := RX6) (lv := [(0, .ref (G.1 + 0)), (1, .int x1)]) (by decide) rfl rfl (Nat.le_of_ble_eq_true rfl) rfl ?_
  refine pw_iload_n 1 rfl rfl 1 dX6_restore_0 rfl ?_
  refine pw_if_lt 9 4 dX6_restore_1 (by decide) rfl (fun c1 => ?_) (fun c1 => ?_)
  · have h := if_t h c1
    refine pw_ldc 11 lw_X6_restore_c63 dX6_restore_9 rfl ?_
    exact pw_iret dX6_restore_11 (pr_inj h)
  · have h := if_f h c1
    refine pw_iload_n 1 rfl rfl 5 dX6_restore_4 rfl ?_
    refine pw_iconst (v := (2 : Int32)) (by decide) 6 dX6_restore_5 rfl ?_
    refine pw_icmp_lt 12 9 dX6_restore_6 (by decide) rfl (fun c2 => ?_) (fun c2 => ?_)
    · have h := if_t h c2
      refine pw_aload_n 0 rfl rfl 13 dX6_restore_12 rfl ?_
      refine pw_getR 6 16 dX6_restore_13 rfl fi_X6_restore_6 lk_X6_restore_50 la_0 ly_0 (by decide) rfl (by decide) rfl rf_0_6 ?_
      refine pw_iload_n 1 rfl rfl 17 dX6_restore_16 rfl ?_
      obtain ⟨h3, h⟩ := gd_e h
      refine pw_aaldW 18 dX6_restore_17 rfl la_262 ly_262 h3 ?_
      obtain ⟨w4, ew4, h⟩ := nmE_ h
      refine pw_topr ew4 ?_
      have hw4 : IsW w4 := by rw [ew4]; exact isW_images h3
      refine pw_getI 0 21 dX6_restore_18 rfl fi_X6_restore_5 lk_X6_restore_126 hw4.lt hw4.o (by decide) rfl (by decide) rfl ?_
      refine pw_if_ne 27 24 dX6_restore_21 (by decide) rfl (fun c5 => ?_) (fun c5 => ?_)
      · have h := if_f h c5
        refine pw_aload_n 0 rfl rfl 28 dX6_restore_27 rfl ?_
        refine pw_getR 2 31 dX6_restore_28 rfl fi_X6_restore_6 lk_X6_restore_25 la_0 ly_0 (by decide) rfl (by decide) rfl rf_0_2 ?_
        refine pw_aload_n 0 rfl rfl 32 dX6_restore_31 rfl ?_
        refine pw_getR 6 35 dX6_restore_32 rfl fi_X6_restore_6 lk_X6_restore_50 la_0 ly_0 (by decide) rfl (by decide) rfl rf_0_6 ?_
        refine pw_iload_n 1 rfl rfl 36 dX6_restore_35 rfl ?_
        obtain ⟨h6, h⟩ := gd_e h
        refine pw_aaldW 37 dX6_restore_36 rfl la_262 ly_262 h6 ?_
        obtain ⟨w7, ew7, h⟩ := nmE_ h
        refine pw_topr ew7 ?_
        have hw7 : IsW w7 := by rw [ew7]; exact isW_images h6
        obtain ⟨m8, hm8, h⟩ := bd1_e h
        refine pw_callVv 40 dX6_restore_37 rfl [.ref (G.1 + w7)] 1 ⟨gX6_restore_X5_become, rfl, sgV_X5_become, ⟨Nat.le_of_ble_eq_true rfl, Nat.le_of_ble_eq_true rfl⟩, ⟨Nat.le_refl _, Nat.le_refl _⟩⟩ ly_13 (by decide) la_13 rfl (k_X5_become isW_13 hw7 hm8) rfl rfl (Nat.le_of_ble_eq_true rfl) ?_
        refine pw_aload_n 0 rfl rfl 41 dX6_restore_40 rfl ?_
        refine pw_getR 3 44 dX6_restore_41 rfl fi_X6_restore_6 lk_X6_restore_32 la_0 ly_0 (by decide) rfl (by decide) rfl rf_0_3 ?_
        obtain ⟨m9, hm9, h⟩ := bd1_e h
        refine pw_callVv 47 dX6_restore_44 rfl [] 0 ⟨gX6_restore_X0_forget, rfl, sgV_X0_forget, ⟨Nat.le_of_ble_eq_true rfl, Nat.le_of_ble_eq_true rfl⟩, ⟨Nat.le_refl _, Nat.le_refl _⟩⟩ ly_22 (by decide) la_22 rfl (k_X0_forget hm9) rfl rfl (Nat.le_of_ble_eq_true rfl) ?_
        refine pw_iconst (v := (1 : Int32)) (by decide) 48 dX6_restore_47 rfl ?_
        exact pw_iret dX6_restore_48 (pr_inj h)
      · have h := if_t h c5
        refine pw_ldc 26 lw_X6_restore_c135 dX6_restore_24 rfl ?_
        exact pw_iret dX6_restore_26 (pr_inj h)
    · have h := if_f h c2
      refine pw_ldc 11 lw_X6_restore_c63 dX6_restore_9 rfl ?_
      exact pw_iret dX6_restore_11 (pr_inj h)
theorem fi_X6_kind_6 : ∀ w ∈ wsX60, w ∈ wsX6_kind := by decide +kernel
theorem lk_X6_kind_25 : Cond.fieldLink RX6 25 (TX6 2).1 (TX6 2).2.1 (TX6 2).2.2.1 ∈ wsX6_kind := by decide +kernel
theorem lw_X6_kind_c63 : Cond.constant RX6 63 (-1000001 : Int32) ∈ wsX6_kind := by decide +kernel
theorem fi_X6_kind_5 : ∀ w ∈ wsX50, w ∈ wsX6_kind := by decide +kernel
theorem lk_X6_kind_257 : Cond.fieldLink RX6 257 (TX5 7).1 (TX5 7).2.1 (TX5 7).2.2.1 ∈ wsX6_kind := by decide +kernel
set_option maxHeartbeats 4000000 in
set_option maxRecDepth 100000 in
theorem k_X6_kind {l : Launch} {G : Gx} {x1 : Int32} {m : Mm} {r : Int32}  (h : f_X6_kind x1 m = some r) : Cn l G 1 yX6_kind wsX6_kind [.ref (G.1 + 0), .int x1] m (Qi G r m) := by
  unfold f_X6_kind at h
  refine Cn.of (own := RX6) (lv := [(0, .ref (G.1 + 0)), (1, .int x1)]) (by decide) rfl rfl (Nat.le_of_ble_eq_true rfl) rfl ?_
  refine pw_aload_n 0 rfl rfl 1 dX6_kind_0 rfl ?_
  refine pw_getR 2 4 dX6_kind_1 rfl fi_X6_kind_6 lk_X6_kind_25 la_0 ly_0 (by decide) rfl (by decide) rfl rf_0_2 ?_
  refine pw_iload_n 1 rfl rfl 5 dX6_kind_4 rfl ?_
  refine pw_callVi 8 dX6_kind_5 rfl [.int x1] 1 ⟨gX6_kind_X5_has, rfl, sgV_X5_has, ⟨Nat.le_of_ble_eq_true rfl, Nat.le_of_ble_eq_true rfl⟩, ⟨Nat.le_refl _, Nat.le_refl _⟩⟩ ly_13 (by decide) la_13 rfl (k_X5_has isW_13 rfl) rfl rfl (Nat.le_of_ble_eq_true rfl) ?_
  refine pw_if_eq 23 11 dX6_kind_8 (by decide) rfl (fun c1 => ?_) (fun c1 => ?_)
  · have h := if_t h c1
    refine pw_ldc 25 lw_X6_kind_c63 dX6_kind_23 rfl ?_
    exact pw_iret dX6_kind_25 ⟨Option.some.inj h, rfl⟩
  · have h := if_f h c1
    refine pw_aload_n 0 rfl rfl 12 dX6_kind_11 rfl ?_
    refine pw_getR 2 15 dX6_kind_12 rfl fi_X6_kind_6 lk_X6_kind_25 la_0 ly_0 (by decide) rfl (by decide) rfl rf_0_2 ?_
    refine pw_getR 7 18 dX6_kind_15 rfl fi_X6_kind_5 lk_X6_kind_257 la_13 ly_13 (by decide) rfl (by decide) rfl rf_13_7 ?_
    refine pw_iload_n 1 rfl rfl 19 dX6_kind_18 rfl ?_
    obtain ⟨h2, h⟩ := gd_e h
    refine pw_iald 20 dX6_kind_19 rfl la_14 ly_14 h2 ?_
    refine pw_goto 25 dX6_kind_20 (by decide) ?_
    exact pw_iret dX6_kind_25 ⟨Option.some.inj h, rfl⟩
theorem lw_X6_isOf_s285 : Cond.fieldLink RX6 285 "TearGuests" "IS_ALSO" "[I" ∈ wsX6_isOf := by decide +kernel
set_option maxHeartbeats 4000000 in
set_option maxRecDepth 100000 in
theorem kl_X6_isOf_4 {l : Launch} {G : Gx}  {r : Int32}  {m : Mm}  : ∀ (n : Nat) (y1 : Int32) (y2 : Int32) (y3 : Int32) (res : (Int32 ⊕ Int32)), lp_X6_isOf_4 n y1 y2 y3 = some res → (∀ (a0 : Int32), res = .inr a0 → PW G (KM l G RX6 cX6_isOf 4 (some .boolean) wsX6_isOf 0 (Qi G r m)) 28 [] [] m) → (∀ rt, res = .inl rt → rt = r) → PW G (KM l G RX6 cX6_isOf 4 (some .boolean) wsX6_isOf 0 (Qi G r m)) 4 [(1, .int y1), (2, .int y2), (3, .int y3)] [] m := by
  intro n
  induction n with
  | zero => intro y1 y2 y3 res h hk hr; cases h
  | succ n ih =>
    intro y1 y2 y3 res h hk hr
    have h : lb_X6_isOf_4 (lp_X6_isOf_4 n) y1 y2 y3 = _ := h
    unfold lb_X6_isOf_4 at h
    refine pw_iload_n 2 rfl rfl 5 dX6_isOf_4 rfl ?_
    refine pw_iconst (v := (3 : Int32)) (by decide) 6 dX6_isOf_5 rfl ?_
    refine pw_icmp_ge 28 9 dX6_isOf_6 (by decide) rfl (fun c1 => ?_) (fun c1 => ?_)
    · have h := if_t h c1
      refine pw_sub [] [] rfl ?_
      exact hk _ (Option.some.inj h).symm
    · have h := if_f h c1
      refine pw_iload_n 1 rfl rfl 10 dX6_isOf_9 rfl ?_
      refine pw_iload_n 0 rfl rfl 11 dX6_isOf_10 rfl ?_
      refine pw_icmp_ne 16 14 dX6_isOf_11 (by decide) rfl (fun c2 => ?_) (fun c2 => ?_)
      · have h := if_f h c2
        refine pw_gets1 19 dX6_isOf_16 rfl lw_X6_isOf_s285 ?_
        refine pw_iload_n 1 rfl rfl 20 dX6_isOf_19 rfl ?_
        obtain ⟨h3, h⟩ := gd_e h
        refine pw_tald1 21 dX6_isOf_20 rfl h3 ?_
        obtain ⟨v4, ev4, h⟩ := nmE_ h
        refine pw_top ev4 ?_
        refine pw_istore_n (hf := rfl) [(2, .int v4), (1, .int y1), (3, .int y3)] 22 dX6_isOf_21 rfl (Nat.le_of_ble_eq_true rfl) rfl ?_
        obtain ⟨v5, ev5, h⟩ := nmE_ h
        refine pw_iinc 2 rfl (by rw [ev5]; rfl) [(3, .int v5), (2, .int v4), (1, .int y1)] 25 dX6_isOf_22 rfl (Nat.le_of_ble_eq_true rfl) rfl ?_
        refine pw_goto 4 dX6_isOf_25 (by decide) ?_
        refine pw_sub [2, 1, 0] [(1, .int y1), (2, .int v4), (3, .int v5)] rfl ?_
        exact ih y1 v4 v5 res h hk hr
      · have h := if_t h c2
        refine pw_iconst (v := (1 : Int32)) (by decide) 15 dX6_isOf_14 rfl ?_
        exact pw_zret dX6_isOf_15 (by decide) ⟨hr _ (Option.some.inj h).symm, rfl⟩
set_option maxHeartbeats 4000000 in
set_option maxRecDepth 100000 in
theorem k_X6_isOf {l : Launch} {G : Gx} {x0 : Int32} {x1 : Int32} {m : Mm} {r : Int32}  (h : f_X6_isOf x0 x1 = some r) : Cn l G 0 yX6_isOf wsX6_isOf [.int x0, .int x1] m (Qi G r m) := by
  unfold f_X6_isOf at h
  refine Cn.of (own := RX6) (lv := [(0, .int x0), (1, .int x1)]) (by decide) rfl rfl (Nat.le_of_ble_eq_true rfl) rfl ?_
  refine pw_iload_n 0 rfl rfl 1 dX6_isOf_0 rfl ?_
  refine pw_istore_n (hf := rfl) [(2, .int x0), (0, .int x0), (1, .int x1)] 2 dX6_isOf_1 rfl (Nat.le_of_ble_eq_true rfl) rfl ?_
  refine pw_iconst (v := (0 : Int32)) (by decide) 3 dX6_isOf_2 rfl ?_
  refine pw_istore_n (hf := rfl) [(3, .int (0 : Int32)), (2, .int x0), (0, .int x0), (1, .int x1)] 4 dX6_isOf_3 rfl (Nat.le_of_ble_eq_true rfl) rfl ?_
  rcases bdS1_e h with ⟨rt, h7, h⟩ | ⟨z6, h7, h⟩
  · refine pw_sub [3, 1, 0] [(1, .int x1), (2, .int x0), (3, .int (0 : Int32))] rfl ?_
    exact kl_X6_isOf_4 FU x1 x0 (0 : Int32) _ h7 (fun _ e2 => by cases e2) (fun rt2 e2 => by cases e2; exact Option.some.inj h)
  · have hL4_h7 : PW G (KM l G RX6 cX6_isOf 4 (some .boolean) wsX6_isOf 0 (Qi G r m)) 28 [] [] m := by
      refine pw_iconst (v := (0 : Int32)) (by decide) 29 dX6_isOf_28 rfl ?_
      exact pw_zret dX6_isOf_29 (by decide) ⟨Option.some.inj h, rfl⟩
    refine pw_sub [3, 1, 0] [(1, .int x1), (2, .int x0), (3, .int (0 : Int32))] rfl ?_
    exact kl_X6_isOf_4 FU x1 x0 (0 : Int32) _ h7 (fun _ e2 => by cases e2; exact hL4_h7) (fun rt2 e2 => by cases e2)
theorem fi_X6_as_6 : ∀ w ∈ wsX60, w ∈ wsX6_as := by decide +kernel
theorem lk_X6_as_25 : Cond.fieldLink RX6 25 (TX6 2).1 (TX6 2).2.1 (TX6 2).2.2.1 ∈ wsX6_as := by decide +kernel
theorem lw_X6_as_c63 : Cond.constant RX6 63 (-1000001 : Int32) ∈ wsX6_as := by decide +kernel
theorem fi_X6_as_5 : ∀ w ∈ wsX50, w ∈ wsX6_as := by decide +kernel
theorem lk_X6_as_257 : Cond.fieldLink RX6 257 (TX5 7).1 (TX5 7).2.1 (TX5 7).2.2.1 ∈ wsX6_as := by decide +kernel
set_option maxHeartbeats 4000000 in
set_option maxRecDepth 100000 in
theorem k_X6_as {l : Launch} {G : Gx} {x1 : Int32} {x2 : Int32} {m mF : Mm} {r : Int32}  (h : f_X6_as x1 x2 m = some (r, mF)) : Cn l G 1 yX6_as wsX6_as [.ref (G.1 + 0), .int x1, .int x2] m (Qi G r mF) := by
  unfold f_X6_as at h
  refine Cn.of (own := RX6) (lv := [(0, .ref (G.1 + 0)), (1, .int x1), (2, .int x2)]) (by decide) rfl rfl (Nat.le_of_ble_eq_true rfl) rfl ?_
  refine pw_aload_n 0 rfl rfl 1 dX6_as_0 rfl ?_
  refine pw_getR 2 4 dX6_as_1 rfl fi_X6_as_6 lk_X6_as_25 la_0 ly_0 (by decide) rfl (by decide) rfl rf_0_2 ?_
  refine pw_iload_n 1 rfl rfl 5 dX6_as_4 rfl ?_
  refine pw_callVi 8 dX6_as_5 rfl [.int x1] 1 ⟨gX6_as_X5_has, rfl, sgV_X5_has, ⟨Nat.le_of_ble_eq_true rfl, Nat.le_of_ble_eq_true rfl⟩, ⟨Nat.le_refl _, Nat.le_refl _⟩⟩ ly_13 (by decide) la_13 rfl (k_X5_has isW_13 rfl) rfl rfl (Nat.le_of_ble_eq_true rfl) ?_
  refine pw_if_eq 20 11 dX6_as_8 (by decide) rfl (fun c1 => ?_) (fun c1 => ?_)
  · have h := if_t h c1
    refine pw_ldc 22 lw_X6_as_c63 dX6_as_20 rfl ?_
    exact pw_iret dX6_as_22 (pr_inj h)
  · have h := if_f h c1
    refine pw_iload_n 2 rfl rfl 12 dX6_as_11 rfl ?_
    refine pw_if_lt 20 15 dX6_as_12 (by decide) rfl (fun c2 => ?_) (fun c2 => ?_)
    · have h := if_t h c2
      refine pw_ldc 22 lw_X6_as_c63 dX6_as_20 rfl ?_
      exact pw_iret dX6_as_22 (pr_inj h)
    · have h := if_f h c2
      refine pw_iload_n 2 rfl rfl 16 dX6_as_15 rfl ?_
      refine pw_iconst (v := (5 : Int32)) (by decide) 17 dX6_as_16 rfl ?_
      refine pw_icmp_le 23 20 dX6_as_17 (by decide) rfl (fun c3 => ?_) (fun c3 => ?_)
      · have h := if_t h c3
        refine pw_aload_n 0 rfl rfl 24 dX6_as_23 rfl ?_
        refine pw_getR 2 27 dX6_as_24 rfl fi_X6_as_6 lk_X6_as_25 la_0 ly_0 (by decide) rfl (by decide) rfl rf_0_2 ?_
        refine pw_getR 7 30 dX6_as_27 rfl fi_X6_as_5 lk_X6_as_257 la_13 ly_13 (by decide) rfl (by decide) rfl rf_13_7 ?_
        refine pw_iload_n 1 rfl rfl 31 dX6_as_30 rfl ?_
        obtain ⟨h4, h⟩ := gd_e h
        refine pw_iald 32 dX6_as_31 rfl la_14 ly_14 h4 ?_
        refine pw_iload_n 2 rfl rfl 33 dX6_as_32 rfl ?_
        obtain ⟨r5, hr5, h⟩ := bd1_e h
        refine pw_callSi 36 dX6_as_33 rfl [.int (m 14 (ix x1)), .int x2] 2 ⟨gX6_as_X6_isOf, rfl, sgS_X6_isOf, ⟨Nat.le_of_ble_eq_true rfl, Nat.le_of_ble_eq_true rfl⟩, ⟨Nat.le_refl _, Nat.le_refl _⟩⟩ (k_X6_isOf hr5) rfl rfl (Nat.le_of_ble_eq_true rfl) ?_
        refine pw_if_eq 47 39 dX6_as_36 (by decide) rfl (fun c6 => ?_) (fun c6 => ?_)
        · have h := if_t h c6
          refine pw_aload_n 0 rfl rfl 48 dX6_as_47 rfl ?_
          refine pw_iconst (v := (3 : Int32)) (by decide) 49 dX6_as_48 rfl ?_
          obtain ⟨r8, m7, hr8, h⟩ := bd2_e h
          refine pw_callVi 52 dX6_as_49 rfl [.int (3 : Int32)] 1 ⟨gX6_as_X6_find, rfl, sgV_X6_find, ⟨Nat.le_of_ble_eq_true rfl, Nat.le_of_ble_eq_true rfl⟩, ⟨Nat.le_refl _, Nat.le_refl _⟩⟩ ly_0 (by decide) la_0 rfl (k_X6_find hr8) rfl rfl (Nat.le_of_ble_eq_true rfl) ?_
          exact pw_iret dX6_as_52 (pr_inj h)
        · have h := if_f h c6
          refine pw_aload_n 0 rfl rfl 40 dX6_as_39 rfl ?_
          refine pw_iload_n 1 rfl rfl 41 dX6_as_40 rfl ?_
          obtain ⟨r10, m9, hr10, h⟩ := bd2_e h
          refine pw_callVi 44 dX6_as_41 rfl [.int x1] 1 ⟨gX6_as_X6_findNothing, rfl, sgV_X6_findNothing, ⟨Nat.le_of_ble_eq_true rfl, Nat.le_of_ble_eq_true rfl⟩, ⟨Nat.le_refl _, Nat.le_refl _⟩⟩ ly_0 (by decide) la_0 rfl (k_X6_findNothing hr10) rfl rfl (Nat.le_of_ble_eq_true rfl) ?_
          refine pw_goto 52 dX6_as_44 (by decide) ?_
          exact pw_iret dX6_as_52 (pr_inj h)
      · have h := if_f h c3
        refine pw_ldc 22 lw_X6_as_c63 dX6_as_20 rfl ?_
        exact pw_iret dX6_as_22 (pr_inj h)
theorem fi_X6_leaveTrace_6 : ∀ w ∈ wsX60, w ∈ wsX6_leaveTrace := by decide +kernel
theorem lk_X6_leaveTrace_263 : Cond.fieldLink RX6 263 (TX6 8).1 (TX6 8).2.1 (TX6 8).2.2.1 ∈ wsX6_leaveTrace := by decide +kernel
theorem lk_X6_leaveTrace_54 : Cond.fieldLink RX6 54 (TX6 7).1 (TX6 7).2.1 (TX6 7).2.2.1 ∈ wsX6_leaveTrace := by decide +kernel
set_option maxHeartbeats 4000000 in
set_option maxRecDepth 100000 in
theorem k_X6_leaveTrace {l : Launch} {G : Gx} {x1 : Int32} {m mF : Mm}   (h : f_X6_leaveTrace x1 m = some mF) : Cn l G 0 yX6_leaveTrace wsX6_leaveTrace [.ref (G.1 + 0), .int x1] m (Qv G mF) := by
  unfold f_X6_leaveTrace at h
  refine Cn.of (own := RX6) (lv := [(0, .ref (G.1 + 0)), (1, .int x1)]) (by decide) rfl rfl (Nat.le_of_ble_eq_true rfl) rfl ?_
  refine pw_aload_n 0 rfl rfl 1 dX6_leaveTrace_0 rfl ?_
  refine pw_getI 8 4 dX6_leaveTrace_1 rfl fi_X6_leaveTrace_6 lk_X6_leaveTrace_263 la_0 ly_0 (by decide) rfl (by decide) rfl ?_
  refine pw_bipush (v := (16 : Int32)) (by decide) 6 dX6_leaveTrace_4 rfl ?_
  refine pw_icmp_ge 29 9 dX6_leaveTrace_6 (by decide) rfl (fun c1 => ?_) (fun c1 => ?_)
  · have h := if_t h c1
    exact pw_vret dX6_leaveTrace_29 (Option.some.inj h)
  · have h := if_f h c1
    refine pw_aload_n 0 rfl rfl 10 dX6_leaveTrace_9 rfl ?_
    refine pw_getR 7 13 dX6_leaveTrace_10 rfl fi_X6_leaveTrace_6 lk_X6_leaveTrace_54 la_0 ly_0 (by decide) rfl (by decide) rfl rf_0_7 ?_
    refine pw_aload_n 0 rfl rfl 14 dX6_leaveTrace_13 rfl ?_
    refine pw_getI 8 17 dX6_leaveTrace_14 rfl fi_X6_leaveTrace_6 lk_X6_leaveTrace_263 la_0 ly_0 (by decide) rfl (by decide) rfl ?_
    refine pw_iload_n 1 rfl rfl 18 dX6_leaveTrace_17 rfl ?_
    obtain ⟨h5, h⟩ := gd_e h
    refine pw_iast 19 dX6_leaveTrace_18 rfl la_263 ly_263 h5 ?_
    obtain ⟨m2, em2, h⟩ := nmE_ h
    refine pw_mem em2 ?_
    refine pw_aload_n 0 rfl rfl 20 dX6_leaveTrace_19 rfl ?_
    refine pw_dup rfl 21 dX6_leaveTrace_20 rfl ?_
    refine pw_getI 8 24 dX6_leaveTrace_21 rfl fi_X6_leaveTrace_6 lk_X6_leaveTrace_263 la_0 ly_0 (by decide) rfl (by decide) rfl ?_
    refine pw_iconst (v := (1 : Int32)) (by decide) 25 dX6_leaveTrace_24 rfl ?_
    refine pw_iadd 26 dX6_leaveTrace_25 rfl ?_
    obtain ⟨v3, ev3, h⟩ := nmE_ h
    refine pw_top ev3 ?_
    refine pw_put (ty0 := tyX6) (ty := .int) 8 29 dX6_leaveTrace_26 rfl fi_X6_leaveTrace_6 tyX6_ok nmX6 lk_X6_leaveTrace_263 la_0 ly_0 (by decide) rfl (by decide) rfl rfl rfl rfl rfl ?_
    obtain ⟨m4, em4, h⟩ := nmE_ h
    refine pw_mem em4 ?_
    exact pw_vret dX6_leaveTrace_29 (Option.some.inj h)
theorem fi_X6_give_6 : ∀ w ∈ wsX60, w ∈ wsX6_give := by decide +kernel
theorem lk_X6_give_25 : Cond.fieldLink RX6 25 (TX6 2).1 (TX6 2).2.1 (TX6 2).2.2.1 ∈ wsX6_give := by decide +kernel
theorem fi_X6_give_5 : ∀ w ∈ wsX50, w ∈ wsX6_give := by decide +kernel
theorem lk_X6_give_257 : Cond.fieldLink RX6 257 (TX5 7).1 (TX5 7).2.1 (TX5 7).2.2.1 ∈ wsX6_give := by decide +kernel
theorem lk_X6_give_174 : Cond.fieldLink RX6 174 (TX5 8).1 (TX5 8).2.1 (TX5 8).2.2.1 ∈ wsX6_give := by decide +kernel
theorem lw_X6_give_s269 : Cond.fieldLink RX6 269 "TearGuests" "MARK_BODY" "[I" ∈ wsX6_give := by decide +kernel
theorem lk_X6_give_177 : Cond.fieldLink RX6 177 (TX5 10).1 (TX5 10).2.1 (TX5 10).2.2.1 ∈ wsX6_give := by decide +kernel
theorem lw_X6_give_s266 : Cond.fieldLink RX6 266 "TearGuests" "SIZE_BODY" "[I" ∈ wsX6_give := by decide +kernel
set_option maxHeartbeats 4000000 in
set_option maxRecDepth 100000 in
theorem k_X6_give_n {l : Launch} {G : Gx} : ∀ (n : Nat) (x1 x2 x3 : Int32) (m mF : Mm) (r : Int32), f_X6_give n x1 x2 x3 m = some (r, mF) → Cn l G (n + 1) yX6_give wsX6_give [.ref (G.1 + 0), .int x1, .int x2, .int x3] m (Qi G r mF) := by
  intro n
  induction n with
  | zero => intro x1 x2 x3 m mF r h; cases h
  | succ n ih =>
    intro x1 x2 x3 m mF r h
    have h : lb_X6_give (f_X6_give n) x1 x2 x3 m = _ := h
    replace ih : ∀ (x1 x2 x3 : Int32) (m : Mm) (r : Int32) (mF : Mm), f_X6_give n x1 x2 x3 m = some (r, mF) → Cn l G (n + 1) yX6_give wsX6_give [.ref (G.1 + 0), .int x1, .int x2, .int x3] m (Qi G r mF) := fun a b c d e f q => ih a b c d f e q
    unfold lb_X6_give at h
    refine Cn.of (own := RX6) (lv := [(0, .ref (G.1 + 0)), (1, .int x1), (2, .int x2), (3, .int x3)]) (by decide) rfl rfl (Nat.le_of_ble_eq_true rfl) rfl ?_
    refine pw_iload_n 3 rfl rfl 1 dX6_give_0 rfl ?_
    refine pw_bipush (v := (8 : Int32)) (by decide) 3 dX6_give_1 rfl ?_
    refine pw_icmp_lt 8 6 dX6_give_3 (by decide) rfl (fun c1 => ?_) (fun c1 => ?_)
    · have h := if_t h c1
      refine pw_aload_n 0 rfl rfl 9 dX6_give_8 rfl ?_
      refine pw_iload_n 1 rfl rfl 10 dX6_give_9 rfl ?_
      obtain ⟨m2, hm2, h⟩ := bd1_e h
      refine pw_callVv 13 dX6_give_10 rfl [.int x1] 1 ⟨gX6_give_X6_leaveTrace, rfl, sgV_X6_leaveTrace, ⟨(by show 0 + 1 ≤ n + 2; omega), (by show 8 + (2 + 11) + 60 * 0 ≤ 60 * (n + 2); omega)⟩, ⟨Nat.le_refl _, Nat.le_refl _⟩⟩ ly_0 (by decide) la_0 rfl (k_X6_leaveTrace hm2) rfl rfl (Nat.le_of_ble_eq_true rfl) ?_
      refine pw_iload_n 3 rfl rfl 14 dX6_give_13 rfl ?_
      refine pw_iconst (v := (1 : Int32)) (by decide) 15 dX6_give_14 rfl ?_
      refine pw_iadd 16 dX6_give_15 rfl ?_
      obtain ⟨v3, ev3, h⟩ := nmE_ h
      refine pw_top ev3 ?_
      refine pw_istore [(4, .int v3), (0, .ref (G.1 + 0)), (1, .int x1), (2, .int x2), (3, .int x3)] 18 dX6_give_16 rfl (Nat.le_of_ble_eq_true rfl) rfl ?_
      refine pw_aload_n 1 rfl rfl 19 dX6_give_18 rfl ?_
      refine pw_getR 2 22 dX6_give_19 rfl fi_X6_give_6 lk_X6_give_25 la_0 ly_0 (by decide) rfl (by decide) rfl rf_0_2 ?_
      refine pw_getR 7 25 dX6_give_22 rfl fi_X6_give_5 lk_X6_give_257 la_13 ly_13 (by decide) rfl (by decide) rfl rf_13_7 ?_
      refine pw_iload_n 3 rfl rfl 26 dX6_give_25 rfl ?_
      obtain ⟨h4, h⟩ := gd_e h
      refine pw_iald 27 dX6_give_26 rfl la_14 ly_14 h4 ?_
      obtain ⟨v5, ev5, h⟩ := nmE_ h
      refine pw_top ev5 ?_
      refine pw_istore [(5, .int v5), (4, .int v3), (0, .ref (G.1 + 0)), (1, .int x1), (2, .int x2), (3, .int x3)] 29 dX6_give_27 rfl (Nat.le_of_ble_eq_true rfl) rfl ?_
      refine pw_iload_n 3 rfl rfl 30 dX6_give_29 rfl ?_
      by_cases c30_0 : x1 = (10 : Int32)
      · have h := if_t h c30_0
        refine pw_tableIn 104 dX6_give_30 (by rw [c30_0]; decide) (by rw [c30_0]; decide) (by rw [c30_0]; rfl) (by decide) ?_
        refine pw_aload_n 2 rfl rfl 105 dX6_give_104 rfl ?_
        refine pw_getR 2 108 dX6_give_105 rfl fi_X6_give_6 lk_X6_give_25 la_0 ly_0 (by decide) rfl (by decide) rfl rf_0_2 ?_
        refine pw_getR 8 111 dX6_give_108 rfl fi_X6_give_5 lk_X6_give_174 la_13 ly_13 (by decide) rfl (by decide) rfl rf_13_8 ?_
        refine pw_iload_n 4 rfl rfl 112 dX6_give_111 rfl ?_
        obtain ⟨h6, h⟩ := gd_e h
        refine pw_iald 113 dX6_give_112 rfl la_15 ly_15 h6 ?_
        exact pw_iret dX6_give_113 (pr_inj h)
      · have h := if_f h c30_0
        by_cases c30_1 : x1 = (11 : Int32)
        · have h := if_t h c30_1
          refine pw_tableIn 114 dX6_give_30 (by rw [c30_1]; decide) (by rw [c30_1]; decide) (by rw [c30_1]; rfl) (by decide) ?_
          refine pw_aload_n 2 rfl rfl 115 dX6_give_114 rfl ?_
          refine pw_bipush (v := (10 : Int32)) (by decide) 117 dX6_give_115 rfl ?_
          refine pw_iload_n 4 rfl rfl 118 dX6_give_117 rfl ?_
          refine pw_iload 1 rfl 120 dX6_give_118 rfl ?_
          obtain ⟨r8, m7, hr8, h⟩ := bd2_e h
          refine pw_callVi 123 dX6_give_120 rfl [.int (10 : Int32), .int x2, .int v3] 3 ⟨gX6_give_X6_give, rfl, sgV_X6_give, ⟨(by show (n + 1) + 1 ≤ n + 2; omega), (by show 8 + (6 + 11) + 60 * (n + 1) ≤ 60 * (n + 2); omega)⟩, ⟨Nat.le_refl _, Nat.le_refl _⟩⟩ ly_0 (by decide) la_0 rfl (ih _ _ _ _ _ _ hr8) rfl rfl (Nat.le_of_ble_eq_true rfl) ?_
          refine pw_aload_n 2 rfl rfl 124 dX6_give_123 rfl ?_
          refine pw_gets3 127 dX6_give_124 rfl lw_X6_give_s269 ?_
          refine pw_iload 0 rfl 129 dX6_give_127 rfl ?_
          obtain ⟨h9, h⟩ := gd_e h
          refine pw_tald3 130 dX6_give_129 rfl h9 ?_
          refine pw_iload_n 4 rfl rfl 131 dX6_give_130 rfl ?_
          refine pw_iload 1 rfl 133 dX6_give_131 rfl ?_
          obtain ⟨r11, m10, hr11, h⟩ := bd2_e h
          refine pw_callVi 136 dX6_give_133 rfl [.int (tbl3 (ix v5)), .int x2, .int v3] 3 ⟨gX6_give_X6_give, rfl, sgV_X6_give, ⟨(by show (n + 1) + 1 ≤ n + 2; omega), (by show 8 + (6 + 11) + 60 * (n + 1) ≤ 60 * (n + 2); omega)⟩, ⟨Nat.le_refl _, Nat.le_refl _⟩⟩ ly_0 (by decide) la_0 rfl (ih _ _ _ _ _ _ hr11) rfl rfl (Nat.le_of_ble_eq_true rfl) ?_
          refine pw_iadd 137 dX6_give_136 rfl ?_
          exact pw_iret dX6_give_137 (pr_inj h)
        · have h := if_f h c30_1
          by_cases c30_2 : x1 = (12 : Int32)
          · have h := if_t h c30_2
            refine pw_tableIn 138 dX6_give_30 (by rw [c30_2]; decide) (by rw [c30_2]; decide) (by rw [c30_2]; rfl) (by decide) ?_
            refine pw_aload_n 2 rfl rfl 139 dX6_give_138 rfl ?_
            refine pw_bipush (v := (11 : Int32)) (by decide) 141 dX6_give_139 rfl ?_
            refine pw_iload_n 4 rfl rfl 142 dX6_give_141 rfl ?_
            refine pw_iload 1 rfl 144 dX6_give_142 rfl ?_
            obtain ⟨r13, m12, hr13, h⟩ := bd2_e h
            refine pw_callVi 147 dX6_give_144 rfl [.int (11 : Int32), .int x2, .int v3] 3 ⟨gX6_give_X6_give, rfl, sgV_X6_give, ⟨(by show (n + 1) + 1 ≤ n + 2; omega), (by show 8 + (6 + 11) + 60 * (n + 1) ≤ 60 * (n + 2); omega)⟩, ⟨Nat.le_refl _, Nat.le_refl _⟩⟩ ly_0 (by decide) la_0 rfl (ih _ _ _ _ _ _ hr13) rfl rfl (Nat.le_of_ble_eq_true rfl) ?_
            refine pw_ineg 148 dX6_give_147 rfl ?_
            exact pw_iret dX6_give_148 (pr_inj h)
          · have h := if_f h c30_2
            by_cases c30_3 : x1 = (13 : Int32)
            · have h := if_t h c30_3
              refine pw_tableIn 149 dX6_give_30 (by rw [c30_3]; decide) (by rw [c30_3]; decide) (by rw [c30_3]; rfl) (by decide) ?_
              refine pw_aload_n 2 rfl rfl 150 dX6_give_149 rfl ?_
              refine pw_bipush (v := (10 : Int32)) (by decide) 152 dX6_give_150 rfl ?_
              refine pw_iload_n 4 rfl rfl 153 dX6_give_152 rfl ?_
              refine pw_iload 1 rfl 155 dX6_give_153 rfl ?_
              obtain ⟨r15, m14, hr15, h⟩ := bd2_e h
              refine pw_callVi 158 dX6_give_155 rfl [.int (10 : Int32), .int x2, .int v3] 3 ⟨gX6_give_X6_give, rfl, sgV_X6_give, ⟨(by show (n + 1) + 1 ≤ n + 2; omega), (by show 8 + (6 + 11) + 60 * (n + 1) ≤ 60 * (n + 2); omega)⟩, ⟨Nat.le_refl _, Nat.le_refl _⟩⟩ ly_0 (by decide) la_0 rfl (ih _ _ _ _ _ _ hr15) rfl rfl (Nat.le_of_ble_eq_true rfl) ?_
              refine pw_bipush (v := (100 : Int32)) (by decide) 160 dX6_give_158 rfl ?_
              refine pw_isub 161 dX6_give_160 rfl ?_
              exact pw_iret dX6_give_161 (pr_inj h)
            · have h := if_f h c30_3
              by_cases c30_4 : x1 = (14 : Int32)
              · have h := if_t h c30_4
                refine pw_tableIn 162 dX6_give_30 (by rw [c30_4]; decide) (by rw [c30_4]; decide) (by rw [c30_4]; rfl) (by decide) ?_
                refine pw_iconst (v := (2 : Int32)) (by decide) 163 dX6_give_162 rfl ?_
                refine pw_aload_n 2 rfl rfl 164 dX6_give_163 rfl ?_
                refine pw_bipush (v := (13 : Int32)) (by decide) 166 dX6_give_164 rfl ?_
                refine pw_iload_n 4 rfl rfl 167 dX6_give_166 rfl ?_
                refine pw_iload 1 rfl 169 dX6_give_167 rfl ?_
                obtain ⟨r17, m16, hr17, h⟩ := bd2_e h
                refine pw_callVi 172 dX6_give_169 rfl [.int (13 : Int32), .int x2, .int v3] 3 ⟨gX6_give_X6_give, rfl, sgV_X6_give, ⟨(by show (n + 1) + 1 ≤ n + 2; omega), (by show 8 + (6 + 11) + 60 * (n + 1) ≤ 60 * (n + 2); omega)⟩, ⟨Nat.le_refl _, Nat.le_refl _⟩⟩ ly_0 (by decide) la_0 rfl (ih _ _ _ _ _ _ hr17) rfl rfl (Nat.le_of_ble_eq_true rfl) ?_
                refine pw_imul 173 dX6_give_172 rfl ?_
                exact pw_iret dX6_give_173 (pr_inj h)
              · have h := if_f h c30_4
                by_cases c30_5 : x1 = (15 : Int32)
                · have h := if_t h c30_5
                  refine pw_tableIn 246 dX6_give_30 (by rw [c30_5]; decide) (by rw [c30_5]; decide) (by rw [c30_5]; rfl) (by decide) ?_
                  refine pw_iconst (v := (0 : Int32)) (by decide) 247 dX6_give_246 rfl ?_
                  exact pw_iret dX6_give_247 (pr_inj h)
                · have h := if_f h c30_5
                  by_cases c30_6 : x1 = (16 : Int32)
                  · have h := if_t h c30_6
                    refine pw_tableIn 246 dX6_give_30 (by rw [c30_6]; decide) (by rw [c30_6]; decide) (by rw [c30_6]; rfl) (by decide) ?_
                    refine pw_iconst (v := (0 : Int32)) (by decide) 247 dX6_give_246 rfl ?_
                    exact pw_iret dX6_give_247 (pr_inj h)
                  · have h := if_f h c30_6
                    by_cases c30_7 : x1 = (17 : Int32)
                    · have h := if_t h c30_7
                      refine pw_tableIn 246 dX6_give_30 (by rw [c30_7]; decide) (by rw [c30_7]; decide) (by rw [c30_7]; rfl) (by decide) ?_
                      refine pw_iconst (v := (0 : Int32)) (by decide) 247 dX6_give_246 rfl ?_
                      exact pw_iret dX6_give_247 (pr_inj h)
                    · have h := if_f h c30_7
                      by_cases c30_8 : x1 = (18 : Int32)
                      · have h := if_t h c30_8
                        refine pw_tableIn 246 dX6_give_30 (by rw [c30_8]; decide) (by rw [c30_8]; decide) (by rw [c30_8]; rfl) (by decide) ?_
                        refine pw_iconst (v := (0 : Int32)) (by decide) 247 dX6_give_246 rfl ?_
                        exact pw_iret dX6_give_247 (pr_inj h)
                      · have h := if_f h c30_8
                        by_cases c30_9 : x1 = (19 : Int32)
                        · have h := if_t h c30_9
                          refine pw_tableIn 246 dX6_give_30 (by rw [c30_9]; decide) (by rw [c30_9]; decide) (by rw [c30_9]; rfl) (by decide) ?_
                          refine pw_iconst (v := (0 : Int32)) (by decide) 247 dX6_give_246 rfl ?_
                          exact pw_iret dX6_give_247 (pr_inj h)
                        · have h := if_f h c30_9
                          by_cases c30_10 : x1 = (20 : Int32)
                          · have h := if_t h c30_10
                            refine pw_tableIn 174 dX6_give_30 (by rw [c30_10]; decide) (by rw [c30_10]; decide) (by rw [c30_10]; rfl) (by decide) ?_
                            refine pw_iload_n 4 rfl rfl 175 dX6_give_174 rfl ?_
                            exact pw_iret dX6_give_175 (pr_inj h)
                          · have h := if_f h c30_10
                            by_cases c30_11 : x1 = (21 : Int32)
                            · have h := if_t h c30_11
                              refine pw_tableIn 176 dX6_give_30 (by rw [c30_11]; decide) (by rw [c30_11]; decide) (by rw [c30_11]; rfl) (by decide) ?_
                              refine pw_aload_n 2 rfl rfl 177 dX6_give_176 rfl ?_
                              refine pw_bipush (v := (20 : Int32)) (by decide) 179 dX6_give_177 rfl ?_
                              refine pw_iload_n 4 rfl rfl 180 dX6_give_179 rfl ?_
                              refine pw_iload 1 rfl 182 dX6_give_180 rfl ?_
                              obtain ⟨r19, m18, hr19, h⟩ := bd2_e h
                              refine pw_callVi 185 dX6_give_182 rfl [.int (20 : Int32), .int x2, .int v3] 3 ⟨gX6_give_X6_give, rfl, sgV_X6_give, ⟨(by show (n + 1) + 1 ≤ n + 2; omega), (by show 8 + (6 + 11) + 60 * (n + 1) ≤ 60 * (n + 2); omega)⟩, ⟨Nat.le_refl _, Nat.le_refl _⟩⟩ ly_0 (by decide) la_0 rfl (ih _ _ _ _ _ _ hr19) rfl rfl (Nat.le_of_ble_eq_true rfl) ?_
                              refine pw_aload_n 2 rfl rfl 186 dX6_give_185 rfl ?_
                              refine pw_getR 2 189 dX6_give_186 rfl fi_X6_give_6 lk_X6_give_25 la_0 ly_0 (by decide) rfl (by decide) rfl rf_0_2 ?_
                              refine pw_getR 10 192 dX6_give_189 rfl fi_X6_give_5 lk_X6_give_177 la_13 ly_13 (by decide) rfl (by decide) rfl rf_13_10 ?_
                              refine pw_iload_n 4 rfl rfl 193 dX6_give_192 rfl ?_
                              obtain ⟨h20, h⟩ := gd_e h
                              refine pw_iald 194 dX6_give_193 rfl la_17 ly_17 h20 ?_
                              refine pw_iadd 195 dX6_give_194 rfl ?_
                              exact pw_iret dX6_give_195 (pr_inj h)
                            · have h := if_f h c30_11
                              by_cases c30_12 : x1 = (22 : Int32)
                              · have h := if_t h c30_12
                                refine pw_tableIn 196 dX6_give_30 (by rw [c30_12]; decide) (by rw [c30_12]; decide) (by rw [c30_12]; rfl) (by decide) ?_
                                refine pw_aload_n 2 rfl rfl 197 dX6_give_196 rfl ?_
                                refine pw_bipush (v := (21 : Int32)) (by decide) 199 dX6_give_197 rfl ?_
                                refine pw_iload_n 4 rfl rfl 200 dX6_give_199 rfl ?_
                                refine pw_iload 1 rfl 202 dX6_give_200 rfl ?_
                                obtain ⟨r22, m21, hr22, h⟩ := bd2_e h
                                refine pw_callVi 205 dX6_give_202 rfl [.int (21 : Int32), .int x2, .int v3] 3 ⟨gX6_give_X6_give, rfl, sgV_X6_give, ⟨(by show (n + 1) + 1 ≤ n + 2; omega), (by show 8 + (6 + 11) + 60 * (n + 1) ≤ 60 * (n + 2); omega)⟩, ⟨Nat.le_refl _, Nat.le_refl _⟩⟩ ly_0 (by decide) la_0 rfl (ih _ _ _ _ _ _ hr22) rfl rfl (Nat.le_of_ble_eq_true rfl) ?_
                                refine pw_sipush (v := (1000 : Int32)) (by decide) 208 dX6_give_205 rfl ?_
                                refine pw_isub 209 dX6_give_208 rfl ?_
                                exact pw_iret dX6_give_209 (pr_inj h)
                              · have h := if_f h c30_12
                                by_cases c30_13 : x1 = (23 : Int32)
                                · have h := if_t h c30_13
                                  refine pw_tableIn 210 dX6_give_30 (by rw [c30_13]; decide) (by rw [c30_13]; decide) (by rw [c30_13]; rfl) (by decide) ?_
                                  refine pw_aload_n 2 rfl rfl 211 dX6_give_210 rfl ?_
                                  refine pw_bipush (v := (20 : Int32)) (by decide) 213 dX6_give_211 rfl ?_
                                  refine pw_iload_n 4 rfl rfl 214 dX6_give_213 rfl ?_
                                  refine pw_iload 1 rfl 216 dX6_give_214 rfl ?_
                                  obtain ⟨r24, m23, hr24, h⟩ := bd2_e h
                                  refine pw_callVi 219 dX6_give_216 rfl [.int (20 : Int32), .int x2, .int v3] 3 ⟨gX6_give_X6_give, rfl, sgV_X6_give, ⟨(by show (n + 1) + 1 ≤ n + 2; omega), (by show 8 + (6 + 11) + 60 * (n + 1) ≤ 60 * (n + 2); omega)⟩, ⟨Nat.le_refl _, Nat.le_refl _⟩⟩ ly_0 (by decide) la_0 rfl (ih _ _ _ _ _ _ hr24) rfl rfl (Nat.le_of_ble_eq_true rfl) ?_
                                  refine pw_aload_n 2 rfl rfl 220 dX6_give_219 rfl ?_
                                  refine pw_gets2 223 dX6_give_220 rfl lw_X6_give_s266 ?_
                                  refine pw_iload 0 rfl 225 dX6_give_223 rfl ?_
                                  obtain ⟨h25, h⟩ := gd_e h
                                  refine pw_tald2 226 dX6_give_225 rfl h25 ?_
                                  refine pw_iload_n 4 rfl rfl 227 dX6_give_226 rfl ?_
                                  refine pw_iload 1 rfl 229 dX6_give_227 rfl ?_
                                  obtain ⟨r27, m26, hr27, h⟩ := bd2_e h
                                  refine pw_callVi 232 dX6_give_229 rfl [.int (tbl2 (ix v5)), .int x2, .int v3] 3 ⟨gX6_give_X6_give, rfl, sgV_X6_give, ⟨(by show (n + 1) + 1 ≤ n + 2; omega), (by show 8 + (6 + 11) + 60 * (n + 1) ≤ 60 * (n + 2); omega)⟩, ⟨Nat.le_refl _, Nat.le_refl _⟩⟩ ly_0 (by decide) la_0 rfl (ih _ _ _ _ _ _ hr27) rfl rfl (Nat.le_of_ble_eq_true rfl) ?_
                                  refine pw_isub 233 dX6_give_232 rfl ?_
                                  exact pw_iret dX6_give_233 (pr_inj h)
                                · have h := if_f h c30_13
                                  by_cases c30_14 : x1 = (24 : Int32)
                                  · have h := if_t h c30_14
                                    refine pw_tableIn 234 dX6_give_30 (by rw [c30_14]; decide) (by rw [c30_14]; decide) (by rw [c30_14]; rfl) (by decide) ?_
                                    refine pw_iconst (v := (2 : Int32)) (by decide) 235 dX6_give_234 rfl ?_
                                    refine pw_aload_n 2 rfl rfl 236 dX6_give_235 rfl ?_
                                    refine pw_bipush (v := (21 : Int32)) (by decide) 238 dX6_give_236 rfl ?_
                                    refine pw_iload_n 4 rfl rfl 239 dX6_give_238 rfl ?_
                                    refine pw_iload 1 rfl 241 dX6_give_239 rfl ?_
                                    obtain ⟨r29, m28, hr29, h⟩ := bd2_e h
                                    refine pw_callVi 244 dX6_give_241 rfl [.int (21 : Int32), .int x2, .int v3] 3 ⟨gX6_give_X6_give, rfl, sgV_X6_give, ⟨(by show (n + 1) + 1 ≤ n + 2; omega), (by show 8 + (6 + 11) + 60 * (n + 1) ≤ 60 * (n + 2); omega)⟩, ⟨Nat.le_refl _, Nat.le_refl _⟩⟩ ly_0 (by decide) la_0 rfl (ih _ _ _ _ _ _ hr29) rfl rfl (Nat.le_of_ble_eq_true rfl) ?_
                                    refine pw_imul 245 dX6_give_244 rfl ?_
                                    exact pw_iret dX6_give_245 (pr_inj h)
                                  · have h := if_f h c30_14
                                    have c30_0_i : ¬ x1.toInt = 10 := fun e => c30_0 (Int32.toInt_inj.mp (e.trans rfl))
                                    have c30_1_i : ¬ x1.toInt = 11 := fun e => c30_1 (Int32.toInt_inj.mp (e.trans rfl))
                                    have c30_2_i : ¬ x1.toInt = 12 := fun e => c30_2 (Int32.toInt_inj.mp (e.trans rfl))
                                    have c30_3_i : ¬ x1.toInt = 13 := fun e => c30_3 (Int32.toInt_inj.mp (e.trans rfl))
                                    have c30_4_i : ¬ x1.toInt = 14 := fun e => c30_4 (Int32.toInt_inj.mp (e.trans rfl))
                                    have c30_5_i : ¬ x1.toInt = 15 := fun e => c30_5 (Int32.toInt_inj.mp (e.trans rfl))
                                    have c30_6_i : ¬ x1.toInt = 16 := fun e => c30_6 (Int32.toInt_inj.mp (e.trans rfl))
                                    have c30_7_i : ¬ x1.toInt = 17 := fun e => c30_7 (Int32.toInt_inj.mp (e.trans rfl))
                                    have c30_8_i : ¬ x1.toInt = 18 := fun e => c30_8 (Int32.toInt_inj.mp (e.trans rfl))
                                    have c30_9_i : ¬ x1.toInt = 19 := fun e => c30_9 (Int32.toInt_inj.mp (e.trans rfl))
                                    have c30_10_i : ¬ x1.toInt = 20 := fun e => c30_10 (Int32.toInt_inj.mp (e.trans rfl))
                                    have c30_11_i : ¬ x1.toInt = 21 := fun e => c30_11 (Int32.toInt_inj.mp (e.trans rfl))
                                    have c30_12_i : ¬ x1.toInt = 22 := fun e => c30_12 (Int32.toInt_inj.mp (e.trans rfl))
                                    have c30_13_i : ¬ x1.toInt = 23 := fun e => c30_13 (Int32.toInt_inj.mp (e.trans rfl))
                                    have c30_14_i : ¬ x1.toInt = 24 := fun e => c30_14 (Int32.toInt_inj.mp (e.trans rfl))
                                    refine pw_tableOut 246 dX6_give_30 (by omega) (by decide) ?_
                                    refine pw_iconst (v := (0 : Int32)) (by decide) 247 dX6_give_246 rfl ?_
                                    exact pw_iret dX6_give_247 (pr_inj h)
    · have h := if_f h c1
      refine pw_iconst (v := (0 : Int32)) (by decide) 7 dX6_give_6 rfl ?_
      exact pw_iret dX6_give_7 (pr_inj h)
theorem k_X6_give {l : Launch} {G : Gx} {x1 x2 x3 : Int32} {m mF : Mm} {r : Int32} (h : f_X6_give 10 x1 x2 x3 m = some (r, mF)) : Cn l G 11 yX6_give wsX6_give [.ref (G.1 + 0), .int x1, .int x2, .int x3] m (Qi G r mF) := k_X6_give_n 10 x1 x2 x3 m mF r h
theorem fi_X6_ask_6 : ∀ w ∈ wsX60, w ∈ wsX6_ask := by decide +kernel
theorem lk_X6_ask_25 : Cond.fieldLink RX6 25 (TX6 2).1 (TX6 2).2.1 (TX6 2).2.2.1 ∈ wsX6_ask := by decide +kernel
theorem lw_X6_ask_c63 : Cond.constant RX6 63 (-1000001 : Int32) ∈ wsX6_ask := by decide +kernel
theorem lk_X6_ask_263 : Cond.fieldLink RX6 263 (TX6 8).1 (TX6 8).2.1 (TX6 8).2.2.1 ∈ wsX6_ask := by decide +kernel
theorem fi_X6_ask_5 : ∀ w ∈ wsX50, w ∈ wsX6_ask := by decide +kernel
theorem lk_X6_ask_257 : Cond.fieldLink RX6 257 (TX5 7).1 (TX5 7).2.1 (TX5 7).2.2.1 ∈ wsX6_ask := by decide +kernel
theorem lw_X6_ask_s269 : Cond.fieldLink RX6 269 "TearGuests" "MARK_BODY" "[I" ∈ wsX6_ask := by decide +kernel
theorem lw_X6_ask_s266 : Cond.fieldLink RX6 266 "TearGuests" "SIZE_BODY" "[I" ∈ wsX6_ask := by decide +kernel
set_option maxHeartbeats 4000000 in
set_option maxRecDepth 100000 in
theorem k_X6_ask {l : Launch} {G : Gx} {x1 : Int32} {x2 : Int32} {m mF : Mm} {r : Int32}  (h : f_X6_ask x1 x2 m = some (r, mF)) : Cn l G 12 yX6_ask wsX6_ask [.ref (G.1 + 0), .int x1, .int x2] m (Qi G r mF) := by
  unfold f_X6_ask at h
  refine Cn.of (own := RX6) (lv := [(0, .ref (G.1 + 0)), (1, .int x1), (2, .int x2)]) (by decide) rfl rfl (Nat.le_of_ble_eq_true rfl) rfl ?_
  refine pw_aload_n 0 rfl rfl 1 dX6_ask_0 rfl ?_
  refine pw_getR 2 4 dX6_ask_1 rfl fi_X6_ask_6 lk_X6_ask_25 la_0 ly_0 (by decide) rfl (by decide) rfl rf_0_2 ?_
  refine pw_iload_n 1 rfl rfl 5 dX6_ask_4 rfl ?_
  refine pw_callVi 8 dX6_ask_5 rfl [.int x1] 1 ⟨gX6_ask_X5_has, rfl, sgV_X5_has, ⟨Nat.le_of_ble_eq_true rfl, Nat.le_of_ble_eq_true rfl⟩, ⟨Nat.le_refl _, Nat.le_refl _⟩⟩ ly_13 (by decide) la_13 rfl (k_X5_has isW_13 rfl) rfl rfl (Nat.le_of_ble_eq_true rfl) ?_
  refine pw_if_eq 18 11 dX6_ask_8 (by decide) rfl (fun c1 => ?_) (fun c1 => ?_)
  · have h := if_t h c1
    refine pw_ldc 20 lw_X6_ask_c63 dX6_ask_18 rfl ?_
    exact pw_iret dX6_ask_20 (pr_inj h)
  · have h := if_f h c1
    refine pw_iload_n 2 rfl rfl 12 dX6_ask_11 rfl ?_
    refine pw_callSi 15 dX6_ask_12 rfl [.int x2] 1 ⟨gX6_ask_X6_isFlag, rfl, sgS_X6_isFlag, ⟨Nat.le_of_ble_eq_true rfl, Nat.le_of_ble_eq_true rfl⟩, ⟨Nat.le_refl _, Nat.le_refl _⟩⟩ (k_X6_isFlag rfl) rfl rfl (Nat.le_of_ble_eq_true rfl) ?_
    refine pw_if_ne 21 18 dX6_ask_15 (by decide) rfl (fun c2 => ?_) (fun c2 => ?_)
    · have h := if_f h c2
      refine pw_aload_n 0 rfl rfl 22 dX6_ask_21 rfl ?_
      refine pw_iconst (v := (0 : Int32)) (by decide) 23 dX6_ask_22 rfl ?_
      refine pw_put (ty0 := tyX6) (ty := .int) 8 26 dX6_ask_23 rfl fi_X6_ask_6 tyX6_ok nmX6 lk_X6_ask_263 la_0 ly_0 (by decide) rfl (by decide) rfl rfl rfl rfl rfl ?_
      obtain ⟨m3, em3, h⟩ := nmE_ h
      refine pw_mem em3 ?_
      refine pw_aload_n 0 rfl rfl 27 dX6_ask_26 rfl ?_
      refine pw_getR 2 30 dX6_ask_27 rfl fi_X6_ask_6 lk_X6_ask_25 la_0 ly_0 (by decide) rfl (by decide) rfl rf_0_2 ?_
      refine pw_getR 7 33 dX6_ask_30 rfl fi_X6_ask_5 lk_X6_ask_257 la_13 ly_13 (by decide) rfl (by decide) rfl rf_13_7 ?_
      refine pw_iload_n 1 rfl rfl 34 dX6_ask_33 rfl ?_
      obtain ⟨h4, h⟩ := gd_e h
      refine pw_iald 35 dX6_ask_34 rfl la_14 ly_14 h4 ?_
      obtain ⟨v5, ev5, h⟩ := nmE_ h
      refine pw_top ev5 ?_
      refine pw_istore_n (hf := rfl) [(3, .int v5), (0, .ref (G.1 + 0)), (1, .int x1), (2, .int x2)] 36 dX6_ask_35 rfl (Nat.le_of_ble_eq_true rfl) rfl ?_
      refine pw_aload_n 1 rfl rfl 37 dX6_ask_36 rfl ?_
      refine pw_iload_n 3 rfl rfl 38 dX6_ask_37 rfl ?_
      obtain ⟨j9, qj9, h⟩ := bd1_e h
      have hJ54_j9 : PW G (KM l G RX6 cX6_ask 4 (some .int) wsX6_ask 12 (Qi G r mF)) 54 [(1, .int x1)] [.int j9, .ref (G.1 + 0)] m3 := by
        refine pw_iload_n 0 rfl rfl 55 dX6_ask_54 rfl ?_
        refine pw_iconst (v := (0 : Int32)) (by decide) 56 dX6_ask_55 rfl ?_
        obtain ⟨r11, m10, hr11, h⟩ := bd2_e h
        refine pw_callVi 59 dX6_ask_56 rfl [.int j9, .int x1, .int (0 : Int32)] 3 ⟨gX6_ask_X6_give, rfl, sgV_X6_give, ⟨Nat.le_of_ble_eq_true rfl, Nat.le_of_ble_eq_true rfl⟩, ⟨Nat.le_refl _, Nat.le_refl _⟩⟩ ly_0 (by decide) la_0 rfl (k_X6_give hr11) rfl rfl (Nat.le_of_ble_eq_true rfl) ?_
        exact pw_iret dX6_ask_59 (pr_inj h)
      refine pw_if_ne 49 41 dX6_ask_38 (by decide) rfl (fun c6 => ?_) (fun c6 => ?_)
      · have qj9 := if_f qj9 c6
        refine pw_gets3 52 dX6_ask_49 rfl lw_X6_ask_s269 ?_
        refine pw_iload_n 0 rfl rfl 53 dX6_ask_52 rfl ?_
        obtain ⟨h7, qj9⟩ := gd_e qj9
        refine pw_tald3 54 dX6_ask_53 rfl h7 ?_
        refine pw_sub [2] [(1, .int x1)] rfl ?_
        cases qj9; exact hJ54_j9
      · have qj9 := if_t qj9 c6
        refine pw_gets2 44 dX6_ask_41 rfl lw_X6_ask_s266 ?_
        refine pw_iload_n 0 rfl rfl 45 dX6_ask_44 rfl ?_
        obtain ⟨h8, qj9⟩ := gd_e qj9
        refine pw_tald2 46 dX6_ask_45 rfl h8 ?_
        refine pw_goto 54 dX6_ask_46 (by decide) ?_
        refine pw_sub [2] [(1, .int x1)] rfl ?_
        cases qj9; exact hJ54_j9
    · have h := if_t h c2
      refine pw_ldc 20 lw_X6_ask_c63 dX6_ask_18 rfl ?_
      exact pw_iret dX6_ask_20 (pr_inj h)
theorem lw_X6_trace_c276 : Cond.constant RX6 276 (-1000000 : Int32) ∈ wsX6_trace := by decide +kernel
theorem fi_X6_trace_6 : ∀ w ∈ wsX60, w ∈ wsX6_trace := by decide +kernel
theorem lk_X6_trace_263 : Cond.fieldLink RX6 263 (TX6 8).1 (TX6 8).2.1 (TX6 8).2.2.1 ∈ wsX6_trace := by decide +kernel
theorem lk_X6_trace_54 : Cond.fieldLink RX6 54 (TX6 7).1 (TX6 7).2.1 (TX6 7).2.2.1 ∈ wsX6_trace := by decide +kernel
set_option maxHeartbeats 4000000 in
set_option maxRecDepth 100000 in
theorem k_X6_trace {l : Launch} {G : Gx} {x1 : Int32} {m : Mm} {r : Int32}  (h : f_X6_trace x1 m = some r) : Cn l G 0 yX6_trace wsX6_trace [.ref (G.1 + 0), .int x1] m (Qi G r m) := by
  unfold f_X6_trace at h
  refine Cn.of (own := RX6) (lv := [(0, .ref (G.1 + 0)), (1, .int x1)]) (by decide) rfl rfl (Nat.le_of_ble_eq_true rfl) rfl ?_
  refine pw_iload_n 1 rfl rfl 1 dX6_trace_0 rfl ?_
  refine pw_if_lt 12 4 dX6_trace_1 (by decide) rfl (fun c1 => ?_) (fun c1 => ?_)
  · have h := if_t h c1
    refine pw_ldcw 15 lw_X6_trace_c276 dX6_trace_12 rfl ?_
    refine pw_goto 24 dX6_trace_15 (by decide) ?_
    exact pw_iret dX6_trace_24 ⟨Option.some.inj h, rfl⟩
  · have h := if_f h c1
    refine pw_iload_n 1 rfl rfl 5 dX6_trace_4 rfl ?_
    refine pw_aload_n 0 rfl rfl 6 dX6_trace_5 rfl ?_
    refine pw_getI 8 9 dX6_trace_6 rfl fi_X6_trace_6 lk_X6_trace_263 la_0 ly_0 (by decide) rfl (by decide) rfl ?_
    refine pw_icmp_lt 18 12 dX6_trace_9 (by decide) rfl (fun c2 => ?_) (fun c2 => ?_)
    · have h := if_t h c2
      refine pw_aload_n 0 rfl rfl 19 dX6_trace_18 rfl ?_
      refine pw_getR 7 22 dX6_trace_19 rfl fi_X6_trace_6 lk_X6_trace_54 la_0 ly_0 (by decide) rfl (by decide) rfl rf_0_7 ?_
      refine pw_iload_n 1 rfl rfl 23 dX6_trace_22 rfl ?_
      obtain ⟨h3, h⟩ := gd_e h
      refine pw_iald 24 dX6_trace_23 rfl la_263 ly_263 h3 ?_
      exact pw_iret dX6_trace_24 ⟨Option.some.inj h, rfl⟩
    · have h := if_f h c2
      refine pw_ldcw 15 lw_X6_trace_c276 dX6_trace_12 rfl ?_
      refine pw_goto 24 dX6_trace_15 (by decide) ?_
      exact pw_iret dX6_trace_24 ⟨Option.some.inj h, rfl⟩
theorem fi_X6_rowsThere_6 : ∀ w ∈ wsX60, w ∈ wsX6_rowsThere := by decide +kernel
theorem lk_X6_rowsThere_11 : Cond.fieldLink RX6 11 (TX6 0).1 (TX6 0).2.1 (TX6 0).2.2.1 ∈ wsX6_rowsThere := by decide +kernel
theorem fi_X6_rowsThere_4 : ∀ w ∈ wsX40, w ∈ wsX6_rowsThere := by decide +kernel
theorem lk_X6_rowsThere_75 : Cond.fieldLink RX6 75 (TX4 0).1 (TX4 0).2.1 (TX4 0).2.2.1 ∈ wsX6_rowsThere := by decide +kernel
set_option maxHeartbeats 4000000 in
set_option maxRecDepth 100000 in
theorem kl_X6_rowsThere_4 {l : Launch} {G : Gx}  {r : Int32}   : ∀ (n : Nat) (y1 : Int32) (y2 : Int32) (m : Mm) (a0 : Int32), lp_X6_rowsThere_4 n y1 y2 m = some a0 → PW G (KM l G RX6 cX6_rowsThere 3 (some .int) wsX6_rowsThere 0 (Qi G r m)) 31 [(1, .int a0)] [] m → PW G (KM l G RX6 cX6_rowsThere 3 (some .int) wsX6_rowsThere 0 (Qi G r m)) 4 [(0, .ref (G.1 + 0)), (1, .int y1), (2, .int y2)] [] m := by
  intro n
  induction n with
  | zero => intro y1 y2 m a0 h hk; cases h
  | succ n ih =>
    intro y1 y2 m a0 h hk
    have h : lb_X6_rowsThere_4 (lp_X6_rowsThere_4 n) y1 y2 m = _ := h
    unfold lb_X6_rowsThere_4 at h
    refine pw_iload_n 2 rfl rfl 5 dX6_rowsThere_4 rfl ?_
    refine pw_bipush (v := (8 : Int32)) (by decide) 7 dX6_rowsThere_5 rfl ?_
    refine pw_icmp_ge 31 10 dX6_rowsThere_7 (by decide) rfl (fun c1 => ?_) (fun c1 => ?_)
    · have h := if_t h c1
      refine pw_sub [1] [(1, .int y1)] rfl ?_
      cases h; exact hk
    · have h := if_f h c1
      refine pw_aload_n 0 rfl rfl 11 dX6_rowsThere_10 rfl ?_
      refine pw_getR 0 14 dX6_rowsThere_11 rfl fi_X6_rowsThere_6 lk_X6_rowsThere_11 la_0 ly_0 (by decide) rfl (by decide) rfl rf_0_0 ?_
      refine pw_iload_n 2 rfl rfl 15 dX6_rowsThere_14 rfl ?_
      obtain ⟨h2, h⟩ := gd_e h
      refine pw_aaldR 16 dX6_rowsThere_15 rfl la_1 ly_1 h2 ?_
      obtain ⟨w3, ew3, h⟩ := nmE_ h
      refine pw_topr ew3 ?_
      have hw3 : IsR w3 := by rw [ew3]; exact isR_rows h2
      refine pw_getI 0 19 dX6_rowsThere_16 rfl fi_X6_rowsThere_4 lk_X6_rowsThere_75 hw3.lt hw3.o (by decide) rfl (by decide) rfl ?_
      obtain ⟨j6, qj6, h⟩ := bd1_e h
      have hJ25_j6 : PW G (KM l G RX6 cX6_rowsThere 3 (some .int) wsX6_rowsThere 0 (Qi G r m)) 25 [(0, .ref (G.1 + 0)), (1, .int j6), (2, .int y2)] [] m := by
        obtain ⟨v7, ev7, h⟩ := nmE_ h
        refine pw_iinc 2 rfl (by rw [ev7]; rfl) [(2, .int v7), (0, .ref (G.1 + 0)), (1, .int j6)] 28 dX6_rowsThere_25 rfl (Nat.le_of_ble_eq_true rfl) rfl ?_
        refine pw_goto 4 dX6_rowsThere_28 (by decide) ?_
        refine pw_sub [1, 2, 0] [(0, .ref (G.1 + 0)), (1, .int j6), (2, .int v7)] rfl ?_
        exact ih j6 v7 m a0 h hk
      refine pw_if_eq 25 22 dX6_rowsThere_19 (by decide) rfl (fun c4 => ?_) (fun c4 => ?_)
      · have qj6 := if_t qj6 c4
        refine pw_sub [0, 1, 2] [(0, .ref (G.1 + 0)), (1, .int y1), (2, .int y2)] rfl ?_
        cases qj6; exact hJ25_j6
      · have qj6 := if_f qj6 c4
        obtain ⟨v5, ev5, qj6⟩ := nmE_ qj6
        refine pw_iinc 1 rfl (by rw [ev5]; rfl) [(1, .int v5), (0, .ref (G.1 + 0)), (2, .int y2)] 25 dX6_rowsThere_22 rfl (Nat.le_of_ble_eq_true rfl) rfl ?_
        refine pw_sub [1, 0, 2] [(0, .ref (G.1 + 0)), (1, .int v5), (2, .int y2)] rfl ?_
        cases qj6; exact hJ25_j6
set_option maxHeartbeats 4000000 in
set_option maxRecDepth 100000 in
theorem k_X6_rowsThere {l : Launch} {G : Gx}  {m : Mm} {r : Int32}  (h : f_X6_rowsThere m = some r) : Cn l G 0 yX6_rowsThere wsX6_rowsThere [.ref (G.1 + 0)] m (Qi G r m) := by
  unfold f_X6_rowsThere at h
  refine Cn.of (own := RX6) (lv := [(0, .ref (G.1 + 0))]) (by decide) rfl rfl (Nat.le_of_ble_eq_true rfl) rfl ?_
  refine pw_iconst (v := (0 : Int32)) (by decide) 1 dX6_rowsThere_0 rfl ?_
  refine pw_istore_n (hf := rfl) [(1, .int (0 : Int32)), (0, .ref (G.1 + 0))] 2 dX6_rowsThere_1 rfl (Nat.le_of_ble_eq_true rfl) rfl ?_
  refine pw_iconst (v := (0 : Int32)) (by decide) 3 dX6_rowsThere_2 rfl ?_
  refine pw_istore_n (hf := rfl) [(2, .int (0 : Int32)), (1, .int (0 : Int32)), (0, .ref (G.1 + 0))] 4 dX6_rowsThere_3 rfl (Nat.le_of_ble_eq_true rfl) rfl ?_
  obtain ⟨z8, h9, h⟩ := bd1_e h
  have hL4_h9 : PW G (KM l G RX6 cX6_rowsThere 3 (some .int) wsX6_rowsThere 0 (Qi G r m)) 31 [(1, .int z8)] [] m := by
    refine pw_iload_n 0 rfl rfl 32 dX6_rowsThere_31 rfl ?_
    exact pw_iret dX6_rowsThere_32 ⟨Option.some.inj h, rfl⟩
  refine pw_sub [2, 1, 0] [(0, .ref (G.1 + 0)), (1, .int (0 : Int32)), (2, .int (0 : Int32))] rfl ?_
  exact kl_X6_rowsThere_4 FU (0 : Int32) (0 : Int32) m z8 h9 hL4_h9
theorem fi_X6_count_6 : ∀ w ∈ wsX60, w ∈ wsX6_count := by decide +kernel
theorem lk_X6_count_25 : Cond.fieldLink RX6 25 (TX6 2).1 (TX6 2).2.1 (TX6 2).2.2.1 ∈ wsX6_count := by decide +kernel
theorem fi_X6_count_5 : ∀ w ∈ wsX50, w ∈ wsX6_count := by decide +kernel
theorem lk_X6_count_126 : Cond.fieldLink RX6 126 (TX5 0).1 (TX5 0).2.1 (TX5 0).2.2.1 ∈ wsX6_count := by decide +kernel
theorem lk_X6_count_136 : Cond.fieldLink RX6 136 (TX5 3).1 (TX5 3).2.1 (TX5 3).2.2.1 ∈ wsX6_count := by decide +kernel
theorem lk_X6_count_281 : Cond.fieldLink RX6 281 (TX5 1).1 (TX5 1).2.1 (TX5 1).2.2.1 ∈ wsX6_count := by decide +kernel
theorem lk_X6_count_167 : Cond.fieldLink RX6 167 (TX5 2).1 (TX5 2).2.1 (TX5 2).2.2.1 ∈ wsX6_count := by decide +kernel
theorem lk_X6_count_145 : Cond.fieldLink RX6 145 (TX5 4).1 (TX5 4).2.1 (TX5 4).2.2.1 ∈ wsX6_count := by decide +kernel
theorem lk_X6_count_203 : Cond.fieldLink RX6 203 (TX5 5).1 (TX5 5).2.1 (TX5 5).2.2.1 ∈ wsX6_count := by decide +kernel
theorem lk_X6_count_154 : Cond.fieldLink RX6 154 (TX5 6).1 (TX5 6).2.1 (TX5 6).2.2.1 ∈ wsX6_count := by decide +kernel
theorem lk_X6_count_32 : Cond.fieldLink RX6 32 (TX6 3).1 (TX6 3).2.1 (TX6 3).2.2.1 ∈ wsX6_count := by decide +kernel
theorem fi_X6_count_0 : ∀ w ∈ wsX00, w ∈ wsX6_count := by decide +kernel
theorem lk_X6_count_170 : Cond.fieldLink RX6 170 (TX0 2).1 (TX0 2).2.1 (TX0 2).2.2.1 ∈ wsX6_count := by decide +kernel
theorem lk_X6_count_18 : Cond.fieldLink RX6 18 (TX6 1).1 (TX6 1).2.1 (TX6 1).2.2.1 ∈ wsX6_count := by decide +kernel
theorem fi_X6_count_3 : ∀ w ∈ wsX30, w ∈ wsX6_count := by decide +kernel
theorem lk_X6_count_106 : Cond.fieldLink RX6 106 (TX3 2).1 (TX3 2).2.1 (TX3 2).2.2.1 ∈ wsX6_count := by decide +kernel
theorem lw_X6_count_c63 : Cond.constant RX6 63 (-1000001 : Int32) ∈ wsX6_count := by decide +kernel
set_option maxHeartbeats 4000000 in
set_option maxRecDepth 100000 in
theorem k_X6_count {l : Launch} {G : Gx} {x1 : Int32} {m : Mm} {r : Int32}  (h : f_X6_count x1 m = some r) : Cn l G 1 yX6_count wsX6_count [.ref (G.1 + 0), .int x1] m (Qi G r m) := by
  unfold f_X6_count at h
  refine Cn.of (own := RX6) (lv := [(0, .ref (G.1 + 0)), (1, .int x1)]) (by decide) rfl rfl (Nat.le_of_ble_eq_true rfl) rfl ?_
  refine pw_iload_n 1 rfl rfl 1 dX6_count_0 rfl ?_
  by_cases c2_0 : x1 = (0 : Int32)
  · have h := if_t h c2_0
    refine pw_tableIn 56 dX6_count_1 (by rw [c2_0]; decide) (by rw [c2_0]; decide) (by rw [c2_0]; rfl) (by decide) ?_
    refine pw_aload_n 0 rfl rfl 57 dX6_count_56 rfl ?_
    obtain ⟨r1, hr1, h⟩ := bd1_e h
    refine pw_callVi 60 dX6_count_57 rfl [] 0 ⟨gX6_count_X6_rowsThere, rfl, sgV_X6_rowsThere, ⟨Nat.le_of_ble_eq_true rfl, Nat.le_of_ble_eq_true rfl⟩, ⟨Nat.le_refl _, Nat.le_refl _⟩⟩ ly_0 (by decide) la_0 rfl (k_X6_rowsThere hr1) rfl rfl (Nat.le_of_ble_eq_true rfl) ?_
    exact pw_iret dX6_count_60 ⟨Option.some.inj h, rfl⟩
  · have h := if_f h c2_0
    by_cases c2_1 : x1 = (1 : Int32)
    · have h := if_t h c2_1
      refine pw_tableIn 61 dX6_count_1 (by rw [c2_1]; decide) (by rw [c2_1]; decide) (by rw [c2_1]; rfl) (by decide) ?_
      refine pw_aload_n 0 rfl rfl 62 dX6_count_61 rfl ?_
      refine pw_getR 2 65 dX6_count_62 rfl fi_X6_count_6 lk_X6_count_25 la_0 ly_0 (by decide) rfl (by decide) rfl rf_0_2 ?_
      refine pw_getI 0 68 dX6_count_65 rfl fi_X6_count_5 lk_X6_count_126 la_13 ly_13 (by decide) rfl (by decide) rfl ?_
      exact pw_iret dX6_count_68 ⟨Option.some.inj h, rfl⟩
    · have h := if_f h c2_1
      by_cases c2_2 : x1 = (2 : Int32)
      · have h := if_t h c2_2
        refine pw_tableIn 69 dX6_count_1 (by rw [c2_2]; decide) (by rw [c2_2]; decide) (by rw [c2_2]; rfl) (by decide) ?_
        refine pw_aload_n 0 rfl rfl 70 dX6_count_69 rfl ?_
        refine pw_getR 2 73 dX6_count_70 rfl fi_X6_count_6 lk_X6_count_25 la_0 ly_0 (by decide) rfl (by decide) rfl rf_0_2 ?_
        refine pw_getI 3 76 dX6_count_73 rfl fi_X6_count_5 lk_X6_count_136 la_13 ly_13 (by decide) rfl (by decide) rfl ?_
        exact pw_iret dX6_count_76 ⟨Option.some.inj h, rfl⟩
      · have h := if_f h c2_2
        by_cases c2_3 : x1 = (3 : Int32)
        · have h := if_t h c2_3
          refine pw_tableIn 77 dX6_count_1 (by rw [c2_3]; decide) (by rw [c2_3]; decide) (by rw [c2_3]; rfl) (by decide) ?_
          refine pw_aload_n 0 rfl rfl 78 dX6_count_77 rfl ?_
          refine pw_getR 2 81 dX6_count_78 rfl fi_X6_count_6 lk_X6_count_25 la_0 ly_0 (by decide) rfl (by decide) rfl rf_0_2 ?_
          refine pw_getI 1 84 dX6_count_81 rfl fi_X6_count_5 lk_X6_count_281 la_13 ly_13 (by decide) rfl (by decide) rfl ?_
          exact pw_iret dX6_count_84 ⟨Option.some.inj h, rfl⟩
        · have h := if_f h c2_3
          by_cases c2_4 : x1 = (4 : Int32)
          · have h := if_t h c2_4
            refine pw_tableIn 85 dX6_count_1 (by rw [c2_4]; decide) (by rw [c2_4]; decide) (by rw [c2_4]; rfl) (by decide) ?_
            refine pw_aload_n 0 rfl rfl 86 dX6_count_85 rfl ?_
            refine pw_getR 2 89 dX6_count_86 rfl fi_X6_count_6 lk_X6_count_25 la_0 ly_0 (by decide) rfl (by decide) rfl rf_0_2 ?_
            refine pw_getI 2 92 dX6_count_89 rfl fi_X6_count_5 lk_X6_count_167 la_13 ly_13 (by decide) rfl (by decide) rfl ?_
            exact pw_iret dX6_count_92 ⟨Option.some.inj h, rfl⟩
          · have h := if_f h c2_4
            by_cases c2_5 : x1 = (5 : Int32)
            · have h := if_t h c2_5
              refine pw_tableIn 93 dX6_count_1 (by rw [c2_5]; decide) (by rw [c2_5]; decide) (by rw [c2_5]; rfl) (by decide) ?_
              refine pw_aload_n 0 rfl rfl 94 dX6_count_93 rfl ?_
              refine pw_getR 2 97 dX6_count_94 rfl fi_X6_count_6 lk_X6_count_25 la_0 ly_0 (by decide) rfl (by decide) rfl rf_0_2 ?_
              refine pw_getI 4 100 dX6_count_97 rfl fi_X6_count_5 lk_X6_count_145 la_13 ly_13 (by decide) rfl (by decide) rfl ?_
              exact pw_iret dX6_count_100 ⟨Option.some.inj h, rfl⟩
            · have h := if_f h c2_5
              by_cases c2_6 : x1 = (6 : Int32)
              · have h := if_t h c2_6
                refine pw_tableIn 101 dX6_count_1 (by rw [c2_6]; decide) (by rw [c2_6]; decide) (by rw [c2_6]; rfl) (by decide) ?_
                refine pw_aload_n 0 rfl rfl 102 dX6_count_101 rfl ?_
                refine pw_getR 2 105 dX6_count_102 rfl fi_X6_count_6 lk_X6_count_25 la_0 ly_0 (by decide) rfl (by decide) rfl rf_0_2 ?_
                refine pw_getI 5 108 dX6_count_105 rfl fi_X6_count_5 lk_X6_count_203 la_13 ly_13 (by decide) rfl (by decide) rfl ?_
                exact pw_iret dX6_count_108 ⟨Option.some.inj h, rfl⟩
              · have h := if_f h c2_6
                by_cases c2_7 : x1 = (7 : Int32)
                · have h := if_t h c2_7
                  refine pw_tableIn 109 dX6_count_1 (by rw [c2_7]; decide) (by rw [c2_7]; decide) (by rw [c2_7]; rfl) (by decide) ?_
                  refine pw_aload_n 0 rfl rfl 110 dX6_count_109 rfl ?_
                  refine pw_getR 2 113 dX6_count_110 rfl fi_X6_count_6 lk_X6_count_25 la_0 ly_0 (by decide) rfl (by decide) rfl rf_0_2 ?_
                  refine pw_getI 6 116 dX6_count_113 rfl fi_X6_count_5 lk_X6_count_154 la_13 ly_13 (by decide) rfl (by decide) rfl ?_
                  exact pw_iret dX6_count_116 ⟨Option.some.inj h, rfl⟩
                · have h := if_f h c2_7
                  by_cases c2_8 : x1 = (8 : Int32)
                  · have h := if_t h c2_8
                    refine pw_tableIn 117 dX6_count_1 (by rw [c2_8]; decide) (by rw [c2_8]; decide) (by rw [c2_8]; rfl) (by decide) ?_
                    refine pw_aload_n 0 rfl rfl 118 dX6_count_117 rfl ?_
                    refine pw_getR 3 121 dX6_count_118 rfl fi_X6_count_6 lk_X6_count_32 la_0 ly_0 (by decide) rfl (by decide) rfl rf_0_3 ?_
                    refine pw_getI 2 124 dX6_count_121 rfl fi_X6_count_0 lk_X6_count_170 la_22 ly_22 (by decide) rfl (by decide) rfl ?_
                    exact pw_iret dX6_count_124 ⟨Option.some.inj h, rfl⟩
                  · have h := if_f h c2_8
                    by_cases c2_9 : x1 = (9 : Int32)
                    · have h := if_t h c2_9
                      refine pw_tableIn 125 dX6_count_1 (by rw [c2_9]; decide) (by rw [c2_9]; decide) (by rw [c2_9]; rfl) (by decide) ?_
                      refine pw_aload_n 0 rfl rfl 126 dX6_count_125 rfl ?_
                      refine pw_getR 1 129 dX6_count_126 rfl fi_X6_count_6 lk_X6_count_18 la_0 ly_0 (by decide) rfl (by decide) rfl rf_0_1 ?_
                      refine pw_getI 2 132 dX6_count_129 rfl fi_X6_count_3 lk_X6_count_106 la_2 ly_2 (by decide) rfl (by decide) rfl ?_
                      exact pw_iret dX6_count_132 ⟨Option.some.inj h, rfl⟩
                    · have h := if_f h c2_9
                      have c2_0_i : ¬ x1.toInt = 0 := fun e => c2_0 (Int32.toInt_inj.mp (e.trans rfl))
                      have c2_1_i : ¬ x1.toInt = 1 := fun e => c2_1 (Int32.toInt_inj.mp (e.trans rfl))
                      have c2_2_i : ¬ x1.toInt = 2 := fun e => c2_2 (Int32.toInt_inj.mp (e.trans rfl))
                      have c2_3_i : ¬ x1.toInt = 3 := fun e => c2_3 (Int32.toInt_inj.mp (e.trans rfl))
                      have c2_4_i : ¬ x1.toInt = 4 := fun e => c2_4 (Int32.toInt_inj.mp (e.trans rfl))
                      have c2_5_i : ¬ x1.toInt = 5 := fun e => c2_5 (Int32.toInt_inj.mp (e.trans rfl))
                      have c2_6_i : ¬ x1.toInt = 6 := fun e => c2_6 (Int32.toInt_inj.mp (e.trans rfl))
                      have c2_7_i : ¬ x1.toInt = 7 := fun e => c2_7 (Int32.toInt_inj.mp (e.trans rfl))
                      have c2_8_i : ¬ x1.toInt = 8 := fun e => c2_8 (Int32.toInt_inj.mp (e.trans rfl))
                      have c2_9_i : ¬ x1.toInt = 9 := fun e => c2_9 (Int32.toInt_inj.mp (e.trans rfl))
                      refine pw_tableOut 133 dX6_count_1 (by omega) (by decide) ?_
                      refine pw_ldc 135 lw_X6_count_c63 dX6_count_133 rfl ?_
                      exact pw_iret dX6_count_135 ⟨Option.some.inj h, rfl⟩
theorem fi_X6_status_6 : ∀ w ∈ wsX60, w ∈ wsX6_status := by decide +kernel
theorem lk_X6_status_230 : Cond.fieldLink RX6 230 (TX6 9).1 (TX6 9).2.1 (TX6 9).2.2.1 ∈ wsX6_status := by decide +kernel
set_option maxHeartbeats 4000000 in
set_option maxRecDepth 100000 in
theorem k_X6_status {l : Launch} {G : Gx}  {m : Mm} {r : Int32}  (h : f_X6_status m = r) : Cn l G 0 yX6_status wsX6_status [.ref (G.1 + 0)] m (Qi G r m) := by
  unfold f_X6_status at h
  refine Cn.of (own := RX6) (lv := [(0, .ref (G.1 + 0))]) (by decide) rfl rfl (Nat.le_of_ble_eq_true rfl) rfl ?_
  refine pw_aload_n 0 rfl rfl 1 dX6_status_0 rfl ?_
  refine pw_getI 9 4 dX6_status_1 rfl fi_X6_status_6 lk_X6_status_230 la_0 ly_0 (by decide) rfl (by decide) rfl ?_
  exact pw_iret dX6_status_4 ⟨h, rfl⟩
set_option maxHeartbeats 4000000 in
set_option maxRecDepth 100000 in
theorem k_X7_in {l : Launch} {G : Gx} {x0 : Int32} {x1 : Int32} {x2 : Int32} {m : Mm} {r : Int32}  (h : f_X7_in x0 x1 x2 = r) : Cn l G 0 yX7_in wsX7_in [.int x0, .int x1, .int x2] m (Qi G r m) := by
  unfold f_X7_in at h
  refine Cn.of (own := RX7) (lv := [(0, .int x0), (1, .int x1), (2, .int x2)]) (by decide) rfl rfl (Nat.le_of_ble_eq_true rfl) rfl ?_
  refine pw_iload_n 0 rfl rfl 1 dX7_in_0 rfl ?_
  refine pw_iload_n 1 rfl rfl 2 dX7_in_1 rfl ?_
  refine pw_icmp_lt 14 5 dX7_in_2 (by decide) rfl (fun c1 => ?_) (fun c1 => ?_)
  · have h := if_t h c1
    refine pw_iconst (v := (0 : Int32)) (by decide) 15 dX7_in_14 rfl ?_
    exact pw_zret dX7_in_15 (by decide) ⟨h, rfl⟩
  · have h := if_f h c1
    refine pw_iload_n 0 rfl rfl 6 dX7_in_5 rfl ?_
    refine pw_iload_n 2 rfl rfl 7 dX7_in_6 rfl ?_
    refine pw_icmp_gt 14 10 dX7_in_7 (by decide) rfl (fun c2 => ?_) (fun c2 => ?_)
    · have h := if_t h c2
      refine pw_iconst (v := (0 : Int32)) (by decide) 15 dX7_in_14 rfl ?_
      exact pw_zret dX7_in_15 (by decide) ⟨h, rfl⟩
    · have h := if_f h c2
      refine pw_iconst (v := (1 : Int32)) (by decide) 11 dX7_in_10 rfl ?_
      refine pw_goto 15 dX7_in_11 (by decide) ?_
      exact pw_zret dX7_in_15 (by decide) ⟨h, rfl⟩
set_option maxHeartbeats 4000000 in
set_option maxRecDepth 100000 in
theorem k_X7_has {l : Launch} {G : Gx} {x0 : Int32} {x1 : Int32} {m : Mm} {r : Int32}  (h : f_X7_has x0 x1 = r) : Cn l G 0 yX7_has wsX7_has [.int x0, .int x1] m (Qi G r m) := by
  unfold f_X7_has at h
  refine Cn.of (own := RX7) (lv := [(0, .int x0), (1, .int x1)]) (by decide) rfl rfl (Nat.le_of_ble_eq_true rfl) rfl ?_
  refine pw_iload_n 0 rfl rfl 1 dX7_has_0 rfl ?_
  refine pw_iload_n 1 rfl rfl 2 dX7_has_1 rfl ?_
  refine pw_ishr 3 dX7_has_2 rfl ?_
  refine pw_iconst (v := (1 : Int32)) (by decide) 4 dX7_has_3 rfl ?_
  refine pw_iand 5 dX7_has_4 rfl ?_
  refine pw_iconst (v := (1 : Int32)) (by decide) 6 dX7_has_5 rfl ?_
  refine pw_icmp_ne 13 9 dX7_has_6 (by decide) rfl (fun c1 => ?_) (fun c1 => ?_)
  · have h := if_f h c1
    refine pw_iconst (v := (0 : Int32)) (by decide) 14 dX7_has_13 rfl ?_
    exact pw_zret dX7_has_14 (by decide) ⟨h, rfl⟩
  · have h := if_t h c1
    refine pw_iconst (v := (1 : Int32)) (by decide) 10 dX7_has_9 rfl ?_
    refine pw_goto 14 dX7_has_10 (by decide) ?_
    exact pw_zret dX7_has_14 (by decide) ⟨h, rfl⟩
set_option maxHeartbeats 4000000 in
set_option maxRecDepth 100000 in
theorem kl_X7_ones_4 {l : Launch} {G : Gx}  {r : Int32}  {m : Mm}  : ∀ (n : Nat) (y0 : Int32) (y1 : Int32) (y2 : Int32) (a0 : Int32), lp_X7_ones_4 n y0 y1 y2 = some a0 → PW G (KM l G RX7 cX7_ones 3 (some .int) wsX7_ones 0 (Qi G r m)) 24 [(1, .int a0)] [] m → PW G (KM l G RX7 cX7_ones 3 (some .int) wsX7_ones 0 (Qi G r m)) 4 [(0, .int y0), (1, .int y1), (2, .int y2)] [] m := by
  intro n
  induction n with
  | zero => intro y0 y1 y2 a0 h hk; cases h
  | succ n ih =>
    intro y0 y1 y2 a0 h hk
    have h : lb_X7_ones_4 (lp_X7_ones_4 n) y0 y1 y2 = _ := h
    unfold lb_X7_ones_4 at h
    refine pw_iload_n 2 rfl rfl 5 dX7_ones_4 rfl ?_
    refine pw_bipush (v := (7 : Int32)) (by decide) 7 dX7_ones_5 rfl ?_
    refine pw_icmp_ge 24 10 dX7_ones_7 (by decide) rfl (fun c1 => ?_) (fun c1 => ?_)
    · have h := if_t h c1
      refine pw_sub [1] [(1, .int y1)] rfl ?_
      cases h; exact hk
    · have h := if_f h c1
      refine pw_iload_n 1 rfl rfl 11 dX7_ones_10 rfl ?_
      refine pw_iload_n 0 rfl rfl 12 dX7_ones_11 rfl ?_
      refine pw_iload_n 2 rfl rfl 13 dX7_ones_12 rfl ?_
      refine pw_ishr 14 dX7_ones_13 rfl ?_
      refine pw_iconst (v := (1 : Int32)) (by decide) 15 dX7_ones_14 rfl ?_
      refine pw_iand 16 dX7_ones_15 rfl ?_
      refine pw_iadd 17 dX7_ones_16 rfl ?_
      obtain ⟨v2, ev2, h⟩ := nmE_ h
      refine pw_top ev2 ?_
      refine pw_istore_n (hf := rfl) [(1, .int v2), (0, .int y0), (2, .int y2)] 18 dX7_ones_17 rfl (Nat.le_of_ble_eq_true rfl) rfl ?_
      obtain ⟨v3, ev3, h⟩ := nmE_ h
      refine pw_iinc 2 rfl (by rw [ev3]; rfl) [(2, .int v3), (1, .int v2), (0, .int y0)] 21 dX7_ones_18 rfl (Nat.le_of_ble_eq_true rfl) rfl ?_
      refine pw_goto 4 dX7_ones_21 (by decide) ?_
      refine pw_sub [2, 1, 0] [(0, .int y0), (1, .int v2), (2, .int v3)] rfl ?_
      exact ih y0 v2 v3 a0 h hk
set_option maxHeartbeats 4000000 in
set_option maxRecDepth 100000 in
theorem k_X7_ones {l : Launch} {G : Gx} {x0 : Int32} {m : Mm} {r : Int32}  (h : f_X7_ones x0 = some r) : Cn l G 0 yX7_ones wsX7_ones [.int x0] m (Qi G r m) := by
  unfold f_X7_ones at h
  refine Cn.of (own := RX7) (lv := [(0, .int x0)]) (by decide) rfl rfl (Nat.le_of_ble_eq_true rfl) rfl ?_
  refine pw_iconst (v := (0 : Int32)) (by decide) 1 dX7_ones_0 rfl ?_
  refine pw_istore_n (hf := rfl) [(1, .int (0 : Int32)), (0, .int x0)] 2 dX7_ones_1 rfl (Nat.le_of_ble_eq_true rfl) rfl ?_
  refine pw_iconst (v := (0 : Int32)) (by decide) 3 dX7_ones_2 rfl ?_
  refine pw_istore_n (hf := rfl) [(2, .int (0 : Int32)), (1, .int (0 : Int32)), (0, .int x0)] 4 dX7_ones_3 rfl (Nat.le_of_ble_eq_true rfl) rfl ?_
  obtain ⟨z4, h5, h⟩ := bd1_e h
  have hL4_h5 : PW G (KM l G RX7 cX7_ones 3 (some .int) wsX7_ones 0 (Qi G r m)) 24 [(1, .int z4)] [] m := by
    refine pw_iload_n 0 rfl rfl 25 dX7_ones_24 rfl ?_
    exact pw_iret dX7_ones_25 ⟨Option.some.inj h, rfl⟩
  refine pw_sub [2, 1, 0] [(0, .int x0), (1, .int (0 : Int32)), (2, .int (0 : Int32))] rfl ?_
  exact kl_X7_ones_4 FU x0 (0 : Int32) (0 : Int32) z4 h5 hL4_h5
set_option maxHeartbeats 4000000 in
set_option maxRecDepth 100000 in
theorem k_X7_lesser {l : Launch} {G : Gx} {x0 : Int32} {x1 : Int32} {m : Mm} {r : Int32}  (h : f_X7_lesser x0 x1 = r) : Cn l G 0 yX7_lesser wsX7_lesser [.int x0, .int x1] m (Qi G r m) := by
  unfold f_X7_lesser at h
  refine Cn.of (own := RX7) (lv := [(0, .int x0), (1, .int x1)]) (by decide) rfl rfl (Nat.le_of_ble_eq_true rfl) rfl ?_
  refine pw_iload_n 0 rfl rfl 1 dX7_lesser_0 rfl ?_
  refine pw_iload_n 1 rfl rfl 2 dX7_lesser_1 rfl ?_
  refine pw_icmp_ge 9 5 dX7_lesser_2 (by decide) rfl (fun c1 => ?_) (fun c1 => ?_)
  · have h := if_t h c1
    refine pw_iload_n 1 rfl rfl 10 dX7_lesser_9 rfl ?_
    exact pw_iret dX7_lesser_10 ⟨h, rfl⟩
  · have h := if_f h c1
    refine pw_iload_n 0 rfl rfl 6 dX7_lesser_5 rfl ?_
    refine pw_goto 10 dX7_lesser_6 (by decide) ?_
    exact pw_iret dX7_lesser_10 ⟨h, rfl⟩
set_option maxHeartbeats 4000000 in
set_option maxRecDepth 100000 in
theorem k_X7_greater {l : Launch} {G : Gx} {x0 : Int32} {x1 : Int32} {m : Mm} {r : Int32}  (h : f_X7_greater x0 x1 = r) : Cn l G 0 yX7_greater wsX7_greater [.int x0, .int x1] m (Qi G r m) := by
  unfold f_X7_greater at h
  refine Cn.of (own := RX7) (lv := [(0, .int x0), (1, .int x1)]) (by decide) rfl rfl (Nat.le_of_ble_eq_true rfl) rfl ?_
  refine pw_iload_n 0 rfl rfl 1 dX7_greater_0 rfl ?_
  refine pw_iload_n 1 rfl rfl 2 dX7_greater_1 rfl ?_
  refine pw_icmp_le 9 5 dX7_greater_2 (by decide) rfl (fun c1 => ?_) (fun c1 => ?_)
  · have h := if_t h c1
    refine pw_iload_n 1 rfl rfl 10 dX7_greater_9 rfl ?_
    exact pw_iret dX7_greater_10 ⟨h, rfl⟩
  · have h := if_f h c1
    refine pw_iload_n 0 rfl rfl 6 dX7_greater_5 rfl ?_
    refine pw_goto 10 dX7_greater_6 (by decide) ?_
    exact pw_iret dX7_greater_10 ⟨h, rfl⟩
theorem fi_X7_found_7 : ∀ w ∈ wsX70, w ∈ wsX7_found := by decide +kernel
theorem lk_X7_found_54 : Cond.fieldLink RX7 54 (TX7 4).1 (TX7 4).2.1 (TX7 4).2.2.1 ∈ wsX7_found := by decide +kernel
theorem lw_X7_found_c58 : Cond.constant RX7 58 (-1000010 : Int32) ∈ wsX7_found := by decide +kernel
set_option maxHeartbeats 4000000 in
set_option maxRecDepth 100000 in
theorem k_X7_found {l : Launch} {G : Gx} {x1 : Int32} {m mF : Mm} {r : Int32}  (h : f_X7_found x1 m = some (r, mF)) : Cn l G 0 yX7_found wsX7_found [.ref (G.1 + 298), .int x1] m (Qi G r mF) := by
  unfold f_X7_found at h
  refine Cn.of (own := RX7) (lv := [(0, .ref (G.1 + 298)), (1, .int x1)]) (by decide) rfl rfl (Nat.le_of_ble_eq_true rfl) rfl ?_
  refine pw_aload_n 0 rfl rfl 1 dX7_found_0 rfl ?_
  refine pw_iload_n 1 rfl rfl 2 dX7_found_1 rfl ?_
  refine pw_put (ty0 := tyX7) (ty := .int) 4 5 dX7_found_2 rfl fi_X7_found_7 tyX7_ok nmX7 lk_X7_found_54 la_298 ly_298 (by decide) rfl (by decide) rfl rfl rfl rfl rfl ?_
  obtain ⟨m1, em1, h⟩ := nmE_ h
  refine pw_mem em1 ?_
  refine pw_ldc 7 lw_X7_found_c58 dX7_found_5 rfl ?_
  refine pw_iload_n 1 rfl rfl 8 dX7_found_7 rfl ?_
  refine pw_isub 9 dX7_found_8 rfl ?_
  exact pw_iret dX7_found_9 (pr_inj h)
theorem fi_X7_well_7 : ∀ w ∈ wsX70, w ∈ wsX7_well := by decide +kernel
theorem lk_X7_well_54 : Cond.fieldLink RX7 54 (TX7 4).1 (TX7 4).2.1 (TX7 4).2.2.1 ∈ wsX7_well := by decide +kernel
set_option maxHeartbeats 4000000 in
set_option maxRecDepth 100000 in
theorem k_X7_well {l : Launch} {G : Gx} {x1 : Int32} {m mF : Mm} {r : Int32}  (h : f_X7_well x1 m = some (r, mF)) : Cn l G 0 yX7_well wsX7_well [.ref (G.1 + 298), .int x1] m (Qi G r mF) := by
  unfold f_X7_well at h
  refine Cn.of (own := RX7) (lv := [(0, .ref (G.1 + 298)), (1, .int x1)]) (by decide) rfl rfl (Nat.le_of_ble_eq_true rfl) rfl ?_
  refine pw_aload_n 0 rfl rfl 1 dX7_well_0 rfl ?_
  refine pw_iconst (v := (0 : Int32)) (by decide) 2 dX7_well_1 rfl ?_
  refine pw_put (ty0 := tyX7) (ty := .int) 4 5 dX7_well_2 rfl fi_X7_well_7 tyX7_ok nmX7 lk_X7_well_54 la_298 ly_298 (by decide) rfl (by decide) rfl rfl rfl rfl rfl ?_
  obtain ⟨m1, em1, h⟩ := nmE_ h
  refine pw_mem em1 ?_
  refine pw_iload_n 1 rfl rfl 6 dX7_well_5 rfl ?_
  exact pw_iret dX7_well_6 (pr_inj h)
set_option maxHeartbeats 4000000 in
set_option maxRecDepth 100000 in
theorem kl_X7_copies_3 {l : Launch} {G : Gx} {q1 nq1 : Nat} {q3 nq3 : Nat}  {mF : Mm} (lq1 : q1 < 313) (yq1 : ly q1 = (8, nq1)) (lq3 : q3 < 313) (yq3 : ly q3 = (8, nq3)) : ∀ (n : Nat) (y1 : Int32) (y3 : Int32) (y4 : Int32) (m : Mm) (a0 : Mm), lp_X7_copies_3 q1 nq1 q3 nq3 n y1 y3 y4 m = some a0 → PW G (KM l G RX7 cX7_copies 5 none wsX7_copies 0 (Qv G mF)) 28 [] [] a0 → PW G (KM l G RX7 cX7_copies 5 none wsX7_copies 0 (Qv G mF)) 3 [(0, .ref (G.1 + q1)), (1, .int y1), (2, .ref (G.1 + q3)), (3, .int y3), (4, .int y4)] [] m := by
  intro n
  induction n with
  | zero => intro y1 y3 y4 m a0 h hk; cases h
  | succ n ih =>
    intro y1 y3 y4 m a0 h hk
    have h : lb_X7_copies_3 (lp_X7_copies_3 q1 nq1 q3 nq3 n) q1 nq1 q3 nq3 y1 y3 y4 m = _ := h
    unfold lb_X7_copies_3 at h
    refine pw_iload 4 rfl 5 dX7_copies_3 rfl ?_
    refine pw_bipush (v := (55 : Int32)) (by decide) 7 dX7_copies_5 rfl ?_
    refine pw_icmp_ge 28 10 dX7_copies_7 (by decide) rfl (fun c1 => ?_) (fun c1 => ?_)
    · have h := if_t h c1
      refine pw_sub [] [] rfl ?_
      cases h; exact hk
    · have h := if_f h c1
      refine pw_aload_n 2 rfl rfl 11 dX7_copies_10 rfl ?_
      refine pw_iload_n 3 rfl rfl 12 dX7_copies_11 rfl ?_
      refine pw_iload 4 rfl 14 dX7_copies_12 rfl ?_
      refine pw_iadd 15 dX7_copies_14 rfl ?_
      refine pw_aload_n 0 rfl rfl 16 dX7_copies_15 rfl ?_
      refine pw_iload_n 1 rfl rfl 17 dX7_copies_16 rfl ?_
      refine pw_iload 4 rfl 19 dX7_copies_17 rfl ?_
      refine pw_iadd 20 dX7_copies_19 rfl ?_
      obtain ⟨h2, h⟩ := gd_e h
      refine pw_iald 21 dX7_copies_20 rfl lq1 yq1 h2 ?_
      obtain ⟨v3, ev3, h⟩ := nmE_ h
      refine pw_top ev3 ?_
      obtain ⟨h6, h⟩ := gd_e h
      refine pw_iast 22 dX7_copies_21 rfl lq3 yq3 h6 ?_
      obtain ⟨m4, em4, h⟩ := nmE_ h
      refine pw_mem em4 ?_
      obtain ⟨v5, ev5, h⟩ := nmE_ h
      refine pw_iinc 4 rfl (by rw [ev5]; rfl) [(4, .int v5), (0, .ref (G.1 + q1)), (1, .int y1), (2, .ref (G.1 + q3)), (3, .int y3)] 25 dX7_copies_22 rfl (Nat.le_of_ble_eq_true rfl) rfl ?_
      refine pw_goto 3 dX7_copies_25 (by decide) ?_
      refine pw_sub [1, 2, 3, 4, 0] [(0, .ref (G.1 + q1)), (1, .int y1), (2, .ref (G.1 + q3)), (3, .int y3), (4, .int v5)] rfl ?_
      exact ih y1 y3 v5 m4 a0 h hk
set_option maxHeartbeats 4000000 in
set_option maxRecDepth 100000 in
theorem k_X7_copies {l : Launch} {G : Gx} {q1 nq1 : Nat} {x1 : Int32} {q3 nq3 : Nat} {x3 : Int32} {m mF : Mm}  (lq1 : q1 < 313) (yq1 : ly q1 = (8, nq1)) (lq3 : q3 < 313) (yq3 : ly q3 = (8, nq3)) (h : f_X7_copies q1 nq1 x1 q3 nq3 x3 m = some mF) : Cn l G 0 yX7_copies wsX7_copies [.ref (G.1 + q1), .int x1, .ref (G.1 + q3), .int x3] m (Qv G mF) := by
  unfold f_X7_copies at h
  refine Cn.of (own := RX7) (lv := [(0, .ref (G.1 + q1)), (1, .int x1), (2, .ref (G.1 + q3)), (3, .int x3)]) (by decide) rfl rfl (Nat.le_of_ble_eq_true rfl) rfl ?_
  refine pw_iconst (v := (0 : Int32)) (by decide) 1 dX7_copies_0 rfl ?_
  refine pw_istore [(4, .int (0 : Int32)), (0, .ref (G.1 + q1)), (1, .int x1), (2, .ref (G.1 + q3)), (3, .int x3)] 3 dX7_copies_1 rfl (Nat.le_of_ble_eq_true rfl) rfl ?_
  obtain ⟨m7, h8, h⟩ := bd1_e h
  have hL3_h8 : PW G (KM l G RX7 cX7_copies 5 none wsX7_copies 0 (Qv G mF)) 28 [] [] m7 := by
    exact pw_vret dX7_copies_28 (Option.some.inj h)
  refine pw_sub [1, 2, 3, 4, 0] [(0, .ref (G.1 + q1)), (1, .int x1), (2, .ref (G.1 + q3)), (3, .int x3), (4, .int (0 : Int32))] rfl ?_
  exact kl_X7_copies_3 lq1 yq1 lq3 yq3 FU x1 x3 (0 : Int32) m m7 h8 hL3_h8
set_option maxHeartbeats 4000000 in
set_option maxRecDepth 100000 in
theorem k_X7_isRow {l : Launch} {G : Gx} {x0 : Int32} {m : Mm} {r : Int32}  (h : f_X7_isRow x0 = some r) : Cn l G 1 yX7_isRow wsX7_isRow [.int x0] m (Qi G r m) := by
  unfold f_X7_isRow at h
  refine Cn.of (own := RX7) (lv := [(0, .int x0)]) (by decide) rfl rfl (Nat.le_of_ble_eq_true rfl) rfl ?_
  refine pw_iload_n 0 rfl rfl 1 dX7_isRow_0 rfl ?_
  refine pw_iconst (v := (0 : Int32)) (by decide) 2 dX7_isRow_1 rfl ?_
  refine pw_bipush (v := (7 : Int32)) (by decide) 4 dX7_isRow_2 rfl ?_
  refine pw_callSi 7 dX7_isRow_4 rfl [.int x0, .int (0 : Int32), .int (7 : Int32)] 3 ⟨gX7_isRow_X7_in, rfl, sgS_X7_in, ⟨Nat.le_of_ble_eq_true rfl, Nat.le_of_ble_eq_true rfl⟩, ⟨Nat.le_refl _, Nat.le_refl _⟩⟩ (k_X7_in rfl) rfl rfl (Nat.le_of_ble_eq_true rfl) ?_
  obtain ⟨v1, ev1, h⟩ := nmE_ h
  refine pw_top ev1 ?_
  obtain ⟨h2, h⟩ := gd_e h
  exact pw_zret dX7_isRow_7 h2 ⟨Option.some.inj h, rfl⟩
theorem fi_X7_isMissing_7 : ∀ w ∈ wsX70, w ∈ wsX7_isMissing := by decide +kernel
theorem lk_X7_isMissing_7 : Cond.fieldLink RX7 7 (TX7 0).1 (TX7 0).2.1 (TX7 0).2.2.1 ∈ wsX7_isMissing := by decide +kernel
theorem lw_X7_isMissing_c53 : Cond.constant RX7 53 (-1000000 : Int32) ∈ wsX7_isMissing := by decide +kernel
set_option maxHeartbeats 4000000 in
set_option maxRecDepth 100000 in
theorem k_X7_isMissing {l : Launch} {G : Gx} {x1 : Int32} {m : Mm} {r : Int32}  (h : f_X7_isMissing x1 m = some r) : Cn l G 0 yX7_isMissing wsX7_isMissing [.ref (G.1 + 298), .int x1] m (Qi G r m) := by
  unfold f_X7_isMissing at h
  refine Cn.of (own := RX7) (lv := [(0, .ref (G.1 + 298)), (1, .int x1)]) (by decide) rfl rfl (Nat.le_of_ble_eq_true rfl) rfl ?_
  refine pw_aload_n 0 rfl rfl 1 dX7_isMissing_0 rfl ?_
  refine pw_getR 0 4 dX7_isMissing_1 rfl fi_X7_isMissing_7 lk_X7_isMissing_7 la_298 ly_298 (by decide) rfl (by decide) rfl rf_298_0 ?_
  refine pw_iload_n 1 rfl rfl 5 dX7_isMissing_4 rfl ?_
  obtain ⟨h1, h⟩ := gd_e h
  refine pw_iald 6 dX7_isMissing_5 rfl la_299 ly_299 h1 ?_
  refine pw_ldc 8 lw_X7_isMissing_c53 dX7_isMissing_6 rfl ?_
  refine pw_icmp_ne 15 11 dX7_isMissing_8 (by decide) rfl (fun c2 => ?_) (fun c2 => ?_)
  · have h := if_f h c2
    refine pw_iconst (v := (0 : Int32)) (by decide) 16 dX7_isMissing_15 rfl ?_
    exact pw_zret dX7_isMissing_16 (by decide) ⟨Option.some.inj h, rfl⟩
  · have h := if_t h c2
    refine pw_iconst (v := (1 : Int32)) (by decide) 12 dX7_isMissing_11 rfl ?_
    refine pw_goto 16 dX7_isMissing_12 (by decide) ?_
    exact pw_zret dX7_isMissing_16 (by decide) ⟨Option.some.inj h, rfl⟩
set_option maxHeartbeats 4000000 in
set_option maxRecDepth 100000 in
theorem k_X7_cut {l : Launch} {G : Gx} {x0 : Int32} {x1 : Int32} {m : Mm} {r : Int32}  (h : f_X7_cut x0 x1 = r) : Cn l G 0 yX7_cut wsX7_cut [.int x0, .int x1] m (Qi G r m) := by
  unfold f_X7_cut at h
  refine Cn.of (own := RX7) (lv := [(0, .int x0), (1, .int x1)]) (by decide) rfl rfl (Nat.le_of_ble_eq_true rfl) rfl ?_
  refine pw_iload_n 0 rfl rfl 1 dX7_cut_0 rfl ?_
  refine pw_if_ne 14 4 dX7_cut_1 (by decide) rfl (fun c1 => ?_) (fun c1 => ?_)
  · have h := if_f h c1
    refine pw_iload_n 0 rfl rfl 15 dX7_cut_14 rfl ?_
    refine pw_iconst (v := (1 : Int32)) (by decide) 16 dX7_cut_15 rfl ?_
    refine pw_icmp_ne 29 19 dX7_cut_16 (by decide) rfl (fun c2 => ?_) (fun c2 => ?_)
    · have h := if_f h c2
      refine pw_iload_n 1 rfl rfl 30 dX7_cut_29 rfl ?_
      exact pw_iret dX7_cut_30 ⟨h, rfl⟩
    · have h := if_t h c2
      refine pw_iload_n 1 rfl rfl 20 dX7_cut_19 rfl ?_
      refine pw_bipush (v := (16 : Int32)) (by decide) 22 dX7_cut_20 rfl ?_
      refine pw_ishl 23 dX7_cut_22 rfl ?_
      refine pw_bipush (v := (16 : Int32)) (by decide) 25 dX7_cut_23 rfl ?_
      refine pw_ishr 26 dX7_cut_25 rfl ?_
      refine pw_goto 30 dX7_cut_26 (by decide) ?_
      exact pw_iret dX7_cut_30 ⟨h, rfl⟩
  · have h := if_t h c1
    refine pw_iload_n 1 rfl rfl 5 dX7_cut_4 rfl ?_
    refine pw_bipush (v := (24 : Int32)) (by decide) 7 dX7_cut_5 rfl ?_
    refine pw_ishl 8 dX7_cut_7 rfl ?_
    refine pw_bipush (v := (24 : Int32)) (by decide) 10 dX7_cut_8 rfl ?_
    refine pw_ishr 11 dX7_cut_10 rfl ?_
    refine pw_goto 30 dX7_cut_11 (by decide) ?_
    exact pw_iret dX7_cut_30 ⟨h, rfl⟩
