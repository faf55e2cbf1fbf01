theorem fi_X5_become_5 : ∀ w ∈ wsX50, w ∈ wsX5_become := by decide +kernel
theorem lk_X5_become_36 : Cond.fieldLink RX5 36 (TX5 0).1 (TX5 0).2.1 (TX5 0).2.2.1 ∈ wsX5_become := by decide +kernel
theorem lk_X5_become_46 : Cond.fieldLink RX5 46 (TX5 1).1 (TX5 1).2.1 (TX5 1).2.2.1 ∈ wsX5_become := by decide +kernel
theorem lk_X5_become_49 : Cond.fieldLink RX5 49 (TX5 2).1 (TX5 2).2.1 (TX5 2).2.2.1 ∈ wsX5_become := by decide +kernel
theorem lk_X5_become_52 : Cond.fieldLink RX5 52 (TX5 3).1 (TX5 3).2.1 (TX5 3).2.2.1 ∈ wsX5_become := by decide +kernel
theorem lk_X5_become_43 : Cond.fieldLink RX5 43 (TX5 4).1 (TX5 4).2.1 (TX5 4).2.2.1 ∈ wsX5_become := by decide +kernel
theorem lk_X5_become_55 : Cond.fieldLink RX5 55 (TX5 5).1 (TX5 5).2.1 (TX5 5).2.2.1 ∈ wsX5_become := by decide +kernel
theorem lk_X5_become_40 : Cond.fieldLink RX5 40 (TX5 6).1 (TX5 6).2.1 (TX5 6).2.2.1 ∈ wsX5_become := by decide +kernel
theorem lk_X5_become_9 : Cond.fieldLink RX5 9 (TX5 7).1 (TX5 7).2.1 (TX5 7).2.2.1 ∈ wsX5_become := by decide +kernel
theorem lw_X5_become_ac58 : Cond.methodLink RX5 58 arraycopyName ∈ wsX5_become := by decide +kernel
theorem lw_X5_become_acn : Cond.native arraycopyName ∈ wsX5_become := by decide +kernel
theorem lw_X5_become_acs : Cond.static arraycopyName ∈ wsX5_become := by decide +kernel
theorem lw_X5_become_aci : Cond.initialized "java/lang/System" ∈ wsX5_become := by decide +kernel
theorem lk_X5_become_15 : Cond.fieldLink RX5 15 (TX5 8).1 (TX5 8).2.1 (TX5 8).2.2.1 ∈ wsX5_become := by decide +kernel
theorem lk_X5_become_18 : Cond.fieldLink RX5 18 (TX5 9).1 (TX5 9).2.1 (TX5 9).2.2.1 ∈ wsX5_become := by decide +kernel
theorem lk_X5_become_21 : Cond.fieldLink RX5 21 (TX5 10).1 (TX5 10).2.1 (TX5 10).2.2.1 ∈ wsX5_become := by decide +kernel
theorem lk_X5_become_24 : Cond.fieldLink RX5 24 (TX5 11).1 (TX5 11).2.1 (TX5 11).2.2.1 ∈ wsX5_become := by decide +kernel
theorem lk_X5_become_27 : Cond.fieldLink RX5 27 (TX5 12).1 (TX5 12).2.1 (TX5 12).2.2.1 ∈ wsX5_become := by decide +kernel
theorem lk_X5_become_30 : Cond.fieldLink RX5 30 (TX5 13).1 (TX5 13).2.1 (TX5 13).2.2.1 ∈ wsX5_become := by decide +kernel
set_option maxHeartbeats 4000000 in
set_option maxRecDepth 100000 in
theorem k_X5_become {l : Launch} {G : Gx} {w0 : Nat} {w1 : Nat} {m mF : Mm}  (hw0 : IsW w0) (hw1 : IsW w1) (h : f_X5_become w0 w1 m = some mF) : Cn l G 1 yX5_become wsX5_become [.ref (G.1 + w0), .ref (G.1 + w1)] m (Qv G mF) := by
  unfold f_X5_become at h
  refine Cn.of (own := RX5) (lv := [(0, .ref (G.1 + w0)), (1, .ref (G.1 + w1))]) (by decide) rfl rfl (Nat.le_of_ble_eq_true rfl) rfl ?_
  refine pw_aload_n 0 rfl rfl 1 dX5_become_0 rfl ?_
  refine pw_aload_n 1 rfl rfl 2 dX5_become_1 rfl ?_
  refine pw_getI 0 5 dX5_become_2 rfl fi_X5_become_5 lk_X5_become_36 hw1.lt hw1.o (by decide) rfl (by decide) rfl ?_
  obtain ⟨v1, ev1, h⟩ := nmE_ h
  refine pw_top ev1 ?_
  refine pw_put (ty0 := tyX5) (ty := .int) 0 8 dX5_become_5 rfl fi_X5_become_5 tyX5_ok nmX5 lk_X5_become_36 hw0.lt hw0.o (by decide) rfl (by decide) rfl rfl rfl rfl rfl ?_
  obtain ⟨m2, em2, h⟩ := nmE_ h
  refine pw_mem em2 ?_
  refine pw_aload_n 0 rfl rfl 9 dX5_become_8 rfl ?_
  refine pw_aload_n 1 rfl rfl 10 dX5_become_9 rfl ?_
  refine pw_getI 1 13 dX5_become_10 rfl fi_X5_become_5 lk_X5_become_46 hw1.lt hw1.o (by decide) rfl (by decide) rfl ?_
  obtain ⟨v3, ev3, h⟩ := nmE_ h
  refine pw_top ev3 ?_
  refine pw_put (ty0 := tyX5) (ty := .int) 1 16 dX5_become_13 rfl fi_X5_become_5 tyX5_ok nmX5 lk_X5_become_46 hw0.lt hw0.o (by decide) rfl (by decide) rfl rfl rfl rfl rfl ?_
  obtain ⟨m4, em4, h⟩ := nmE_ h
  refine pw_mem em4 ?_
  refine pw_aload_n 0 rfl rfl 17 dX5_become_16 rfl ?_
  refine pw_aload_n 1 rfl rfl 18 dX5_become_17 rfl ?_
  refine pw_getI 2 21 dX5_become_18 rfl fi_X5_become_5 lk_X5_become_49 hw1.lt hw1.o (by decide) rfl (by decide) rfl ?_
  obtain ⟨v5, ev5, h⟩ := nmE_ h
  refine pw_top ev5 ?_
  refine pw_put (ty0 := tyX5) (ty := .int) 2 24 dX5_become_21 rfl fi_X5_become_5 tyX5_ok nmX5 lk_X5_become_49 hw0.lt hw0.o (by decide) rfl (by decide) rfl rfl rfl rfl rfl ?_
  obtain ⟨m6, em6, h⟩ := nmE_ h
  refine pw_mem em6 ?_
  refine pw_aload_n 0 rfl rfl 25 dX5_become_24 rfl ?_
  refine pw_aload_n 1 rfl rfl 26 dX5_become_25 rfl ?_
  refine pw_getI 3 29 dX5_become_26 rfl fi_X5_become_5 lk_X5_become_52 hw1.lt hw1.o (by decide) rfl (by decide) rfl ?_
  obtain ⟨v7, ev7, h⟩ := nmE_ h
  refine pw_top ev7 ?_
  refine pw_put (ty0 := tyX5) (ty := .int) 3 32 dX5_become_29 rfl fi_X5_become_5 tyX5_ok nmX5 lk_X5_become_52 hw0.lt hw0.o (by decide) rfl (by decide) rfl rfl rfl rfl rfl ?_
  obtain ⟨m8, em8, h⟩ := nmE_ h
  refine pw_mem em8 ?_
  refine pw_aload_n 0 rfl rfl 33 dX5_become_32 rfl ?_
  refine pw_aload_n 1 rfl rfl 34 dX5_become_33 rfl ?_
  refine pw_getI 4 37 dX5_become_34 rfl fi_X5_become_5 lk_X5_become_43 hw1.lt hw1.o (by decide) rfl (by decide) rfl ?_
  obtain ⟨v9, ev9, h⟩ := nmE_ h
  refine pw_top ev9 ?_
  refine pw_put (ty0 := tyX5) (ty := .int) 4 40 dX5_become_37 rfl fi_X5_become_5 tyX5_ok nmX5 lk_X5_become_43 hw0.lt hw0.o (by decide) rfl (by decide) rfl rfl rfl rfl rfl ?_
  obtain ⟨m10, em10, h⟩ := nmE_ h
  refine pw_mem em10 ?_
  refine pw_aload_n 0 rfl rfl 41 dX5_become_40 rfl ?_
  refine pw_aload_n 1 rfl rfl 42 dX5_become_41 rfl ?_
  refine pw_getI 5 45 dX5_become_42 rfl fi_X5_become_5 lk_X5_become_55 hw1.lt hw1.o (by decide) rfl (by decide) rfl ?_
  obtain ⟨v11, ev11, h⟩ := nmE_ h
  refine pw_top ev11 ?_
  refine pw_put (ty0 := tyX5) (ty := .int) 5 48 dX5_become_45 rfl fi_X5_become_5 tyX5_ok nmX5 lk_X5_become_55 hw0.lt hw0.o (by decide) rfl (by decide) rfl rfl rfl rfl rfl ?_
  obtain ⟨m12, em12, h⟩ := nmE_ h
  refine pw_mem em12 ?_
  refine pw_aload_n 0 rfl rfl 49 dX5_become_48 rfl ?_
  refine pw_aload_n 1 rfl rfl 50 dX5_become_49 rfl ?_
  refine pw_getI 6 53 dX5_become_50 rfl fi_X5_become_5 lk_X5_become_40 hw1.lt hw1.o (by decide) rfl (by decide) rfl ?_
  obtain ⟨v13, ev13, h⟩ := nmE_ h
  refine pw_top ev13 ?_
  refine pw_put (ty0 := tyX5) (ty := .int) 6 56 dX5_become_53 rfl fi_X5_become_5 tyX5_ok nmX5 lk_X5_become_40 hw0.lt hw0.o (by decide) rfl (by decide) rfl rfl rfl rfl rfl ?_
  obtain ⟨m14, em14, h⟩ := nmE_ h
  refine pw_mem em14 ?_
  refine pw_aload_n 1 rfl rfl 57 dX5_become_56 rfl ?_
  refine pw_getR 7 60 dX5_become_57 rfl fi_X5_become_5 lk_X5_become_9 hw1.lt hw1.o (by decide) rfl (by decide) rfl hw1.rf7 ?_
  refine pw_iconst (v := (0 : Int32)) (by decide) 61 dX5_become_60 rfl ?_
  refine pw_aload_n 0 rfl rfl 62 dX5_become_61 rfl ?_
  refine pw_getR 7 65 dX5_become_62 rfl fi_X5_become_5 lk_X5_become_9 hw0.lt hw0.o (by decide) rfl (by decide) rfl hw0.rf7 ?_
  refine pw_iconst (v := (0 : Int32)) (by decide) 66 dX5_become_65 rfl ?_
  refine pw_bipush (v := (7 : Int32)) (by decide) 68 dX5_become_66 rfl ?_
  refine pw_copy 71 dX5_become_68 rfl lw_X5_become_ac58 lw_X5_become_acn lw_X5_become_acs lw_X5_become_aci (Nat.le_of_ble_eq_true rfl) (Nat.le_of_ble_eq_true rfl) hw1.lt1 hw1.o1 hw0.lt1 hw0.o1 (by decide) ?_
  obtain ⟨m15, em15, h⟩ := nmE_ h
  refine pw_mem em15 ?_
  refine pw_aload_n 1 rfl rfl 72 dX5_become_71 rfl ?_
  refine pw_getR 8 75 dX5_become_72 rfl fi_X5_become_5 lk_X5_become_15 hw1.lt hw1.o (by decide) rfl (by decide) rfl hw1.rf8 ?_
  refine pw_iconst (v := (0 : Int32)) (by decide) 76 dX5_become_75 rfl ?_
  refine pw_aload_n 0 rfl rfl 77 dX5_become_76 rfl ?_
  refine pw_getR 8 80 dX5_become_77 rfl fi_X5_become_5 lk_X5_become_15 hw0.lt hw0.o (by decide) rfl (by decide) rfl hw0.rf8 ?_
  refine pw_iconst (v := (0 : Int32)) (by decide) 81 dX5_become_80 rfl ?_
  refine pw_bipush (v := (7 : Int32)) (by decide) 83 dX5_become_81 rfl ?_
  refine pw_copy 86 dX5_become_83 rfl lw_X5_become_ac58 lw_X5_become_acn lw_X5_become_acs lw_X5_become_aci (Nat.le_of_ble_eq_true rfl) (Nat.le_of_ble_eq_true rfl) hw1.lt2 hw1.o2 hw0.lt2 hw0.o2 (by decide) ?_
  obtain ⟨m16, em16, h⟩ := nmE_ h
  refine pw_mem em16 ?_
  refine pw_aload_n 1 rfl rfl 87 dX5_become_86 rfl ?_
  refine pw_getR 9 90 dX5_become_87 rfl fi_X5_become_5 lk_X5_become_18 hw1.lt hw1.o (by decide) rfl (by decide) rfl hw1.rf9 ?_
  refine pw_iconst (v := (0 : Int32)) (by decide) 91 dX5_become_90 rfl ?_
  refine pw_aload_n 0 rfl rfl 92 dX5_become_91 rfl ?_
  refine pw_getR 9 95 dX5_become_92 rfl fi_X5_become_5 lk_X5_become_18 hw0.lt hw0.o (by decide) rfl (by decide) rfl hw0.rf9 ?_
  refine pw_iconst (v := (0 : Int32)) (by decide) 96 dX5_become_95 rfl ?_
  refine pw_bipush (v := (7 : Int32)) (by decide) 98 dX5_become_96 rfl ?_
  refine pw_copy 101 dX5_become_98 rfl lw_X5_become_ac58 lw_X5_become_acn lw_X5_become_acs lw_X5_become_aci (Nat.le_of_ble_eq_true rfl) (Nat.le_of_ble_eq_true rfl) hw1.lt3 hw1.o3 hw0.lt3 hw0.o3 (by decide) ?_
  obtain ⟨m17, em17, h⟩ := nmE_ h
  refine pw_mem em17 ?_
  refine pw_aload_n 1 rfl rfl 102 dX5_become_101 rfl ?_
  refine pw_getR 10 105 dX5_become_102 rfl fi_X5_become_5 lk_X5_become_21 hw1.lt hw1.o (by decide) rfl (by decide) rfl hw1.rf10 ?_
  refine pw_iconst (v := (0 : Int32)) (by decide) 106 dX5_become_105 rfl ?_
  refine pw_aload_n 0 rfl rfl 107 dX5_become_106 rfl ?_
  refine pw_getR 10 110 dX5_become_107 rfl fi_X5_become_5 lk_X5_become_21 hw0.lt hw0.o (by decide) rfl (by decide) rfl hw0.rf10 ?_
  refine pw_iconst (v := (0 : Int32)) (by decide) 111 dX5_become_110 rfl ?_
  refine pw_bipush (v := (7 : Int32)) (by decide) 113 dX5_become_111 rfl ?_
  refine pw_copy 116 dX5_become_113 rfl lw_X5_become_ac58 lw_X5_become_acn lw_X5_become_acs lw_X5_become_aci (Nat.le_of_ble_eq_true rfl) (Nat.le_of_ble_eq_true rfl) hw1.lt4 hw1.o4 hw0.lt4 hw0.o4 (by decide) ?_
  obtain ⟨m18, em18, h⟩ := nmE_ h
  refine pw_mem em18 ?_
  refine pw_aload_n 1 rfl rfl 117 dX5_become_116 rfl ?_
  refine pw_getR 11 120 dX5_become_117 rfl fi_X5_become_5 lk_X5_become_24 hw1.lt hw1.o (by decide) rfl (by decide) rfl hw1.rf11 ?_
  refine pw_iconst (v := (0 : Int32)) (by decide) 121 dX5_become_120 rfl ?_
  refine pw_aload_n 0 rfl rfl 122 dX5_become_121 rfl ?_
  refine pw_getR 11 125 dX5_become_122 rfl fi_X5_become_5 lk_X5_become_24 hw0.lt hw0.o (by decide) rfl (by decide) rfl hw0.rf11 ?_
  refine pw_iconst (v := (0 : Int32)) (by decide) 126 dX5_become_125 rfl ?_
  refine pw_bipush (v := (7 : Int32)) (by decide) 128 dX5_become_126 rfl ?_
  refine pw_copy 131 dX5_become_128 rfl lw_X5_become_ac58 lw_X5_become_acn lw_X5_become_acs lw_X5_become_aci (Nat.le_of_ble_eq_true rfl) (Nat.le_of_ble_eq_true rfl) hw1.lt5 hw1.o5 hw0.lt5 hw0.o5 (by decide) ?_
  obtain ⟨m19, em19, h⟩ := nmE_ h
  refine pw_mem em19 ?_
  refine pw_aload_n 1 rfl rfl 132 dX5_become_131 rfl ?_
  refine pw_getR 12 135 dX5_become_132 rfl fi_X5_become_5 lk_X5_become_27 hw1.lt hw1.o (by decide) rfl (by decide) rfl hw1.rf12 ?_
  refine pw_iconst (v := (0 : Int32)) (by decide) 136 dX5_become_135 rfl ?_
  refine pw_aload_n 0 rfl rfl 137 dX5_become_136 rfl ?_
  refine pw_getR 12 140 dX5_become_137 rfl fi_X5_become_5 lk_X5_become_27 hw0.lt hw0.o (by decide) rfl (by decide) rfl hw0.rf12 ?_
  refine pw_iconst (v := (0 : Int32)) (by decide) 141 dX5_become_140 rfl ?_
  refine pw_bipush (v := (7 : Int32)) (by decide) 143 dX5_become_141 rfl ?_
  refine pw_copy 146 dX5_become_143 rfl lw_X5_become_ac58 lw_X5_become_acn lw_X5_become_acs lw_X5_become_aci (Nat.le_of_ble_eq_true rfl) (Nat.le_of_ble_eq_true rfl) hw1.lt6 hw1.o6 hw0.lt6 hw0.o6 (by decide) ?_
  obtain ⟨m20, em20, h⟩ := nmE_ h
  refine pw_mem em20 ?_
  refine pw_aload_n 1 rfl rfl 147 dX5_become_146 rfl ?_
  refine pw_getR 13 150 dX5_become_147 rfl fi_X5_become_5 lk_X5_become_30 hw1.lt hw1.o (by decide) rfl (by decide) rfl hw1.rf13 ?_
  refine pw_iconst (v := (0 : Int32)) (by decide) 151 dX5_become_150 rfl ?_
  refine pw_aload_n 0 rfl rfl 152 dX5_become_151 rfl ?_
  refine pw_getR 13 155 dX5_become_152 rfl fi_X5_become_5 lk_X5_become_30 hw0.lt hw0.o (by decide) rfl (by decide) rfl hw0.rf13 ?_
  refine pw_iconst (v := (0 : Int32)) (by decide) 156 dX5_become_155 rfl ?_
  refine pw_bipush (v := (7 : Int32)) (by decide) 158 dX5_become_156 rfl ?_
  refine pw_copy 161 dX5_become_158 rfl lw_X5_become_ac58 lw_X5_become_acn lw_X5_become_acs lw_X5_become_aci (Nat.le_of_ble_eq_true rfl) (Nat.le_of_ble_eq_true rfl) hw1.lt7 hw1.o7 hw0.lt7 hw0.o7 (by decide) ?_
  obtain ⟨m21, em21, h⟩ := nmE_ h
  refine pw_mem em21 ?_
  exact pw_vret dX5_become_161 (Option.some.inj h)
theorem fi_X0_forget_0 : ∀ w ∈ wsX00, w ∈ wsX0_forget := by decide +kernel
theorem lk_X0_forget_26 : Cond.fieldLink RX0 26 (TX0 2).1 (TX0 2).2.1 (TX0 2).2.2.1 ∈ wsX0_forget := by decide +kernel
set_option maxHeartbeats 4000000 in
set_option maxRecDepth 100000 in
theorem k_X0_forget {l : Launch} {G : Gx}  {m mF : Mm}   (h : f_X0_forget m = some mF) : Cn l G 0 yX0_forget wsX0_forget [.ref (G.1 + 22)] m (Qv G mF) := by
  unfold f_X0_forget at h
  refine Cn.of (own := RX0) (lv := [(0, .ref (G.1 + 22))]) (by decide) rfl rfl (Nat.le_of_ble_eq_true rfl) rfl ?_
  refine pw_aload_n 0 rfl rfl 1 dX0_forget_0 rfl ?_
  refine pw_iconst (v := (0 : Int32)) (by decide) 2 dX0_forget_1 rfl ?_
  refine pw_put (ty0 := tyX0) (ty := .int) 2 5 dX0_forget_2 rfl fi_X0_forget_0 tyX0_ok nmX0 lk_X0_forget_26 la_22 ly_22 (by decide) rfl (by decide) rfl rfl rfl rfl rfl ?_
  obtain ⟨m1, em1, h⟩ := nmE_ h
  refine pw_mem em1 ?_
  exact pw_vret dX0_forget_5 (Option.some.inj h)
theorem fi_X6_wedding_6 : ∀ w ∈ wsX60, w ∈ wsX6_wedding := by decide +kernel
theorem lk_X6_wedding_18 : Cond.fieldLink RX6 18 (TX6 1).1 (TX6 1).2.1 (TX6 1).2.2.1 ∈ wsX6_wedding := by decide +kernel
theorem lk_X6_wedding_25 : Cond.fieldLink RX6 25 (TX6 2).1 (TX6 2).2.1 (TX6 2).2.2.1 ∈ wsX6_wedding := by decide +kernel
theorem fi_X6_wedding_3 : ∀ w ∈ wsX30, w ∈ wsX6_wedding := by decide +kernel
theorem lk_X6_wedding_116 : Cond.fieldLink RX6 116 (TX3 0).1 (TX3 0).2.1 (TX3 0).2.2.1 ∈ wsX6_wedding := by decide +kernel
theorem lk_X6_wedding_32 : Cond.fieldLink RX6 32 (TX6 3).1 (TX6 3).2.1 (TX6 3).2.2.1 ∈ wsX6_wedding := by decide +kernel
theorem fi_X6_wedding_5 : ∀ w ∈ wsX50, w ∈ wsX6_wedding := by decide +kernel
theorem lk_X6_wedding_126 : Cond.fieldLink RX6 126 (TX5 0).1 (TX5 0).2.1 (TX5 0).2.2.1 ∈ wsX6_wedding := by decide +kernel
theorem lw_X6_wedding_c112 : Cond.constant RX6 112 (-1000100 : Int32) ∈ wsX6_wedding := by decide +kernel
theorem lk_X6_wedding_113 : Cond.fieldLink RX6 113 (TX3 3).1 (TX3 3).2.1 (TX3 3).2.2.1 ∈ wsX6_wedding := by decide +kernel
set_option maxHeartbeats 4000000 in
set_option maxRecDepth 100000 in
theorem k_X6_wedding {l : Launch} {G : Gx}  {m mF : Mm} {r : Int32}  (h : f_X6_wedding m = some (r, mF)) : Cn l G 4 yX6_wedding wsX6_wedding [.ref (G.1 + 0)] m (Qi G r mF) := by
  unfold f_X6_wedding at h
  refine Cn.of (own := RX6) (lv := [(0, .ref (G.1 + 0))]) (by decide) rfl rfl (Nat.le_of_ble_eq_true rfl) rfl ?_
  refine pw_aload_n 0 rfl rfl 1 dX6_wedding_0 rfl ?_
  refine pw_getR 1 4 dX6_wedding_1 rfl fi_X6_wedding_6 lk_X6_wedding_18 la_0 ly_0 (by decide) rfl (by decide) rfl rf_0_1 ?_
  obtain ⟨r2, m1, hr2, h⟩ := bd2_e h
  refine pw_callVi 7 dX6_wedding_4 rfl [] 0 ⟨gX6_wedding_X3_read, rfl, sgV_X3_read, ⟨Nat.le_of_ble_eq_true rfl, Nat.le_of_ble_eq_true rfl⟩, ⟨Nat.le_refl _, Nat.le_refl _⟩⟩ ly_2 (by decide) la_2 rfl (k_X3_read hr2) rfl rfl (Nat.le_of_ble_eq_true rfl) ?_
  refine pw_istore_n (hf := rfl) [(1, .int r2), (0, .ref (G.1 + 0))] 8 dX6_wedding_7 rfl (Nat.le_of_ble_eq_true rfl) rfl ?_
  refine pw_iload_n 0 rfl rfl 9 dX6_wedding_8 rfl ?_
  refine pw_if_ne 23 12 dX6_wedding_9 (by decide) rfl (fun c3 => ?_) (fun c3 => ?_)
  · have h := if_f h c3
    refine pw_aload_n 1 rfl rfl 24 dX6_wedding_23 rfl ?_
    refine pw_getR 2 27 dX6_wedding_24 rfl fi_X6_wedding_6 lk_X6_wedding_25 la_0 ly_0 (by decide) rfl (by decide) rfl rf_0_2 ?_
    refine pw_aload_n 1 rfl rfl 28 dX6_wedding_27 rfl ?_
    refine pw_getR 1 31 dX6_wedding_28 rfl fi_X6_wedding_6 lk_X6_wedding_18 la_0 ly_0 (by decide) rfl (by decide) rfl rf_0_1 ?_
    refine pw_getR 0 34 dX6_wedding_31 rfl fi_X6_wedding_3 lk_X6_wedding_116 la_2 ly_2 (by decide) rfl (by decide) rfl rf_2_0 ?_
    obtain ⟨m4, hm4, h⟩ := bd1_e h
    refine pw_callVv 37 dX6_wedding_34 rfl [.ref (G.1 + 3)] 1 ⟨gX6_wedding_X5_become, rfl, sgV_X5_become, ⟨Nat.le_of_ble_eq_true rfl, Nat.le_of_ble_eq_true rfl⟩, ⟨Nat.le_refl _, Nat.le_refl _⟩⟩ ly_13 (by decide) la_13 rfl (k_X5_become isW_13 isW_3 hm4) rfl rfl (Nat.le_of_ble_eq_true rfl) ?_
    refine pw_aload_n 1 rfl rfl 38 dX6_wedding_37 rfl ?_
    refine pw_getR 3 41 dX6_wedding_38 rfl fi_X6_wedding_6 lk_X6_wedding_32 la_0 ly_0 (by decide) rfl (by decide) rfl rf_0_3 ?_
    obtain ⟨m5, hm5, h⟩ := bd1_e h
    refine pw_callVv 44 dX6_wedding_41 rfl [] 0 ⟨gX6_wedding_X0_forget, rfl, sgV_X0_forget, ⟨Nat.le_of_ble_eq_true rfl, Nat.le_of_ble_eq_true rfl⟩, ⟨Nat.le_refl _, Nat.le_refl _⟩⟩ ly_22 (by decide) la_22 rfl (k_X0_forget hm5) rfl rfl (Nat.le_of_ble_eq_true rfl) ?_
    refine pw_aload_n 1 rfl rfl 45 dX6_wedding_44 rfl ?_
    refine pw_getR 2 48 dX6_wedding_45 rfl fi_X6_wedding_6 lk_X6_wedding_25 la_0 ly_0 (by decide) rfl (by decide) rfl rf_0_2 ?_
    refine pw_getI 0 51 dX6_wedding_48 rfl fi_X6_wedding_5 lk_X6_wedding_126 la_13 ly_13 (by decide) rfl (by decide) rfl ?_
    exact pw_iret dX6_wedding_51 (pr_inj h)
  · have h := if_t h c3
    refine pw_ldc 14 lw_X6_wedding_c112 dX6_wedding_12 rfl ?_
    refine pw_aload_n 1 rfl rfl 15 dX6_wedding_14 rfl ?_
    refine pw_getR 1 18 dX6_wedding_15 rfl fi_X6_wedding_6 lk_X6_wedding_18 la_0 ly_0 (by decide) rfl (by decide) rfl rf_0_1 ?_
    refine pw_getI 3 21 dX6_wedding_18 rfl fi_X6_wedding_3 lk_X6_wedding_113 la_2 ly_2 (by decide) rfl (by decide) rfl ?_
    refine pw_isub 22 dX6_wedding_21 rfl ?_
    exact pw_iret dX6_wedding_22 (pr_inj h)
theorem fi_X6_fault_6 : ∀ w ∈ wsX60, w ∈ wsX6_fault := by decide +kernel
theorem lk_X6_fault_18 : Cond.fieldLink RX6 18 (TX6 1).1 (TX6 1).2.1 (TX6 1).2.2.1 ∈ wsX6_fault := by decide +kernel
theorem fi_X6_fault_3 : ∀ w ∈ wsX30, w ∈ wsX6_fault := by decide +kernel
theorem lk_X6_fault_129 : Cond.fieldLink RX6 129 (TX3 4).1 (TX3 4).2.1 (TX3 4).2.2.1 ∈ wsX6_fault := by decide +kernel
set_option maxHeartbeats 4000000 in
set_option maxRecDepth 100000 in
theorem k_X6_fault {l : Launch} {G : Gx}  {m : Mm} {r : Int32}  (h : f_X6_fault m = r) : Cn l G 0 yX6_fault wsX6_fault [.ref (G.1 + 0)] m (Qi G r m) := by
  unfold f_X6_fault at h
  refine Cn.of (own := RX6) (lv := [(0, .ref (G.1 + 0))]) (by decide) rfl rfl (Nat.le_of_ble_eq_true rfl) rfl ?_
  refine pw_aload_n 0 rfl rfl 1 dX6_fault_0 rfl ?_
  refine pw_getR 1 4 dX6_fault_1 rfl fi_X6_fault_6 lk_X6_fault_18 la_0 ly_0 (by decide) rfl (by decide) rfl rf_0_1 ?_
  refine pw_getI 4 7 dX6_fault_4 rfl fi_X6_fault_3 lk_X6_fault_129 la_2 ly_2 (by decide) rfl (by decide) rfl ?_
  exact pw_iret dX6_fault_7 ⟨h, rfl⟩
theorem fi_X6_isNone_6 : ∀ w ∈ wsX60, w ∈ wsX6_isNone := by decide +kernel
theorem lk_X6_isNone_25 : Cond.fieldLink RX6 25 (TX6 2).1 (TX6 2).2.1 (TX6 2).2.2.1 ∈ wsX6_isNone := by decide +kernel
theorem fi_X6_isNone_5 : ∀ w ∈ wsX50, w ∈ wsX6_isNone := by decide +kernel
theorem lk_X6_isNone_126 : Cond.fieldLink RX6 126 (TX5 0).1 (TX5 0).2.1 (TX5 0).2.2.1 ∈ wsX6_isNone := by decide +kernel
set_option maxHeartbeats 4000000 in
set_option maxRecDepth 100000 in
theorem k_X6_isNone {l : Launch} {G : Gx}  {m : Mm} {r : Int32}  (h : f_X6_isNone m = r) : Cn l G 0 yX6_isNone wsX6_isNone [.ref (G.1 + 0)] m (Qi G r m) := by
  unfold f_X6_isNone at h
  refine Cn.of (own := RX6) (lv := [(0, .ref (G.1 + 0))]) (by decide) rfl rfl (Nat.le_of_ble_eq_true rfl) rfl ?_
  refine pw_aload_n 0 rfl rfl 1 dX6_isNone_0 rfl ?_
  refine pw_getR 2 4 dX6_isNone_1 rfl fi_X6_isNone_6 lk_X6_isNone_25 la_0 ly_0 (by decide) rfl (by decide) rfl rf_0_2 ?_
  refine pw_getI 0 7 dX6_isNone_4 rfl fi_X6_isNone_5 lk_X6_isNone_126 la_13 ly_13 (by decide) rfl (by decide) rfl ?_
  refine pw_if_ne 14 10 dX6_isNone_7 (by decide) rfl (fun c1 => ?_) (fun c1 => ?_)
  · have h := if_f h c1
    refine pw_iconst (v := (0 : Int32)) (by decide) 15 dX6_isNone_14 rfl ?_
    exact pw_zret dX6_isNone_15 (by decide) ⟨h, rfl⟩
  · have h := if_t h c1
    refine pw_iconst (v := (1 : Int32)) (by decide) 11 dX6_isNone_10 rfl ?_
    refine pw_goto 15 dX6_isNone_11 (by decide) ?_
    exact pw_zret dX6_isNone_15 (by decide) ⟨h, rfl⟩
theorem fi_X0_keep_0 : ∀ w ∈ wsX00, w ∈ wsX0_keep := by decide +kernel
theorem lk_X0_keep_11 : Cond.fieldLink RX0 11 (TX0 0).1 (TX0 0).2.1 (TX0 0).2.2.1 ∈ wsX0_keep := by decide +kernel
theorem lk_X0_keep_18 : Cond.fieldLink RX0 18 (TX0 1).1 (TX0 1).2.1 (TX0 1).2.2.1 ∈ wsX0_keep := by decide +kernel
theorem lk_X0_keep_26 : Cond.fieldLink RX0 26 (TX0 2).1 (TX0 2).2.1 (TX0 2).2.2.1 ∈ wsX0_keep := by decide +kernel
theorem lw_X0_keep_m29 : Cond.methodLink RX0 29 Lib.Math.min.name ∈ wsX0_keep := by decide +kernel
theorem lw_X0_keep_ms_min : Cond.static Lib.Math.min.name ∈ wsX0_keep := by decide +kernel
theorem lw_X0_keep_mi : Cond.initialized "java/lang/Math" ∈ wsX0_keep := by decide +kernel
theorem lw_X0_keep_mc_min : Cond.code Lib.Math.min.name Lib.Math.min.code 2 (some .int) ∈ wsX0_keep := by decide +kernel
set_option maxHeartbeats 4000000 in
set_option maxRecDepth 100000 in
theorem k_X0_keep {l : Launch} {G : Gx} {w1 : Nat} {m mF : Mm}  (hw1 : IsW w1) (h : f_X0_keep w1 m = some mF) : Cn l G 2 yX0_keep wsX0_keep [.ref (G.1 + 22), .ref (G.1 + w1)] m (Qv G mF) := by
  unfold f_X0_keep at h
  refine Cn.of (own := RX0) (lv := [(0, .ref (G.1 + 22)), (1, .ref (G.1 + w1))]) (by decide) rfl rfl (Nat.le_of_ble_eq_true rfl) rfl ?_
  refine pw_aload_n 0 rfl rfl 1 dX0_keep_0 rfl ?_
  refine pw_getR 0 4 dX0_keep_1 rfl fi_X0_keep_0 lk_X0_keep_11 la_22 ly_22 (by decide) rfl (by decide) rfl rf_22_0 ?_
  refine pw_aload_n 0 rfl rfl 5 dX0_keep_4 rfl ?_
  refine pw_getI 1 8 dX0_keep_5 rfl fi_X0_keep_0 lk_X0_keep_18 la_22 ly_22 (by decide) rfl (by decide) rfl ?_
  obtain ⟨h1, h⟩ := gd_e h
  refine pw_aaldW 9 dX0_keep_8 rfl la_23 ly_23 h1 ?_
  obtain ⟨w2, ew2, h⟩ := nmE_ h
  refine pw_topr ew2 ?_
  have hw2 : IsW w2 := by rw [ew2]; exact isW_before h1
  refine pw_aload_n 1 rfl rfl 10 dX0_keep_9 rfl ?_
  obtain ⟨m3, hm3, h⟩ := bd1_e h
  refine pw_callVv 13 dX0_keep_10 rfl [.ref (G.1 + w1)] 1 ⟨gX0_keep_X5_become, rfl, sgV_X5_become, ⟨Nat.le_of_ble_eq_true rfl, Nat.le_of_ble_eq_true rfl⟩, ⟨Nat.le_refl _, Nat.le_refl _⟩⟩ hw2.o (by decide) hw2.lt rfl (k_X5_become hw2 hw1 hm3) rfl rfl (Nat.le_of_ble_eq_true rfl) ?_
  refine pw_aload_n 0 rfl rfl 14 dX0_keep_13 rfl ?_
  refine pw_aload_n 0 rfl rfl 15 dX0_keep_14 rfl ?_
  refine pw_getI 1 18 dX0_keep_15 rfl fi_X0_keep_0 lk_X0_keep_18 la_22 ly_22 (by decide) rfl (by decide) rfl ?_
  refine pw_bipush (v := (23 : Int32)) (by decide) 20 dX0_keep_18 rfl ?_
  obtain ⟨j5, ej5, h⟩ := nmE_ h
  have hJ33_j5 : PW G (KM l G RX0 cX0_keep 2 none wsX0_keep 2 (Qv G mF)) 33 [(0, .ref (G.1 + 22))] [.int j5, .ref (G.1 + 22)] m3 := by
    refine pw_put (ty0 := tyX0) (ty := .int) 1 36 dX0_keep_33 rfl fi_X0_keep_0 tyX0_ok nmX0 lk_X0_keep_18 la_22 ly_22 (by decide) rfl (by decide) rfl rfl rfl rfl rfl ?_
    obtain ⟨m6, em6, h⟩ := nmE_ h
    refine pw_mem em6 ?_
    refine pw_aload_n 0 rfl rfl 37 dX0_keep_36 rfl ?_
    refine pw_bipush (v := (24 : Int32)) (by decide) 39 dX0_keep_37 rfl ?_
    refine pw_aload_n 0 rfl rfl 40 dX0_keep_39 rfl ?_
    refine pw_getI 2 43 dX0_keep_40 rfl fi_X0_keep_0 lk_X0_keep_26 la_22 ly_22 (by decide) rfl (by decide) rfl ?_
    refine pw_iconst (v := (1 : Int32)) (by decide) 44 dX0_keep_43 rfl ?_
    refine pw_iadd 45 dX0_keep_44 rfl ?_
    refine pw_mmin 48 dX0_keep_45 rfl lw_X0_keep_m29 lw_X0_keep_ms_min lw_X0_keep_mi lw_X0_keep_mc_min (Nat.le_of_ble_eq_true rfl) (Nat.le_of_ble_eq_true rfl) (Nat.le_refl _) (Nat.le_refl _) ?_
    obtain ⟨v7, ev7, h⟩ := nmE_ h
    refine pw_top ev7 ?_
    refine pw_put (ty0 := tyX0) (ty := .int) 2 51 dX0_keep_48 rfl fi_X0_keep_0 tyX0_ok nmX0 lk_X0_keep_26 la_22 ly_22 (by decide) rfl (by decide) rfl rfl rfl rfl rfl ?_
    obtain ⟨m8, em8, h⟩ := nmE_ h
    refine pw_mem em8 ?_
    exact pw_vret dX0_keep_51 (Option.some.inj h)
  refine pw_icmp_ne 27 23 dX0_keep_20 (by decide) rfl (fun c4 => ?_) (fun c4 => ?_)
  · have ej5 := if_fv ej5 c4
    refine pw_aload_n 0 rfl rfl 28 dX0_keep_27 rfl ?_
    refine pw_getI 1 31 dX0_keep_28 rfl fi_X0_keep_0 lk_X0_keep_18 la_22 ly_22 (by decide) rfl (by decide) rfl ?_
    refine pw_iconst (v := (1 : Int32)) (by decide) 32 dX0_keep_31 rfl ?_
    refine pw_iadd 33 dX0_keep_32 rfl ?_
    refine pw_sub [0] [(0, .ref (G.1 + 22))] rfl ?_
    subst ej5; exact hJ33_j5
  · have ej5 := if_tv ej5 c4
    refine pw_iconst (v := (0 : Int32)) (by decide) 24 dX0_keep_23 rfl ?_
    refine pw_goto 33 dX0_keep_24 (by decide) ?_
    refine pw_sub [0] [(0, .ref (G.1 + 22))] rfl ?_
    subst ej5; exact hJ33_j5
theorem fi_X5_isHired_5 : ∀ w ∈ wsX50, w ∈ wsX5_isHired := by decide +kernel
theorem lk_X5_isHired_40 : Cond.fieldLink RX5 40 (TX5 6).1 (TX5 6).2.1 (TX5 6).2.2.1 ∈ wsX5_isHired := by decide +kernel
set_option maxHeartbeats 4000000 in
set_option maxRecDepth 100000 in
theorem k_X5_isHired {l : Launch} {G : Gx} {w0 : Nat} {x1 : Int32} {m : Mm} {r : Int32} (hw0 : IsW w0) (h : f_X5_isHired w0 x1 m = r) : Cn l G 0 yX5_isHired wsX5_isHired [.ref (G.1 + w0), .int x1] m (Qi G r m) := by
  unfold f_X5_isHired at h
  refine Cn.of (own := RX5) (lv := [(0, .ref (G.1 + w0)), (1, .int x1)]) (by decide) rfl rfl (Nat.le_of_ble_eq_true rfl) rfl ?_
  refine pw_aload_n 0 rfl rfl 1 dX5_isHired_0 rfl ?_
  refine pw_getI 6 4 dX5_isHired_1 rfl fi_X5_isHired_5 lk_X5_isHired_40 hw0.lt hw0.o (by decide) rfl (by decide) rfl ?_
  refine pw_iload_n 1 rfl rfl 5 dX5_isHired_4 rfl ?_
  refine pw_ishr 6 dX5_isHired_5 rfl ?_
  refine pw_iconst (v := (1 : Int32)) (by decide) 7 dX5_isHired_6 rfl ?_
  refine pw_iand 8 dX5_isHired_7 rfl ?_
  refine pw_iconst (v := (1 : Int32)) (by decide) 9 dX5_isHired_8 rfl ?_
  refine pw_icmp_ne 16 12 dX5_isHired_9 (by decide) rfl (fun c1 => ?_) (fun c1 => ?_)
  · have h := if_f h c1
    refine pw_iconst (v := (0 : Int32)) (by decide) 17 dX5_isHired_16 rfl ?_
    exact pw_zret dX5_isHired_17 (by decide) ⟨h, rfl⟩
  · have h := if_t h c1
    refine pw_iconst (v := (1 : Int32)) (by decide) 13 dX5_isHired_12 rfl ?_
    refine pw_goto 17 dX5_isHired_13 (by decide) ?_
    exact pw_zret dX5_isHired_17 (by decide) ⟨h, rfl⟩
theorem fi_X5_lastIn_5 : ∀ w ∈ wsX50, w ∈ wsX5_lastIn := by decide +kernel
theorem lk_X5_lastIn_36 : Cond.fieldLink RX5 36 (TX5 0).1 (TX5 0).2.1 (TX5 0).2.2.1 ∈ wsX5_lastIn := by decide +kernel
theorem lk_X5_lastIn_24 : Cond.fieldLink RX5 24 (TX5 11).1 (TX5 11).2.1 (TX5 11).2.2.1 ∈ wsX5_lastIn := by decide +kernel
theorem lk_X5_lastIn_30 : Cond.fieldLink RX5 30 (TX5 13).1 (TX5 13).2.1 (TX5 13).2.2.1 ∈ wsX5_lastIn := by decide +kernel
set_option maxHeartbeats 4000000 in
set_option maxRecDepth 100000 in
theorem k_X5_lastIn {l : Launch} {G : Gx} {w0 : Nat} {x1 : Int32} {m : Mm} {r : Int32} (hw0 : IsW w0) (h : f_X5_lastIn w0 x1 m = some r) : Cn l G 0 yX5_lastIn wsX5_lastIn [.ref (G.1 + w0), .int x1] m (Qi G r m) := by
  unfold f_X5_lastIn at h
  refine Cn.of (own := RX5) (lv := [(0, .ref (G.1 + w0)), (1, .int x1)]) (by decide) rfl rfl (Nat.le_of_ble_eq_true rfl) rfl ?_
  refine pw_iload_n 1 rfl rfl 1 dX5_lastIn_0 rfl ?_
  refine pw_if_lt 26 4 dX5_lastIn_1 (by decide) rfl (fun c1 => ?_) (fun c1 => ?_)
  · have h := if_t h c1
    refine pw_iconst (v := (0 : Int32)) (by decide) 27 dX5_lastIn_26 rfl ?_
    exact pw_iret dX5_lastIn_27 ⟨Option.some.inj h, rfl⟩
  · have h := if_f h c1
    refine pw_iload_n 1 rfl rfl 5 dX5_lastIn_4 rfl ?_
    refine pw_aload_n 0 rfl rfl 6 dX5_lastIn_5 rfl ?_
    refine pw_getI 0 9 dX5_lastIn_6 rfl fi_X5_lastIn_5 lk_X5_lastIn_36 hw0.lt hw0.o (by decide) rfl (by decide) rfl ?_
    refine pw_icmp_ge 26 12 dX5_lastIn_9 (by decide) rfl (fun c2 => ?_) (fun c2 => ?_)
    · have h := if_t h c2
      refine pw_iconst (v := (0 : Int32)) (by decide) 27 dX5_lastIn_26 rfl ?_
      exact pw_iret dX5_lastIn_27 ⟨Option.some.inj h, rfl⟩
    · have h := if_f h c2
      refine pw_aload_n 0 rfl rfl 13 dX5_lastIn_12 rfl ?_
      refine pw_getR 11 16 dX5_lastIn_13 rfl fi_X5_lastIn_5 lk_X5_lastIn_24 hw0.lt hw0.o (by decide) rfl (by decide) rfl hw0.rf11 ?_
      refine pw_aload_n 0 rfl rfl 17 dX5_lastIn_16 rfl ?_
      refine pw_getR 13 20 dX5_lastIn_17 rfl fi_X5_lastIn_5 lk_X5_lastIn_30 hw0.lt hw0.o (by decide) rfl (by decide) rfl hw0.rf13 ?_
      refine pw_iload_n 1 rfl rfl 21 dX5_lastIn_20 rfl ?_
      obtain ⟨h3, h⟩ := gd_e h
      refine pw_iald 22 dX5_lastIn_21 rfl hw0.lt7 hw0.o7 h3 ?_
      obtain ⟨h4, h⟩ := gd_e h
      refine pw_iald 23 dX5_lastIn_22 rfl hw0.lt5 hw0.o5 h4 ?_
      refine pw_goto 27 dX5_lastIn_23 (by decide) ?_
      exact pw_iret dX5_lastIn_27 ⟨Option.some.inj h, rfl⟩
theorem fi_X5_sheds_5 : ∀ w ∈ wsX50, w ∈ wsX5_sheds := by decide +kernel
theorem lk_X5_sheds_27 : Cond.fieldLink RX5 27 (TX5 12).1 (TX5 12).2.1 (TX5 12).2.2.1 ∈ wsX5_sheds := by decide +kernel
theorem lk_X5_sheds_15 : Cond.fieldLink RX5 15 (TX5 8).1 (TX5 8).2.1 (TX5 8).2.2.1 ∈ wsX5_sheds := by decide +kernel
theorem lk_X5_sheds_49 : Cond.fieldLink RX5 49 (TX5 2).1 (TX5 2).2.1 (TX5 2).2.2.1 ∈ wsX5_sheds := by decide +kernel
theorem lk_X5_sheds_52 : Cond.fieldLink RX5 52 (TX5 3).1 (TX5 3).2.1 (TX5 3).2.2.1 ∈ wsX5_sheds := by decide +kernel
theorem lk_X5_sheds_9 : Cond.fieldLink RX5 9 (TX5 7).1 (TX5 7).2.1 (TX5 7).2.2.1 ∈ wsX5_sheds := by decide +kernel
theorem lw_X5_sheds_m76 : Cond.methodLink RX5 76 Lib.Math.max.name ∈ wsX5_sheds := by decide +kernel
theorem lw_X5_sheds_ms_max : Cond.static Lib.Math.max.name ∈ wsX5_sheds := by decide +kernel
theorem lw_X5_sheds_mi : Cond.initialized "java/lang/Math" ∈ wsX5_sheds := by decide +kernel
theorem lw_X5_sheds_mc_max : Cond.code Lib.Math.max.name Lib.Math.max.code 2 (some .int) ∈ wsX5_sheds := by decide +kernel
theorem lw_X5_sheds_m82 : Cond.methodLink RX5 82 Lib.Math.min.name ∈ wsX5_sheds := by decide +kernel
theorem lw_X5_sheds_ms_min : Cond.static Lib.Math.min.name ∈ wsX5_sheds := by decide +kernel
theorem lw_X5_sheds_mc_min : Cond.code Lib.Math.min.name Lib.Math.min.code 2 (some .int) ∈ wsX5_sheds := by decide +kernel
theorem lk_X5_sheds_21 : Cond.fieldLink RX5 21 (TX5 10).1 (TX5 10).2.1 (TX5 10).2.2.1 ∈ wsX5_sheds := by decide +kernel
set_option maxHeartbeats 4000000 in
set_option maxRecDepth 100000 in
theorem k_X5_sheds {l : Launch} {G : Gx} {w0 : Nat} {x1 : Int32} {m : Mm} {r : Int32} (hw0 : IsW w0) (h : f_X5_sheds w0 x1 m = some r) : Cn l G 1 yX5_sheds wsX5_sheds [.ref (G.1 + w0), .int x1] m (Qi G r m) := by
  unfold f_X5_sheds at h
  refine Cn.of (own := RX5) (lv := [(0, .ref (G.1 + w0)), (1, .int x1)]) (by decide) rfl rfl (Nat.le_of_ble_eq_true rfl) rfl ?_
  refine pw_aload_n 0 rfl rfl 1 dX5_sheds_0 rfl ?_
  refine pw_aload_n 0 rfl rfl 2 dX5_sheds_1 rfl ?_
  refine pw_getR 12 5 dX5_sheds_2 rfl fi_X5_sheds_5 lk_X5_sheds_27 hw0.lt hw0.o (by decide) rfl (by decide) rfl hw0.rf12 ?_
  refine pw_iload_n 1 rfl rfl 6 dX5_sheds_5 rfl ?_
  obtain ⟨h1, h⟩ := gd_e h
  refine pw_iald 7 dX5_sheds_6 rfl hw0.lt6 hw0.o6 h1 ?_
  refine pw_iconst (v := (1 : Int32)) (by decide) 8 dX5_sheds_7 rfl ?_
  refine pw_isub 9 dX5_sheds_8 rfl ?_
  obtain ⟨r2, hr2, h⟩ := bd1_e h
  refine pw_callVi 12 dX5_sheds_9 rfl [.int ((m (w0 + 6) (ix x1)) - (1 : Int32))] 1 ⟨gX5_sheds_X5_lastIn, rfl, sgV_X5_lastIn, ⟨Nat.le_of_ble_eq_true rfl, Nat.le_of_ble_eq_true rfl⟩, ⟨Nat.le_refl _, Nat.le_refl _⟩⟩ hw0.o (by decide) hw0.lt rfl (k_X5_lastIn hw0 hr2) rfl rfl (Nat.le_of_ble_eq_true rfl) ?_
  refine pw_istore_n (hf := rfl) [(2, .int r2), (0, .ref (G.1 + w0)), (1, .int x1)] 13 dX5_sheds_12 rfl (Nat.le_of_ble_eq_true rfl) rfl ?_
  refine pw_aload_n 1 rfl rfl 14 dX5_sheds_13 rfl ?_
  refine pw_aload_n 1 rfl rfl 15 dX5_sheds_14 rfl ?_
  refine pw_getR 12 18 dX5_sheds_15 rfl fi_X5_sheds_5 lk_X5_sheds_27 hw0.lt hw0.o (by decide) rfl (by decide) rfl hw0.rf12 ?_
  refine pw_iload_n 2 rfl rfl 19 dX5_sheds_18 rfl ?_
  obtain ⟨h3, h⟩ := gd_e h
  refine pw_iald 20 dX5_sheds_19 rfl hw0.lt6 hw0.o6 h3 ?_
  refine pw_iconst (v := (1 : Int32)) (by decide) 21 dX5_sheds_20 rfl ?_
  refine pw_iadd 22 dX5_sheds_21 rfl ?_
  obtain ⟨r4, hr4, h⟩ := bd1_e h
  refine pw_callVi 25 dX5_sheds_22 rfl [.int ((m (w0 + 6) (ix x1)) + (1 : Int32))] 1 ⟨gX5_sheds_X5_lastIn, rfl, sgV_X5_lastIn, ⟨Nat.le_of_ble_eq_true rfl, Nat.le_of_ble_eq_true rfl⟩, ⟨Nat.le_refl _, Nat.le_refl _⟩⟩ hw0.o (by decide) hw0.lt rfl (k_X5_lastIn hw0 hr4) rfl rfl (Nat.le_of_ble_eq_true rfl) ?_
  refine pw_istore_n (hf := rfl) [(3, .int r4), (2, .int r2), (0, .ref (G.1 + w0)), (1, .int x1)] 26 dX5_sheds_25 rfl (Nat.le_of_ble_eq_true rfl) rfl ?_
  refine pw_aload_n 2 rfl rfl 27 dX5_sheds_26 rfl ?_
  refine pw_getR 8 30 dX5_sheds_27 rfl fi_X5_sheds_5 lk_X5_sheds_15 hw0.lt hw0.o (by decide) rfl (by decide) rfl hw0.rf8 ?_
  refine pw_iload_n 3 rfl rfl 31 dX5_sheds_30 rfl ?_
  obtain ⟨h5, h⟩ := gd_e h
  refine pw_iald 32 dX5_sheds_31 rfl hw0.lt2 hw0.o2 h5 ?_
  refine pw_iload_n 1 rfl rfl 33 dX5_sheds_32 rfl ?_
  obtain ⟨j7, ej7, h⟩ := nmE_ h
  have hJ41_j7 : PW G (KM l G RX5 cX5_sheds 7 (some .int) wsX5_sheds 1 (Qi G r m)) 41 [(0, .ref (G.1 + w0)), (1, .int x1), (2, .int r2), (3, .int r4)] [.int j7, .int (m (w0 + 2) (ix x1))] m := by
    refine pw_iadd 42 dX5_sheds_41 rfl ?_
    refine pw_iload_n 3 rfl rfl 43 dX5_sheds_42 rfl ?_
    obtain ⟨j9, ej9, h⟩ := nmE_ h
    have hJ51_j9 : PW G (KM l G RX5 cX5_sheds 7 (some .int) wsX5_sheds 1 (Qi G r m)) 51 [(0, .ref (G.1 + w0)), (1, .int x1), (2, .int r2), (3, .int r4)] [.int j9, .int ((m (w0 + 2) (ix x1)) + j7)] m := by
      refine pw_iadd 52 dX5_sheds_51 rfl ?_
      obtain ⟨v10, ev10, h⟩ := nmE_ h
      refine pw_top ev10 ?_
      refine pw_istore [(4, .int v10), (0, .ref (G.1 + w0)), (1, .int x1), (2, .int r2), (3, .int r4)] 54 dX5_sheds_52 rfl (Nat.le_of_ble_eq_true rfl) rfl ?_
      refine pw_aload_n 1 rfl rfl 55 dX5_sheds_54 rfl ?_
      refine pw_getI 2 58 dX5_sheds_55 rfl fi_X5_sheds_5 lk_X5_sheds_49 hw0.lt hw0.o (by decide) rfl (by decide) rfl ?_
      refine pw_aload_n 1 rfl rfl 59 dX5_sheds_58 rfl ?_
      refine pw_getI 3 62 dX5_sheds_59 rfl fi_X5_sheds_5 lk_X5_sheds_52 hw0.lt hw0.o (by decide) rfl (by decide) rfl ?_
      refine pw_iconst (v := (3 : Int32)) (by decide) 63 dX5_sheds_62 rfl ?_
      refine pw_iand 64 dX5_sheds_63 rfl ?_
      refine pw_ishr 65 dX5_sheds_64 rfl ?_
      refine pw_iconst (v := (1 : Int32)) (by decide) 66 dX5_sheds_65 rfl ?_
      refine pw_iand 67 dX5_sheds_66 rfl ?_
      refine pw_iconst (v := (1 : Int32)) (by decide) 68 dX5_sheds_67 rfl ?_
      obtain ⟨j13, qj13, h⟩ := bd1_e h
      have hJ81_j13 : PW G (KM l G RX5 cX5_sheds 7 (some .int) wsX5_sheds 1 (Qi G r m)) 81 [(0, .ref (G.1 + w0)), (1, .int x1), (2, .int r2), (3, .int r4), (4, .int v10)] [.int j13] m := by
        refine pw_istore [(5, .int j13), (0, .ref (G.1 + w0)), (1, .int x1), (2, .int r2), (3, .int r4), (4, .int v10)] 83 dX5_sheds_81 rfl (Nat.le_of_ble_eq_true rfl) rfl ?_
        refine pw_iload 5 rfl 85 dX5_sheds_83 rfl ?_
        refine pw_istore [(6, .int v10), (5, .int j13), (0, .ref (G.1 + w0)), (1, .int x1), (2, .int r2), (3, .int r4), (4, .int v10)] 87 dX5_sheds_85 rfl (Nat.le_of_ble_eq_true rfl) rfl ?_
        refine pw_aload_n 2 rfl rfl 88 dX5_sheds_87 rfl ?_
        refine pw_getR 7 91 dX5_sheds_88 rfl fi_X5_sheds_5 lk_X5_sheds_9 hw0.lt hw0.o (by decide) rfl (by decide) rfl hw0.rf7 ?_
        refine pw_iload_n 3 rfl rfl 92 dX5_sheds_91 rfl ?_
        obtain ⟨h14, h⟩ := gd_e h
        refine pw_iald 93 dX5_sheds_92 rfl hw0.lt1 hw0.o1 h14 ?_
        obtain ⟨v15, ev15, h⟩ := nmE_ h
        refine pw_top ev15 ?_
        obtain ⟨j27, qj27, h⟩ := bd1_e h
        have hJ191_j27 : PW G (KM l G RX5 cX5_sheds 7 (some .int) wsX5_sheds 1 (Qi G r m)) 191 [(0, .ref (G.1 + w0)), (1, .int x1), (6, .int j27)] [] m := by
          refine pw_iload 2 rfl 193 dX5_sheds_191 rfl ?_
          refine pw_bipush (v := (9 : Int32)) (by decide) 195 dX5_sheds_193 rfl ?_
          refine pw_mmin 198 dX5_sheds_195 rfl lw_X5_sheds_m82 lw_X5_sheds_ms_min lw_X5_sheds_mi lw_X5_sheds_mc_min (Nat.le_of_ble_eq_true rfl) (Nat.le_of_ble_eq_true rfl) (Nat.le_refl _) (Nat.le_refl _) ?_
          obtain ⟨v28, ev28, h⟩ := nmE_ h
          refine pw_top ev28 ?_
          refine pw_aload_n 0 rfl rfl 199 dX5_sheds_198 rfl ?_
          refine pw_getR 10 202 dX5_sheds_199 rfl fi_X5_sheds_5 lk_X5_sheds_21 hw0.lt hw0.o (by decide) rfl (by decide) rfl hw0.rf10 ?_
          refine pw_iload_n 1 rfl rfl 203 dX5_sheds_202 rfl ?_
          obtain ⟨h29, h⟩ := gd_e h
          refine pw_iald 204 dX5_sheds_203 rfl hw0.lt4 hw0.o4 h29 ?_
          refine pw_mmin 207 dX5_sheds_204 rfl lw_X5_sheds_m82 lw_X5_sheds_ms_min lw_X5_sheds_mi lw_X5_sheds_mc_min (Nat.le_of_ble_eq_true rfl) (Nat.le_of_ble_eq_true rfl) (Nat.le_refl _) (Nat.le_refl _) ?_
          obtain ⟨v30, ev30, h⟩ := nmE_ h
          refine pw_top ev30 ?_
          exact pw_iret dX5_sheds_207 ⟨Option.some.inj h, rfl⟩
        by_cases c26_0 : v15 = (2 : Int32)
        · have qj27 := if_t qj27 c26_0
          refine pw_tableIn 124 dX5_sheds_93 (by rw [c26_0]; decide) (by rw [c26_0]; decide) (by rw [c26_0]; rfl) (by decide) ?_
          refine pw_iload_n 4 rfl rfl 125 dX5_sheds_124 rfl ?_
          obtain ⟨j22, qj22, qj27⟩ := bd1_e qj27
          have hJ149_j22 : PW G (KM l G RX5 cX5_sheds 7 (some .int) wsX5_sheds 1 (Qi G r m)) 149 [(0, .ref (G.1 + w0)), (1, .int x1)] [.int j22] m := by
            refine pw_istore [(6, .int j22), (0, .ref (G.1 + w0)), (1, .int x1)] 151 dX5_sheds_149 rfl (Nat.le_of_ble_eq_true rfl) rfl ?_
            refine pw_goto 191 dX5_sheds_151 (by decide) ?_
            refine pw_sub [1, 2, 0] [(0, .ref (G.1 + w0)), (1, .int x1), (6, .int j22)] rfl ?_
            cases qj27; exact hJ191_j27
          refine pw_if_gt 132 128 dX5_sheds_125 (by decide) rfl (fun c16 => ?_) (fun c16 => ?_)
          · have qj22 := if_t qj22 c16
            refine pw_iload 6 rfl 134 dX5_sheds_132 rfl ?_
            refine pw_iload_n 4 rfl rfl 135 dX5_sheds_134 rfl ?_
            refine pw_iload_n 5 rfl rfl 136 dX5_sheds_135 rfl ?_
            refine pw_mmax 139 dX5_sheds_136 rfl lw_X5_sheds_m76 lw_X5_sheds_ms_max lw_X5_sheds_mi lw_X5_sheds_mc_max (Nat.le_of_ble_eq_true rfl) (Nat.le_of_ble_eq_true rfl) (Nat.le_refl _) (Nat.le_refl _) ?_
            obtain ⟨v17, ev17, qj22⟩ := nmE_ qj22
            refine pw_top ev17 ?_
            refine pw_iconst (v := (1 : Int32)) (by decide) 140 dX5_sheds_139 rfl ?_
            refine pw_iadd 141 dX5_sheds_140 rfl ?_
            refine pw_mmax 144 dX5_sheds_141 rfl lw_X5_sheds_m76 lw_X5_sheds_ms_max lw_X5_sheds_mi lw_X5_sheds_mc_max (Nat.le_of_ble_eq_true rfl) (Nat.le_of_ble_eq_true rfl) (Nat.le_refl _) (Nat.le_refl _) ?_
            obtain ⟨v18, ev18, qj22⟩ := nmE_ qj22
            refine pw_top ev18 ?_
            refine pw_goto 149 dX5_sheds_144 (by decide) ?_
            refine pw_sub [2, 3] [(0, .ref (G.1 + w0)), (1, .int x1)] rfl ?_
            cases qj22; exact hJ149_j22
          · have qj22 := if_f qj22 c16
            refine pw_iload_n 5 rfl rfl 129 dX5_sheds_128 rfl ?_
            refine pw_if_le 147 132 dX5_sheds_129 (by decide) rfl (fun c19 => ?_) (fun c19 => ?_)
            · have qj22 := if_t qj22 c19
              refine pw_iload 6 rfl 149 dX5_sheds_147 rfl ?_
              refine pw_sub [2, 3] [(0, .ref (G.1 + w0)), (1, .int x1)] rfl ?_
              cases qj22; exact hJ149_j22
            · have qj22 := if_f qj22 c19
              refine pw_iload 6 rfl 134 dX5_sheds_132 rfl ?_
              refine pw_iload_n 4 rfl rfl 135 dX5_sheds_134 rfl ?_
              refine pw_iload_n 5 rfl rfl 136 dX5_sheds_135 rfl ?_
              refine pw_mmax 139 dX5_sheds_136 rfl lw_X5_sheds_m76 lw_X5_sheds_ms_max lw_X5_sheds_mi lw_X5_sheds_mc_max (Nat.le_of_ble_eq_true rfl) (Nat.le_of_ble_eq_true rfl) (Nat.le_refl _) (Nat.le_refl _) ?_
              obtain ⟨v20, ev20, qj22⟩ := nmE_ qj22
              refine pw_top ev20 ?_
              refine pw_iconst (v := (1 : Int32)) (by decide) 140 dX5_sheds_139 rfl ?_
              refine pw_iadd 141 dX5_sheds_140 rfl ?_
              refine pw_mmax 144 dX5_sheds_141 rfl lw_X5_sheds_m76 lw_X5_sheds_ms_max lw_X5_sheds_mi lw_X5_sheds_mc_max (Nat.le_of_ble_eq_true rfl) (Nat.le_of_ble_eq_true rfl) (Nat.le_refl _) (Nat.le_refl _) ?_
              obtain ⟨v21, ev21, qj22⟩ := nmE_ qj22
              refine pw_top ev21 ?_
              refine pw_goto 149 dX5_sheds_144 (by decide) ?_
              refine pw_sub [2, 3] [(0, .ref (G.1 + w0)), (1, .int x1)] rfl ?_
              cases qj22; exact hJ149_j22
        · have qj27 := if_f qj27 c26_0
          by_cases c26_1 : v15 = (3 : Int32)
          · have qj27 := if_t qj27 c26_1
            refine pw_tableIn 154 dX5_sheds_93 (by rw [c26_1]; decide) (by rw [c26_1]; decide) (by rw [c26_1]; rfl) (by decide) ?_
            refine pw_aload_n 2 rfl rfl 155 dX5_sheds_154 rfl ?_
            refine pw_getI 3 158 dX5_sheds_155 rfl fi_X5_sheds_5 lk_X5_sheds_52 hw0.lt hw0.o (by decide) rfl (by decide) rfl ?_
            refine pw_iconst (v := (1 : Int32)) (by decide) 159 dX5_sheds_158 rfl ?_
            refine pw_iand 160 dX5_sheds_159 rfl ?_
            refine pw_iconst (v := (1 : Int32)) (by decide) 161 dX5_sheds_160 rfl ?_
            obtain ⟨j24, ej24, qj27⟩ := nmE_ qj27
            have hJ170_j24 : PW G (KM l G RX5 cX5_sheds 7 (some .int) wsX5_sheds 1 (Qi G r m)) 170 [(0, .ref (G.1 + w0)), (1, .int x1)] [.int j24] m := by
              refine pw_istore [(6, .int j24), (0, .ref (G.1 + w0)), (1, .int x1)] 172 dX5_sheds_170 rfl (Nat.le_of_ble_eq_true rfl) rfl ?_
              refine pw_goto 191 dX5_sheds_172 (by decide) ?_
              refine pw_sub [1, 2, 0] [(0, .ref (G.1 + w0)), (1, .int x1), (6, .int j24)] rfl ?_
              cases qj27; exact hJ191_j27
            refine pw_icmp_ne 168 164 dX5_sheds_161 (by decide) rfl (fun c23 => ?_) (fun c23 => ?_)
            · have ej24 := if_fv ej24 c23
              refine pw_iload 6 rfl 170 dX5_sheds_168 rfl ?_
              refine pw_sub [2, 3] [(0, .ref (G.1 + w0)), (1, .int x1)] rfl ?_
              subst ej24; exact hJ170_j24
            · have ej24 := if_tv ej24 c23
              refine pw_iconst (v := (0 : Int32)) (by decide) 165 dX5_sheds_164 rfl ?_
              refine pw_goto 170 dX5_sheds_165 (by decide) ?_
              refine pw_sub [2, 3] [(0, .ref (G.1 + w0)), (1, .int x1)] rfl ?_
              subst ej24; exact hJ170_j24
          · have qj27 := if_f qj27 c26_1
            by_cases c26_2 : v15 = (4 : Int32)
            · have qj27 := if_t qj27 c26_2
              refine pw_tableIn 175 dX5_sheds_93 (by rw [c26_2]; decide) (by rw [c26_2]; decide) (by rw [c26_2]; rfl) (by decide) ?_
              refine pw_iload 1 rfl 177 dX5_sheds_175 rfl ?_
              refine pw_istore [(6, .int j13), (5, .int j13), (0, .ref (G.1 + w0)), (1, .int x1), (2, .int r2), (3, .int r4), (4, .int v10)] 179 dX5_sheds_177 rfl (Nat.le_of_ble_eq_true rfl) rfl ?_
              refine pw_goto 191 dX5_sheds_179 (by decide) ?_
              refine pw_sub [2, 3, 0] [(0, .ref (G.1 + w0)), (1, .int x1), (6, .int j13)] rfl ?_
              cases qj27; exact hJ191_j27
            · have qj27 := if_f qj27 c26_2
              by_cases c26_3 : v15 = (5 : Int32)
              · have qj27 := if_t qj27 c26_3
                refine pw_tableIn 182 dX5_sheds_93 (by rw [c26_3]; decide) (by rw [c26_3]; decide) (by rw [c26_3]; rfl) (by decide) ?_
                refine pw_iload 1 rfl 184 dX5_sheds_182 rfl ?_
                refine pw_iconst (v := (2 : Int32)) (by decide) 185 dX5_sheds_184 rfl ?_
                refine pw_iadd 186 dX5_sheds_185 rfl ?_
                obtain ⟨v25, ev25, qj27⟩ := nmE_ qj27
                refine pw_top ev25 ?_
                refine pw_istore [(6, .int v25), (5, .int j13), (0, .ref (G.1 + w0)), (1, .int x1), (2, .int r2), (3, .int r4), (4, .int v10)] 188 dX5_sheds_186 rfl (Nat.le_of_ble_eq_true rfl) rfl ?_
                refine pw_goto 191 dX5_sheds_188 (by decide) ?_
                refine pw_sub [2, 3, 0] [(0, .ref (G.1 + w0)), (1, .int x1), (6, .int v25)] rfl ?_
                cases qj27; exact hJ191_j27
              · have qj27 := if_f qj27 c26_3
                have c26_0_i : ¬ v15.toInt = 2 := fun e => c26_0 (Int32.toInt_inj.mp (e.trans rfl))
                have c26_1_i : ¬ v15.toInt = 3 := fun e => c26_1 (Int32.toInt_inj.mp (e.trans rfl))
                have c26_2_i : ¬ v15.toInt = 4 := fun e => c26_2 (Int32.toInt_inj.mp (e.trans rfl))
                have c26_3_i : ¬ v15.toInt = 5 := fun e => c26_3 (Int32.toInt_inj.mp (e.trans rfl))
                refine pw_tableOut 191 dX5_sheds_93 (by omega) (by decide) ?_
                refine pw_sub [2, 3, 0] [(0, .ref (G.1 + w0)), (1, .int x1), (6, .int v10)] rfl ?_
                cases qj27; exact hJ191_j27
      refine pw_icmp_ne 80 71 dX5_sheds_68 (by decide) rfl (fun c11 => ?_) (fun c11 => ?_)
      · have qj13 := if_f qj13 c11
        refine pw_iconst (v := (0 : Int32)) (by decide) 81 dX5_sheds_80 rfl ?_
        refine pw_sub [1, 2, 3, 4, 0] [(0, .ref (G.1 + w0)), (1, .int x1), (2, .int r2), (3, .int r4), (4, .int v10)] rfl ?_
        cases qj13; exact hJ81_j13
      · have qj13 := if_t qj13 c11
        refine pw_aload_n 1 rfl rfl 72 dX5_sheds_71 rfl ?_
        refine pw_getR 8 75 dX5_sheds_72 rfl fi_X5_sheds_5 lk_X5_sheds_15 hw0.lt hw0.o (by decide) rfl (by decide) rfl hw0.rf8 ?_
        refine pw_iload_n 2 rfl rfl 76 dX5_sheds_75 rfl ?_
        obtain ⟨h12, qj13⟩ := gd_e qj13
        refine pw_iald 77 dX5_sheds_76 rfl hw0.lt2 hw0.o2 h12 ?_
        refine pw_goto 81 dX5_sheds_77 (by decide) ?_
        refine pw_sub [1, 2, 3, 4, 0] [(0, .ref (G.1 + w0)), (1, .int x1), (2, .int r2), (3, .int r4), (4, .int v10)] rfl ?_
        cases qj13; exact hJ81_j13
    refine pw_if_le 50 46 dX5_sheds_43 (by decide) rfl (fun c8 => ?_) (fun c8 => ?_)
    · have ej9 := if_tv ej9 c8
      refine pw_iconst (v := (0 : Int32)) (by decide) 51 dX5_sheds_50 rfl ?_
      refine pw_sub [0, 1, 2, 3] [(0, .ref (G.1 + w0)), (1, .int x1), (2, .int r2), (3, .int r4)] rfl ?_
      subst ej9; exact hJ51_j9
    · have ej9 := if_fv ej9 c8
      refine pw_iconst (v := (1 : Int32)) (by decide) 47 dX5_sheds_46 rfl ?_
      refine pw_goto 51 dX5_sheds_47 (by decide) ?_
      refine pw_sub [0, 1, 2, 3] [(0, .ref (G.1 + w0)), (1, .int x1), (2, .int r2), (3, .int r4)] rfl ?_
      subst ej9; exact hJ51_j9
  refine pw_if_le 40 36 dX5_sheds_33 (by decide) rfl (fun c6 => ?_) (fun c6 => ?_)
  · have ej7 := if_tv ej7 c6
    refine pw_iconst (v := (0 : Int32)) (by decide) 41 dX5_sheds_40 rfl ?_
    refine pw_sub [2, 3, 1, 0] [(0, .ref (G.1 + w0)), (1, .int x1), (2, .int r2), (3, .int r4)] rfl ?_
    subst ej7; exact hJ41_j7
  · have ej7 := if_fv ej7 c6
    refine pw_iconst (v := (1 : Int32)) (by decide) 37 dX5_sheds_36 rfl ?_
    refine pw_goto 41 dX5_sheds_37 (by decide) ?_
    refine pw_sub [2, 3, 1, 0] [(0, .ref (G.1 + w0)), (1, .int x1), (2, .int r2), (3, .int r4)] rfl ?_
    subst ej7; exact hJ41_j7
theorem fi_X5_pass_5 : ∀ w ∈ wsX50, w ∈ wsX5_pass := by decide +kernel
theorem lk_X5_pass_36 : Cond.fieldLink RX5 36 (TX5 0).1 (TX5 0).2.1 (TX5 0).2.2.1 ∈ wsX5_pass := by decide +kernel
theorem lk_X5_pass_33 : Cond.fieldLink RX5 33 (TX5 14).1 (TX5 14).2.1 (TX5 14).2.2.1 ∈ wsX5_pass := by decide +kernel
theorem lk_X5_pass_24 : Cond.fieldLink RX5 24 (TX5 11).1 (TX5 11).2.1 (TX5 11).2.2.1 ∈ wsX5_pass := by decide +kernel
theorem lk_X5_pass_21 : Cond.fieldLink RX5 21 (TX5 10).1 (TX5 10).2.1 (TX5 10).2.2.1 ∈ wsX5_pass := by decide +kernel
theorem lk_X5_pass_9 : Cond.fieldLink RX5 9 (TX5 7).1 (TX5 7).2.1 (TX5 7).2.2.1 ∈ wsX5_pass := by decide +kernel
theorem lk_X5_pass_18 : Cond.fieldLink RX5 18 (TX5 9).1 (TX5 9).2.1 (TX5 9).2.2.1 ∈ wsX5_pass := by decide +kernel
theorem lk_X5_pass_43 : Cond.fieldLink RX5 43 (TX5 4).1 (TX5 4).2.1 (TX5 4).2.2.1 ∈ wsX5_pass := by decide +kernel
theorem lw_X5_pass_m82 : Cond.methodLink RX5 82 Lib.Math.min.name ∈ wsX5_pass := by decide +kernel
theorem lw_X5_pass_ms_min : Cond.static Lib.Math.min.name ∈ wsX5_pass := by decide +kernel
theorem lw_X5_pass_mi : Cond.initialized "java/lang/Math" ∈ wsX5_pass := by decide +kernel
theorem lw_X5_pass_mc_min : Cond.code Lib.Math.min.name Lib.Math.min.code 2 (some .int) ∈ wsX5_pass := by decide +kernel
theorem lw_X5_pass_m76 : Cond.methodLink RX5 76 Lib.Math.max.name ∈ wsX5_pass := by decide +kernel
theorem lw_X5_pass_ms_max : Cond.static Lib.Math.max.name ∈ wsX5_pass := by decide +kernel
theorem lw_X5_pass_mc_max : Cond.code Lib.Math.max.name Lib.Math.max.code 2 (some .int) ∈ wsX5_pass := by decide +kernel
theorem lw_X5_pass_c88 : Cond.constant RX5 88 (99999 : Int32) ∈ wsX5_pass := by decide +kernel
theorem lk_X5_pass_55 : Cond.fieldLink RX5 55 (TX5 5).1 (TX5 5).2.1 (TX5 5).2.2.1 ∈ wsX5_pass := by decide +kernel
theorem lk_X5_pass_52 : Cond.fieldLink RX5 52 (TX5 3).1 (TX5 3).2.1 (TX5 3).2.2.1 ∈ wsX5_pass := by decide +kernel
set_option maxHeartbeats 4000000 in
set_option maxRecDepth 100000 in
theorem kl_X5_pass_2 {l : Launch} {G : Gx} {w0 : Nat}  {mF : Mm} (hw0 : IsW w0) : ∀ (n : Nat) (y1 : Int32) (m : Mm) (a0 : Mm), lp_X5_pass_2 w0 n y1 m = some a0 → PW G (KM l G RX5 cX5_pass 6 none wsX5_pass 2 (Qv G mF)) 39 [(0, .ref (G.1 + w0))] [] a0 → PW G (KM l G RX5 cX5_pass 6 none wsX5_pass 2 (Qv G mF)) 2 [(0, .ref (G.1 + w0)), (1, .int y1)] [] m := by
  intro n
  induction n with
  | zero => intro y1 m a0 h hk; cases h
  | succ n ih =>
    intro y1 m a0 h hk
    have h : lb_X5_pass_2 (lp_X5_pass_2 w0 n) w0 y1 m = _ := h
    unfold lb_X5_pass_2 at h
    refine pw_iload_n 1 rfl rfl 3 dX5_pass_2 rfl ?_
    refine pw_aload_n 0 rfl rfl 4 dX5_pass_3 rfl ?_
    refine pw_getI 0 7 dX5_pass_4 rfl fi_X5_pass_5 lk_X5_pass_36 hw0.lt hw0.o (by decide) rfl (by decide) rfl ?_
    refine pw_icmp_ge 39 10 dX5_pass_7 (by decide) rfl (fun c1 => ?_) (fun c1 => ?_)
    · have h := if_t h c1
      refine pw_sub [0] [(0, .ref (G.1 + w0))] rfl ?_
      cases h; exact hk
    · have h := if_f h c1
      refine pw_aload_n 0 rfl rfl 11 dX5_pass_10 rfl ?_
      refine pw_getR 14 14 dX5_pass_11 rfl fi_X5_pass_5 lk_X5_pass_33 hw0.lt hw0.o (by decide) rfl (by decide) rfl hw0.rf14 ?_
      refine pw_iload_n 1 rfl rfl 15 dX5_pass_14 rfl ?_
      refine pw_aload_n 0 rfl rfl 16 dX5_pass_15 rfl ?_
      refine pw_iload_n 1 rfl rfl 17 dX5_pass_16 rfl ?_
      refine pw_callVi 20 dX5_pass_17 rfl [.int y1] 1 ⟨gX5_pass_X5_isHired, rfl, sgV_X5_isHired, ⟨Nat.le_of_ble_eq_true rfl, Nat.le_of_ble_eq_true rfl⟩, ⟨Nat.le_refl _, Nat.le_refl _⟩⟩ hw0.o (by decide) hw0.lt rfl (k_X5_isHired hw0 rfl) rfl rfl (Nat.le_of_ble_eq_true rfl) ?_
      obtain ⟨j4, qj4, h⟩ := bd1_e h
      have hJ32_j4 : PW G (KM l G RX5 cX5_pass 6 none wsX5_pass 2 (Qv G mF)) 32 [(0, .ref (G.1 + w0)), (1, .int y1)] [.int j4, .int y1, .ref (G.1 + (w0 + 8))] m := by
        obtain ⟨h7, h⟩ := gd_e h
        refine pw_iast 33 dX5_pass_32 rfl hw0.lt8 hw0.o8 h7 ?_
        obtain ⟨m5, em5, h⟩ := nmE_ h
        refine pw_mem em5 ?_
        obtain ⟨v6, ev6, h⟩ := nmE_ h
        refine pw_iinc 1 rfl (by rw [ev6]; rfl) [(1, .int v6), (0, .ref (G.1 + w0))] 36 dX5_pass_33 rfl (Nat.le_of_ble_eq_true rfl) rfl ?_
        refine pw_goto 2 dX5_pass_36 (by decide) ?_
        refine pw_sub [1, 0] [(0, .ref (G.1 + w0)), (1, .int v6)] rfl ?_
        exact ih v6 m5 a0 h hk
      refine pw_if_eq 31 23 dX5_pass_20 (by decide) rfl (fun c2 => ?_) (fun c2 => ?_)
      · have qj4 := if_t qj4 c2
        refine pw_iconst (v := (0 : Int32)) (by decide) 32 dX5_pass_31 rfl ?_
        refine pw_sub [0, 1] [(0, .ref (G.1 + w0)), (1, .int y1)] rfl ?_
        cases qj4; exact hJ32_j4
      · have qj4 := if_f qj4 c2
        refine pw_aload_n 0 rfl rfl 24 dX5_pass_23 rfl ?_
        refine pw_iload_n 1 rfl rfl 25 dX5_pass_24 rfl ?_
        obtain ⟨r3, hr3, qj4⟩ := bd1_e qj4
        refine pw_callVi 28 dX5_pass_25 rfl [.int y1] 1 ⟨gX5_pass_X5_sheds, rfl, sgV_X5_sheds, ⟨Nat.le_of_ble_eq_true rfl, Nat.le_of_ble_eq_true rfl⟩, ⟨Nat.le_refl _, Nat.le_refl _⟩⟩ hw0.o (by decide) hw0.lt rfl (k_X5_sheds hw0 hr3) rfl rfl (Nat.le_of_ble_eq_true rfl) ?_
        refine pw_goto 32 dX5_pass_28 (by decide) ?_
        refine pw_sub [0, 1] [(0, .ref (G.1 + w0)), (1, .int y1)] rfl ?_
        cases qj4; exact hJ32_j4
set_option maxHeartbeats 4000000 in
set_option maxRecDepth 100000 in
theorem kl_X5_pass_48 {l : Launch} {G : Gx} {w0 : Nat}  {mF : Mm} (hw0 : IsW w0) : ∀ (n : Nat) (y1 : Int32) (y2 : Int32) (y3 : Int32) (y4 : Int32) (m : Mm) (a0 : Int32) (a1 : Int32) (a2 : Int32) (a3 : Mm), lp_X5_pass_48 w0 n y1 y2 y3 y4 m = some (a0, a1, a2, a3) → PW G (KM l G RX5 cX5_pass 6 none wsX5_pass 2 (Qv G mF)) 130 [(0, .ref (G.1 + w0)), (1, .int a0), (2, .int a1), (3, .int a2)] [] a3 → PW G (KM l G RX5 cX5_pass 6 none wsX5_pass 2 (Qv G mF)) 48 [(0, .ref (G.1 + w0)), (1, .int y1), (2, .int y2), (3, .int y3), (4, .int y4)] [] m := by
  intro n
  induction n with
  | zero => intro y1 y2 y3 y4 m a0 a1 a2 a3 h hk; cases h
  | succ n ih =>
    intro y1 y2 y3 y4 m a0 a1 a2 a3 h hk
    have h : lb_X5_pass_48 (lp_X5_pass_48 w0 n) w0 y1 y2 y3 y4 m = _ := h
    unfold lb_X5_pass_48 at h
    refine pw_iload 4 rfl 50 dX5_pass_48 rfl ?_
    refine pw_aload_n 0 rfl rfl 51 dX5_pass_50 rfl ?_
    refine pw_getI 0 54 dX5_pass_51 rfl fi_X5_pass_5 lk_X5_pass_36 hw0.lt hw0.o (by decide) rfl (by decide) rfl ?_
    refine pw_icmp_ge 130 57 dX5_pass_54 (by decide) rfl (fun c10 => ?_) (fun c10 => ?_)
    · have h := if_t h c10
      refine pw_sub [0, 1, 2, 3] [(0, .ref (G.1 + w0)), (1, .int y1), (2, .int y2), (3, .int y3)] rfl ?_
      cases h; exact hk
    · have h := if_f h c10
      refine pw_aload_n 0 rfl rfl 58 dX5_pass_57 rfl ?_
      refine pw_getR 14 61 dX5_pass_58 rfl fi_X5_pass_5 lk_X5_pass_33 hw0.lt hw0.o (by decide) rfl (by decide) rfl hw0.rf14 ?_
      refine pw_iload 4 rfl 63 dX5_pass_61 rfl ?_
      obtain ⟨h11, h⟩ := gd_e h
      refine pw_iald 64 dX5_pass_63 rfl hw0.lt8 hw0.o8 h11 ?_
      obtain ⟨v12, ev12, h⟩ := nmE_ h
      refine pw_top ev12 ?_
      refine pw_istore [(5, .int v12), (0, .ref (G.1 + w0)), (1, .int y1), (2, .int y2), (3, .int y3), (4, .int y4)] 66 dX5_pass_64 rfl (Nat.le_of_ble_eq_true rfl) rfl ?_
      refine pw_aload_n 1 rfl rfl 67 dX5_pass_66 rfl ?_
      refine pw_getR 11 70 dX5_pass_67 rfl fi_X5_pass_5 lk_X5_pass_24 hw0.lt hw0.o (by decide) rfl (by decide) rfl hw0.rf11 ?_
      refine pw_iload 5 rfl 72 dX5_pass_70 rfl ?_
      refine pw_iload 0 rfl 74 dX5_pass_72 rfl ?_
      obtain ⟨h28, h⟩ := gd_e h
      refine pw_iast 75 dX5_pass_74 rfl hw0.lt5 hw0.o5 h28 ?_
      obtain ⟨m13, em13, h⟩ := nmE_ h
      refine pw_mem em13 ?_
      refine pw_aload_n 1 rfl rfl 76 dX5_pass_75 rfl ?_
      refine pw_getR 10 79 dX5_pass_76 rfl fi_X5_pass_5 lk_X5_pass_21 hw0.lt hw0.o (by decide) rfl (by decide) rfl hw0.rf10 ?_
      refine pw_iload 5 rfl 81 dX5_pass_79 rfl ?_
      refine pw_dup2_11 rfl rfl 82 dX5_pass_81 rfl ?_
      obtain ⟨h14, h⟩ := gd_e h
      refine pw_iald 83 dX5_pass_82 rfl hw0.lt4 hw0.o4 h14 ?_
      refine pw_iload 0 rfl 85 dX5_pass_83 rfl ?_
      refine pw_isub 86 dX5_pass_85 rfl ?_
      obtain ⟨v15, ev15, h⟩ := nmE_ h
      refine pw_top ev15 ?_
      obtain ⟨h27, h⟩ := gd_e h
      refine pw_iast 87 dX5_pass_86 rfl hw0.lt4 hw0.o4 h27 ?_
      obtain ⟨m16, em16, h⟩ := nmE_ h
      refine pw_mem em16 ?_
      refine pw_aload_n 1 rfl rfl 88 dX5_pass_87 rfl ?_
      refine pw_getR 7 91 dX5_pass_88 rfl fi_X5_pass_5 lk_X5_pass_9 hw0.lt hw0.o (by decide) rfl (by decide) rfl hw0.rf7 ?_
      refine pw_iload 5 rfl 93 dX5_pass_91 rfl ?_
      obtain ⟨h17, h⟩ := gd_e h
      refine pw_iald 94 dX5_pass_93 rfl hw0.lt1 hw0.o1 h17 ?_
      refine pw_iconst (v := (5 : Int32)) (by decide) 95 dX5_pass_94 rfl ?_
      obtain ⟨j23, j24, j25, qj23, h⟩ := bd3_e h
      have hJ124_j23 : PW G (KM l G RX5 cX5_pass 6 none wsX5_pass 2 (Qv G mF)) 124 [(0, .ref (G.1 + w0)), (1, .int j23), (2, .int j24), (3, .int j25), (4, .int y4)] [] m16 := by
        obtain ⟨v26, ev26, h⟩ := nmE_ h
        refine pw_iinc 4 rfl (by rw [ev26]; rfl) [(4, .int v26), (0, .ref (G.1 + w0)), (1, .int j23), (2, .int j24), (3, .int j25)] 127 dX5_pass_124 rfl (Nat.le_of_ble_eq_true rfl) rfl ?_
        refine pw_goto 48 dX5_pass_127 (by decide) ?_
        refine pw_sub [1, 2, 3, 4, 0] [(0, .ref (G.1 + w0)), (1, .int j23), (2, .int j24), (3, .int j25), (4, .int v26)] rfl ?_
        exact ih j23 j24 j25 v26 m16 a0 a1 a2 a3 h hk
      refine pw_icmp_ne 106 98 dX5_pass_95 (by decide) rfl (fun c18 => ?_) (fun c18 => ?_)
      · have qj23 := if_f qj23 c18
        refine pw_iload_n 2 rfl rfl 107 dX5_pass_106 rfl ?_
        refine pw_iload 0 rfl 109 dX5_pass_107 rfl ?_
        refine pw_iadd 110 dX5_pass_109 rfl ?_
        obtain ⟨v19, ev19, qj23⟩ := nmE_ qj23
        refine pw_top ev19 ?_
        refine pw_istore_n (hf := rfl) [(1, .int v19), (5, .int v12), (0, .ref (G.1 + w0)), (2, .int y2), (3, .int y3), (4, .int y4)] 111 dX5_pass_110 rfl (Nat.le_of_ble_eq_true rfl) rfl ?_
        refine pw_iload_n 4 rfl rfl 112 dX5_pass_111 rfl ?_
        refine pw_aload_n 2 rfl rfl 113 dX5_pass_112 rfl ?_
        refine pw_getR 9 116 dX5_pass_113 rfl fi_X5_pass_5 lk_X5_pass_18 hw0.lt hw0.o (by decide) rfl (by decide) rfl hw0.rf9 ?_
        refine pw_iload 5 rfl 118 dX5_pass_116 rfl ?_
        obtain ⟨h20, qj23⟩ := gd_e qj23
        refine pw_iald 119 dX5_pass_118 rfl hw0.lt3 hw0.o3 h20 ?_
        refine pw_iload 1 rfl 121 dX5_pass_119 rfl ?_
        refine pw_imul 122 dX5_pass_121 rfl ?_
        refine pw_iadd 123 dX5_pass_122 rfl ?_
        obtain ⟨v21, ev21, qj23⟩ := nmE_ qj23
        refine pw_top ev21 ?_
        refine pw_istore_n (hf := rfl) [(3, .int v21), (1, .int v19), (5, .int v12), (0, .ref (G.1 + w0)), (2, .int y2), (4, .int y4)] 124 dX5_pass_123 rfl (Nat.le_of_ble_eq_true rfl) rfl ?_
        refine pw_sub [3, 1, 4, 0, 5] [(0, .ref (G.1 + w0)), (1, .int v19), (2, .int y2), (3, .int v21), (4, .int y4)] rfl ?_
        cases qj23; exact hJ124_j23
      · have qj23 := if_t qj23 c18
        refine pw_iload_n 3 rfl rfl 99 dX5_pass_98 rfl ?_
        refine pw_iload 0 rfl 101 dX5_pass_99 rfl ?_
        refine pw_iadd 102 dX5_pass_101 rfl ?_
        obtain ⟨v22, ev22, qj23⟩ := nmE_ qj23
        refine pw_top ev22 ?_
        refine pw_istore_n (hf := rfl) [(2, .int v22), (5, .int v12), (0, .ref (G.1 + w0)), (1, .int y1), (3, .int y3), (4, .int y4)] 103 dX5_pass_102 rfl (Nat.le_of_ble_eq_true rfl) rfl ?_
        refine pw_goto 124 dX5_pass_103 (by decide) ?_
        refine pw_sub [2, 3, 0, 4, 5] [(0, .ref (G.1 + w0)), (1, .int y1), (2, .int v22), (3, .int y3), (4, .int y4)] rfl ?_
        cases qj23; exact hJ124_j23
set_option maxHeartbeats 4000000 in
set_option maxRecDepth 100000 in
theorem k_X5_pass {l : Launch} {G : Gx} {w0 : Nat} {m mF : Mm}  (hw0 : IsW w0) (h : f_X5_pass w0 m = some mF) : Cn l G 2 yX5_pass wsX5_pass [.ref (G.1 + w0)] m (Qv G mF) := by
  unfold f_X5_pass at h
  refine Cn.of (own := RX5) (lv := [(0, .ref (G.1 + w0))]) (by decide) rfl rfl (Nat.le_of_ble_eq_true rfl) rfl ?_
  refine pw_iconst (v := (0 : Int32)) (by decide) 1 dX5_pass_0 rfl ?_
  refine pw_istore_n (hf := rfl) [(1, .int (0 : Int32)), (0, .ref (G.1 + w0))] 2 dX5_pass_1 rfl (Nat.le_of_ble_eq_true rfl) rfl ?_
  obtain ⟨m8, h9, h⟩ := bd1_e h
  have hL2_h9 : PW G (KM l G RX5 cX5_pass 6 none wsX5_pass 2 (Qv G mF)) 39 [(0, .ref (G.1 + w0))] [] m8 := by
    refine pw_iconst (v := (0 : Int32)) (by decide) 40 dX5_pass_39 rfl ?_
    refine pw_istore_n (hf := rfl) [(1, .int (0 : Int32)), (0, .ref (G.1 + w0))] 41 dX5_pass_40 rfl (Nat.le_of_ble_eq_true rfl) rfl ?_
    refine pw_iconst (v := (0 : Int32)) (by decide) 42 dX5_pass_41 rfl ?_
    refine pw_istore_n (hf := rfl) [(2, .int (0 : Int32)), (1, .int (0 : Int32)), (0, .ref (G.1 + w0))] 43 dX5_pass_42 rfl (Nat.le_of_ble_eq_true rfl) rfl ?_
    refine pw_iconst (v := (0 : Int32)) (by decide) 44 dX5_pass_43 rfl ?_
    refine pw_istore_n (hf := rfl) [(3, .int (0 : Int32)), (2, .int (0 : Int32)), (1, .int (0 : Int32)), (0, .ref (G.1 + w0))] 45 dX5_pass_44 rfl (Nat.le_of_ble_eq_true rfl) rfl ?_
    refine pw_iconst (v := (0 : Int32)) (by decide) 46 dX5_pass_45 rfl ?_
    refine pw_istore [(4, .int (0 : Int32)), (3, .int (0 : Int32)), (2, .int (0 : Int32)), (1, .int (0 : Int32)), (0, .ref (G.1 + w0))] 48 dX5_pass_46 rfl (Nat.le_of_ble_eq_true rfl) rfl ?_
    obtain ⟨z29, z30, z31, m32, h33, h⟩ := bd4_e h
    have hL48_h33 : PW G (KM l G RX5 cX5_pass 6 none wsX5_pass 2 (Qv G mF)) 130 [(0, .ref (G.1 + w0)), (1, .int z29), (2, .int z30), (3, .int z31)] [] m32 := by
      refine pw_aload_n 0 rfl rfl 131 dX5_pass_130 rfl ?_
      refine pw_iconst (v := (0 : Int32)) (by decide) 132 dX5_pass_131 rfl ?_
      refine pw_sipush (v := (999 : Int32)) (by decide) 135 dX5_pass_132 rfl ?_
      refine pw_aload_n 0 rfl rfl 136 dX5_pass_135 rfl ?_
      refine pw_getI 4 139 dX5_pass_136 rfl fi_X5_pass_5 lk_X5_pass_43 hw0.lt hw0.o (by decide) rfl (by decide) rfl ?_
      refine pw_iload_n 1 rfl rfl 140 dX5_pass_139 rfl ?_
      refine pw_iadd 141 dX5_pass_140 rfl ?_
      refine pw_mmin 144 dX5_pass_141 rfl lw_X5_pass_m82 lw_X5_pass_ms_min lw_X5_pass_mi lw_X5_pass_mc_min (Nat.le_of_ble_eq_true rfl) (Nat.le_of_ble_eq_true rfl) (Nat.le_refl _) (Nat.le_refl _) ?_
      obtain ⟨v34, ev34, h⟩ := nmE_ h
      refine pw_top ev34 ?_
      refine pw_iload_n 2 rfl rfl 145 dX5_pass_144 rfl ?_
      refine pw_isub 146 dX5_pass_145 rfl ?_
      refine pw_mmax 149 dX5_pass_146 rfl lw_X5_pass_m76 lw_X5_pass_ms_max lw_X5_pass_mi lw_X5_pass_mc_max (Nat.le_of_ble_eq_true rfl) (Nat.le_of_ble_eq_true rfl) (Nat.le_refl _) (Nat.le_refl _) ?_
      obtain ⟨v35, ev35, h⟩ := nmE_ h
      refine pw_top ev35 ?_
      refine pw_put (ty0 := tyX5) (ty := .int) 4 152 dX5_pass_149 rfl fi_X5_pass_5 tyX5_ok nmX5 lk_X5_pass_43 hw0.lt hw0.o (by decide) rfl (by decide) rfl rfl rfl rfl rfl ?_
      obtain ⟨m36, em36, h⟩ := nmE_ h
      refine pw_mem em36 ?_
      refine pw_aload_n 0 rfl rfl 153 dX5_pass_152 rfl ?_
      refine pw_ldc 155 lw_X5_pass_c88 dX5_pass_153 rfl ?_
      refine pw_aload_n 0 rfl rfl 156 dX5_pass_155 rfl ?_
      refine pw_getI 5 159 dX5_pass_156 rfl fi_X5_pass_5 lk_X5_pass_55 hw0.lt hw0.o (by decide) rfl (by decide) rfl ?_
      refine pw_iload_n 3 rfl rfl 160 dX5_pass_159 rfl ?_
      refine pw_iadd 161 dX5_pass_160 rfl ?_
      refine pw_mmin 164 dX5_pass_161 rfl lw_X5_pass_m82 lw_X5_pass_ms_min lw_X5_pass_mi lw_X5_pass_mc_min (Nat.le_of_ble_eq_true rfl) (Nat.le_of_ble_eq_true rfl) (Nat.le_refl _) (Nat.le_refl _) ?_
      obtain ⟨v37, ev37, h⟩ := nmE_ h
      refine pw_top ev37 ?_
      refine pw_put (ty0 := tyX5) (ty := .int) 5 167 dX5_pass_164 rfl fi_X5_pass_5 tyX5_ok nmX5 lk_X5_pass_55 hw0.lt hw0.o (by decide) rfl (by decide) rfl rfl rfl rfl rfl ?_
      obtain ⟨m38, em38, h⟩ := nmE_ h
      refine pw_mem em38 ?_
      refine pw_aload_n 0 rfl rfl 168 dX5_pass_167 rfl ?_
      refine pw_dup rfl 169 dX5_pass_168 rfl ?_
      refine pw_getI 3 172 dX5_pass_169 rfl fi_X5_pass_5 lk_X5_pass_52 hw0.lt hw0.o (by decide) rfl (by decide) rfl ?_
      refine pw_iconst (v := (1 : Int32)) (by decide) 173 dX5_pass_172 rfl ?_
      refine pw_iadd 174 dX5_pass_173 rfl ?_
      obtain ⟨v39, ev39, h⟩ := nmE_ h
      refine pw_top ev39 ?_
      refine pw_put (ty0 := tyX5) (ty := .int) 3 177 dX5_pass_174 rfl fi_X5_pass_5 tyX5_ok nmX5 lk_X5_pass_52 hw0.lt hw0.o (by decide) rfl (by decide) rfl rfl rfl rfl rfl ?_
      obtain ⟨m40, em40, h⟩ := nmE_ h
      refine pw_mem em40 ?_
      exact pw_vret dX5_pass_177 (Option.some.inj h)
    refine pw_sub [4, 3, 2, 1, 0] [(0, .ref (G.1 + w0)), (1, .int (0 : Int32)), (2, .int (0 : Int32)), (3, .int (0 : Int32)), (4, .int (0 : Int32))] rfl ?_
    exact kl_X5_pass_48 hw0 FU (0 : Int32) (0 : Int32) (0 : Int32) (0 : Int32) m8 z29 z30 z31 m32 h33 hL48_h33
  refine pw_sub [1, 0] [(0, .ref (G.1 + w0)), (1, .int (0 : Int32))] rfl ?_
  exact kl_X5_pass_2 hw0 FU (0 : Int32) m m8 h9 hL2_h9
theorem lw_X6_minutes_c63 : Cond.constant RX6 63 (-1000001 : Int32) ∈ wsX6_minutes := by decide +kernel
theorem fi_X6_minutes_6 : ∀ w ∈ wsX60, w ∈ wsX6_minutes := by decide +kernel
theorem lk_X6_minutes_25 : Cond.fieldLink RX6 25 (TX6 2).1 (TX6 2).2.1 (TX6 2).2.2.1 ∈ wsX6_minutes := by decide +kernel
theorem fi_X6_minutes_5 : ∀ w ∈ wsX50, w ∈ wsX6_minutes := by decide +kernel
theorem lk_X6_minutes_136 : Cond.fieldLink RX6 136 (TX5 3).1 (TX5 3).2.1 (TX5 3).2.2.1 ∈ wsX6_minutes := by decide +kernel
theorem lk_X6_minutes_32 : Cond.fieldLink RX6 32 (TX6 3).1 (TX6 3).2.1 (TX6 3).2.2.1 ∈ wsX6_minutes := by decide +kernel
theorem lk_X6_minutes_145 : Cond.fieldLink RX6 145 (TX5 4).1 (TX5 4).2.1 (TX5 4).2.2.1 ∈ wsX6_minutes := by decide +kernel
theorem lw_X6_minutes_c107 : Cond.constant RX6 107 (-1000003 : Int32) ∈ wsX6_minutes := by decide +kernel
theorem lw_X6_minutes_c135 : Cond.constant RX6 135 (-1000002 : Int32) ∈ wsX6_minutes := by decide +kernel
set_option maxHeartbeats 4000000 in
set_option maxRecDepth 100000 in
theorem kl_X6_minutes_44 {l : Launch} {G : Gx}  {r : Int32} {mF : Mm}  : ∀ (n : Nat) (y1 : Int32) (y2 : Int32) (m : Mm) (a0 : Mm), lp_X6_minutes_44 n y1 y2 m = some a0 → PW G (KM l G RX6 cX6_minutes 3 (some .int) wsX6_minutes 3 (Qi G r mF)) 73 [(0, .ref (G.1 + 0))] [] a0 → PW G (KM l G RX6 cX6_minutes 3 (some .int) wsX6_minutes 3 (Qi G r mF)) 44 [(0, .ref (G.1 + 0)), (1, .int y1), (2, .int y2)] [] m := by
  intro n
  induction n with
  | zero => intro y1 y2 m a0 h hk; cases h
  | succ n ih =>
    intro y1 y2 m a0 h hk
    have h : lb_X6_minutes_44 (lp_X6_minutes_44 n) y1 y2 m = _ := h
    unfold lb_X6_minutes_44 at h
    refine pw_iload_n 2 rfl rfl 45 dX6_minutes_44 rfl ?_
    refine pw_iload_n 1 rfl rfl 46 dX6_minutes_45 rfl ?_
    refine pw_icmp_ge 73 49 dX6_minutes_46 (by decide) rfl (fun c5 => ?_) (fun c5 => ?_)
    · have h := if_t h c5
      refine pw_sub [0] [(0, .ref (G.1 + 0))] rfl ?_
      cases h; exact hk
    · have h := if_f h c5
      refine pw_aload_n 0 rfl rfl 50 dX6_minutes_49 rfl ?_
      refine pw_getR 3 53 dX6_minutes_50 rfl fi_X6_minutes_6 lk_X6_minutes_32 la_0 ly_0 (by decide) rfl (by decide) rfl rf_0_3 ?_
      refine pw_aload_n 0 rfl rfl 54 dX6_minutes_53 rfl ?_
      refine pw_getR 2 57 dX6_minutes_54 rfl fi_X6_minutes_6 lk_X6_minutes_25 la_0 ly_0 (by decide) rfl (by decide) rfl rf_0_2 ?_
      obtain ⟨m6, hm6, h⟩ := bd1_e h
      refine pw_callVv 60 dX6_minutes_57 rfl [.ref (G.1 + 13)] 1 ⟨gX6_minutes_X0_keep, rfl, sgV_X0_keep, ⟨Nat.le_of_ble_eq_true rfl, Nat.le_of_ble_eq_true rfl⟩, ⟨Nat.le_refl _, Nat.le_refl _⟩⟩ ly_22 (by decide) la_22 rfl (k_X0_keep isW_13 hm6) rfl rfl (Nat.le_of_ble_eq_true rfl) ?_
      refine pw_aload_n 0 rfl rfl 61 dX6_minutes_60 rfl ?_
      refine pw_getR 2 64 dX6_minutes_61 rfl fi_X6_minutes_6 lk_X6_minutes_25 la_0 ly_0 (by decide) rfl (by decide) rfl rf_0_2 ?_
      obtain ⟨m7, hm7, h⟩ := bd1_e h
      refine pw_callVv 67 dX6_minutes_64 rfl [] 0 ⟨gX6_minutes_X5_pass, rfl, sgV_X5_pass, ⟨Nat.le_of_ble_eq_true rfl, Nat.le_of_ble_eq_true rfl⟩, ⟨Nat.le_refl _, Nat.le_refl _⟩⟩ ly_13 (by decide) la_13 rfl (k_X5_pass isW_13 hm7) rfl rfl (Nat.le_of_ble_eq_true rfl) ?_
      obtain ⟨v8, ev8, h⟩ := nmE_ h
      refine pw_iinc 2 rfl (by rw [ev8]; rfl) [(2, .int v8), (0, .ref (G.1 + 0)), (1, .int y1)] 70 dX6_minutes_67 rfl (Nat.le_of_ble_eq_true rfl) rfl ?_
      refine pw_goto 44 dX6_minutes_70 (by decide) ?_
      refine pw_sub [1, 2, 0] [(0, .ref (G.1 + 0)), (1, .int y1), (2, .int v8)] rfl ?_
      exact ih y1 v8 m7 a0 h hk
set_option maxHeartbeats 4000000 in
set_option maxRecDepth 100000 in
theorem k_X6_minutes {l : Launch} {G : Gx} {x1 : Int32} {m mF : Mm} {r : Int32}  (h : f_X6_minutes x1 m = some (r, mF)) : Cn l G 3 yX6_minutes wsX6_minutes [.ref (G.1 + 0), .int x1] m (Qi G r mF) := by
  unfold f_X6_minutes at h
  refine Cn.of (own := RX6) (lv := [(0, .ref (G.1 + 0)), (1, .int x1)]) (by decide) rfl rfl (Nat.le_of_ble_eq_true rfl) rfl ?_
  refine pw_aload_n 0 rfl rfl 1 dX6_minutes_0 rfl ?_
  refine pw_callVi 4 dX6_minutes_1 rfl [] 0 ⟨gX6_minutes_X6_isNone, rfl, sgV_X6_isNone, ⟨Nat.le_of_ble_eq_true rfl, Nat.le_of_ble_eq_true rfl⟩, ⟨Nat.le_refl _, Nat.le_refl _⟩⟩ ly_0 (by decide) la_0 rfl (k_X6_isNone rfl) rfl rfl (Nat.le_of_ble_eq_true rfl) ?_
  refine pw_if_eq 10 7 dX6_minutes_4 (by decide) rfl (fun c1 => ?_) (fun c1 => ?_)
  · have h := if_t h c1
    refine pw_iload_n 1 rfl rfl 11 dX6_minutes_10 rfl ?_
    refine pw_iconst (v := (1 : Int32)) (by decide) 12 dX6_minutes_11 rfl ?_
    refine pw_icmp_lt 21 15 dX6_minutes_12 (by decide) rfl (fun c2 => ?_) (fun c2 => ?_)
    · have h := if_t h c2
      refine pw_ldc 23 lw_X6_minutes_c63 dX6_minutes_21 rfl ?_
      exact pw_iret dX6_minutes_23 (pr_inj h)
    · have h := if_f h c2
      refine pw_iload_n 1 rfl rfl 16 dX6_minutes_15 rfl ?_
      refine pw_bipush (v := (24 : Int32)) (by decide) 18 dX6_minutes_16 rfl ?_
      refine pw_icmp_le 24 21 dX6_minutes_18 (by decide) rfl (fun c3 => ?_) (fun c3 => ?_)
      · have h := if_t h c3
        refine pw_aload_n 0 rfl rfl 25 dX6_minutes_24 rfl ?_
        refine pw_getR 2 28 dX6_minutes_25 rfl fi_X6_minutes_6 lk_X6_minutes_25 la_0 ly_0 (by decide) rfl (by decide) rfl rf_0_2 ?_
        refine pw_getI 3 31 dX6_minutes_28 rfl fi_X6_minutes_5 lk_X6_minutes_136 la_13 ly_13 (by decide) rfl (by decide) rfl ?_
        refine pw_sipush (v := (9999 : Int32)) (by decide) 34 dX6_minutes_31 rfl ?_
        refine pw_iload_n 1 rfl rfl 35 dX6_minutes_34 rfl ?_
        refine pw_isub 36 dX6_minutes_35 rfl ?_
        refine pw_icmp_le 42 39 dX6_minutes_36 (by decide) rfl (fun c4 => ?_) (fun c4 => ?_)
        · have h := if_t h c4
          refine pw_iconst (v := (0 : Int32)) (by decide) 43 dX6_minutes_42 rfl ?_
          refine pw_istore_n (hf := rfl) [(2, .int (0 : Int32)), (0, .ref (G.1 + 0)), (1, .int x1)] 44 dX6_minutes_43 rfl (Nat.le_of_ble_eq_true rfl) rfl ?_
          obtain ⟨m9, h10, h⟩ := bd1_e h
          have hL44_h10 : PW G (KM l G RX6 cX6_minutes 3 (some .int) wsX6_minutes 3 (Qi G r mF)) 73 [(0, .ref (G.1 + 0))] [] m9 := by
            refine pw_aload_n 0 rfl rfl 74 dX6_minutes_73 rfl ?_
            refine pw_getR 2 77 dX6_minutes_74 rfl fi_X6_minutes_6 lk_X6_minutes_25 la_0 ly_0 (by decide) rfl (by decide) rfl rf_0_2 ?_
            refine pw_getI 4 80 dX6_minutes_77 rfl fi_X6_minutes_5 lk_X6_minutes_145 la_13 ly_13 (by decide) rfl (by decide) rfl ?_
            exact pw_iret dX6_minutes_80 (pr_inj h)
          refine pw_sub [1, 2, 0] [(0, .ref (G.1 + 0)), (1, .int x1), (2, .int (0 : Int32))] rfl ?_
          exact kl_X6_minutes_44 FU x1 (0 : Int32) m m9 h10 hL44_h10
        · have h := if_f h c4
          refine pw_ldc 41 lw_X6_minutes_c107 dX6_minutes_39 rfl ?_
          exact pw_iret dX6_minutes_41 (pr_inj h)
      · have h := if_f h c3
        refine pw_ldc 23 lw_X6_minutes_c63 dX6_minutes_21 rfl ?_
        exact pw_iret dX6_minutes_23 (pr_inj h)
  · have h := if_f h c1
    refine pw_ldc 9 lw_X6_minutes_c135 dX6_minutes_7 rfl ?_
    exact pw_iret dX6_minutes_9 (pr_inj h)
theorem fi_X5_has_5 : ∀ w ∈ wsX50, w ∈ wsX5_has := by decide +kernel
theorem lk_X5_has_36 : Cond.fieldLink RX5 36 (TX5 0).1 (TX5 0).2.1 (TX5 0).2.2.1 ∈ wsX5_has := by decide +kernel
set_option maxHeartbeats 4000000 in
set_option maxRecDepth 100000 in
theorem k_X5_has {l : Launch} {G : Gx} {w0 : Nat} {x1 : Int32} {m : Mm} {r : Int32} (hw0 : IsW w0) (h : f_X5_has w0 x1 m = r) : Cn l G 0 yX5_has wsX5_has [.ref (G.1 + w0), .int x1] m (Qi G r m) := by
  unfold f_X5_has at h
  refine Cn.of (own := RX5) (lv := [(0, .ref (G.1 + w0)), (1, .int x1)]) (by decide) rfl rfl (Nat.le_of_ble_eq_true rfl) rfl ?_
  refine pw_iload_n 1 rfl rfl 1 dX5_has_0 rfl ?_
  refine pw_if_lt 16 4 dX5_has_1 (by decide) rfl (fun c1 => ?_) (fun c1 => ?_)
  · have h := if_t h c1
    refine pw_iconst (v := (0 : Int32)) (by decide) 17 dX5_has_16 rfl ?_
    exact pw_zret dX5_has_17 (by decide) ⟨h, rfl⟩
  · have h := if_f h c1
    refine pw_iload_n 1 rfl rfl 5 dX5_has_4 rfl ?_
    refine pw_aload_n 0 rfl rfl 6 dX5_has_5 rfl ?_
    refine pw_getI 0 9 dX5_has_6 rfl fi_X5_has_5 lk_X5_has_36 hw0.lt hw0.o (by decide) rfl (by decide) rfl ?_
    refine pw_icmp_ge 16 12 dX5_has_9 (by decide) rfl (fun c2 => ?_) (fun c2 => ?_)
    · have h := if_t h c2
      refine pw_iconst (v := (0 : Int32)) (by decide) 17 dX5_has_16 rfl ?_
      exact pw_zret dX5_has_17 (by decide) ⟨h, rfl⟩
    · have h := if_f h c2
      refine pw_iconst (v := (1 : Int32)) (by decide) 13 dX5_has_12 rfl ?_
      refine pw_goto 17 dX5_has_13 (by decide) ?_
      exact pw_zret dX5_has_17 (by decide) ⟨h, rfl⟩
theorem fi_X5_engage_5 : ∀ w ∈ wsX50, w ∈ wsX5_engage := by decide +kernel
theorem lk_X5_engage_40 : Cond.fieldLink RX5 40 (TX5 6).1 (TX5 6).2.1 (TX5 6).2.2.1 ∈ wsX5_engage := by decide +kernel
theorem lk_X5_engage_36 : Cond.fieldLink RX5 36 (TX5 0).1 (TX5 0).2.1 (TX5 0).2.2.1 ∈ wsX5_engage := by decide +kernel
theorem lk_X5_engage_24 : Cond.fieldLink RX5 24 (TX5 11).1 (TX5 11).2.1 (TX5 11).2.2.1 ∈ wsX5_engage := by decide +kernel
set_option maxHeartbeats 4000000 in
set_option maxRecDepth 100000 in
theorem kl_X5_engage_7 {l : Launch} {G : Gx} {w0 : Nat}  {mF : Mm} (hw0 : IsW w0) : ∀ (n : Nat) (y2 : Int32) (m : Mm) (a0 : Mm), lp_X5_engage_7 w0 n y2 m = some a0 → PW G (KM l G RX5 cX5_engage 3 none wsX5_engage 1 (Qv G mF)) 36 [] [] a0 → PW G (KM l G RX5 cX5_engage 3 none wsX5_engage 1 (Qv G mF)) 7 [(0, .ref (G.1 + w0)), (2, .int y2)] [] m := by
  intro n
  induction n with
  | zero => intro y2 m a0 h hk; cases h
  | succ n ih =>
    intro y2 m a0 h hk
    have h : lb_X5_engage_7 (lp_X5_engage_7 w0 n) w0 y2 m = _ := h
    unfold lb_X5_engage_7 at h
    refine pw_iload_n 1 rfl rfl 8 dX5_engage_7 rfl ?_
    refine pw_aload_n 0 rfl rfl 9 dX5_engage_8 rfl ?_
    refine pw_getI 0 12 dX5_engage_9 rfl fi_X5_engage_5 lk_X5_engage_36 hw0.lt hw0.o (by decide) rfl (by decide) rfl ?_
    refine pw_icmp_ge 36 15 dX5_engage_12 (by decide) rfl (fun c2 => ?_) (fun c2 => ?_)
    · have h := if_t h c2
      refine pw_sub [] [] rfl ?_
      cases h; exact hk
    · have h := if_f h c2
      refine pw_aload_n 0 rfl rfl 16 dX5_engage_15 rfl ?_
      refine pw_iload_n 1 rfl rfl 17 dX5_engage_16 rfl ?_
      refine pw_callVi 20 dX5_engage_17 rfl [.int y2] 1 ⟨gX5_engage_X5_isHired, rfl, sgV_X5_isHired, ⟨Nat.le_of_ble_eq_true rfl, Nat.le_of_ble_eq_true rfl⟩, ⟨Nat.le_refl _, Nat.le_refl _⟩⟩ hw0.o (by decide) hw0.lt rfl (k_X5_isHired hw0 rfl) rfl rfl (Nat.le_of_ble_eq_true rfl) ?_
      obtain ⟨m6, qm6, h⟩ := bd1_e h
      have hJ30_m6 : PW G (KM l G RX5 cX5_engage 3 none wsX5_engage 1 (Qv G mF)) 30 [(0, .ref (G.1 + w0)), (2, .int y2)] [] m6 := by
        obtain ⟨v7, ev7, h⟩ := nmE_ h
        refine pw_iinc 1 rfl (by rw [ev7]; rfl) [(2, .int v7), (0, .ref (G.1 + w0))] 33 dX5_engage_30 rfl (Nat.le_of_ble_eq_true rfl) rfl ?_
        refine pw_goto 7 dX5_engage_33 (by decide) ?_
        refine pw_sub [1, 0] [(0, .ref (G.1 + w0)), (2, .int v7)] rfl ?_
        exact ih v7 m6 a0 h hk
      refine pw_if_ne 30 23 dX5_engage_20 (by decide) rfl (fun c3 => ?_) (fun c3 => ?_)
      · have qm6 := if_f qm6 c3
        refine pw_sub [0, 1] [(0, .ref (G.1 + w0)), (2, .int y2)] rfl ?_
        cases qm6; exact hJ30_m6
      · have qm6 := if_t qm6 c3
        refine pw_aload_n 0 rfl rfl 24 dX5_engage_23 rfl ?_
        refine pw_getR 11 27 dX5_engage_24 rfl fi_X5_engage_5 lk_X5_engage_24 hw0.lt hw0.o (by decide) rfl (by decide) rfl hw0.rf11 ?_
        refine pw_iload_n 1 rfl rfl 28 dX5_engage_27 rfl ?_
        refine pw_iconst (v := (0 : Int32)) (by decide) 29 dX5_engage_28 rfl ?_
        obtain ⟨h5, qm6⟩ := gd_e qm6
        refine pw_iast 30 dX5_engage_29 rfl hw0.lt5 hw0.o5 h5 ?_
        obtain ⟨m4, em4, qm6⟩ := nmE_ qm6
        refine pw_mem em4 ?_
        refine pw_sub [0, 1] [(0, .ref (G.1 + w0)), (2, .int y2)] rfl ?_
        cases qm6; exact hJ30_m6
set_option maxHeartbeats 4000000 in
set_option maxRecDepth 100000 in
theorem k_X5_engage {l : Launch} {G : Gx} {w0 : Nat} {x1 : Int32} {m mF : Mm}  (hw0 : IsW w0) (h : f_X5_engage w0 x1 m = some mF) : Cn l G 1 yX5_engage wsX5_engage [.ref (G.1 + w0), .int x1] m (Qv G mF) := by
  unfold f_X5_engage at h
  refine Cn.of (own := RX5) (lv := [(0, .ref (G.1 + w0)), (1, .int x1)]) (by decide) rfl rfl (Nat.le_of_ble_eq_true rfl) rfl ?_
  refine pw_aload_n 0 rfl rfl 1 dX5_engage_0 rfl ?_
  refine pw_iload_n 1 rfl rfl 2 dX5_engage_1 rfl ?_
  refine pw_put (ty0 := tyX5) (ty := .int) 6 5 dX5_engage_2 rfl fi_X5_engage_5 tyX5_ok nmX5 lk_X5_engage_40 hw0.lt hw0.o (by decide) rfl (by decide) rfl rfl rfl rfl rfl ?_
  obtain ⟨m1, em1, h⟩ := nmE_ h
  refine pw_mem em1 ?_
  refine pw_iconst (v := (0 : Int32)) (by decide) 6 dX5_engage_5 rfl ?_
  refine pw_istore_n (hf := rfl) [(2, .int (0 : Int32)), (0, .ref (G.1 + w0)), (1, .int x1)] 7 dX5_engage_6 rfl (Nat.le_of_ble_eq_true rfl) rfl ?_
  obtain ⟨m8, h9, h⟩ := bd1_e h
  have hL7_h9 : PW G (KM l G RX5 cX5_engage 3 none wsX5_engage 1 (Qv G mF)) 36 [] [] m8 := by
    exact pw_vret dX5_engage_36 (Option.some.inj h)
  refine pw_sub [1, 0] [(0, .ref (G.1 + w0)), (2, .int (0 : Int32))] rfl ?_
  exact kl_X5_engage_7 hw0 FU (0 : Int32) m1 m8 h9 hL7_h9
theorem fi_X6_hire_6 : ∀ w ∈ wsX60, w ∈ wsX6_hire := by decide +kernel
theorem lk_X6_hire_25 : Cond.fieldLink RX6 25 (TX6 2).1 (TX6 2).2.1 (TX6 2).2.2.1 ∈ wsX6_hire := by decide +kernel
theorem lw_X6_hire_c63 : Cond.constant RX6 63 (-1000001 : Int32) ∈ wsX6_hire := by decide +kernel
theorem lk_X6_hire_32 : Cond.fieldLink RX6 32 (TX6 3).1 (TX6 3).2.1 (TX6 3).2.2.1 ∈ wsX6_hire := by decide +kernel
theorem fi_X6_hire_5 : ∀ w ∈ wsX50, w ∈ wsX6_hire := by decide +kernel
theorem lk_X6_hire_154 : Cond.fieldLink RX6 154 (TX5 6).1 (TX5 6).2.1 (TX5 6).2.2.1 ∈ wsX6_hire := by decide +kernel
theorem lw_X6_hire_c135 : Cond.constant RX6 135 (-1000002 : Int32) ∈ wsX6_hire := by decide +kernel
set_option maxHeartbeats 4000000 in
set_option maxRecDepth 100000 in
theorem k_X6_hire {l : Launch} {G : Gx} {x1 : Int32} {x2 : Int32} {m mF : Mm} {r : Int32}  (h : f_X6_hire x1 x2 m = some (r, mF)) : Cn l G 3 yX6_hire wsX6_hire [.ref (G.1 + 0), .int x1, .int x2] m (Qi G r mF) := by
  unfold f_X6_hire at h
  refine Cn.of (own := RX6) (lv := [(0, .ref (G.1 + 0)), (1, .int x1), (2, .int x2)]) (by decide) rfl rfl (Nat.le_of_ble_eq_true rfl) rfl ?_
  refine pw_aload_n 0 rfl rfl 1 dX6_hire_0 rfl ?_
  refine pw_getR 2 4 dX6_hire_1 rfl fi_X6_hire_6 lk_X6_hire_25 la_0 ly_0 (by decide) rfl (by decide) rfl rf_0_2 ?_
  refine pw_iload_n 1 rfl rfl 5 dX6_hire_4 rfl ?_
  refine pw_callVi 8 dX6_hire_5 rfl [.int x1] 1 ⟨gX6_hire_X5_has, rfl, sgV_X5_has, ⟨Nat.le_of_ble_eq_true rfl, Nat.le_of_ble_eq_true rfl⟩, ⟨Nat.le_refl _, Nat.le_refl _⟩⟩ ly_13 (by decide) la_13 rfl (k_X5_has isW_13 rfl) rfl rfl (Nat.le_of_ble_eq_true rfl) ?_
  refine pw_if_eq 20 11 dX6_hire_8 (by decide) rfl (fun c1 => ?_) (fun c1 => ?_)
  · have h := if_t h c1
    refine pw_ldc 22 lw_X6_hire_c63 dX6_hire_20 rfl ?_
    exact pw_iret dX6_hire_22 (pr_inj h)
  · have h := if_f h c1
    refine pw_iload_n 2 rfl rfl 12 dX6_hire_11 rfl ?_
    refine pw_if_lt 20 15 dX6_hire_12 (by decide) rfl (fun c2 => ?_) (fun c2 => ?_)
    · have h := if_t h c2
      refine pw_ldc 22 lw_X6_hire_c63 dX6_hire_20 rfl ?_
      exact pw_iret dX6_hire_22 (pr_inj h)
    · have h := if_f h c2
      refine pw_iload_n 2 rfl rfl 16 dX6_hire_15 rfl ?_
      refine pw_iconst (v := (1 : Int32)) (by decide) 17 dX6_hire_16 rfl ?_
      refine pw_icmp_le 23 20 dX6_hire_17 (by decide) rfl (fun c3 => ?_) (fun c3 => ?_)
      · have h := if_t h c3
        refine pw_aload_n 0 rfl rfl 24 dX6_hire_23 rfl ?_
        refine pw_getR 2 27 dX6_hire_24 rfl fi_X6_hire_6 lk_X6_hire_25 la_0 ly_0 (by decide) rfl (by decide) rfl rf_0_2 ?_
        refine pw_iload_n 1 rfl rfl 28 dX6_hire_27 rfl ?_
        refine pw_callVi 31 dX6_hire_28 rfl [.int x1] 1 ⟨gX6_hire_X5_isHired, rfl, sgV_X5_isHired, ⟨Nat.le_of_ble_eq_true rfl, Nat.le_of_ble_eq_true rfl⟩, ⟨Nat.le_refl _, Nat.le_refl _⟩⟩ ly_13 (by decide) la_13 rfl (k_X5_isHired isW_13 rfl) rfl rfl (Nat.le_of_ble_eq_true rfl) ?_
        refine pw_iload_n 2 rfl rfl 32 dX6_hire_31 rfl ?_
        refine pw_iconst (v := (1 : Int32)) (by decide) 33 dX6_hire_32 rfl ?_
        obtain ⟨j5, ej5, h⟩ := nmE_ h
        have hJ41_j5 : PW G (KM l G RX6 cX6_hire 3 (some .int) wsX6_hire 3 (Qi G r mF)) 41 [(0, .ref (G.1 + 0)), (1, .int x1)] [.int j5, .int (f_X5_isHired 13 x1 m)] m := by
          refine pw_icmp_ne 47 44 dX6_hire_41 (by decide) rfl (fun c6 => ?_) (fun c6 => ?_)
          · have h := if_f h c6
            refine pw_aload_n 0 rfl rfl 48 dX6_hire_47 rfl ?_
            refine pw_getR 3 51 dX6_hire_48 rfl fi_X6_hire_6 lk_X6_hire_32 la_0 ly_0 (by decide) rfl (by decide) rfl rf_0_3 ?_
            refine pw_aload_n 0 rfl rfl 52 dX6_hire_51 rfl ?_
            refine pw_getR 2 55 dX6_hire_52 rfl fi_X6_hire_6 lk_X6_hire_25 la_0 ly_0 (by decide) rfl (by decide) rfl rf_0_2 ?_
            obtain ⟨m7, hm7, h⟩ := bd1_e h
            refine pw_callVv 58 dX6_hire_55 rfl [.ref (G.1 + 13)] 1 ⟨gX6_hire_X0_keep, rfl, sgV_X0_keep, ⟨Nat.le_of_ble_eq_true rfl, Nat.le_of_ble_eq_true rfl⟩, ⟨Nat.le_refl _, Nat.le_refl _⟩⟩ ly_22 (by decide) la_22 rfl (k_X0_keep isW_13 hm7) rfl rfl (Nat.le_of_ble_eq_true rfl) ?_
            refine pw_aload_n 0 rfl rfl 59 dX6_hire_58 rfl ?_
            refine pw_getR 2 62 dX6_hire_59 rfl fi_X6_hire_6 lk_X6_hire_25 la_0 ly_0 (by decide) rfl (by decide) rfl rf_0_2 ?_
            refine pw_aload_n 0 rfl rfl 63 dX6_hire_62 rfl ?_
            refine pw_getR 2 66 dX6_hire_63 rfl fi_X6_hire_6 lk_X6_hire_25 la_0 ly_0 (by decide) rfl (by decide) rfl rf_0_2 ?_
            refine pw_getI 6 69 dX6_hire_66 rfl fi_X6_hire_5 lk_X6_hire_154 la_13 ly_13 (by decide) rfl (by decide) rfl ?_
            refine pw_iconst (v := (1 : Int32)) (by decide) 70 dX6_hire_69 rfl ?_
            refine pw_iload_n 1 rfl rfl 71 dX6_hire_70 rfl ?_
            refine pw_ishl 72 dX6_hire_71 rfl ?_
            refine pw_ixor 73 dX6_hire_72 rfl ?_
            obtain ⟨m8, hm8, h⟩ := bd1_e h
            refine pw_callVv 76 dX6_hire_73 rfl [.int ((m7 13 6) ^^^ ((1 : Int32) <<< (x1 &&& 31)))] 1 ⟨gX6_hire_X5_engage, rfl, sgV_X5_engage, ⟨Nat.le_of_ble_eq_true rfl, Nat.le_of_ble_eq_true rfl⟩, ⟨Nat.le_refl _, Nat.le_refl _⟩⟩ ly_13 (by decide) la_13 rfl (k_X5_engage isW_13 hm8) rfl rfl (Nat.le_of_ble_eq_true rfl) ?_
            refine pw_aload_n 0 rfl rfl 77 dX6_hire_76 rfl ?_
            refine pw_getR 2 80 dX6_hire_77 rfl fi_X6_hire_6 lk_X6_hire_25 la_0 ly_0 (by decide) rfl (by decide) rfl rf_0_2 ?_
            refine pw_getI 6 83 dX6_hire_80 rfl fi_X6_hire_5 lk_X6_hire_154 la_13 ly_13 (by decide) rfl (by decide) rfl ?_
            exact pw_iret dX6_hire_83 (pr_inj h)
          · have h := if_t h c6
            refine pw_ldc 46 lw_X6_hire_c135 dX6_hire_44 rfl ?_
            exact pw_iret dX6_hire_46 (pr_inj h)
        refine pw_icmp_ne 40 36 dX6_hire_33 (by decide) rfl (fun c4 => ?_) (fun c4 => ?_)
        · have ej5 := if_fv ej5 c4
          refine pw_iconst (v := (0 : Int32)) (by decide) 41 dX6_hire_40 rfl ?_
          refine pw_sub [0, 1] [(0, .ref (G.1 + 0)), (1, .int x1)] rfl ?_
          subst ej5; exact hJ41_j5
        · have ej5 := if_tv ej5 c4
          refine pw_iconst (v := (1 : Int32)) (by decide) 37 dX6_hire_36 rfl ?_
          refine pw_goto 41 dX6_hire_37 (by decide) ?_
          refine pw_sub [0, 1] [(0, .ref (G.1 + 0)), (1, .int x1)] rfl ?_
          subst ej5; exact hJ41_j5
      · have h := if_f h c3
        refine pw_ldc 22 lw_X6_hire_c63 dX6_hire_20 rfl ?_
        exact pw_iret dX6_hire_22 (pr_inj h)
theorem fi_X5_sit_5 : ∀ w ∈ wsX50, w ∈ wsX5_sit := by decide +kernel
theorem lk_X5_sit_27 : Cond.fieldLink RX5 27 (TX5 12).1 (TX5 12).2.1 (TX5 12).2.2.1 ∈ wsX5_sit := by decide +kernel
theorem lk_X5_sit_30 : Cond.fieldLink RX5 30 (TX5 13).1 (TX5 13).2.1 (TX5 13).2.2.1 ∈ wsX5_sit := by decide +kernel
set_option maxHeartbeats 4000000 in
set_option maxRecDepth 100000 in
theorem k_X5_sit {l : Launch} {G : Gx} {w0 : Nat} {x1 : Int32} {x2 : Int32} {m mF : Mm}  (hw0 : IsW w0) (h : f_X5_sit w0 x1 x2 m = some mF) : Cn l G 0 yX5_sit wsX5_sit [.ref (G.1 + w0), .int x1, .int x2] m (Qv G mF) := by
  unfold f_X5_sit at h
  refine Cn.of (own := RX5) (lv := [(0, .ref (G.1 + w0)), (1, .int x1), (2, .int x2)]) (by decide) rfl rfl (Nat.le_of_ble_eq_true rfl) rfl ?_
  refine pw_aload_n 0 rfl rfl 1 dX5_sit_0 rfl ?_
  refine pw_getR 12 4 dX5_sit_1 rfl fi_X5_sit_5 lk_X5_sit_27 hw0.lt hw0.o (by decide) rfl (by decide) rfl hw0.rf12 ?_
  refine pw_iload_n 1 rfl rfl 5 dX5_sit_4 rfl ?_
  refine pw_iload_n 2 rfl rfl 6 dX5_sit_5 rfl ?_
  obtain ⟨h4, h⟩ := gd_e h
  refine pw_iast 7 dX5_sit_6 rfl hw0.lt6 hw0.o6 h4 ?_
  obtain ⟨m1, em1, h⟩ := nmE_ h
  refine pw_mem em1 ?_
  refine pw_aload_n 0 rfl rfl 8 dX5_sit_7 rfl ?_
  refine pw_getR 13 11 dX5_sit_8 rfl fi_X5_sit_5 lk_X5_sit_30 hw0.lt hw0.o (by decide) rfl (by decide) rfl hw0.rf13 ?_
  refine pw_iload_n 2 rfl rfl 12 dX5_sit_11 rfl ?_
  refine pw_iload_n 1 rfl rfl 13 dX5_sit_12 rfl ?_
  obtain ⟨h3, h⟩ := gd_e h
  refine pw_iast 14 dX5_sit_13 rfl hw0.lt7 hw0.o7 h3 ?_
  obtain ⟨m2, em2, h⟩ := nmE_ h
  refine pw_mem em2 ?_
  exact pw_vret dX5_sit_14 (Option.some.inj h)
theorem fi_X5_trade_5 : ∀ w ∈ wsX50, w ∈ wsX5_trade := by decide +kernel
theorem lk_X5_trade_27 : Cond.fieldLink RX5 27 (TX5 12).1 (TX5 12).2.1 (TX5 12).2.2.1 ∈ wsX5_trade := by decide +kernel
set_option maxHeartbeats 4000000 in
set_option maxRecDepth 100000 in
theorem k_X5_trade {l : Launch} {G : Gx} {w0 : Nat} {x1 : Int32} {x2 : Int32} {m mF : Mm}  (hw0 : IsW w0) (h : f_X5_trade w0 x1 x2 m = some mF) : Cn l G 1 yX5_trade wsX5_trade [.ref (G.1 + w0), .int x1, .int x2] m (Qv G mF) := by
  unfold f_X5_trade at h
  refine Cn.of (own := RX5) (lv := [(0, .ref (G.1 + w0)), (1, .int x1), (2, .int x2)]) (by decide) rfl rfl (Nat.le_of_ble_eq_true rfl) rfl ?_
  refine pw_aload_n 0 rfl rfl 1 dX5_trade_0 rfl ?_
  refine pw_getR 12 4 dX5_trade_1 rfl fi_X5_trade_5 lk_X5_trade_27 hw0.lt hw0.o (by decide) rfl (by decide) rfl hw0.rf12 ?_
  refine pw_iload_n 1 rfl rfl 5 dX5_trade_4 rfl ?_
  obtain ⟨h1, h⟩ := gd_e h
  refine pw_iald 6 dX5_trade_5 rfl hw0.lt6 hw0.o6 h1 ?_
  obtain ⟨v2, ev2, h⟩ := nmE_ h
  refine pw_top ev2 ?_
  refine pw_istore_n (hf := rfl) [(3, .int v2), (0, .ref (G.1 + w0)), (1, .int x1), (2, .int x2)] 7 dX5_trade_6 rfl (Nat.le_of_ble_eq_true rfl) rfl ?_
  refine pw_aload_n 1 rfl rfl 8 dX5_trade_7 rfl ?_
  refine pw_iload_n 2 rfl rfl 9 dX5_trade_8 rfl ?_
  refine pw_aload_n 1 rfl rfl 10 dX5_trade_9 rfl ?_
  refine pw_getR 12 13 dX5_trade_10 rfl fi_X5_trade_5 lk_X5_trade_27 hw0.lt hw0.o (by decide) rfl (by decide) rfl hw0.rf12 ?_
  refine pw_iload_n 3 rfl rfl 14 dX5_trade_13 rfl ?_
  obtain ⟨h3, h⟩ := gd_e h
  refine pw_iald 15 dX5_trade_14 rfl hw0.lt6 hw0.o6 h3 ?_
  obtain ⟨m4, hm4, h⟩ := bd1_e h
  refine pw_callVv 18 dX5_trade_15 rfl [.int x1, .int (m (w0 + 6) (ix x2))] 2 ⟨gX5_trade_X5_sit, rfl, sgV_X5_sit, ⟨Nat.le_of_ble_eq_true rfl, Nat.le_of_ble_eq_true rfl⟩, ⟨Nat.le_refl _, Nat.le_refl _⟩⟩ hw0.o (by decide) hw0.lt rfl (k_X5_sit hw0 hm4) rfl rfl (Nat.le_of_ble_eq_true rfl) ?_
  refine pw_aload_n 1 rfl rfl 19 dX5_trade_18 rfl ?_
  refine pw_iload_n 3 rfl rfl 20 dX5_trade_19 rfl ?_
  refine pw_iload_n 0 rfl rfl 21 dX5_trade_20 rfl ?_
  obtain ⟨m5, hm5, h⟩ := bd1_e h
  refine pw_callVv 24 dX5_trade_21 rfl [.int x2, .int v2] 2 ⟨gX5_trade_X5_sit, rfl, sgV_X5_sit, ⟨Nat.le_of_ble_eq_true rfl, Nat.le_of_ble_eq_true rfl⟩, ⟨Nat.le_refl _, Nat.le_refl _⟩⟩ hw0.o (by decide) hw0.lt rfl (k_X5_sit hw0 hm5) rfl rfl (Nat.le_of_ble_eq_true rfl) ?_
  exact pw_vret dX5_trade_24 (Option.some.inj h)
theorem fi_X6_swap_6 : ∀ w ∈ wsX60, w ∈ wsX6_swap := by decide +kernel
theorem lk_X6_swap_25 : Cond.fieldLink RX6 25 (TX6 2).1 (TX6 2).2.1 (TX6 2).2.2.1 ∈ wsX6_swap := by decide +kernel
theorem lw_X6_swap_c63 : Cond.constant RX6 63 (-1000001 : Int32) ∈ wsX6_swap := by decide +kernel
theorem lk_X6_swap_32 : Cond.fieldLink RX6 32 (TX6 3).1 (TX6 3).2.1 (TX6 3).2.2.1 ∈ wsX6_swap := by decide +kernel
theorem fi_X6_swap_5 : ∀ w ∈ wsX50, w ∈ wsX6_swap := by decide +kernel
theorem lk_X6_swap_164 : Cond.fieldLink RX6 164 (TX5 12).1 (TX5 12).2.1 (TX5 12).2.2.1 ∈ wsX6_swap := by decide +kernel
set_option maxHeartbeats 4000000 in
set_option maxRecDepth 100000 in
theorem k_X6_swap {l : Launch} {G : Gx} {x1 : Int32} {x2 : Int32} {m mF : Mm} {r : Int32}  (h : f_X6_swap x1 x2 m = some (r, mF)) : Cn l G 3 yX6_swap wsX6_swap [.ref (G.1 + 0), .int x1, .int x2] m (Qi G r mF) := by
  unfold f_X6_swap at h
  refine Cn.of (own := RX6) (lv := [(0, .ref (G.1 + 0)), (1, .int x1), (2, .int x2)]) (by decide) rfl rfl (Nat.le_of_ble_eq_true rfl) rfl ?_
  refine pw_aload_n 0 rfl rfl 1 dX6_swap_0 rfl ?_
  refine pw_getR 2 4 dX6_swap_1 rfl fi_X6_swap_6 lk_X6_swap_25 la_0 ly_0 (by decide) rfl (by decide) rfl rf_0_2 ?_
  refine pw_iload_n 1 rfl rfl 5 dX6_swap_4 rfl ?_
  refine pw_callVi 8 dX6_swap_5 rfl [.int x1] 1 ⟨gX6_swap_X5_has, rfl, sgV_X5_has, ⟨Nat.le_of_ble_eq_true rfl, Nat.le_of_ble_eq_true rfl⟩, ⟨Nat.le_refl _, Nat.le_refl _⟩⟩ ly_13 (by decide) la_13 rfl (k_X5_has isW_13 rfl) rfl rfl (Nat.le_of_ble_eq_true rfl) ?_
  refine pw_if_eq 27 11 dX6_swap_8 (by decide) rfl (fun c1 => ?_) (fun c1 => ?_)
  · have h := if_t h c1
    refine pw_ldc 29 lw_X6_swap_c63 dX6_swap_27 rfl ?_
    exact pw_iret dX6_swap_29 (pr_inj h)
  · have h := if_f h c1
    refine pw_aload_n 0 rfl rfl 12 dX6_swap_11 rfl ?_
    refine pw_getR 2 15 dX6_swap_12 rfl fi_X6_swap_6 lk_X6_swap_25 la_0 ly_0 (by decide) rfl (by decide) rfl rf_0_2 ?_
    refine pw_iload_n 2 rfl rfl 16 dX6_swap_15 rfl ?_
    refine pw_callVi 19 dX6_swap_16 rfl [.int x2] 1 ⟨gX6_swap_X5_has, rfl, sgV_X5_has, ⟨Nat.le_of_ble_eq_true rfl, Nat.le_of_ble_eq_true rfl⟩, ⟨Nat.le_refl _, Nat.le_refl _⟩⟩ ly_13 (by decide) la_13 rfl (k_X5_has isW_13 rfl) rfl rfl (Nat.le_of_ble_eq_true rfl) ?_
    refine pw_if_eq 27 22 dX6_swap_19 (by decide) rfl (fun c2 => ?_) (fun c2 => ?_)
    · have h := if_t h c2
      refine pw_ldc 29 lw_X6_swap_c63 dX6_swap_27 rfl ?_
      exact pw_iret dX6_swap_29 (pr_inj h)
    · have h := if_f h c2
      refine pw_iload_n 1 rfl rfl 23 dX6_swap_22 rfl ?_
      refine pw_iload_n 2 rfl rfl 24 dX6_swap_23 rfl ?_
      refine pw_icmp_ne 30 27 dX6_swap_24 (by decide) rfl (fun c3 => ?_) (fun c3 => ?_)
      · have h := if_f h c3
        refine pw_aload_n 0 rfl rfl 31 dX6_swap_30 rfl ?_
        refine pw_getR 3 34 dX6_swap_31 rfl fi_X6_swap_6 lk_X6_swap_32 la_0 ly_0 (by decide) rfl (by decide) rfl rf_0_3 ?_
        refine pw_aload_n 0 rfl rfl 35 dX6_swap_34 rfl ?_
        refine pw_getR 2 38 dX6_swap_35 rfl fi_X6_swap_6 lk_X6_swap_25 la_0 ly_0 (by decide) rfl (by decide) rfl rf_0_2 ?_
        obtain ⟨m4, hm4, h⟩ := bd1_e h
        refine pw_callVv 41 dX6_swap_38 rfl [.ref (G.1 + 13)] 1 ⟨gX6_swap_X0_keep, rfl, sgV_X0_keep, ⟨Nat.le_of_ble_eq_true rfl, Nat.le_of_ble_eq_true rfl⟩, ⟨Nat.le_refl _, Nat.le_refl _⟩⟩ ly_22 (by decide) la_22 rfl (k_X0_keep isW_13 hm4) rfl rfl (Nat.le_of_ble_eq_true rfl) ?_
        refine pw_aload_n 0 rfl rfl 42 dX6_swap_41 rfl ?_
        refine pw_getR 2 45 dX6_swap_42 rfl fi_X6_swap_6 lk_X6_swap_25 la_0 ly_0 (by decide) rfl (by decide) rfl rf_0_2 ?_
        refine pw_iload_n 1 rfl rfl 46 dX6_swap_45 rfl ?_
        refine pw_iload_n 2 rfl rfl 47 dX6_swap_46 rfl ?_
        obtain ⟨m5, hm5, h⟩ := bd1_e h
        refine pw_callVv 50 dX6_swap_47 rfl [.int x1, .int x2] 2 ⟨gX6_swap_X5_trade, rfl, sgV_X5_trade, ⟨Nat.le_of_ble_eq_true rfl, Nat.le_of_ble_eq_true rfl⟩, ⟨Nat.le_refl _, Nat.le_refl _⟩⟩ ly_13 (by decide) la_13 rfl (k_X5_trade isW_13 hm5) rfl rfl (Nat.le_of_ble_eq_true rfl) ?_
        refine pw_aload_n 0 rfl rfl 51 dX6_swap_50 rfl ?_
        refine pw_getR 2 54 dX6_swap_51 rfl fi_X6_swap_6 lk_X6_swap_25 la_0 ly_0 (by decide) rfl (by decide) rfl rf_0_2 ?_
        refine pw_getR 12 57 dX6_swap_54 rfl fi_X6_swap_5 lk_X6_swap_164 la_13 ly_13 (by decide) rfl (by decide) rfl rf_13_12 ?_
        refine pw_iload_n 1 rfl rfl 58 dX6_swap_57 rfl ?_
        obtain ⟨h6, h⟩ := gd_e h
        refine pw_iald 59 dX6_swap_58 rfl la_19 ly_19 h6 ?_
        exact pw_iret dX6_swap_59 (pr_inj h)
      · have h := if_t h c3
        refine pw_ldc 29 lw_X6_swap_c63 dX6_swap_27 rfl ?_
        exact pw_iret dX6_swap_29 (pr_inj h)
theorem lw_X6_hymns_c63 : Cond.constant RX6 63 (-1000001 : Int32) ∈ wsX6_hymns := by decide +kernel
theorem fi_X6_hymns_6 : ∀ w ∈ wsX60, w ∈ wsX6_hymns := by decide +kernel
theorem lk_X6_hymns_32 : Cond.fieldLink RX6 32 (TX6 3).1 (TX6 3).2.1 (TX6 3).2.2.1 ∈ wsX6_hymns := by decide +kernel
theorem lk_X6_hymns_25 : Cond.fieldLink RX6 25 (TX6 2).1 (TX6 2).2.1 (TX6 2).2.2.1 ∈ wsX6_hymns := by decide +kernel
theorem fi_X6_hymns_5 : ∀ w ∈ wsX50, w ∈ wsX6_hymns := by decide +kernel
theorem lk_X6_hymns_167 : Cond.fieldLink RX6 167 (TX5 2).1 (TX5 2).2.1 (TX5 2).2.2.1 ∈ wsX6_hymns := by decide +kernel
theorem lw_X6_hymns_c135 : Cond.constant RX6 135 (-1000002 : Int32) ∈ wsX6_hymns := by decide +kernel
set_option maxHeartbeats 4000000 in
set_option maxRecDepth 100000 in
theorem k_X6_hymns {l : Launch} {G : Gx} {x1 : Int32} {m mF : Mm} {r : Int32}  (h : f_X6_hymns x1 m = some (r, mF)) : Cn l G 3 yX6_hymns wsX6_hymns [.ref (G.1 + 0), .int x1] m (Qi G r mF) := by
  unfold f_X6_hymns at h
  refine Cn.of (own := RX6) (lv := [(0, .ref (G.1 + 0)), (1, .int x1)]) (by decide) rfl rfl (Nat.le_of_ble_eq_true rfl) rfl ?_
  refine pw_aload_n 0 rfl rfl 1 dX6_hymns_0 rfl ?_
  refine pw_callVi 4 dX6_hymns_1 rfl [] 0 ⟨gX6_hymns_X6_isNone, rfl, sgV_X6_isNone, ⟨Nat.le_of_ble_eq_true rfl, Nat.le_of_ble_eq_true rfl⟩, ⟨Nat.le_refl _, Nat.le_refl _⟩⟩ ly_0 (by decide) la_0 rfl (k_X6_isNone rfl) rfl rfl (Nat.le_of_ble_eq_true rfl) ?_
  refine pw_if_eq 10 7 dX6_hymns_4 (by decide) rfl (fun c1 => ?_) (fun c1 => ?_)
  · have h := if_t h c1
    refine pw_iload_n 1 rfl rfl 11 dX6_hymns_10 rfl ?_
    refine pw_if_lt 20 14 dX6_hymns_11 (by decide) rfl (fun c2 => ?_) (fun c2 => ?_)
    · have h := if_t h c2
      refine pw_ldc 22 lw_X6_hymns_c63 dX6_hymns_20 rfl ?_
      exact pw_iret dX6_hymns_22 (pr_inj h)
    · have h := if_f h c2
      refine pw_iload_n 1 rfl rfl 15 dX6_hymns_14 rfl ?_
      refine pw_bipush (v := (16 : Int32)) (by decide) 17 dX6_hymns_15 rfl ?_
      refine pw_icmp_lt 23 20 dX6_hymns_17 (by decide) rfl (fun c3 => ?_) (fun c3 => ?_)
      · have h := if_t h c3
        refine pw_aload_n 0 rfl rfl 24 dX6_hymns_23 rfl ?_
        refine pw_getR 3 27 dX6_hymns_24 rfl fi_X6_hymns_6 lk_X6_hymns_32 la_0 ly_0 (by decide) rfl (by decide) rfl rf_0_3 ?_
        refine pw_aload_n 0 rfl rfl 28 dX6_hymns_27 rfl ?_
        refine pw_getR 2 31 dX6_hymns_28 rfl fi_X6_hymns_6 lk_X6_hymns_25 la_0 ly_0 (by decide) rfl (by decide) rfl rf_0_2 ?_
        obtain ⟨m4, hm4, h⟩ := bd1_e h
        refine pw_callVv 34 dX6_hymns_31 rfl [.ref (G.1 + 13)] 1 ⟨gX6_hymns_X0_keep, rfl, sgV_X0_keep, ⟨Nat.le_of_ble_eq_true rfl, Nat.le_of_ble_eq_true rfl⟩, ⟨Nat.le_refl _, Nat.le_refl _⟩⟩ ly_22 (by decide) la_22 rfl (k_X0_keep isW_13 hm4) rfl rfl (Nat.le_of_ble_eq_true rfl) ?_
        refine pw_aload_n 0 rfl rfl 35 dX6_hymns_34 rfl ?_
        refine pw_getR 2 38 dX6_hymns_35 rfl fi_X6_hymns_6 lk_X6_hymns_25 la_0 ly_0 (by decide) rfl (by decide) rfl rf_0_2 ?_
        refine pw_getI 2 41 dX6_hymns_38 rfl fi_X6_hymns_5 lk_X6_hymns_167 la_13 ly_13 (by decide) rfl (by decide) rfl ?_
        obtain ⟨v5, ev5, h⟩ := nmE_ h
        refine pw_top ev5 ?_
        refine pw_istore_n (hf := rfl) [(2, .int v5), (0, .ref (G.1 + 0)), (1, .int x1)] 42 dX6_hymns_41 rfl (Nat.le_of_ble_eq_true rfl) rfl ?_
        refine pw_aload_n 1 rfl rfl 43 dX6_hymns_42 rfl ?_
        refine pw_getR 2 46 dX6_hymns_43 rfl fi_X6_hymns_6 lk_X6_hymns_25 la_0 ly_0 (by decide) rfl (by decide) rfl rf_0_2 ?_
        refine pw_iload_n 2 rfl rfl 47 dX6_hymns_46 rfl ?_
        refine pw_put (ty0 := tyX5) (ty := .int) 2 50 dX6_hymns_47 rfl fi_X6_hymns_5 tyX5_ok nmX5 lk_X6_hymns_167 la_13 ly_13 (by decide) rfl (by decide) rfl rfl rfl rfl rfl ?_
        obtain ⟨m6, em6, h⟩ := nmE_ h
        refine pw_mem em6 ?_
        refine pw_iload_n 0 rfl rfl 51 dX6_hymns_50 rfl ?_
        exact pw_iret dX6_hymns_51 (pr_inj h)
      · have h := if_f h c3
        refine pw_ldc 22 lw_X6_hymns_c63 dX6_hymns_20 rfl ?_
        exact pw_iret dX6_hymns_22 (pr_inj h)
  · have h := if_f h c1
    refine pw_ldc 9 lw_X6_hymns_c135 dX6_hymns_7 rfl ?_
    exact pw_iret dX6_hymns_9 (pr_inj h)
theorem fi_X0_takeBack_0 : ∀ w ∈ wsX00, w ∈ wsX0_takeBack := by decide +kernel
theorem lk_X0_takeBack_18 : Cond.fieldLink RX0 18 (TX0 1).1 (TX0 1).2.1 (TX0 1).2.2.1 ∈ wsX0_takeBack := by decide +kernel
theorem lk_X0_takeBack_26 : Cond.fieldLink RX0 26 (TX0 2).1 (TX0 2).2.1 (TX0 2).2.2.1 ∈ wsX0_takeBack := by decide +kernel
theorem lk_X0_takeBack_11 : Cond.fieldLink RX0 11 (TX0 0).1 (TX0 0).2.1 (TX0 0).2.2.1 ∈ wsX0_takeBack := by decide +kernel
set_option maxHeartbeats 4000000 in
set_option maxRecDepth 100000 in
theorem k_X0_takeBack {l : Launch} {G : Gx} {w1 : Nat} {m mF : Mm}  (hw1 : IsW w1) (h : f_X0_takeBack w1 m = some mF) : Cn l G 2 yX0_takeBack wsX0_takeBack [.ref (G.1 + 22), .ref (G.1 + w1)] m (Qv G mF) := by
  unfold f_X0_takeBack at h
  refine Cn.of (own := RX0) (lv := [(0, .ref (G.1 + 22)), (1, .ref (G.1 + w1))]) (by decide) rfl rfl (Nat.le_of_ble_eq_true rfl) rfl ?_
  refine pw_aload_n 0 rfl rfl 1 dX0_takeBack_0 rfl ?_
  refine pw_aload_n 0 rfl rfl 2 dX0_takeBack_1 rfl ?_
  refine pw_getI 1 5 dX0_takeBack_2 rfl fi_X0_takeBack_0 lk_X0_takeBack_18 la_22 ly_22 (by decide) rfl (by decide) rfl ?_
  obtain ⟨j2, ej2, h⟩ := nmE_ h
  have hJ19_j2 : PW G (KM l G RX0 cX0_takeBack 2 none wsX0_takeBack 2 (Qv G mF)) 19 [(0, .ref (G.1 + 22)), (1, .ref (G.1 + w1))] [.int j2, .ref (G.1 + 22)] m := by
    refine pw_put (ty0 := tyX0) (ty := .int) 1 22 dX0_takeBack_19 rfl fi_X0_takeBack_0 tyX0_ok nmX0 lk_X0_takeBack_18 la_22 ly_22 (by decide) rfl (by decide) rfl rfl rfl rfl rfl ?_
    obtain ⟨m3, em3, h⟩ := nmE_ h
    refine pw_mem em3 ?_
    refine pw_aload_n 0 rfl rfl 23 dX0_takeBack_22 rfl ?_
    refine pw_dup rfl 24 dX0_takeBack_23 rfl ?_
    refine pw_getI 2 27 dX0_takeBack_24 rfl fi_X0_takeBack_0 lk_X0_takeBack_26 la_22 ly_22 (by decide) rfl (by decide) rfl ?_
    refine pw_iconst (v := (1 : Int32)) (by decide) 28 dX0_takeBack_27 rfl ?_
    refine pw_isub 29 dX0_takeBack_28 rfl ?_
    obtain ⟨v4, ev4, h⟩ := nmE_ h
    refine pw_top ev4 ?_
    refine pw_put (ty0 := tyX0) (ty := .int) 2 32 dX0_takeBack_29 rfl fi_X0_takeBack_0 tyX0_ok nmX0 lk_X0_takeBack_26 la_22 ly_22 (by decide) rfl (by decide) rfl rfl rfl rfl rfl ?_
    obtain ⟨m5, em5, h⟩ := nmE_ h
    refine pw_mem em5 ?_
    refine pw_aload_n 1 rfl rfl 33 dX0_takeBack_32 rfl ?_
    refine pw_aload_n 0 rfl rfl 34 dX0_takeBack_33 rfl ?_
    refine pw_getR 0 37 dX0_takeBack_34 rfl fi_X0_takeBack_0 lk_X0_takeBack_11 la_22 ly_22 (by decide) rfl (by decide) rfl rf_22_0 ?_
    refine pw_aload_n 0 rfl rfl 38 dX0_takeBack_37 rfl ?_
    refine pw_getI 1 41 dX0_takeBack_38 rfl fi_X0_takeBack_0 lk_X0_takeBack_18 la_22 ly_22 (by decide) rfl (by decide) rfl ?_
    obtain ⟨h6, h⟩ := gd_e h
    refine pw_aaldW 42 dX0_takeBack_41 rfl la_23 ly_23 h6 ?_
    obtain ⟨w7, ew7, h⟩ := nmE_ h
    refine pw_topr ew7 ?_
    have hw7 : IsW w7 := by rw [ew7]; exact isW_before h6
    obtain ⟨m8, hm8, h⟩ := bd1_e h
    refine pw_callVv 45 dX0_takeBack_42 rfl [.ref (G.1 + w7)] 1 ⟨gX0_takeBack_X5_become, rfl, sgV_X5_become, ⟨Nat.le_of_ble_eq_true rfl, Nat.le_of_ble_eq_true rfl⟩, ⟨Nat.le_refl _, Nat.le_refl _⟩⟩ hw1.o (by decide) hw1.lt rfl (k_X5_become hw1 hw7 hm8) rfl rfl (Nat.le_of_ble_eq_true rfl) ?_
    exact pw_vret dX0_takeBack_45 (Option.some.inj h)
  refine pw_if_ne 13 8 dX0_takeBack_5 (by decide) rfl (fun c1 => ?_) (fun c1 => ?_)
  · have ej2 := if_fv ej2 c1
    refine pw_aload_n 0 rfl rfl 14 dX0_takeBack_13 rfl ?_
    refine pw_getI 1 17 dX0_takeBack_14 rfl fi_X0_takeBack_0 lk_X0_takeBack_18 la_22 ly_22 (by decide) rfl (by decide) rfl ?_
    refine pw_iconst (v := (1 : Int32)) (by decide) 18 dX0_takeBack_17 rfl ?_
    refine pw_isub 19 dX0_takeBack_18 rfl ?_
    refine pw_sub [0, 1] [(0, .ref (G.1 + 22)), (1, .ref (G.1 + w1))] rfl ?_
    subst ej2; exact hJ19_j2
  · have ej2 := if_tv ej2 c1
    refine pw_bipush (v := (23 : Int32)) (by decide) 10 dX0_takeBack_8 rfl ?_
    refine pw_goto 19 dX0_takeBack_10 (by decide) ?_
    refine pw_sub [0, 1] [(0, .ref (G.1 + 22)), (1, .ref (G.1 + w1))] rfl ?_
    subst ej2; exact hJ19_j2
theorem fi_X6_undo_6 : ∀ w ∈ wsX60, w ∈ wsX6_undo := by decide +kernel
theorem lk_X6_undo_32 : Cond.fieldLink RX6 32 (TX6 3).1 (TX6 3).2.1 (TX6 3).2.2.1 ∈ wsX6_undo := by decide +kernel
theorem fi_X6_undo_0 : ∀ w ∈ wsX00, w ∈ wsX6_undo := by decide +kernel
theorem lk_X6_undo_170 : Cond.fieldLink RX6 170 (TX0 2).1 (TX0 2).2.1 (TX0 2).2.2.1 ∈ wsX6_undo := by decide +kernel
theorem lk_X6_undo_25 : Cond.fieldLink RX6 25 (TX6 2).1 (TX6 2).2.1 (TX6 2).2.2.1 ∈ wsX6_undo := by decide +kernel
theorem lw_X6_undo_c135 : Cond.constant RX6 135 (-1000002 : Int32) ∈ wsX6_undo := by decide +kernel
set_option maxHeartbeats 4000000 in
set_option maxRecDepth 100000 in
theorem k_X6_undo {l : Launch} {G : Gx}  {m mF : Mm} {r : Int32}  (h : f_X6_undo m = some (r, mF)) : Cn l G 3 yX6_undo wsX6_undo [.ref (G.1 + 0)] m (Qi G r mF) := by
  unfold f_X6_undo at h
  refine Cn.of (own := RX6) (lv := [(0, .ref (G.1 + 0))]) (by decide) rfl rfl (Nat.le_of_ble_eq_true rfl) rfl ?_
  refine pw_aload_n 0 rfl rfl 1 dX6_undo_0 rfl ?_
  refine pw_getR 3 4 dX6_undo_1 rfl fi_X6_undo_6 lk_X6_undo_32 la_0 ly_0 (by decide) rfl (by decide) rfl rf_0_3 ?_
  refine pw_getI 2 7 dX6_undo_4 rfl fi_X6_undo_0 lk_X6_undo_170 la_22 ly_22 (by decide) rfl (by decide) rfl ?_
  refine pw_if_ne 13 10 dX6_undo_7 (by decide) rfl (fun c1 => ?_) (fun c1 => ?_)
  · have h := if_f h c1
    refine pw_aload_n 0 rfl rfl 14 dX6_undo_13 rfl ?_
    refine pw_getR 3 17 dX6_undo_14 rfl fi_X6_undo_6 lk_X6_undo_32 la_0 ly_0 (by decide) rfl (by decide) rfl rf_0_3 ?_
    refine pw_aload_n 0 rfl rfl 18 dX6_undo_17 rfl ?_
    refine pw_getR 2 21 dX6_undo_18 rfl fi_X6_undo_6 lk_X6_undo_25 la_0 ly_0 (by decide) rfl (by decide) rfl rf_0_2 ?_
    obtain ⟨m2, hm2, h⟩ := bd1_e h
    refine pw_callVv 24 dX6_undo_21 rfl [.ref (G.1 + 13)] 1 ⟨gX6_undo_X0_takeBack, rfl, sgV_X0_takeBack, ⟨Nat.le_of_ble_eq_true rfl, Nat.le_of_ble_eq_true rfl⟩, ⟨Nat.le_refl _, Nat.le_refl _⟩⟩ ly_22 (by decide) la_22 rfl (k_X0_takeBack isW_13 hm2) rfl rfl (Nat.le_of_ble_eq_true rfl) ?_
    refine pw_aload_n 0 rfl rfl 25 dX6_undo_24 rfl ?_
    refine pw_getR 3 28 dX6_undo_25 rfl fi_X6_undo_6 lk_X6_undo_32 la_0 ly_0 (by decide) rfl (by decide) rfl rf_0_3 ?_
    refine pw_getI 2 31 dX6_undo_28 rfl fi_X6_undo_0 lk_X6_undo_170 la_22 ly_22 (by decide) rfl (by decide) rfl ?_
    exact pw_iret dX6_undo_31 (pr_inj h)
  · have h := if_t h c1
    refine pw_ldc 12 lw_X6_undo_c135 dX6_undo_10 rfl ?_
    exact pw_iret dX6_undo_12 (pr_inj h)
