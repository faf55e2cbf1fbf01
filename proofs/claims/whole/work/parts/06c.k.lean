theorem fi_X6_guest_6 : ∀ w ∈ wsX60, w ∈ wsX6_guest := by decide +kernel
theorem lk_X6_guest_25 : Cond.fieldLink RX6 25 (TX6 2).1 (TX6 2).2.1 (TX6 2).2.2.1 ∈ wsX6_guest := by decide +kernel
theorem fi_X6_guest_5 : ∀ w ∈ wsX50, w ∈ wsX6_guest := by decide +kernel
theorem lk_X6_guest_174 : Cond.fieldLink RX6 174 (TX5 8).1 (TX5 8).2.1 (TX5 8).2.2.1 ∈ wsX6_guest := by decide +kernel
theorem lk_X6_guest_177 : Cond.fieldLink RX6 177 (TX5 10).1 (TX5 10).2.1 (TX5 10).2.2.1 ∈ wsX6_guest := by decide +kernel
theorem lk_X6_guest_180 : Cond.fieldLink RX6 180 (TX5 9).1 (TX5 9).2.1 (TX5 9).2.2.1 ∈ wsX6_guest := by decide +kernel
theorem lk_X6_guest_164 : Cond.fieldLink RX6 164 (TX5 12).1 (TX5 12).2.1 (TX5 12).2.2.1 ∈ wsX6_guest := by decide +kernel
theorem lk_X6_guest_183 : Cond.fieldLink RX6 183 (TX5 11).1 (TX5 11).2.1 (TX5 11).2.2.1 ∈ wsX6_guest := by decide +kernel
theorem lw_X6_guest_c63 : Cond.constant RX6 63 (-1000001 : Int32) ∈ wsX6_guest := by decide +kernel
set_option maxHeartbeats 4000000 in
set_option maxRecDepth 100000 in
theorem k_X6_guest {l : Launch} {G : Gx} {x1 : Int32} {x2 : Int32} {m : Mm} {r : Int32}  (h : f_X6_guest x1 x2 m = some r) : Cn l G 2 yX6_guest wsX6_guest [.ref (G.1 + 0), .int x1, .int x2] m (Qi G r m) := by
  unfold f_X6_guest at h
  refine Cn.of (own := RX6) (lv := [(0, .ref (G.1 + 0)), (1, .int x1), (2, .int x2)]) (by decide) rfl rfl (Nat.le_of_ble_eq_true rfl) rfl ?_
  refine pw_aload_n 0 rfl rfl 1 dX6_guest_0 rfl ?_
  refine pw_getR 2 4 dX6_guest_1 rfl fi_X6_guest_6 lk_X6_guest_25 la_0 ly_0 (by decide) rfl (by decide) rfl rf_0_2 ?_
  refine pw_iload_n 1 rfl rfl 5 dX6_guest_4 rfl ?_
  refine pw_callVi 8 dX6_guest_5 rfl [.int x1] 1 ⟨gX6_guest_X5_has, rfl, sgV_X5_has, ⟨Nat.le_of_ble_eq_true rfl, Nat.le_of_ble_eq_true rfl⟩, ⟨Nat.le_refl _, Nat.le_refl _⟩⟩ ly_13 (by decide) la_13 rfl (k_X5_has isW_13 rfl) rfl rfl (Nat.le_of_ble_eq_true rfl) ?_
  refine pw_if_ne 14 11 dX6_guest_8 (by decide) rfl (fun c1 => ?_) (fun c1 => ?_)
  · have h := if_f h c1
    refine pw_iload_n 2 rfl rfl 15 dX6_guest_14 rfl ?_
    by_cases c9_0 : x2 = (0 : Int32)
    · have h := if_t h c9_0
      refine pw_tableIn 56 dX6_guest_15 (by rw [c9_0]; decide) (by rw [c9_0]; decide) (by rw [c9_0]; rfl) (by decide) ?_
      refine pw_aload_n 0 rfl rfl 57 dX6_guest_56 rfl ?_
      refine pw_getR 2 60 dX6_guest_57 rfl fi_X6_guest_6 lk_X6_guest_25 la_0 ly_0 (by decide) rfl (by decide) rfl rf_0_2 ?_
      refine pw_getR 8 63 dX6_guest_60 rfl fi_X6_guest_5 lk_X6_guest_174 la_13 ly_13 (by decide) rfl (by decide) rfl rf_13_8 ?_
      refine pw_iload_n 1 rfl rfl 64 dX6_guest_63 rfl ?_
      obtain ⟨h2, h⟩ := gd_e h
      refine pw_iald 65 dX6_guest_64 rfl la_15 ly_15 h2 ?_
      exact pw_iret dX6_guest_65 ⟨Option.some.inj h, rfl⟩
    · have h := if_f h c9_0
      by_cases c9_1 : x2 = (1 : Int32)
      · have h := if_t h c9_1
        refine pw_tableIn 66 dX6_guest_15 (by rw [c9_1]; decide) (by rw [c9_1]; decide) (by rw [c9_1]; rfl) (by decide) ?_
        refine pw_aload_n 0 rfl rfl 67 dX6_guest_66 rfl ?_
        refine pw_getR 2 70 dX6_guest_67 rfl fi_X6_guest_6 lk_X6_guest_25 la_0 ly_0 (by decide) rfl (by decide) rfl rf_0_2 ?_
        refine pw_getR 10 73 dX6_guest_70 rfl fi_X6_guest_5 lk_X6_guest_177 la_13 ly_13 (by decide) rfl (by decide) rfl rf_13_10 ?_
        refine pw_iload_n 1 rfl rfl 74 dX6_guest_73 rfl ?_
        obtain ⟨h3, h⟩ := gd_e h
        refine pw_iald 75 dX6_guest_74 rfl la_17 ly_17 h3 ?_
        exact pw_iret dX6_guest_75 ⟨Option.some.inj h, rfl⟩
      · have h := if_f h c9_1
        by_cases c9_2 : x2 = (2 : Int32)
        · have h := if_t h c9_2
          refine pw_tableIn 76 dX6_guest_15 (by rw [c9_2]; decide) (by rw [c9_2]; decide) (by rw [c9_2]; rfl) (by decide) ?_
          refine pw_aload_n 0 rfl rfl 77 dX6_guest_76 rfl ?_
          refine pw_getR 2 80 dX6_guest_77 rfl fi_X6_guest_6 lk_X6_guest_25 la_0 ly_0 (by decide) rfl (by decide) rfl rf_0_2 ?_
          refine pw_getR 9 83 dX6_guest_80 rfl fi_X6_guest_5 lk_X6_guest_180 la_13 ly_13 (by decide) rfl (by decide) rfl rf_13_9 ?_
          refine pw_iload_n 1 rfl rfl 84 dX6_guest_83 rfl ?_
          obtain ⟨h4, h⟩ := gd_e h
          refine pw_iald 85 dX6_guest_84 rfl la_16 ly_16 h4 ?_
          exact pw_iret dX6_guest_85 ⟨Option.some.inj h, rfl⟩
        · have h := if_f h c9_2
          by_cases c9_3 : x2 = (3 : Int32)
          · have h := if_t h c9_3
            refine pw_tableIn 86 dX6_guest_15 (by rw [c9_3]; decide) (by rw [c9_3]; decide) (by rw [c9_3]; rfl) (by decide) ?_
            refine pw_aload_n 0 rfl rfl 87 dX6_guest_86 rfl ?_
            refine pw_getR 2 90 dX6_guest_87 rfl fi_X6_guest_6 lk_X6_guest_25 la_0 ly_0 (by decide) rfl (by decide) rfl rf_0_2 ?_
            refine pw_getR 12 93 dX6_guest_90 rfl fi_X6_guest_5 lk_X6_guest_164 la_13 ly_13 (by decide) rfl (by decide) rfl rf_13_12 ?_
            refine pw_iload_n 1 rfl rfl 94 dX6_guest_93 rfl ?_
            obtain ⟨h5, h⟩ := gd_e h
            refine pw_iald 95 dX6_guest_94 rfl la_19 ly_19 h5 ?_
            exact pw_iret dX6_guest_95 ⟨Option.some.inj h, rfl⟩
          · have h := if_f h c9_3
            by_cases c9_4 : x2 = (4 : Int32)
            · have h := if_t h c9_4
              refine pw_tableIn 96 dX6_guest_15 (by rw [c9_4]; decide) (by rw [c9_4]; decide) (by rw [c9_4]; rfl) (by decide) ?_
              refine pw_aload_n 0 rfl rfl 97 dX6_guest_96 rfl ?_
              refine pw_getR 2 100 dX6_guest_97 rfl fi_X6_guest_6 lk_X6_guest_25 la_0 ly_0 (by decide) rfl (by decide) rfl rf_0_2 ?_
              refine pw_iload_n 1 rfl rfl 101 dX6_guest_100 rfl ?_
              refine pw_callVi 104 dX6_guest_101 rfl [.int x1] 1 ⟨gX6_guest_X5_isHired, rfl, sgV_X5_isHired, ⟨Nat.le_of_ble_eq_true rfl, Nat.le_of_ble_eq_true rfl⟩, ⟨Nat.le_refl _, Nat.le_refl _⟩⟩ ly_13 (by decide) la_13 rfl (k_X5_isHired isW_13 rfl) rfl rfl (Nat.le_of_ble_eq_true rfl) ?_
              refine pw_if_eq 111 107 dX6_guest_104 (by decide) rfl (fun c6 => ?_) (fun c6 => ?_)
              · have h := if_t h c6
                refine pw_iconst (v := (0 : Int32)) (by decide) 112 dX6_guest_111 rfl ?_
                exact pw_iret dX6_guest_112 ⟨Option.some.inj h, rfl⟩
              · have h := if_f h c6
                refine pw_iconst (v := (1 : Int32)) (by decide) 108 dX6_guest_107 rfl ?_
                refine pw_goto 112 dX6_guest_108 (by decide) ?_
                exact pw_iret dX6_guest_112 ⟨Option.some.inj h, rfl⟩
            · have h := if_f h c9_4
              by_cases c9_5 : x2 = (5 : Int32)
              · have h := if_t h c9_5
                refine pw_tableIn 113 dX6_guest_15 (by rw [c9_5]; decide) (by rw [c9_5]; decide) (by rw [c9_5]; rfl) (by decide) ?_
                refine pw_aload_n 0 rfl rfl 114 dX6_guest_113 rfl ?_
                refine pw_getR 2 117 dX6_guest_114 rfl fi_X6_guest_6 lk_X6_guest_25 la_0 ly_0 (by decide) rfl (by decide) rfl rf_0_2 ?_
                refine pw_getR 11 120 dX6_guest_117 rfl fi_X6_guest_5 lk_X6_guest_183 la_13 ly_13 (by decide) rfl (by decide) rfl rf_13_11 ?_
                refine pw_iload_n 1 rfl rfl 121 dX6_guest_120 rfl ?_
                obtain ⟨h7, h⟩ := gd_e h
                refine pw_iald 122 dX6_guest_121 rfl la_18 ly_18 h7 ?_
                exact pw_iret dX6_guest_122 ⟨Option.some.inj h, rfl⟩
              · have h := if_f h c9_5
                by_cases c9_6 : x2 = (6 : Int32)
                · have h := if_t h c9_6
                  refine pw_tableIn 123 dX6_guest_15 (by rw [c9_6]; decide) (by rw [c9_6]; decide) (by rw [c9_6]; rfl) (by decide) ?_
                  refine pw_aload_n 0 rfl rfl 124 dX6_guest_123 rfl ?_
                  refine pw_getR 2 127 dX6_guest_124 rfl fi_X6_guest_6 lk_X6_guest_25 la_0 ly_0 (by decide) rfl (by decide) rfl rf_0_2 ?_
                  refine pw_iload_n 1 rfl rfl 128 dX6_guest_127 rfl ?_
                  obtain ⟨r8, hr8, h⟩ := bd1_e h
                  refine pw_callVi 131 dX6_guest_128 rfl [.int x1] 1 ⟨gX6_guest_X5_sheds, rfl, sgV_X5_sheds, ⟨Nat.le_of_ble_eq_true rfl, Nat.le_of_ble_eq_true rfl⟩, ⟨Nat.le_refl _, Nat.le_refl _⟩⟩ ly_13 (by decide) la_13 rfl (k_X5_sheds isW_13 hr8) rfl rfl (Nat.le_of_ble_eq_true rfl) ?_
                  exact pw_iret dX6_guest_131 ⟨Option.some.inj h, rfl⟩
                · have h := if_f h c9_6
                  have c9_0_i : ¬ x2.toInt = 0 := fun e => c9_0 (Int32.toInt_inj.mp (e.trans rfl))
                  have c9_1_i : ¬ x2.toInt = 1 := fun e => c9_1 (Int32.toInt_inj.mp (e.trans rfl))
                  have c9_2_i : ¬ x2.toInt = 2 := fun e => c9_2 (Int32.toInt_inj.mp (e.trans rfl))
                  have c9_3_i : ¬ x2.toInt = 3 := fun e => c9_3 (Int32.toInt_inj.mp (e.trans rfl))
                  have c9_4_i : ¬ x2.toInt = 4 := fun e => c9_4 (Int32.toInt_inj.mp (e.trans rfl))
                  have c9_5_i : ¬ x2.toInt = 5 := fun e => c9_5 (Int32.toInt_inj.mp (e.trans rfl))
                  have c9_6_i : ¬ x2.toInt = 6 := fun e => c9_6 (Int32.toInt_inj.mp (e.trans rfl))
                  refine pw_tableOut 132 dX6_guest_15 (by omega) (by decide) ?_
                  refine pw_ldc 134 lw_X6_guest_c63 dX6_guest_132 rfl ?_
                  exact pw_iret dX6_guest_134 ⟨Option.some.inj h, rfl⟩
  · have h := if_t h c1
    refine pw_ldc 13 lw_X6_guest_c63 dX6_guest_11 rfl ?_
    exact pw_iret dX6_guest_13 ⟨Option.some.inj h, rfl⟩
theorem fi_X6_seat_6 : ∀ w ∈ wsX60, w ∈ wsX6_seat := by decide +kernel
theorem lk_X6_seat_25 : Cond.fieldLink RX6 25 (TX6 2).1 (TX6 2).2.1 (TX6 2).2.2.1 ∈ wsX6_seat := by decide +kernel
theorem lw_X6_seat_c63 : Cond.constant RX6 63 (-1000001 : Int32) ∈ wsX6_seat := by decide +kernel
theorem fi_X6_seat_5 : ∀ w ∈ wsX50, w ∈ wsX6_seat := by decide +kernel
theorem lk_X6_seat_189 : Cond.fieldLink RX6 189 (TX5 13).1 (TX5 13).2.1 (TX5 13).2.2.1 ∈ wsX6_seat := by decide +kernel
set_option maxHeartbeats 4000000 in
set_option maxRecDepth 100000 in
theorem k_X6_seat {l : Launch} {G : Gx} {x1 : Int32} {m : Mm} {r : Int32}  (h : f_X6_seat x1 m = some r) : Cn l G 1 yX6_seat wsX6_seat [.ref (G.1 + 0), .int x1] m (Qi G r m) := by
  unfold f_X6_seat at h
  refine Cn.of (own := RX6) (lv := [(0, .ref (G.1 + 0)), (1, .int x1)]) (by decide) rfl rfl (Nat.le_of_ble_eq_true rfl) rfl ?_
  refine pw_aload_n 0 rfl rfl 1 dX6_seat_0 rfl ?_
  refine pw_getR 2 4 dX6_seat_1 rfl fi_X6_seat_6 lk_X6_seat_25 la_0 ly_0 (by decide) rfl (by decide) rfl rf_0_2 ?_
  refine pw_iload_n 1 rfl rfl 5 dX6_seat_4 rfl ?_
  refine pw_callVi 8 dX6_seat_5 rfl [.int x1] 1 ⟨gX6_seat_X5_has, rfl, sgV_X5_has, ⟨Nat.le_of_ble_eq_true rfl, Nat.le_of_ble_eq_true rfl⟩, ⟨Nat.le_refl _, Nat.le_refl _⟩⟩ ly_13 (by decide) la_13 rfl (k_X5_has isW_13 rfl) rfl rfl (Nat.le_of_ble_eq_true rfl) ?_
  refine pw_if_eq 23 11 dX6_seat_8 (by decide) rfl (fun c1 => ?_) (fun c1 => ?_)
  · have h := if_t h c1
    refine pw_ldc 25 lw_X6_seat_c63 dX6_seat_23 rfl ?_
    exact pw_iret dX6_seat_25 ⟨Option.some.inj h, rfl⟩
  · have h := if_f h c1
    refine pw_aload_n 0 rfl rfl 12 dX6_seat_11 rfl ?_
    refine pw_getR 2 15 dX6_seat_12 rfl fi_X6_seat_6 lk_X6_seat_25 la_0 ly_0 (by decide) rfl (by decide) rfl rf_0_2 ?_
    refine pw_getR 13 18 dX6_seat_15 rfl fi_X6_seat_5 lk_X6_seat_189 la_13 ly_13 (by decide) rfl (by decide) rfl rf_13_13 ?_
    refine pw_iload_n 1 rfl rfl 19 dX6_seat_18 rfl ?_
    obtain ⟨h2, h⟩ := gd_e h
    refine pw_iald 20 dX6_seat_19 rfl la_20 ly_20 h2 ?_
    refine pw_goto 25 dX6_seat_20 (by decide) ?_
    exact pw_iret dX6_seat_25 ⟨Option.some.inj h, rfl⟩
set_option maxHeartbeats 4000000 in
set_option maxRecDepth 100000 in
theorem k_X6_isWithin {l : Launch} {G : Gx} {x0 : Int32} {x1 : Int32} {x2 : Int32} {m : Mm} {r : Int32}  (h : f_X6_isWithin x0 x1 x2 = r) : Cn l G 0 yX6_isWithin wsX6_isWithin [.int x0, .int x1, .int x2] m (Qi G r m) := by
  unfold f_X6_isWithin at h
  refine Cn.of (own := RX6) (lv := [(0, .int x0), (1, .int x1), (2, .int x2)]) (by decide) rfl rfl (Nat.le_of_ble_eq_true rfl) rfl ?_
  refine pw_iload_n 0 rfl rfl 1 dX6_isWithin_0 rfl ?_
  refine pw_iload_n 1 rfl rfl 2 dX6_isWithin_1 rfl ?_
  refine pw_icmp_lt 14 5 dX6_isWithin_2 (by decide) rfl (fun c1 => ?_) (fun c1 => ?_)
  · have h := if_t h c1
    refine pw_iconst (v := (0 : Int32)) (by decide) 15 dX6_isWithin_14 rfl ?_
    exact pw_zret dX6_isWithin_15 (by decide) ⟨h, rfl⟩
  · have h := if_f h c1
    refine pw_iload_n 0 rfl rfl 6 dX6_isWithin_5 rfl ?_
    refine pw_iload_n 2 rfl rfl 7 dX6_isWithin_6 rfl ?_
    refine pw_icmp_gt 14 10 dX6_isWithin_7 (by decide) rfl (fun c2 => ?_) (fun c2 => ?_)
    · have h := if_t h c2
      refine pw_iconst (v := (0 : Int32)) (by decide) 15 dX6_isWithin_14 rfl ?_
      exact pw_zret dX6_isWithin_15 (by decide) ⟨h, rfl⟩
    · have h := if_f h c2
      refine pw_iconst (v := (1 : Int32)) (by decide) 11 dX6_isWithin_10 rfl ?_
      refine pw_goto 15 dX6_isWithin_11 (by decide) ?_
      exact pw_zret dX6_isWithin_15 (by decide) ⟨h, rfl⟩
set_option maxHeartbeats 4000000 in
set_option maxRecDepth 100000 in
theorem k_X6_isFlag {l : Launch} {G : Gx} {x0 : Int32} {m : Mm} {r : Int32}  (h : f_X6_isFlag x0 = r) : Cn l G 0 yX6_isFlag wsX6_isFlag [.int x0] m (Qi G r m) := by
  unfold f_X6_isFlag at h
  refine Cn.of (own := RX6) (lv := [(0, .int x0)]) (by decide) rfl rfl (Nat.le_of_ble_eq_true rfl) rfl ?_
  refine pw_iload_n 0 rfl rfl 1 dX6_isFlag_0 rfl ?_
  refine pw_if_eq 9 4 dX6_isFlag_1 (by decide) rfl (fun c1 => ?_) (fun c1 => ?_)
  · have h := if_t h c1
    refine pw_iconst (v := (1 : Int32)) (by decide) 10 dX6_isFlag_9 rfl ?_
    refine pw_goto 14 dX6_isFlag_10 (by decide) ?_
    exact pw_zret dX6_isFlag_14 (by decide) ⟨h, rfl⟩
  · have h := if_f h c1
    refine pw_iload_n 0 rfl rfl 5 dX6_isFlag_4 rfl ?_
    refine pw_iconst (v := (1 : Int32)) (by decide) 6 dX6_isFlag_5 rfl ?_
    refine pw_icmp_ne 13 9 dX6_isFlag_6 (by decide) rfl (fun c2 => ?_) (fun c2 => ?_)
    · have h := if_f h c2
      refine pw_iconst (v := (0 : Int32)) (by decide) 14 dX6_isFlag_13 rfl ?_
      exact pw_zret dX6_isFlag_14 (by decide) ⟨h, rfl⟩
    · have h := if_t h c2
      refine pw_iconst (v := (1 : Int32)) (by decide) 10 dX6_isFlag_9 rfl ?_
      refine pw_goto 14 dX6_isFlag_10 (by decide) ?_
      exact pw_zret dX6_isFlag_14 (by decide) ⟨h, rfl⟩
set_option maxHeartbeats 4000000 in
set_option maxRecDepth 100000 in
theorem kl_X5_run_2 {l : Launch} {G : Gx} {w0 : Nat}  {mF : Mm} (hw0 : IsW w0) : ∀ (n : Nat) (y1 : Int32) (y2 : Int32) (m : Mm) (a0 : Mm), lp_X5_run_2 w0 n y1 y2 m = some a0 → PW G (KM l G RX5 cX5_run 3 none wsX5_run 3 (Qv G mF)) 17 [] [] a0 → PW G (KM l G RX5 cX5_run 3 none wsX5_run 3 (Qv G mF)) 2 [(0, .ref (G.1 + w0)), (1, .int y1), (2, .int y2)] [] m := by
  intro n
  induction n with
  | zero => intro y1 y2 m a0 h hk; cases h
  | succ n ih =>
    intro y1 y2 m a0 h hk
    have h : lb_X5_run_2 (lp_X5_run_2 w0 n) w0 y1 y2 m = _ := h
    unfold lb_X5_run_2 at h
    refine pw_iload_n 2 rfl rfl 3 dX5_run_2 rfl ?_
    refine pw_iload_n 1 rfl rfl 4 dX5_run_3 rfl ?_
    refine pw_icmp_ge 17 7 dX5_run_4 (by decide) rfl (fun c1 => ?_) (fun c1 => ?_)
    · have h := if_t h c1
      refine pw_sub [] [] rfl ?_
      cases h; exact hk
    · have h := if_f h c1
      refine pw_aload_n 0 rfl rfl 8 dX5_run_7 rfl ?_
      obtain ⟨m2, hm2, h⟩ := bd1_e h
      refine pw_callVv 11 dX5_run_8 rfl [] 0 ⟨gX5_run_X5_pass, rfl, sgV_X5_pass, ⟨Nat.le_of_ble_eq_true rfl, Nat.le_of_ble_eq_true rfl⟩, ⟨Nat.le_refl _, Nat.le_refl _⟩⟩ hw0.o (by decide) hw0.lt rfl (k_X5_pass hw0 hm2) rfl rfl (Nat.le_of_ble_eq_true rfl) ?_
      obtain ⟨v3, ev3, h⟩ := nmE_ h
      refine pw_iinc 2 rfl (by rw [ev3]; rfl) [(2, .int v3), (0, .ref (G.1 + w0)), (1, .int y1)] 14 dX5_run_11 rfl (Nat.le_of_ble_eq_true rfl) rfl ?_
      refine pw_goto 2 dX5_run_14 (by decide) ?_
      refine pw_sub [1, 2, 0] [(0, .ref (G.1 + w0)), (1, .int y1), (2, .int v3)] rfl ?_
      exact ih y1 v3 m2 a0 h hk
set_option maxHeartbeats 4000000 in
set_option maxRecDepth 100000 in
theorem k_X5_run {l : Launch} {G : Gx} {w0 : Nat} {x1 : Int32} {m mF : Mm}  (hw0 : IsW w0) (h : f_X5_run w0 x1 m = some mF) : Cn l G 3 yX5_run wsX5_run [.ref (G.1 + w0), .int x1] m (Qv G mF) := by
  unfold f_X5_run at h
  refine Cn.of (own := RX5) (lv := [(0, .ref (G.1 + w0)), (1, .int x1)]) (by decide) rfl rfl (Nat.le_of_ble_eq_true rfl) rfl ?_
  refine pw_iconst (v := (0 : Int32)) (by decide) 1 dX5_run_0 rfl ?_
  refine pw_istore_n (hf := rfl) [(2, .int (0 : Int32)), (0, .ref (G.1 + w0)), (1, .int x1)] 2 dX5_run_1 rfl (Nat.le_of_ble_eq_true rfl) rfl ?_
  obtain ⟨m4, h5, h⟩ := bd1_e h
  have hL2_h5 : PW G (KM l G RX5 cX5_run 3 none wsX5_run 3 (Qv G mF)) 17 [] [] m4 := by
    exact pw_vret dX5_run_17 (Option.some.inj h)
  refine pw_sub [1, 2, 0] [(0, .ref (G.1 + w0)), (1, .int x1), (2, .int (0 : Int32))] rfl ?_
  exact kl_X5_run_2 hw0 FU x1 (0 : Int32) m m4 h5 hL2_h5
theorem fi_X1_after_1 : ∀ w ∈ wsX10, w ∈ wsX1_after := by decide +kernel
theorem lk_X1_after_12 : Cond.fieldLink RX1 12 (TX1 0).1 (TX1 0).2.1 (TX1 0).2.2.1 ∈ wsX1_after := by decide +kernel
set_option maxHeartbeats 4000000 in
set_option maxRecDepth 100000 in
theorem k_X1_after {l : Launch} {G : Gx} {w1 : Nat} {x2 : Int32} {m mF : Mm}  (hw1 : IsW w1) (h : f_X1_after w1 x2 m = some mF) : Cn l G 4 yX1_after wsX1_after [.ref (G.1 + 240), .ref (G.1 + w1), .int x2] m (Qr G 241 mF) := by
  unfold f_X1_after at h
  refine Cn.of (own := RX1) (lv := [(0, .ref (G.1 + 240)), (1, .ref (G.1 + w1)), (2, .int x2)]) (by decide) rfl rfl (Nat.le_of_ble_eq_true rfl) rfl ?_
  refine pw_aload_n 0 rfl rfl 1 dX1_after_0 rfl ?_
  refine pw_getR 0 4 dX1_after_1 rfl fi_X1_after_1 lk_X1_after_12 la_240 ly_240 (by decide) rfl (by decide) rfl rf_240_0 ?_
  refine pw_aload_n 1 rfl rfl 5 dX1_after_4 rfl ?_
  obtain ⟨m1, hm1, h⟩ := bd1_e h
  refine pw_callVv 8 dX1_after_5 rfl [.ref (G.1 + w1)] 1 ⟨gX1_after_X5_become, rfl, sgV_X5_become, ⟨Nat.le_of_ble_eq_true rfl, Nat.le_of_ble_eq_true rfl⟩, ⟨Nat.le_refl _, Nat.le_refl _⟩⟩ ly_241 (by decide) la_241 rfl (k_X5_become isW_241 hw1 hm1) rfl rfl (Nat.le_of_ble_eq_true rfl) ?_
  refine pw_aload_n 0 rfl rfl 9 dX1_after_8 rfl ?_
  refine pw_getR 0 12 dX1_after_9 rfl fi_X1_after_1 lk_X1_after_12 la_240 ly_240 (by decide) rfl (by decide) rfl rf_240_0 ?_
  refine pw_iload_n 2 rfl rfl 13 dX1_after_12 rfl ?_
  obtain ⟨m2, hm2, h⟩ := bd1_e h
  refine pw_callVv 16 dX1_after_13 rfl [.int x2] 1 ⟨gX1_after_X5_run, rfl, sgV_X5_run, ⟨Nat.le_of_ble_eq_true rfl, Nat.le_of_ble_eq_true rfl⟩, ⟨Nat.le_refl _, Nat.le_refl _⟩⟩ ly_241 (by decide) la_241 rfl (k_X5_run isW_241 hm2) rfl rfl (Nat.le_of_ble_eq_true rfl) ?_
  refine pw_aload_n 0 rfl rfl 17 dX1_after_16 rfl ?_
  refine pw_getR 0 20 dX1_after_17 rfl fi_X1_after_1 lk_X1_after_12 la_240 ly_240 (by decide) rfl (by decide) rfl rf_240_0 ?_
  exact pw_aret dX1_after_20 ⟨rfl, Option.some.inj h⟩
theorem fi_X6_ahead_6 : ∀ w ∈ wsX60, w ∈ wsX6_ahead := by decide +kernel
theorem lk_X6_ahead_25 : Cond.fieldLink RX6 25 (TX6 2).1 (TX6 2).2.1 (TX6 2).2.2.1 ∈ wsX6_ahead := by decide +kernel
theorem lw_X6_ahead_c63 : Cond.constant RX6 63 (-1000001 : Int32) ∈ wsX6_ahead := by decide +kernel
theorem lk_X6_ahead_39 : Cond.fieldLink RX6 39 (TX6 4).1 (TX6 4).2.1 (TX6 4).2.2.1 ∈ wsX6_ahead := by decide +kernel
theorem fi_X6_ahead_5 : ∀ w ∈ wsX50, w ∈ wsX6_ahead := by decide +kernel
theorem lk_X6_ahead_177 : Cond.fieldLink RX6 177 (TX5 10).1 (TX5 10).2.1 (TX5 10).2.2.1 ∈ wsX6_ahead := by decide +kernel
theorem lk_X6_ahead_183 : Cond.fieldLink RX6 183 (TX5 11).1 (TX5 11).2.1 (TX5 11).2.2.1 ∈ wsX6_ahead := by decide +kernel
set_option maxHeartbeats 4000000 in
set_option maxRecDepth 100000 in
theorem k_X6_ahead {l : Launch} {G : Gx} {x1 : Int32} {x2 : Int32} {x3 : Int32} {m mF : Mm} {r : Int32}  (h : f_X6_ahead x1 x2 x3 m = some (r, mF)) : Cn l G 5 yX6_ahead wsX6_ahead [.ref (G.1 + 0), .int x1, .int x2, .int x3] m (Qi G r mF) := by
  unfold f_X6_ahead at h
  refine Cn.of (own := RX6) (lv := [(0, .ref (G.1 + 0)), (1, .int x1), (2, .int x2), (3, .int x3)]) (by decide) rfl rfl (Nat.le_of_ble_eq_true rfl) rfl ?_
  refine pw_aload_n 0 rfl rfl 1 dX6_ahead_0 rfl ?_
  refine pw_getR 2 4 dX6_ahead_1 rfl fi_X6_ahead_6 lk_X6_ahead_25 la_0 ly_0 (by decide) rfl (by decide) rfl rf_0_2 ?_
  refine pw_iload_n 1 rfl rfl 5 dX6_ahead_4 rfl ?_
  refine pw_callVi 8 dX6_ahead_5 rfl [.int x1] 1 ⟨gX6_ahead_X5_has, rfl, sgV_X5_has, ⟨Nat.le_of_ble_eq_true rfl, Nat.le_of_ble_eq_true rfl⟩, ⟨Nat.le_refl _, Nat.le_refl _⟩⟩ ly_13 (by decide) la_13 rfl (k_X5_has isW_13 rfl) rfl rfl (Nat.le_of_ble_eq_true rfl) ?_
  refine pw_if_eq 28 11 dX6_ahead_8 (by decide) rfl (fun c1 => ?_) (fun c1 => ?_)
  · have h := if_t h c1
    refine pw_ldc 30 lw_X6_ahead_c63 dX6_ahead_28 rfl ?_
    exact pw_iret dX6_ahead_30 (pr_inj h)
  · have h := if_f h c1
    refine pw_iload_n 2 rfl rfl 12 dX6_ahead_11 rfl ?_
    refine pw_iconst (v := (0 : Int32)) (by decide) 13 dX6_ahead_12 rfl ?_
    refine pw_bipush (v := (60 : Int32)) (by decide) 15 dX6_ahead_13 rfl ?_
    refine pw_callSi 18 dX6_ahead_15 rfl [.int x2, .int (0 : Int32), .int (60 : Int32)] 3 ⟨gX6_ahead_X6_isWithin, rfl, sgS_X6_isWithin, ⟨Nat.le_of_ble_eq_true rfl, Nat.le_of_ble_eq_true rfl⟩, ⟨Nat.le_refl _, Nat.le_refl _⟩⟩ (k_X6_isWithin rfl) rfl rfl (Nat.le_of_ble_eq_true rfl) ?_
    refine pw_if_eq 28 21 dX6_ahead_18 (by decide) rfl (fun c2 => ?_) (fun c2 => ?_)
    · have h := if_t h c2
      refine pw_ldc 30 lw_X6_ahead_c63 dX6_ahead_28 rfl ?_
      exact pw_iret dX6_ahead_30 (pr_inj h)
    · have h := if_f h c2
      refine pw_iload_n 3 rfl rfl 22 dX6_ahead_21 rfl ?_
      refine pw_callSi 25 dX6_ahead_22 rfl [.int x3] 1 ⟨gX6_ahead_X6_isFlag, rfl, sgS_X6_isFlag, ⟨Nat.le_of_ble_eq_true rfl, Nat.le_of_ble_eq_true rfl⟩, ⟨Nat.le_refl _, Nat.le_refl _⟩⟩ (k_X6_isFlag rfl) rfl rfl (Nat.le_of_ble_eq_true rfl) ?_
      refine pw_if_ne 31 28 dX6_ahead_25 (by decide) rfl (fun c3 => ?_) (fun c3 => ?_)
      · have h := if_f h c3
        refine pw_aload_n 0 rfl rfl 32 dX6_ahead_31 rfl ?_
        refine pw_getR 4 35 dX6_ahead_32 rfl fi_X6_ahead_6 lk_X6_ahead_39 la_0 ly_0 (by decide) rfl (by decide) rfl rf_0_4 ?_
        refine pw_aload_n 0 rfl rfl 36 dX6_ahead_35 rfl ?_
        refine pw_getR 2 39 dX6_ahead_36 rfl fi_X6_ahead_6 lk_X6_ahead_25 la_0 ly_0 (by decide) rfl (by decide) rfl rf_0_2 ?_
        refine pw_iload_n 2 rfl rfl 40 dX6_ahead_39 rfl ?_
        obtain ⟨m4, hm4, h⟩ := bd1_e h
        refine pw_callVr 43 dX6_ahead_40 rfl [.ref (G.1 + 13), .int x2] 2 ⟨gX6_ahead_X1_after, rfl, sgV_X1_after, ⟨Nat.le_of_ble_eq_true rfl, Nat.le_of_ble_eq_true rfl⟩, ⟨Nat.le_refl _, Nat.le_refl _⟩⟩ ly_240 (by decide) la_240 rfl (k_X1_after isW_13 hm4) rfl rfl (Nat.le_of_ble_eq_true rfl) ?_
        refine pw_astore [(4, .ref (G.1 + 241)), (0, .ref (G.1 + 0)), (1, .int x1), (2, .int x2), (3, .int x3)] 45 dX6_ahead_43 rfl (Nat.le_of_ble_eq_true rfl) rfl ?_
        refine pw_iload_n 4 rfl rfl 46 dX6_ahead_45 rfl ?_
        refine pw_if_ne 59 49 dX6_ahead_46 (by decide) rfl (fun c6 => ?_) (fun c6 => ?_)
        · have h := if_f h c6
          refine pw_aload 0 rfl 61 dX6_ahead_59 rfl ?_
          refine pw_getR 10 64 dX6_ahead_61 rfl fi_X6_ahead_5 lk_X6_ahead_177 la_241 ly_241 (by decide) rfl (by decide) rfl rf_241_10 ?_
          refine pw_iload_n 2 rfl rfl 65 dX6_ahead_64 rfl ?_
          obtain ⟨h7, h⟩ := gd_e h
          refine pw_iald 66 dX6_ahead_65 rfl la_245 ly_245 h7 ?_
          exact pw_iret dX6_ahead_66 (pr_inj h)
        · have h := if_t h c6
          refine pw_aload 0 rfl 51 dX6_ahead_49 rfl ?_
          refine pw_getR 11 54 dX6_ahead_51 rfl fi_X6_ahead_5 lk_X6_ahead_183 la_241 ly_241 (by decide) rfl (by decide) rfl rf_241_11 ?_
          refine pw_iload_n 2 rfl rfl 55 dX6_ahead_54 rfl ?_
          obtain ⟨h8, h⟩ := gd_e h
          refine pw_iald 56 dX6_ahead_55 rfl la_246 ly_246 h8 ?_
          refine pw_goto 66 dX6_ahead_56 (by decide) ?_
          exact pw_iret dX6_ahead_66 (pr_inj h)
      · have h := if_t h c3
        refine pw_ldc 30 lw_X6_ahead_c63 dX6_ahead_28 rfl ?_
        exact pw_iret dX6_ahead_30 (pr_inj h)
theorem lw_X6_bottle_c63 : Cond.constant RX6 63 (-1000001 : Int32) ∈ wsX6_bottle := by decide +kernel
theorem fi_X6_bottle_6 : ∀ w ∈ wsX60, w ∈ wsX6_bottle := by decide +kernel
theorem lk_X6_bottle_39 : Cond.fieldLink RX6 39 (TX6 4).1 (TX6 4).2.1 (TX6 4).2.2.1 ∈ wsX6_bottle := by decide +kernel
theorem lk_X6_bottle_25 : Cond.fieldLink RX6 25 (TX6 2).1 (TX6 2).2.1 (TX6 2).2.2.1 ∈ wsX6_bottle := by decide +kernel
theorem fi_X6_bottle_5 : ∀ w ∈ wsX50, w ∈ wsX6_bottle := by decide +kernel
theorem lk_X6_bottle_203 : Cond.fieldLink RX6 203 (TX5 5).1 (TX5 5).2.1 (TX5 5).2.2.1 ∈ wsX6_bottle := by decide +kernel
theorem lk_X6_bottle_145 : Cond.fieldLink RX6 145 (TX5 4).1 (TX5 4).2.1 (TX5 4).2.2.1 ∈ wsX6_bottle := by decide +kernel
theorem lw_X6_bottle_c135 : Cond.constant RX6 135 (-1000002 : Int32) ∈ wsX6_bottle := by decide +kernel
set_option maxHeartbeats 4000000 in
set_option maxRecDepth 100000 in
theorem k_X6_bottle {l : Launch} {G : Gx} {x1 : Int32} {x2 : Int32} {m mF : Mm} {r : Int32}  (h : f_X6_bottle x1 x2 m = some (r, mF)) : Cn l G 5 yX6_bottle wsX6_bottle [.ref (G.1 + 0), .int x1, .int x2] m (Qi G r mF) := by
  unfold f_X6_bottle at h
  refine Cn.of (own := RX6) (lv := [(0, .ref (G.1 + 0)), (1, .int x1), (2, .int x2)]) (by decide) rfl rfl (Nat.le_of_ble_eq_true rfl) rfl ?_
  refine pw_aload_n 0 rfl rfl 1 dX6_bottle_0 rfl ?_
  refine pw_callVi 4 dX6_bottle_1 rfl [] 0 ⟨gX6_bottle_X6_isNone, rfl, sgV_X6_isNone, ⟨Nat.le_of_ble_eq_true rfl, Nat.le_of_ble_eq_true rfl⟩, ⟨Nat.le_refl _, Nat.le_refl _⟩⟩ ly_0 (by decide) la_0 rfl (k_X6_isNone rfl) rfl rfl (Nat.le_of_ble_eq_true rfl) ?_
  refine pw_if_eq 10 7 dX6_bottle_4 (by decide) rfl (fun c1 => ?_) (fun c1 => ?_)
  · have h := if_t h c1
    refine pw_iload_n 1 rfl rfl 11 dX6_bottle_10 rfl ?_
    refine pw_iconst (v := (0 : Int32)) (by decide) 12 dX6_bottle_11 rfl ?_
    refine pw_bipush (v := (60 : Int32)) (by decide) 14 dX6_bottle_12 rfl ?_
    refine pw_callSi 17 dX6_bottle_14 rfl [.int x1, .int (0 : Int32), .int (60 : Int32)] 3 ⟨gX6_bottle_X6_isWithin, rfl, sgS_X6_isWithin, ⟨Nat.le_of_ble_eq_true rfl, Nat.le_of_ble_eq_true rfl⟩, ⟨Nat.le_refl _, Nat.le_refl _⟩⟩ (k_X6_isWithin rfl) rfl rfl (Nat.le_of_ble_eq_true rfl) ?_
    refine pw_if_eq 27 20 dX6_bottle_17 (by decide) rfl (fun c2 => ?_) (fun c2 => ?_)
    · have h := if_t h c2
      refine pw_ldc 29 lw_X6_bottle_c63 dX6_bottle_27 rfl ?_
      exact pw_iret dX6_bottle_29 (pr_inj h)
    · have h := if_f h c2
      refine pw_iload_n 2 rfl rfl 21 dX6_bottle_20 rfl ?_
      refine pw_callSi 24 dX6_bottle_21 rfl [.int x2] 1 ⟨gX6_bottle_X6_isFlag, rfl, sgS_X6_isFlag, ⟨Nat.le_of_ble_eq_true rfl, Nat.le_of_ble_eq_true rfl⟩, ⟨Nat.le_refl _, Nat.le_refl _⟩⟩ (k_X6_isFlag rfl) rfl rfl (Nat.le_of_ble_eq_true rfl) ?_
      refine pw_if_ne 30 27 dX6_bottle_24 (by decide) rfl (fun c3 => ?_) (fun c3 => ?_)
      · have h := if_f h c3
        refine pw_aload_n 0 rfl rfl 31 dX6_bottle_30 rfl ?_
        refine pw_getR 4 34 dX6_bottle_31 rfl fi_X6_bottle_6 lk_X6_bottle_39 la_0 ly_0 (by decide) rfl (by decide) rfl rf_0_4 ?_
        refine pw_aload_n 0 rfl rfl 35 dX6_bottle_34 rfl ?_
        refine pw_getR 2 38 dX6_bottle_35 rfl fi_X6_bottle_6 lk_X6_bottle_25 la_0 ly_0 (by decide) rfl (by decide) rfl rf_0_2 ?_
        refine pw_iload_n 1 rfl rfl 39 dX6_bottle_38 rfl ?_
        obtain ⟨m4, hm4, h⟩ := bd1_e h
        refine pw_callVr 42 dX6_bottle_39 rfl [.ref (G.1 + 13), .int x1] 2 ⟨gX6_bottle_X1_after, rfl, sgV_X1_after, ⟨Nat.le_of_ble_eq_true rfl, Nat.le_of_ble_eq_true rfl⟩, ⟨Nat.le_refl _, Nat.le_refl _⟩⟩ ly_240 (by decide) la_240 rfl (k_X1_after isW_13 hm4) rfl rfl (Nat.le_of_ble_eq_true rfl) ?_
        refine pw_astore_n (hf := rfl) [(3, .ref (G.1 + 241)), (0, .ref (G.1 + 0)), (1, .int x1), (2, .int x2)] 43 dX6_bottle_42 rfl (Nat.le_of_ble_eq_true rfl) rfl ?_
        refine pw_iload_n 3 rfl rfl 44 dX6_bottle_43 rfl ?_
        refine pw_if_ne 54 47 dX6_bottle_44 (by decide) rfl (fun c6 => ?_) (fun c6 => ?_)
        · have h := if_f h c6
          refine pw_aload_n 0 rfl rfl 55 dX6_bottle_54 rfl ?_
          refine pw_getI 5 58 dX6_bottle_55 rfl fi_X6_bottle_5 lk_X6_bottle_203 la_241 ly_241 (by decide) rfl (by decide) rfl ?_
          exact pw_iret dX6_bottle_58 (pr_inj h)
        · have h := if_t h c6
          refine pw_aload_n 0 rfl rfl 48 dX6_bottle_47 rfl ?_
          refine pw_getI 4 51 dX6_bottle_48 rfl fi_X6_bottle_5 lk_X6_bottle_145 la_241 ly_241 (by decide) rfl (by decide) rfl ?_
          refine pw_goto 58 dX6_bottle_51 (by decide) ?_
          exact pw_iret dX6_bottle_58 (pr_inj h)
      · have h := if_t h c3
        refine pw_ldc 29 lw_X6_bottle_c63 dX6_bottle_27 rfl ?_
        exact pw_iret dX6_bottle_29 (pr_inj h)
  · have h := if_f h c1
    refine pw_ldc 9 lw_X6_bottle_c135 dX6_bottle_7 rfl ?_
    exact pw_iret dX6_bottle_9 (pr_inj h)
theorem fi_X5_isFull_5 : ∀ w ∈ wsX50, w ∈ wsX5_isFull := by decide +kernel
theorem lk_X5_isFull_43 : Cond.fieldLink RX5 43 (TX5 4).1 (TX5 4).2.1 (TX5 4).2.2.1 ∈ wsX5_isFull := by decide +kernel
theorem lk_X5_isFull_46 : Cond.fieldLink RX5 46 (TX5 1).1 (TX5 1).2.1 (TX5 1).2.2.1 ∈ wsX5_isFull := by decide +kernel
set_option maxHeartbeats 4000000 in
set_option maxRecDepth 100000 in
theorem k_X5_isFull {l : Launch} {G : Gx} {w0 : Nat} {m : Mm} {r : Int32} (hw0 : IsW w0) (h : f_X5_isFull w0 m = r) : Cn l G 0 yX5_isFull wsX5_isFull [.ref (G.1 + w0)] m (Qi G r m) := by
  unfold f_X5_isFull at h
  refine Cn.of (own := RX5) (lv := [(0, .ref (G.1 + w0))]) (by decide) rfl rfl (Nat.le_of_ble_eq_true rfl) rfl ?_
  refine pw_aload_n 0 rfl rfl 1 dX5_isFull_0 rfl ?_
  refine pw_getI 4 4 dX5_isFull_1 rfl fi_X5_isFull_5 lk_X5_isFull_43 hw0.lt hw0.o (by decide) rfl (by decide) rfl ?_
  refine pw_aload_n 0 rfl rfl 5 dX5_isFull_4 rfl ?_
  refine pw_getI 1 8 dX5_isFull_5 rfl fi_X5_isFull_5 lk_X5_isFull_46 hw0.lt hw0.o (by decide) rfl (by decide) rfl ?_
  refine pw_icmp_lt 15 11 dX5_isFull_8 (by decide) rfl (fun c1 => ?_) (fun c1 => ?_)
  · have h := if_t h c1
    refine pw_iconst (v := (0 : Int32)) (by decide) 16 dX5_isFull_15 rfl ?_
    exact pw_zret dX5_isFull_16 (by decide) ⟨h, rfl⟩
  · have h := if_f h c1
    refine pw_iconst (v := (1 : Int32)) (by decide) 12 dX5_isFull_11 rfl ?_
    refine pw_goto 16 dX5_isFull_12 (by decide) ?_
    exact pw_zret dX5_isFull_16 (by decide) ⟨h, rfl⟩
theorem fi_X1_minutesToFull_1 : ∀ w ∈ wsX10, w ∈ wsX1_minutesToFull := by decide +kernel
theorem lk_X1_minutesToFull_12 : Cond.fieldLink RX1 12 (TX1 0).1 (TX1 0).2.1 (TX1 0).2.2.1 ∈ wsX1_minutesToFull := by decide +kernel
theorem lw_X1_minutesToFull_c44 : Cond.constant RX1 44 (-1000000 : Int32) ∈ wsX1_minutesToFull := by decide +kernel
set_option maxHeartbeats 4000000 in
set_option maxRecDepth 100000 in
theorem kl_X1_minutesToFull_10 {l : Launch} {G : Gx}  {r : Int32} {mF : Mm}  : ∀ (n : Nat) (y2 : Int32) (m : Mm) (res : ((Int32 × Mm) ⊕ Mm)), lp_X1_minutesToFull_10 n y2 m = some res → (∀ (a0 : Mm), res = .inr a0 → PW G (KM l G RX1 cX1_minutesToFull 3 (some .int) wsX1_minutesToFull 3 (Qi G r mF)) 41 [] [] a0) → (∀ rt, res = .inl rt → (rt.1 = r ∧ rt.2 = mF)) → PW G (KM l G RX1 cX1_minutesToFull 3 (some .int) wsX1_minutesToFull 3 (Qi G r mF)) 10 [(0, .ref (G.1 + 240)), (2, .int y2)] [] m := by
  intro n
  induction n with
  | zero => intro y2 m res h hk hr; cases h
  | succ n ih =>
    intro y2 m res h hk hr
    have h : lb_X1_minutesToFull_10 (lp_X1_minutesToFull_10 n) y2 m = _ := h
    unfold lb_X1_minutesToFull_10 at h
    refine pw_iload_n 1 rfl rfl 11 dX1_minutesToFull_10 rfl ?_
    refine pw_bipush (v := (60 : Int32)) (by decide) 13 dX1_minutesToFull_11 rfl ?_
    refine pw_icmp_gt 41 16 dX1_minutesToFull_13 (by decide) rfl (fun c2 => ?_) (fun c2 => ?_)
    · have h := if_t h c2
      refine pw_sub [] [] rfl ?_
      exact hk _ (Option.some.inj h).symm
    · have h := if_f h c2
      refine pw_aload_n 0 rfl rfl 17 dX1_minutesToFull_16 rfl ?_
      refine pw_getR 0 20 dX1_minutesToFull_17 rfl fi_X1_minutesToFull_1 lk_X1_minutesToFull_12 la_240 ly_240 (by decide) rfl (by decide) rfl rf_240_0 ?_
      refine pw_callVi 23 dX1_minutesToFull_20 rfl [] 0 ⟨gX1_minutesToFull_X5_isFull, rfl, sgV_X5_isFull, ⟨Nat.le_of_ble_eq_true rfl, Nat.le_of_ble_eq_true rfl⟩, ⟨Nat.le_refl _, Nat.le_refl _⟩⟩ ly_241 (by decide) la_241 rfl (k_X5_isFull isW_241 rfl) rfl rfl (Nat.le_of_ble_eq_true rfl) ?_
      refine pw_if_eq 28 26 dX1_minutesToFull_23 (by decide) rfl (fun c3 => ?_) (fun c3 => ?_)
      · have h := if_t h c3
        refine pw_aload_n 0 rfl rfl 29 dX1_minutesToFull_28 rfl ?_
        refine pw_getR 0 32 dX1_minutesToFull_29 rfl fi_X1_minutesToFull_1 lk_X1_minutesToFull_12 la_240 ly_240 (by decide) rfl (by decide) rfl rf_240_0 ?_
        obtain ⟨m4, hm4, h⟩ := bd1_e h
        refine pw_callVv 35 dX1_minutesToFull_32 rfl [] 0 ⟨gX1_minutesToFull_X5_pass, rfl, sgV_X5_pass, ⟨Nat.le_of_ble_eq_true rfl, Nat.le_of_ble_eq_true rfl⟩, ⟨Nat.le_refl _, Nat.le_refl _⟩⟩ ly_241 (by decide) la_241 rfl (k_X5_pass isW_241 hm4) rfl rfl (Nat.le_of_ble_eq_true rfl) ?_
        obtain ⟨v5, ev5, h⟩ := nmE_ h
        refine pw_iinc 1 rfl (by rw [ev5]; rfl) [(2, .int v5), (0, .ref (G.1 + 240))] 38 dX1_minutesToFull_35 rfl (Nat.le_of_ble_eq_true rfl) rfl ?_
        refine pw_goto 10 dX1_minutesToFull_38 (by decide) ?_
        refine pw_sub [1, 0] [(0, .ref (G.1 + 240)), (2, .int v5)] rfl ?_
        exact ih v5 m4 res h hk hr
      · have h := if_f h c3
        refine pw_iload_n 1 rfl rfl 27 dX1_minutesToFull_26 rfl ?_
        exact pw_iret dX1_minutesToFull_27 (hr _ (Option.some.inj h).symm)
set_option maxHeartbeats 4000000 in
set_option maxRecDepth 100000 in
theorem k_X1_minutesToFull {l : Launch} {G : Gx} {w1 : Nat} {m mF : Mm} {r : Int32} (hw1 : IsW w1) (h : f_X1_minutesToFull w1 m = some (r, mF)) : Cn l G 3 yX1_minutesToFull wsX1_minutesToFull [.ref (G.1 + 240), .ref (G.1 + w1)] m (Qi G r mF) := by
  unfold f_X1_minutesToFull at h
  refine Cn.of (own := RX1) (lv := [(0, .ref (G.1 + 240)), (1, .ref (G.1 + w1))]) (by decide) rfl rfl (Nat.le_of_ble_eq_true rfl) rfl ?_
  refine pw_aload_n 0 rfl rfl 1 dX1_minutesToFull_0 rfl ?_
  refine pw_getR 0 4 dX1_minutesToFull_1 rfl fi_X1_minutesToFull_1 lk_X1_minutesToFull_12 la_240 ly_240 (by decide) rfl (by decide) rfl rf_240_0 ?_
  refine pw_aload_n 1 rfl rfl 5 dX1_minutesToFull_4 rfl ?_
  obtain ⟨m1, hm1, h⟩ := bd1_e h
  refine pw_callVv 8 dX1_minutesToFull_5 rfl [.ref (G.1 + w1)] 1 ⟨gX1_minutesToFull_X5_become, rfl, sgV_X5_become, ⟨Nat.le_of_ble_eq_true rfl, Nat.le_of_ble_eq_true rfl⟩, ⟨Nat.le_refl _, Nat.le_refl _⟩⟩ ly_241 (by decide) la_241 rfl (k_X5_become isW_241 hw1 hm1) rfl rfl (Nat.le_of_ble_eq_true rfl) ?_
  refine pw_iconst (v := (0 : Int32)) (by decide) 9 dX1_minutesToFull_8 rfl ?_
  refine pw_istore_n (hf := rfl) [(2, .int (0 : Int32)), (0, .ref (G.1 + 240)), (1, .ref (G.1 + w1))] 10 dX1_minutesToFull_9 rfl (Nat.le_of_ble_eq_true rfl) rfl ?_
  rcases bdS1_e h with ⟨rt, h7, h⟩ | ⟨m6, h7, h⟩
  · refine pw_sub [1, 0] [(0, .ref (G.1 + 240)), (2, .int (0 : Int32))] rfl ?_
    exact kl_X1_minutesToFull_10 FU (0 : Int32) m1 _ h7 (fun _ e2 => by cases e2) (fun rt2 e2 => by cases e2; exact by cases h; exact ⟨rfl, rfl⟩)
  · have hL10_h7 : PW G (KM l G RX1 cX1_minutesToFull 3 (some .int) wsX1_minutesToFull 3 (Qi G r mF)) 41 [] [] m6 := by
      refine pw_ldc 43 lw_X1_minutesToFull_c44 dX1_minutesToFull_41 rfl ?_
      exact pw_iret dX1_minutesToFull_43 (pr_inj h)
    refine pw_sub [1, 0] [(0, .ref (G.1 + 240)), (2, .int (0 : Int32))] rfl ?_
    exact kl_X1_minutesToFull_10 FU (0 : Int32) m1 _ h7 (fun _ e2 => by cases e2; exact hL10_h7) (fun rt2 e2 => by cases e2)
theorem fi_X6_filled_6 : ∀ w ∈ wsX60, w ∈ wsX6_filled := by decide +kernel
theorem lk_X6_filled_39 : Cond.fieldLink RX6 39 (TX6 4).1 (TX6 4).2.1 (TX6 4).2.2.1 ∈ wsX6_filled := by decide +kernel
theorem lk_X6_filled_25 : Cond.fieldLink RX6 25 (TX6 2).1 (TX6 2).2.1 (TX6 2).2.2.1 ∈ wsX6_filled := by decide +kernel
theorem lw_X6_filled_c135 : Cond.constant RX6 135 (-1000002 : Int32) ∈ wsX6_filled := by decide +kernel
set_option maxHeartbeats 4000000 in
set_option maxRecDepth 100000 in
theorem k_X6_filled {l : Launch} {G : Gx}  {m mF : Mm} {r : Int32}  (h : f_X6_filled m = some (r, mF)) : Cn l G 4 yX6_filled wsX6_filled [.ref (G.1 + 0)] m (Qi G r mF) := by
  unfold f_X6_filled at h
  refine Cn.of (own := RX6) (lv := [(0, .ref (G.1 + 0))]) (by decide) rfl rfl (Nat.le_of_ble_eq_true rfl) rfl ?_
  refine pw_aload_n 0 rfl rfl 1 dX6_filled_0 rfl ?_
  refine pw_callVi 4 dX6_filled_1 rfl [] 0 ⟨gX6_filled_X6_isNone, rfl, sgV_X6_isNone, ⟨Nat.le_of_ble_eq_true rfl, Nat.le_of_ble_eq_true rfl⟩, ⟨Nat.le_refl _, Nat.le_refl _⟩⟩ ly_0 (by decide) la_0 rfl (k_X6_isNone rfl) rfl rfl (Nat.le_of_ble_eq_true rfl) ?_
  refine pw_if_eq 10 7 dX6_filled_4 (by decide) rfl (fun c1 => ?_) (fun c1 => ?_)
  · have h := if_t h c1
    refine pw_aload_n 0 rfl rfl 11 dX6_filled_10 rfl ?_
    refine pw_getR 4 14 dX6_filled_11 rfl fi_X6_filled_6 lk_X6_filled_39 la_0 ly_0 (by decide) rfl (by decide) rfl rf_0_4 ?_
    refine pw_aload_n 0 rfl rfl 15 dX6_filled_14 rfl ?_
    refine pw_getR 2 18 dX6_filled_15 rfl fi_X6_filled_6 lk_X6_filled_25 la_0 ly_0 (by decide) rfl (by decide) rfl rf_0_2 ?_
    obtain ⟨r3, m2, hr3, h⟩ := bd2_e h
    refine pw_callVi 21 dX6_filled_18 rfl [.ref (G.1 + 13)] 1 ⟨gX6_filled_X1_minutesToFull, rfl, sgV_X1_minutesToFull, ⟨Nat.le_of_ble_eq_true rfl, Nat.le_of_ble_eq_true rfl⟩, ⟨Nat.le_refl _, Nat.le_refl _⟩⟩ ly_240 (by decide) la_240 rfl (k_X1_minutesToFull isW_13 hr3) rfl rfl (Nat.le_of_ble_eq_true rfl) ?_
    exact pw_iret dX6_filled_21 (pr_inj h)
  · have h := if_f h c1
    refine pw_ldc 9 lw_X6_filled_c135 dX6_filled_7 rfl ?_
    exact pw_iret dX6_filled_9 (pr_inj h)
theorem fi_X1_firstDry_1 : ∀ w ∈ wsX10, w ∈ wsX1_firstDry := by decide +kernel
theorem lk_X1_firstDry_12 : Cond.fieldLink RX1 12 (TX1 0).1 (TX1 0).2.1 (TX1 0).2.2.1 ∈ wsX1_firstDry := by decide +kernel
theorem fi_X1_firstDry_5 : ∀ w ∈ wsX50, w ∈ wsX1_firstDry := by decide +kernel
theorem lk_X1_firstDry_49 : Cond.fieldLink RX1 49 (TX5 0).1 (TX5 0).2.1 (TX5 0).2.2.1 ∈ wsX1_firstDry := by decide +kernel
theorem lk_X1_firstDry_56 : Cond.fieldLink RX1 56 (TX5 10).1 (TX5 10).2.1 (TX5 10).2.2.1 ∈ wsX1_firstDry := by decide +kernel
theorem lw_X1_firstDry_c44 : Cond.constant RX1 44 (-1000000 : Int32) ∈ wsX1_firstDry := by decide +kernel
set_option maxHeartbeats 4000000 in
set_option maxRecDepth 100000 in
theorem kl_X1_firstDry_2 {l : Launch} {G : Gx}  {r : Int32}   : ∀ (n : Nat) (y1 : Int32) (m : Mm) (res : (Int32 ⊕ Int32)), lp_X1_firstDry_2 n y1 m = some res → (∀ (a0 : Int32), res = .inr a0 → PW G (KM l G RX1 cX1_firstDry 2 (some .int) wsX1_firstDry 1 (Qi G r m)) 44 [] [] m) → (∀ rt, res = .inl rt → rt = r) → PW G (KM l G RX1 cX1_firstDry 2 (some .int) wsX1_firstDry 1 (Qi G r m)) 2 [(0, .ref (G.1 + 240)), (1, .int y1)] [] m := by
  intro n
  induction n with
  | zero => intro y1 m res h hk hr; cases h
  | succ n ih =>
    intro y1 m res h hk hr
    have h : lb_X1_firstDry_2 (lp_X1_firstDry_2 n) y1 m = _ := h
    unfold lb_X1_firstDry_2 at h
    refine pw_iload_n 1 rfl rfl 3 dX1_firstDry_2 rfl ?_
    refine pw_aload_n 0 rfl rfl 4 dX1_firstDry_3 rfl ?_
    refine pw_getR 0 7 dX1_firstDry_4 rfl fi_X1_firstDry_1 lk_X1_firstDry_12 la_240 ly_240 (by decide) rfl (by decide) rfl rf_240_0 ?_
    refine pw_getI 0 10 dX1_firstDry_7 rfl fi_X1_firstDry_5 lk_X1_firstDry_49 la_241 ly_241 (by decide) rfl (by decide) rfl ?_
    refine pw_icmp_ge 44 13 dX1_firstDry_10 (by decide) rfl (fun c1 => ?_) (fun c1 => ?_)
    · have h := if_t h c1
      refine pw_sub [] [] rfl ?_
      exact hk _ (Option.some.inj h).symm
    · have h := if_f h c1
      refine pw_aload_n 0 rfl rfl 14 dX1_firstDry_13 rfl ?_
      refine pw_getR 0 17 dX1_firstDry_14 rfl fi_X1_firstDry_1 lk_X1_firstDry_12 la_240 ly_240 (by decide) rfl (by decide) rfl rf_240_0 ?_
      refine pw_iload_n 1 rfl rfl 18 dX1_firstDry_17 rfl ?_
      refine pw_callVi 21 dX1_firstDry_18 rfl [.int y1] 1 ⟨gX1_firstDry_X5_isHired, rfl, sgV_X5_isHired, ⟨Nat.le_of_ble_eq_true rfl, Nat.le_of_ble_eq_true rfl⟩, ⟨Nat.le_refl _, Nat.le_refl _⟩⟩ ly_241 (by decide) la_241 rfl (k_X5_isHired isW_241 rfl) rfl rfl (Nat.le_of_ble_eq_true rfl) ?_
      refine pw_if_eq 38 24 dX1_firstDry_21 (by decide) rfl (fun c2 => ?_) (fun c2 => ?_)
      · have h := if_t h c2
        obtain ⟨v3, ev3, h⟩ := nmE_ h
        refine pw_iinc 1 rfl (by rw [ev3]; rfl) [(1, .int v3), (0, .ref (G.1 + 240))] 41 dX1_firstDry_38 rfl (Nat.le_of_ble_eq_true rfl) rfl ?_
        refine pw_goto 2 dX1_firstDry_41 (by decide) ?_
        refine pw_sub [1, 0] [(0, .ref (G.1 + 240)), (1, .int v3)] rfl ?_
        exact ih v3 m res h hk hr
      · have h := if_f h c2
        refine pw_aload_n 0 rfl rfl 25 dX1_firstDry_24 rfl ?_
        refine pw_getR 0 28 dX1_firstDry_25 rfl fi_X1_firstDry_1 lk_X1_firstDry_12 la_240 ly_240 (by decide) rfl (by decide) rfl rf_240_0 ?_
        refine pw_getR 10 31 dX1_firstDry_28 rfl fi_X1_firstDry_5 lk_X1_firstDry_56 la_241 ly_241 (by decide) rfl (by decide) rfl rf_241_10 ?_
        refine pw_iload_n 1 rfl rfl 32 dX1_firstDry_31 rfl ?_
        obtain ⟨h4, h⟩ := gd_e h
        refine pw_iald 33 dX1_firstDry_32 rfl la_245 ly_245 h4 ?_
        refine pw_if_ne 38 36 dX1_firstDry_33 (by decide) rfl (fun c5 => ?_) (fun c5 => ?_)
        · have h := if_f h c5
          obtain ⟨v6, ev6, h⟩ := nmE_ h
          refine pw_iinc 1 rfl (by rw [ev6]; rfl) [(1, .int v6), (0, .ref (G.1 + 240))] 41 dX1_firstDry_38 rfl (Nat.le_of_ble_eq_true rfl) rfl ?_
          refine pw_goto 2 dX1_firstDry_41 (by decide) ?_
          refine pw_sub [1, 0] [(0, .ref (G.1 + 240)), (1, .int v6)] rfl ?_
          exact ih v6 m res h hk hr
        · have h := if_t h c5
          refine pw_iload_n 1 rfl rfl 37 dX1_firstDry_36 rfl ?_
          exact pw_iret dX1_firstDry_37 ⟨hr _ (Option.some.inj h).symm, rfl⟩
set_option maxHeartbeats 4000000 in
set_option maxRecDepth 100000 in
theorem k_X1_firstDry {l : Launch} {G : Gx}  {m : Mm} {r : Int32}  (h : f_X1_firstDry m = some r) : Cn l G 1 yX1_firstDry wsX1_firstDry [.ref (G.1 + 240)] m (Qi G r m) := by
  unfold f_X1_firstDry at h
  refine Cn.of (own := RX1) (lv := [(0, .ref (G.1 + 240))]) (by decide) rfl rfl (Nat.le_of_ble_eq_true rfl) rfl ?_
  refine pw_iconst (v := (0 : Int32)) (by decide) 1 dX1_firstDry_0 rfl ?_
  refine pw_istore_n (hf := rfl) [(1, .int (0 : Int32)), (0, .ref (G.1 + 240))] 2 dX1_firstDry_1 rfl (Nat.le_of_ble_eq_true rfl) rfl ?_
  rcases bdS1_e h with ⟨rt, h8, h⟩ | ⟨z7, h8, h⟩
  · refine pw_sub [1, 0] [(0, .ref (G.1 + 240)), (1, .int (0 : Int32))] rfl ?_
    exact kl_X1_firstDry_2 FU (0 : Int32) m _ h8 (fun _ e2 => by cases e2) (fun rt2 e2 => by cases e2; exact Option.some.inj h)
  · have hL2_h8 : PW G (KM l G RX1 cX1_firstDry 2 (some .int) wsX1_firstDry 1 (Qi G r m)) 44 [] [] m := by
      refine pw_ldc 46 lw_X1_firstDry_c44 dX1_firstDry_44 rfl ?_
      exact pw_iret dX1_firstDry_46 ⟨Option.some.inj h, rfl⟩
    refine pw_sub [1, 0] [(0, .ref (G.1 + 240)), (1, .int (0 : Int32))] rfl ?_
    exact kl_X1_firstDry_2 FU (0 : Int32) m _ h8 (fun _ e2 => by cases e2; exact hL2_h8) (fun rt2 e2 => by cases e2)
theorem lw_X1_findDry_c44 : Cond.constant RX1 44 (-1000000 : Int32) ∈ wsX1_findDry := by decide +kernel
theorem fi_X1_findDry_1 : ∀ w ∈ wsX10, w ∈ wsX1_findDry := by decide +kernel
theorem lk_X1_findDry_22 : Cond.fieldLink RX1 22 (TX1 2).1 (TX1 2).2.1 (TX1 2).2.2.1 ∈ wsX1_findDry := by decide +kernel
theorem lk_X1_findDry_26 : Cond.fieldLink RX1 26 (TX1 3).1 (TX1 3).2.1 (TX1 3).2.2.1 ∈ wsX1_findDry := by decide +kernel
theorem lk_X1_findDry_12 : Cond.fieldLink RX1 12 (TX1 0).1 (TX1 0).2.1 (TX1 0).2.2.1 ∈ wsX1_findDry := by decide +kernel
set_option maxHeartbeats 4000000 in
set_option maxRecDepth 100000 in
theorem kl_X1_findDry_22 {l : Launch} {G : Gx}   {mF : Mm}  : ∀ (n : Nat) (y2 : Int32) (m : Mm) (a0 : Mm), lp_X1_findDry_22 n y2 m = some a0 → PW G (KM l G RX1 cX1_findDry 3 none wsX1_findDry 3 (Qv G mF)) 77 [] [] a0 → PW G (KM l G RX1 cX1_findDry 3 none wsX1_findDry 3 (Qv G mF)) 22 [(0, .ref (G.1 + 240)), (2, .int y2)] [] m := by
  intro n
  induction n with
  | zero => intro y2 m a0 h hk; cases h
  | succ n ih =>
    intro y2 m a0 h hk
    have h : lb_X1_findDry_22 (lp_X1_findDry_22 n) y2 m = _ := h
    unfold lb_X1_findDry_22 at h
    refine pw_iload_n 1 rfl rfl 23 dX1_findDry_22 rfl ?_
    refine pw_bipush (v := (60 : Int32)) (by decide) 25 dX1_findDry_23 rfl ?_
    refine pw_icmp_gt 77 28 dX1_findDry_25 (by decide) rfl (fun c4 => ?_) (fun c4 => ?_)
    · have h := if_t h c4
      refine pw_sub [] [] rfl ?_
      cases h; exact hk
    · have h := if_f h c4
      refine pw_aload_n 0 rfl rfl 29 dX1_findDry_28 rfl ?_
      refine pw_getI 2 32 dX1_findDry_29 rfl fi_X1_findDry_1 lk_X1_findDry_22 la_240 ly_240 (by decide) rfl (by decide) rfl ?_
      refine pw_ldc 34 lw_X1_findDry_c44 dX1_findDry_32 rfl ?_
      refine pw_icmp_ne 77 37 dX1_findDry_34 (by decide) rfl (fun c5 => ?_) (fun c5 => ?_)
      · have h := if_f h c5
        refine pw_sub [] [] rfl ?_
        cases h; exact hk
      · have h := if_t h c5
        refine pw_aload_n 0 rfl rfl 38 dX1_findDry_37 rfl ?_
        refine pw_aload_n 0 rfl rfl 39 dX1_findDry_38 rfl ?_
        obtain ⟨r6, hr6, h⟩ := bd1_e h
        refine pw_callVi 42 dX1_findDry_39 rfl [] 0 ⟨gX1_findDry_X1_firstDry, rfl, sgV_X1_firstDry, ⟨Nat.le_of_ble_eq_true rfl, Nat.le_of_ble_eq_true rfl⟩, ⟨Nat.le_refl _, Nat.le_refl _⟩⟩ ly_240 (by decide) la_240 rfl (k_X1_firstDry hr6) rfl rfl (Nat.le_of_ble_eq_true rfl) ?_
        refine pw_put (ty0 := tyX1) (ty := .int) 2 45 dX1_findDry_42 rfl fi_X1_findDry_1 tyX1_ok nmX1 lk_X1_findDry_22 la_240 ly_240 (by decide) rfl (by decide) rfl rfl rfl rfl rfl ?_
        obtain ⟨m7, em7, h⟩ := nmE_ h
        refine pw_mem em7 ?_
        refine pw_aload_n 0 rfl rfl 46 dX1_findDry_45 rfl ?_
        refine pw_aload_n 0 rfl rfl 47 dX1_findDry_46 rfl ?_
        refine pw_getI 2 50 dX1_findDry_47 rfl fi_X1_findDry_1 lk_X1_findDry_22 la_240 ly_240 (by decide) rfl (by decide) rfl ?_
        refine pw_ldc 52 lw_X1_findDry_c44 dX1_findDry_50 rfl ?_
        obtain ⟨j9, ej9, h⟩ := nmE_ h
        have hJ61_j9 : PW G (KM l G RX1 cX1_findDry 3 none wsX1_findDry 3 (Qv G mF)) 61 [(0, .ref (G.1 + 240)), (2, .int y2)] [.int j9, .ref (G.1 + 240)] m7 := by
          refine pw_put (ty0 := tyX1) (ty := .int) 3 64 dX1_findDry_61 rfl fi_X1_findDry_1 tyX1_ok nmX1 lk_X1_findDry_26 la_240 ly_240 (by decide) rfl (by decide) rfl rfl rfl rfl rfl ?_
          obtain ⟨m10, em10, h⟩ := nmE_ h
          refine pw_mem em10 ?_
          refine pw_aload_n 0 rfl rfl 65 dX1_findDry_64 rfl ?_
          refine pw_getR 0 68 dX1_findDry_65 rfl fi_X1_findDry_1 lk_X1_findDry_12 la_240 ly_240 (by decide) rfl (by decide) rfl rf_240_0 ?_
          obtain ⟨m11, hm11, h⟩ := bd1_e h
          refine pw_callVv 71 dX1_findDry_68 rfl [] 0 ⟨gX1_findDry_X5_pass, rfl, sgV_X5_pass, ⟨Nat.le_of_ble_eq_true rfl, Nat.le_of_ble_eq_true rfl⟩, ⟨Nat.le_refl _, Nat.le_refl _⟩⟩ ly_241 (by decide) la_241 rfl (k_X5_pass isW_241 hm11) rfl rfl (Nat.le_of_ble_eq_true rfl) ?_
          obtain ⟨v12, ev12, h⟩ := nmE_ h
          refine pw_iinc 1 rfl (by rw [ev12]; rfl) [(2, .int v12), (0, .ref (G.1 + 240))] 74 dX1_findDry_71 rfl (Nat.le_of_ble_eq_true rfl) rfl ?_
          refine pw_goto 22 dX1_findDry_74 (by decide) ?_
          refine pw_sub [1, 0] [(0, .ref (G.1 + 240)), (2, .int v12)] rfl ?_
          exact ih v12 m11 a0 h hk
        refine pw_icmp_ne 60 55 dX1_findDry_52 (by decide) rfl (fun c8 => ?_) (fun c8 => ?_)
        · have ej9 := if_fv ej9 c8
          refine pw_iload_n 1 rfl rfl 61 dX1_findDry_60 rfl ?_
          refine pw_sub [0, 1] [(0, .ref (G.1 + 240)), (2, .int y2)] rfl ?_
          subst ej9; exact hJ61_j9
        · have ej9 := if_tv ej9 c8
          refine pw_ldc 57 lw_X1_findDry_c44 dX1_findDry_55 rfl ?_
          refine pw_goto 61 dX1_findDry_57 (by decide) ?_
          refine pw_sub [0, 1] [(0, .ref (G.1 + 240)), (2, .int y2)] rfl ?_
          subst ej9; exact hJ61_j9
set_option maxHeartbeats 4000000 in
set_option maxRecDepth 100000 in
theorem k_X1_findDry {l : Launch} {G : Gx} {w1 : Nat} {m mF : Mm}  (hw1 : IsW w1) (h : f_X1_findDry w1 m = some mF) : Cn l G 3 yX1_findDry wsX1_findDry [.ref (G.1 + 240), .ref (G.1 + w1)] m (Qv G mF) := by
  unfold f_X1_findDry at h
  refine Cn.of (own := RX1) (lv := [(0, .ref (G.1 + 240)), (1, .ref (G.1 + w1))]) (by decide) rfl rfl (Nat.le_of_ble_eq_true rfl) rfl ?_
  refine pw_aload_n 0 rfl rfl 1 dX1_findDry_0 rfl ?_
  refine pw_ldc 3 lw_X1_findDry_c44 dX1_findDry_1 rfl ?_
  refine pw_put (ty0 := tyX1) (ty := .int) 2 6 dX1_findDry_3 rfl fi_X1_findDry_1 tyX1_ok nmX1 lk_X1_findDry_22 la_240 ly_240 (by decide) rfl (by decide) rfl rfl rfl rfl rfl ?_
  obtain ⟨m1, em1, h⟩ := nmE_ h
  refine pw_mem em1 ?_
  refine pw_aload_n 0 rfl rfl 7 dX1_findDry_6 rfl ?_
  refine pw_ldc 9 lw_X1_findDry_c44 dX1_findDry_7 rfl ?_
  refine pw_put (ty0 := tyX1) (ty := .int) 3 12 dX1_findDry_9 rfl fi_X1_findDry_1 tyX1_ok nmX1 lk_X1_findDry_26 la_240 ly_240 (by decide) rfl (by decide) rfl rfl rfl rfl rfl ?_
  obtain ⟨m2, em2, h⟩ := nmE_ h
  refine pw_mem em2 ?_
  refine pw_aload_n 0 rfl rfl 13 dX1_findDry_12 rfl ?_
  refine pw_getR 0 16 dX1_findDry_13 rfl fi_X1_findDry_1 lk_X1_findDry_12 la_240 ly_240 (by decide) rfl (by decide) rfl rf_240_0 ?_
  refine pw_aload_n 1 rfl rfl 17 dX1_findDry_16 rfl ?_
  obtain ⟨m3, hm3, h⟩ := bd1_e h
  refine pw_callVv 20 dX1_findDry_17 rfl [.ref (G.1 + w1)] 1 ⟨gX1_findDry_X5_become, rfl, sgV_X5_become, ⟨Nat.le_of_ble_eq_true rfl, Nat.le_of_ble_eq_true rfl⟩, ⟨Nat.le_refl _, Nat.le_refl _⟩⟩ ly_241 (by decide) la_241 rfl (k_X5_become isW_241 hw1 hm3) rfl rfl (Nat.le_of_ble_eq_true rfl) ?_
  refine pw_iconst (v := (0 : Int32)) (by decide) 21 dX1_findDry_20 rfl ?_
  refine pw_istore_n (hf := rfl) [(2, .int (0 : Int32)), (0, .ref (G.1 + 240)), (1, .ref (G.1 + w1))] 22 dX1_findDry_21 rfl (Nat.le_of_ble_eq_true rfl) rfl ?_
  obtain ⟨m13, h14, h⟩ := bd1_e h
  have hL22_h14 : PW G (KM l G RX1 cX1_findDry 3 none wsX1_findDry 3 (Qv G mF)) 77 [] [] m13 := by
    exact pw_vret dX1_findDry_77 (Option.some.inj h)
  refine pw_sub [1, 0] [(0, .ref (G.1 + 240)), (2, .int (0 : Int32))] rfl ?_
  exact kl_X1_findDry_22 FU (0 : Int32) m3 m13 h14 hL22_h14
theorem fi_X1_answer_1 : ∀ w ∈ wsX10, w ∈ wsX1_answer := by decide +kernel
theorem lk_X1_answer_26 : Cond.fieldLink RX1 26 (TX1 3).1 (TX1 3).2.1 (TX1 3).2.2.1 ∈ wsX1_answer := by decide +kernel
theorem lk_X1_answer_22 : Cond.fieldLink RX1 22 (TX1 2).1 (TX1 2).2.1 (TX1 2).2.2.1 ∈ wsX1_answer := by decide +kernel
set_option maxHeartbeats 4000000 in
set_option maxRecDepth 100000 in
theorem k_X1_answer {l : Launch} {G : Gx} {x1 : Int32} {m : Mm} {r : Int32}  (h : f_X1_answer x1 m = r) : Cn l G 0 yX1_answer wsX1_answer [.ref (G.1 + 240), .int x1] m (Qi G r m) := by
  unfold f_X1_answer at h
  refine Cn.of (own := RX1) (lv := [(0, .ref (G.1 + 240)), (1, .int x1)]) (by decide) rfl rfl (Nat.le_of_ble_eq_true rfl) rfl ?_
  refine pw_iload_n 1 rfl rfl 1 dX1_answer_0 rfl ?_
  refine pw_if_ne 11 4 dX1_answer_1 (by decide) rfl (fun c1 => ?_) (fun c1 => ?_)
  · have h := if_f h c1
    refine pw_aload_n 0 rfl rfl 12 dX1_answer_11 rfl ?_
    refine pw_getI 3 15 dX1_answer_12 rfl fi_X1_answer_1 lk_X1_answer_26 la_240 ly_240 (by decide) rfl (by decide) rfl ?_
    exact pw_iret dX1_answer_15 ⟨h, rfl⟩
  · have h := if_t h c1
    refine pw_aload_n 0 rfl rfl 5 dX1_answer_4 rfl ?_
    refine pw_getI 2 8 dX1_answer_5 rfl fi_X1_answer_1 lk_X1_answer_22 la_240 ly_240 (by decide) rfl (by decide) rfl ?_
    refine pw_goto 15 dX1_answer_8 (by decide) ?_
    exact pw_iret dX1_answer_15 ⟨h, rfl⟩
theorem fi_X6_dry_6 : ∀ w ∈ wsX60, w ∈ wsX6_dry := by decide +kernel
theorem lk_X6_dry_39 : Cond.fieldLink RX6 39 (TX6 4).1 (TX6 4).2.1 (TX6 4).2.2.1 ∈ wsX6_dry := by decide +kernel
theorem lk_X6_dry_25 : Cond.fieldLink RX6 25 (TX6 2).1 (TX6 2).2.1 (TX6 2).2.2.1 ∈ wsX6_dry := by decide +kernel
theorem lw_X6_dry_c63 : Cond.constant RX6 63 (-1000001 : Int32) ∈ wsX6_dry := by decide +kernel
theorem lw_X6_dry_c135 : Cond.constant RX6 135 (-1000002 : Int32) ∈ wsX6_dry := by decide +kernel
set_option maxHeartbeats 4000000 in
set_option maxRecDepth 100000 in
theorem k_X6_dry {l : Launch} {G : Gx} {x1 : Int32} {m mF : Mm} {r : Int32}  (h : f_X6_dry x1 m = some (r, mF)) : Cn l G 4 yX6_dry wsX6_dry [.ref (G.1 + 0), .int x1] m (Qi G r mF) := by
  unfold f_X6_dry at h
  refine Cn.of (own := RX6) (lv := [(0, .ref (G.1 + 0)), (1, .int x1)]) (by decide) rfl rfl (Nat.le_of_ble_eq_true rfl) rfl ?_
  refine pw_aload_n 0 rfl rfl 1 dX6_dry_0 rfl ?_
  refine pw_callVi 4 dX6_dry_1 rfl [] 0 ⟨gX6_dry_X6_isNone, rfl, sgV_X6_isNone, ⟨Nat.le_of_ble_eq_true rfl, Nat.le_of_ble_eq_true rfl⟩, ⟨Nat.le_refl _, Nat.le_refl _⟩⟩ ly_0 (by decide) la_0 rfl (k_X6_isNone rfl) rfl rfl (Nat.le_of_ble_eq_true rfl) ?_
  refine pw_if_eq 10 7 dX6_dry_4 (by decide) rfl (fun c1 => ?_) (fun c1 => ?_)
  · have h := if_t h c1
    refine pw_iload_n 1 rfl rfl 11 dX6_dry_10 rfl ?_
    refine pw_callSi 14 dX6_dry_11 rfl [.int x1] 1 ⟨gX6_dry_X6_isFlag, rfl, sgS_X6_isFlag, ⟨Nat.le_of_ble_eq_true rfl, Nat.le_of_ble_eq_true rfl⟩, ⟨Nat.le_refl _, Nat.le_refl _⟩⟩ (k_X6_isFlag rfl) rfl rfl (Nat.le_of_ble_eq_true rfl) ?_
    refine pw_if_ne 20 17 dX6_dry_14 (by decide) rfl (fun c2 => ?_) (fun c2 => ?_)
    · have h := if_f h c2
      refine pw_aload_n 0 rfl rfl 21 dX6_dry_20 rfl ?_
      refine pw_getR 4 24 dX6_dry_21 rfl fi_X6_dry_6 lk_X6_dry_39 la_0 ly_0 (by decide) rfl (by decide) rfl rf_0_4 ?_
      refine pw_aload_n 0 rfl rfl 25 dX6_dry_24 rfl ?_
      refine pw_getR 2 28 dX6_dry_25 rfl fi_X6_dry_6 lk_X6_dry_25 la_0 ly_0 (by decide) rfl (by decide) rfl rf_0_2 ?_
      obtain ⟨m3, hm3, h⟩ := bd1_e h
      refine pw_callVv 31 dX6_dry_28 rfl [.ref (G.1 + 13)] 1 ⟨gX6_dry_X1_findDry, rfl, sgV_X1_findDry, ⟨Nat.le_of_ble_eq_true rfl, Nat.le_of_ble_eq_true rfl⟩, ⟨Nat.le_refl _, Nat.le_refl _⟩⟩ ly_240 (by decide) la_240 rfl (k_X1_findDry isW_13 hm3) rfl rfl (Nat.le_of_ble_eq_true rfl) ?_
      refine pw_aload_n 0 rfl rfl 32 dX6_dry_31 rfl ?_
      refine pw_getR 4 35 dX6_dry_32 rfl fi_X6_dry_6 lk_X6_dry_39 la_0 ly_0 (by decide) rfl (by decide) rfl rf_0_4 ?_
      refine pw_iload_n 1 rfl rfl 36 dX6_dry_35 rfl ?_
      refine pw_callVi 39 dX6_dry_36 rfl [.int x1] 1 ⟨gX6_dry_X1_answer, rfl, sgV_X1_answer, ⟨Nat.le_of_ble_eq_true rfl, Nat.le_of_ble_eq_true rfl⟩, ⟨Nat.le_refl _, Nat.le_refl _⟩⟩ ly_240 (by decide) la_240 rfl (k_X1_answer rfl) rfl rfl (Nat.le_of_ble_eq_true rfl) ?_
      exact pw_iret dX6_dry_39 (pr_inj h)
    · have h := if_t h c2
      refine pw_ldc 19 lw_X6_dry_c63 dX6_dry_17 rfl ?_
      exact pw_iret dX6_dry_19 (pr_inj h)
  · have h := if_f h c1
    refine pw_ldc 9 lw_X6_dry_c135 dX6_dry_7 rfl ?_
    exact pw_iret dX6_dry_9 (pr_inj h)
theorem fi_X1_fillsWith_1 : ∀ w ∈ wsX10, w ∈ wsX1_fillsWith := by decide +kernel
theorem lk_X1_fillsWith_12 : Cond.fieldLink RX1 12 (TX1 0).1 (TX1 0).2.1 (TX1 0).2.2.1 ∈ wsX1_fillsWith := by decide +kernel
set_option maxHeartbeats 4000000 in
set_option maxRecDepth 100000 in
theorem k_X1_fillsWith {l : Launch} {G : Gx} {w1 : Nat} {x2 : Int32} {x3 : Int32} {m mF : Mm} {r : Int32} (hw1 : IsW w1) (h : f_X1_fillsWith w1 x2 x3 m = some (r, mF)) : Cn l G 4 yX1_fillsWith wsX1_fillsWith [.ref (G.1 + 240), .ref (G.1 + w1), .int x2, .int x3] m (Qi G r mF) := by
  unfold f_X1_fillsWith at h
  refine Cn.of (own := RX1) (lv := [(0, .ref (G.1 + 240)), (1, .ref (G.1 + w1)), (2, .int x2), (3, .int x3)]) (by decide) rfl rfl (Nat.le_of_ble_eq_true rfl) rfl ?_
  refine pw_aload_n 0 rfl rfl 1 dX1_fillsWith_0 rfl ?_
  refine pw_getR 0 4 dX1_fillsWith_1 rfl fi_X1_fillsWith_1 lk_X1_fillsWith_12 la_240 ly_240 (by decide) rfl (by decide) rfl rf_240_0 ?_
  refine pw_aload_n 1 rfl rfl 5 dX1_fillsWith_4 rfl ?_
  obtain ⟨m1, hm1, h⟩ := bd1_e h
  refine pw_callVv 8 dX1_fillsWith_5 rfl [.ref (G.1 + w1)] 1 ⟨gX1_fillsWith_X5_become, rfl, sgV_X5_become, ⟨Nat.le_of_ble_eq_true rfl, Nat.le_of_ble_eq_true rfl⟩, ⟨Nat.le_refl _, Nat.le_refl _⟩⟩ ly_241 (by decide) la_241 rfl (k_X5_become isW_241 hw1 hm1) rfl rfl (Nat.le_of_ble_eq_true rfl) ?_
  refine pw_aload_n 0 rfl rfl 9 dX1_fillsWith_8 rfl ?_
  refine pw_getR 0 12 dX1_fillsWith_9 rfl fi_X1_fillsWith_1 lk_X1_fillsWith_12 la_240 ly_240 (by decide) rfl (by decide) rfl rf_240_0 ?_
  refine pw_iload_n 2 rfl rfl 13 dX1_fillsWith_12 rfl ?_
  obtain ⟨m2, hm2, h⟩ := bd1_e h
  refine pw_callVv 16 dX1_fillsWith_13 rfl [.int x2] 1 ⟨gX1_fillsWith_X5_engage, rfl, sgV_X5_engage, ⟨Nat.le_of_ble_eq_true rfl, Nat.le_of_ble_eq_true rfl⟩, ⟨Nat.le_refl _, Nat.le_refl _⟩⟩ ly_241 (by decide) la_241 rfl (k_X5_engage isW_241 hm2) rfl rfl (Nat.le_of_ble_eq_true rfl) ?_
  refine pw_aload_n 0 rfl rfl 17 dX1_fillsWith_16 rfl ?_
  refine pw_getR 0 20 dX1_fillsWith_17 rfl fi_X1_fillsWith_1 lk_X1_fillsWith_12 la_240 ly_240 (by decide) rfl (by decide) rfl rf_240_0 ?_
  refine pw_iload_n 3 rfl rfl 21 dX1_fillsWith_20 rfl ?_
  obtain ⟨m3, hm3, h⟩ := bd1_e h
  refine pw_callVv 24 dX1_fillsWith_21 rfl [.int x3] 1 ⟨gX1_fillsWith_X5_run, rfl, sgV_X5_run, ⟨Nat.le_of_ble_eq_true rfl, Nat.le_of_ble_eq_true rfl⟩, ⟨Nat.le_refl _, Nat.le_refl _⟩⟩ ly_241 (by decide) la_241 rfl (k_X5_run isW_241 hm3) rfl rfl (Nat.le_of_ble_eq_true rfl) ?_
  refine pw_aload_n 0 rfl rfl 25 dX1_fillsWith_24 rfl ?_
  refine pw_getR 0 28 dX1_fillsWith_25 rfl fi_X1_fillsWith_1 lk_X1_fillsWith_12 la_240 ly_240 (by decide) rfl (by decide) rfl rf_240_0 ?_
  refine pw_callVi 31 dX1_fillsWith_28 rfl [] 0 ⟨gX1_fillsWith_X5_isFull, rfl, sgV_X5_isFull, ⟨Nat.le_of_ble_eq_true rfl, Nat.le_of_ble_eq_true rfl⟩, ⟨Nat.le_refl _, Nat.le_refl _⟩⟩ ly_241 (by decide) la_241 rfl (k_X5_isFull isW_241 rfl) rfl rfl (Nat.le_of_ble_eq_true rfl) ?_
  obtain ⟨v4, ev4, h⟩ := nmE_ h
  refine pw_top ev4 ?_
  obtain ⟨h5, h⟩ := gd_e h
  exact pw_zret dX1_fillsWith_31 h5 (pr_inj h)
theorem lw_J6_bitCount_0f7a4_c265 : Cond.constant RJ6 265 (1431655765 : Int32) ∈ wsJ6_bitCount_0f7a4 := by decide +kernel
theorem lw_J6_bitCount_0f7a4_c266 : Cond.constant RJ6 266 (858993459 : Int32) ∈ wsJ6_bitCount_0f7a4 := by decide +kernel
theorem lw_J6_bitCount_0f7a4_c267 : Cond.constant RJ6 267 (252645135 : Int32) ∈ wsJ6_bitCount_0f7a4 := by decide +kernel
set_option maxHeartbeats 4000000 in
set_option maxRecDepth 100000 in
theorem k_J6_bitCount_0f7a4 {l : Launch} {G : Gx} {x0 : Int32} {m : Mm} {r : Int32}  (h : f_J6_bitCount_0f7a4 x0 = r) : Cn l G 0 yJ6_bitCount_0f7a4 wsJ6_bitCount_0f7a4 [.int x0] m (Qi G r m) := by
  unfold f_J6_bitCount_0f7a4 at h
  refine Cn.of (own := RJ6) (lv := [(0, .int x0)]) (by decide) rfl rfl (Nat.le_of_ble_eq_true rfl) rfl ?_
  refine pw_iload_n 0 rfl rfl 1 dJ6_bitCount_0f7a4_0 rfl ?_
  refine pw_iload_n 0 rfl rfl 2 dJ6_bitCount_0f7a4_1 rfl ?_
  refine pw_iconst (v := (1 : Int32)) (by decide) 3 dJ6_bitCount_0f7a4_2 rfl ?_
  refine pw_iushr 4 dJ6_bitCount_0f7a4_3 rfl ?_
  refine pw_ldcw 7 lw_J6_bitCount_0f7a4_c265 dJ6_bitCount_0f7a4_4 rfl ?_
  refine pw_iand 8 dJ6_bitCount_0f7a4_7 rfl ?_
  refine pw_isub 9 dJ6_bitCount_0f7a4_8 rfl ?_
  obtain ⟨v1, ev1, h⟩ := nmE_ h
  refine pw_top ev1 ?_
  refine pw_istore_n (hf := rfl) [(0, .int v1)] 10 dJ6_bitCount_0f7a4_9 rfl (Nat.le_of_ble_eq_true rfl) rfl ?_
  refine pw_iload_n 0 rfl rfl 11 dJ6_bitCount_0f7a4_10 rfl ?_
  refine pw_ldcw 14 lw_J6_bitCount_0f7a4_c266 dJ6_bitCount_0f7a4_11 rfl ?_
  refine pw_iand 15 dJ6_bitCount_0f7a4_14 rfl ?_
  refine pw_iload_n 0 rfl rfl 16 dJ6_bitCount_0f7a4_15 rfl ?_
  refine pw_iconst (v := (2 : Int32)) (by decide) 17 dJ6_bitCount_0f7a4_16 rfl ?_
  refine pw_iushr 18 dJ6_bitCount_0f7a4_17 rfl ?_
  refine pw_ldcw 21 lw_J6_bitCount_0f7a4_c266 dJ6_bitCount_0f7a4_18 rfl ?_
  refine pw_iand 22 dJ6_bitCount_0f7a4_21 rfl ?_
  refine pw_iadd 23 dJ6_bitCount_0f7a4_22 rfl ?_
  obtain ⟨v2, ev2, h⟩ := nmE_ h
  refine pw_top ev2 ?_
  refine pw_istore_n (hf := rfl) [(0, .int v2)] 24 dJ6_bitCount_0f7a4_23 rfl (Nat.le_of_ble_eq_true rfl) rfl ?_
  refine pw_iload_n 0 rfl rfl 25 dJ6_bitCount_0f7a4_24 rfl ?_
  refine pw_iload_n 0 rfl rfl 26 dJ6_bitCount_0f7a4_25 rfl ?_
  refine pw_iconst (v := (4 : Int32)) (by decide) 27 dJ6_bitCount_0f7a4_26 rfl ?_
  refine pw_iushr 28 dJ6_bitCount_0f7a4_27 rfl ?_
  refine pw_iadd 29 dJ6_bitCount_0f7a4_28 rfl ?_
  refine pw_ldcw 32 lw_J6_bitCount_0f7a4_c267 dJ6_bitCount_0f7a4_29 rfl ?_
  refine pw_iand 33 dJ6_bitCount_0f7a4_32 rfl ?_
  obtain ⟨v3, ev3, h⟩ := nmE_ h
  refine pw_top ev3 ?_
  refine pw_istore_n (hf := rfl) [(0, .int v3)] 34 dJ6_bitCount_0f7a4_33 rfl (Nat.le_of_ble_eq_true rfl) rfl ?_
  refine pw_iload_n 0 rfl rfl 35 dJ6_bitCount_0f7a4_34 rfl ?_
  refine pw_iload_n 0 rfl rfl 36 dJ6_bitCount_0f7a4_35 rfl ?_
  refine pw_bipush (v := (8 : Int32)) (by decide) 38 dJ6_bitCount_0f7a4_36 rfl ?_
  refine pw_iushr 39 dJ6_bitCount_0f7a4_38 rfl ?_
  refine pw_iadd 40 dJ6_bitCount_0f7a4_39 rfl ?_
  obtain ⟨v4, ev4, h⟩ := nmE_ h
  refine pw_top ev4 ?_
  refine pw_istore_n (hf := rfl) [(0, .int v4)] 41 dJ6_bitCount_0f7a4_40 rfl (Nat.le_of_ble_eq_true rfl) rfl ?_
  refine pw_iload_n 0 rfl rfl 42 dJ6_bitCount_0f7a4_41 rfl ?_
  refine pw_iload_n 0 rfl rfl 43 dJ6_bitCount_0f7a4_42 rfl ?_
  refine pw_bipush (v := (16 : Int32)) (by decide) 45 dJ6_bitCount_0f7a4_43 rfl ?_
  refine pw_iushr 46 dJ6_bitCount_0f7a4_45 rfl ?_
  refine pw_iadd 47 dJ6_bitCount_0f7a4_46 rfl ?_
  obtain ⟨v5, ev5, h⟩ := nmE_ h
  refine pw_top ev5 ?_
  refine pw_istore_n (hf := rfl) [(0, .int v5)] 48 dJ6_bitCount_0f7a4_47 rfl (Nat.le_of_ble_eq_true rfl) rfl ?_
  refine pw_iload_n 0 rfl rfl 49 dJ6_bitCount_0f7a4_48 rfl ?_
  refine pw_bipush (v := (63 : Int32)) (by decide) 51 dJ6_bitCount_0f7a4_49 rfl ?_
  refine pw_iand 52 dJ6_bitCount_0f7a4_51 rfl ?_
  exact pw_iret dJ6_bitCount_0f7a4_52 ⟨h, rfl⟩
theorem fi_X1_isCheaper_1 : ∀ w ∈ wsX10, w ∈ wsX1_isCheaper := by decide +kernel
theorem lk_X1_isCheaper_22 : Cond.fieldLink RX1 22 (TX1 2).1 (TX1 2).2.1 (TX1 2).2.2.1 ∈ wsX1_isCheaper := by decide +kernel
theorem lw_X1_isCheaper_c44 : Cond.constant RX1 44 (-1000000 : Int32) ∈ wsX1_isCheaper := by decide +kernel
theorem lk_X1_isCheaper_26 : Cond.fieldLink RX1 26 (TX1 3).1 (TX1 3).2.1 (TX1 3).2.2.1 ∈ wsX1_isCheaper := by decide +kernel
set_option maxHeartbeats 4000000 in
set_option maxRecDepth 100000 in
theorem k_X1_isCheaper {l : Launch} {G : Gx} {x1 : Int32} {x2 : Int32} {m : Mm} {r : Int32}  (h : f_X1_isCheaper x1 x2 m = r) : Cn l G 1 yX1_isCheaper wsX1_isCheaper [.ref (G.1 + 240), .int x1, .int x2] m (Qi G r m) := by
  unfold f_X1_isCheaper at h
  refine Cn.of (own := RX1) (lv := [(0, .ref (G.1 + 240)), (1, .int x1), (2, .int x2)]) (by decide) rfl rfl (Nat.le_of_ble_eq_true rfl) rfl ?_
  refine pw_aload_n 0 rfl rfl 1 dX1_isCheaper_0 rfl ?_
  refine pw_getI 2 4 dX1_isCheaper_1 rfl fi_X1_isCheaper_1 lk_X1_isCheaper_22 la_240 ly_240 (by decide) rfl (by decide) rfl ?_
  refine pw_ldc 6 lw_X1_isCheaper_c44 dX1_isCheaper_4 rfl ?_
  refine pw_icmp_eq 17 9 dX1_isCheaper_6 (by decide) rfl (fun c1 => ?_) (fun c1 => ?_)
  · have h := if_t h c1
    refine pw_aload_n 0 rfl rfl 18 dX1_isCheaper_17 rfl ?_
    refine pw_getI 2 21 dX1_isCheaper_18 rfl fi_X1_isCheaper_1 lk_X1_isCheaper_22 la_240 ly_240 (by decide) rfl (by decide) rfl ?_
    refine pw_ldc 23 lw_X1_isCheaper_c44 dX1_isCheaper_21 rfl ?_
    refine pw_icmp_eq 34 26 dX1_isCheaper_23 (by decide) rfl (fun c2 => ?_) (fun c2 => ?_)
    · have h := if_t h c2
      refine pw_iconst (v := (1 : Int32)) (by decide) 35 dX1_isCheaper_34 rfl ?_
      refine pw_goto 39 dX1_isCheaper_35 (by decide) ?_
      exact pw_zret dX1_isCheaper_39 (by decide) ⟨h, rfl⟩
    · have h := if_f h c2
      refine pw_iload_n 2 rfl rfl 27 dX1_isCheaper_26 rfl ?_
      refine pw_aload_n 0 rfl rfl 28 dX1_isCheaper_27 rfl ?_
      refine pw_getI 3 31 dX1_isCheaper_28 rfl fi_X1_isCheaper_1 lk_X1_isCheaper_26 la_240 ly_240 (by decide) rfl (by decide) rfl ?_
      refine pw_icmp_ge 38 34 dX1_isCheaper_31 (by decide) rfl (fun c3 => ?_) (fun c3 => ?_)
      · have h := if_t h c3
        refine pw_iconst (v := (0 : Int32)) (by decide) 39 dX1_isCheaper_38 rfl ?_
        exact pw_zret dX1_isCheaper_39 (by decide) ⟨h, rfl⟩
      · have h := if_f h c3
        refine pw_iconst (v := (1 : Int32)) (by decide) 35 dX1_isCheaper_34 rfl ?_
        refine pw_goto 39 dX1_isCheaper_35 (by decide) ?_
        exact pw_zret dX1_isCheaper_39 (by decide) ⟨h, rfl⟩
  · have h := if_f h c1
    refine pw_iload_n 2 rfl rfl 10 dX1_isCheaper_9 rfl ?_
    refine pw_aload_n 0 rfl rfl 11 dX1_isCheaper_10 rfl ?_
    refine pw_getI 3 14 dX1_isCheaper_11 rfl fi_X1_isCheaper_1 lk_X1_isCheaper_26 la_240 ly_240 (by decide) rfl (by decide) rfl ?_
    refine pw_icmp_eq 40 17 dX1_isCheaper_14 (by decide) rfl (fun c4 => ?_) (fun c4 => ?_)
    · have h := if_t h c4
      refine pw_iload_n 1 rfl rfl 41 dX1_isCheaper_40 rfl ?_
      refine pw_callSi 44 dX1_isCheaper_41 rfl [.int x1] 1 ⟨gX1_isCheaper_J6_bitCount_0f7a4, rfl, sgS_J6_bitCount_0f7a4, ⟨Nat.le_of_ble_eq_true rfl, Nat.le_of_ble_eq_true rfl⟩, ⟨Nat.le_refl _, Nat.le_refl _⟩⟩ (k_J6_bitCount_0f7a4 rfl) rfl rfl (Nat.le_of_ble_eq_true rfl) ?_
      refine pw_aload_n 0 rfl rfl 45 dX1_isCheaper_44 rfl ?_
      refine pw_getI 2 48 dX1_isCheaper_45 rfl fi_X1_isCheaper_1 lk_X1_isCheaper_22 la_240 ly_240 (by decide) rfl (by decide) rfl ?_
      refine pw_callSi 51 dX1_isCheaper_48 rfl [.int (m 240 2)] 1 ⟨gX1_isCheaper_J6_bitCount_0f7a4, rfl, sgS_J6_bitCount_0f7a4, ⟨Nat.le_of_ble_eq_true rfl, Nat.le_of_ble_eq_true rfl⟩, ⟨Nat.le_refl _, Nat.le_refl _⟩⟩ (k_J6_bitCount_0f7a4 rfl) rfl rfl (Nat.le_of_ble_eq_true rfl) ?_
      refine pw_icmp_ge 58 54 dX1_isCheaper_51 (by decide) rfl (fun c5 => ?_) (fun c5 => ?_)
      · have h := if_t h c5
        refine pw_iconst (v := (0 : Int32)) (by decide) 59 dX1_isCheaper_58 rfl ?_
        exact pw_zret dX1_isCheaper_59 (by decide) ⟨h, rfl⟩
      · have h := if_f h c5
        refine pw_iconst (v := (1 : Int32)) (by decide) 55 dX1_isCheaper_54 rfl ?_
        refine pw_goto 59 dX1_isCheaper_55 (by decide) ?_
        exact pw_zret dX1_isCheaper_59 (by decide) ⟨h, rfl⟩
    · have h := if_f h c4
      refine pw_aload_n 0 rfl rfl 18 dX1_isCheaper_17 rfl ?_
      refine pw_getI 2 21 dX1_isCheaper_18 rfl fi_X1_isCheaper_1 lk_X1_isCheaper_22 la_240 ly_240 (by decide) rfl (by decide) rfl ?_
      refine pw_ldc 23 lw_X1_isCheaper_c44 dX1_isCheaper_21 rfl ?_
      refine pw_icmp_eq 34 26 dX1_isCheaper_23 (by decide) rfl (fun c6 => ?_) (fun c6 => ?_)
      · have h := if_t h c6
        refine pw_iconst (v := (1 : Int32)) (by decide) 35 dX1_isCheaper_34 rfl ?_
        refine pw_goto 39 dX1_isCheaper_35 (by decide) ?_
        exact pw_zret dX1_isCheaper_39 (by decide) ⟨h, rfl⟩
      · have h := if_f h c6
        refine pw_iload_n 2 rfl rfl 27 dX1_isCheaper_26 rfl ?_
        refine pw_aload_n 0 rfl rfl 28 dX1_isCheaper_27 rfl ?_
        refine pw_getI 3 31 dX1_isCheaper_28 rfl fi_X1_isCheaper_1 lk_X1_isCheaper_26 la_240 ly_240 (by decide) rfl (by decide) rfl ?_
        refine pw_icmp_ge 38 34 dX1_isCheaper_31 (by decide) rfl (fun c7 => ?_) (fun c7 => ?_)
        · have h := if_t h c7
          refine pw_iconst (v := (0 : Int32)) (by decide) 39 dX1_isCheaper_38 rfl ?_
          exact pw_zret dX1_isCheaper_39 (by decide) ⟨h, rfl⟩
        · have h := if_f h c7
          refine pw_iconst (v := (1 : Int32)) (by decide) 35 dX1_isCheaper_34 rfl ?_
          refine pw_goto 39 dX1_isCheaper_35 (by decide) ?_
          exact pw_zret dX1_isCheaper_39 (by decide) ⟨h, rfl⟩
theorem lw_X1_findCheapest_c44 : Cond.constant RX1 44 (-1000000 : Int32) ∈ wsX1_findCheapest := by decide +kernel
theorem fi_X1_findCheapest_1 : ∀ w ∈ wsX10, w ∈ wsX1_findCheapest := by decide +kernel
theorem lk_X1_findCheapest_22 : Cond.fieldLink RX1 22 (TX1 2).1 (TX1 2).2.1 (TX1 2).2.2.1 ∈ wsX1_findCheapest := by decide +kernel
theorem lk_X1_findCheapest_26 : Cond.fieldLink RX1 26 (TX1 3).1 (TX1 3).2.1 (TX1 3).2.2.1 ∈ wsX1_findCheapest := by decide +kernel
theorem fi_X1_findCheapest_5 : ∀ w ∈ wsX50, w ∈ wsX1_findCheapest := by decide +kernel
theorem lk_X1_findCheapest_49 : Cond.fieldLink RX1 49 (TX5 0).1 (TX5 0).2.1 (TX5 0).2.2.1 ∈ wsX1_findCheapest := by decide +kernel
theorem lk_X1_findCheapest_12 : Cond.fieldLink RX1 12 (TX1 0).1 (TX1 0).2.1 (TX1 0).2.2.1 ∈ wsX1_findCheapest := by decide +kernel
theorem lk_X1_findCheapest_63 : Cond.fieldLink RX1 63 (TX5 5).1 (TX5 5).2.1 (TX5 5).2.2.1 ∈ wsX1_findCheapest := by decide +kernel
set_option maxHeartbeats 4000000 in
set_option maxRecDepth 100000 in
theorem kl_X1_findCheapest_22 {l : Launch} {G : Gx} {w1 : Nat}  {mF : Mm} (hw1 : IsW w1) : ∀ (n : Nat) (y2 : Int32) (y3 : Int32) (y4 : Int32) (m : Mm) (a0 : Mm), lp_X1_findCheapest_22 w1 n y2 y3 y4 m = some a0 → PW G (KM l G RX1 cX1_findCheapest 5 none wsX1_findCheapest 5 (Qv G mF)) 78 [] [] a0 → PW G (KM l G RX1 cX1_findCheapest 5 none wsX1_findCheapest 5 (Qv G mF)) 22 [(0, .ref (G.1 + 240)), (1, .ref (G.1 + w1)), (2, .int y2), (3, .int y3), (4, .int y4)] [] m := by
  intro n
  induction n with
  | zero => intro y2 y3 y4 m a0 h hk; cases h
  | succ n ih =>
    intro y2 y3 y4 m a0 h hk
    have h : lb_X1_findCheapest_22 (lp_X1_findCheapest_22 w1 n) w1 y2 y3 y4 m = _ := h
    unfold lb_X1_findCheapest_22 at h
    refine pw_iload 4 rfl 24 dX1_findCheapest_22 rfl ?_
    refine pw_iload_n 3 rfl rfl 25 dX1_findCheapest_24 rfl ?_
    refine pw_icmp_ge 78 28 dX1_findCheapest_25 (by decide) rfl (fun c4 => ?_) (fun c4 => ?_)
    · have h := if_t h c4
      refine pw_sub [] [] rfl ?_
      cases h; exact hk
    · have h := if_f h c4
      refine pw_aload_n 0 rfl rfl 29 dX1_findCheapest_28 rfl ?_
      refine pw_aload_n 1 rfl rfl 30 dX1_findCheapest_29 rfl ?_
      refine pw_iload 4 rfl 32 dX1_findCheapest_30 rfl ?_
      refine pw_iload_n 2 rfl rfl 33 dX1_findCheapest_32 rfl ?_
      obtain ⟨r6, m5, hr6, h⟩ := bd2_e h
      refine pw_callVi 36 dX1_findCheapest_33 rfl [.ref (G.1 + w1), .int y4, .int y2] 3 ⟨gX1_findCheapest_X1_fillsWith, rfl, sgV_X1_fillsWith, ⟨Nat.le_of_ble_eq_true rfl, Nat.le_of_ble_eq_true rfl⟩, ⟨Nat.le_refl _, Nat.le_refl _⟩⟩ ly_240 (by decide) la_240 rfl (k_X1_fillsWith hw1 hr6) rfl rfl (Nat.le_of_ble_eq_true rfl) ?_
      obtain ⟨m12, qm12, h⟩ := bd1_e h
      have hJ72_m12 : PW G (KM l G RX1 cX1_findCheapest 5 none wsX1_findCheapest 5 (Qv G mF)) 72 [(0, .ref (G.1 + 240)), (1, .ref (G.1 + w1)), (2, .int y2), (3, .int y3), (4, .int y4)] [] m12 := by
        obtain ⟨v13, ev13, h⟩ := nmE_ h
        refine pw_iinc 4 rfl (by rw [ev13]; rfl) [(4, .int v13), (0, .ref (G.1 + 240)), (1, .ref (G.1 + w1)), (2, .int y2), (3, .int y3)] 75 dX1_findCheapest_72 rfl (Nat.le_of_ble_eq_true rfl) rfl ?_
        refine pw_goto 22 dX1_findCheapest_75 (by decide) ?_
        refine pw_sub [1, 2, 3, 4, 0] [(0, .ref (G.1 + 240)), (1, .ref (G.1 + w1)), (2, .int y2), (3, .int y3), (4, .int v13)] rfl ?_
        exact ih y2 y3 v13 m12 a0 h hk
      refine pw_if_eq 72 39 dX1_findCheapest_36 (by decide) rfl (fun c7 => ?_) (fun c7 => ?_)
      · have qm12 := if_t qm12 c7
        refine pw_sub [0, 1, 2, 3, 4] [(0, .ref (G.1 + 240)), (1, .ref (G.1 + w1)), (2, .int y2), (3, .int y3), (4, .int y4)] rfl ?_
        cases qm12; exact hJ72_m12
      · have qm12 := if_f qm12 c7
        refine pw_aload_n 0 rfl rfl 40 dX1_findCheapest_39 rfl ?_
        refine pw_iload 4 rfl 42 dX1_findCheapest_40 rfl ?_
        refine pw_aload_n 0 rfl rfl 43 dX1_findCheapest_42 rfl ?_
        refine pw_getR 0 46 dX1_findCheapest_43 rfl fi_X1_findCheapest_1 lk_X1_findCheapest_12 la_240 ly_240 (by decide) rfl (by decide) rfl rf_240_0 ?_
        refine pw_getI 5 49 dX1_findCheapest_46 rfl fi_X1_findCheapest_5 lk_X1_findCheapest_63 la_241 ly_241 (by decide) rfl (by decide) rfl ?_
        refine pw_callVi 52 dX1_findCheapest_49 rfl [.int y4, .int (m5 241 5)] 2 ⟨gX1_findCheapest_X1_isCheaper, rfl, sgV_X1_isCheaper, ⟨Nat.le_of_ble_eq_true rfl, Nat.le_of_ble_eq_true rfl⟩, ⟨Nat.le_refl _, Nat.le_refl _⟩⟩ ly_240 (by decide) la_240 rfl (k_X1_isCheaper rfl) rfl rfl (Nat.le_of_ble_eq_true rfl) ?_
        refine pw_if_eq 72 55 dX1_findCheapest_52 (by decide) rfl (fun c8 => ?_) (fun c8 => ?_)
        · have qm12 := if_t qm12 c8
          refine pw_sub [0, 1, 2, 3, 4] [(0, .ref (G.1 + 240)), (1, .ref (G.1 + w1)), (2, .int y2), (3, .int y3), (4, .int y4)] rfl ?_
          cases qm12; exact hJ72_m12
        · have qm12 := if_f qm12 c8
          refine pw_aload_n 0 rfl rfl 56 dX1_findCheapest_55 rfl ?_
          refine pw_iload 4 rfl 58 dX1_findCheapest_56 rfl ?_
          refine pw_put (ty0 := tyX1) (ty := .int) 2 61 dX1_findCheapest_58 rfl fi_X1_findCheapest_1 tyX1_ok nmX1 lk_X1_findCheapest_22 la_240 ly_240 (by decide) rfl (by decide) rfl rfl rfl rfl rfl ?_
          obtain ⟨m9, em9, qm12⟩ := nmE_ qm12
          refine pw_mem em9 ?_
          refine pw_aload_n 0 rfl rfl 62 dX1_findCheapest_61 rfl ?_
          refine pw_aload_n 0 rfl rfl 63 dX1_findCheapest_62 rfl ?_
          refine pw_getR 0 66 dX1_findCheapest_63 rfl fi_X1_findCheapest_1 lk_X1_findCheapest_12 la_240 ly_240 (by decide) rfl (by decide) rfl rf_240_0 ?_
          refine pw_getI 5 69 dX1_findCheapest_66 rfl fi_X1_findCheapest_5 lk_X1_findCheapest_63 la_241 ly_241 (by decide) rfl (by decide) rfl ?_
          obtain ⟨v10, ev10, qm12⟩ := nmE_ qm12
          refine pw_top ev10 ?_
          refine pw_put (ty0 := tyX1) (ty := .int) 3 72 dX1_findCheapest_69 rfl fi_X1_findCheapest_1 tyX1_ok nmX1 lk_X1_findCheapest_26 la_240 ly_240 (by decide) rfl (by decide) rfl rfl rfl rfl rfl ?_
          obtain ⟨m11, em11, qm12⟩ := nmE_ qm12
          refine pw_mem em11 ?_
          refine pw_sub [0, 1, 2, 3, 4] [(0, .ref (G.1 + 240)), (1, .ref (G.1 + w1)), (2, .int y2), (3, .int y3), (4, .int y4)] rfl ?_
          cases qm12; exact hJ72_m12
set_option maxHeartbeats 4000000 in
set_option maxRecDepth 100000 in
theorem k_X1_findCheapest {l : Launch} {G : Gx} {w1 : Nat} {x2 : Int32} {m mF : Mm}  (hw1 : IsW w1) (h : f_X1_findCheapest w1 x2 m = some mF) : Cn l G 5 yX1_findCheapest wsX1_findCheapest [.ref (G.1 + 240), .ref (G.1 + w1), .int x2] m (Qv G mF) := by
  unfold f_X1_findCheapest at h
  refine Cn.of (own := RX1) (lv := [(0, .ref (G.1 + 240)), (1, .ref (G.1 + w1)), (2, .int x2)]) (by decide) rfl rfl (Nat.le_of_ble_eq_true rfl) rfl ?_
  refine pw_aload_n 0 rfl rfl 1 dX1_findCheapest_0 rfl ?_
  refine pw_ldc 3 lw_X1_findCheapest_c44 dX1_findCheapest_1 rfl ?_
  refine pw_put (ty0 := tyX1) (ty := .int) 2 6 dX1_findCheapest_3 rfl fi_X1_findCheapest_1 tyX1_ok nmX1 lk_X1_findCheapest_22 la_240 ly_240 (by decide) rfl (by decide) rfl rfl rfl rfl rfl ?_
  obtain ⟨m1, em1, h⟩ := nmE_ h
  refine pw_mem em1 ?_
  refine pw_aload_n 0 rfl rfl 7 dX1_findCheapest_6 rfl ?_
  refine pw_ldc 9 lw_X1_findCheapest_c44 dX1_findCheapest_7 rfl ?_
  refine pw_put (ty0 := tyX1) (ty := .int) 3 12 dX1_findCheapest_9 rfl fi_X1_findCheapest_1 tyX1_ok nmX1 lk_X1_findCheapest_26 la_240 ly_240 (by decide) rfl (by decide) rfl rfl rfl rfl rfl ?_
  obtain ⟨m2, em2, h⟩ := nmE_ h
  refine pw_mem em2 ?_
  refine pw_iconst (v := (1 : Int32)) (by decide) 13 dX1_findCheapest_12 rfl ?_
  refine pw_aload_n 1 rfl rfl 14 dX1_findCheapest_13 rfl ?_
  refine pw_getI 0 17 dX1_findCheapest_14 rfl fi_X1_findCheapest_5 lk_X1_findCheapest_49 hw1.lt hw1.o (by decide) rfl (by decide) rfl ?_
  refine pw_ishl 18 dX1_findCheapest_17 rfl ?_
  obtain ⟨v3, ev3, h⟩ := nmE_ h
  refine pw_top ev3 ?_
  refine pw_istore_n (hf := rfl) [(3, .int v3), (0, .ref (G.1 + 240)), (1, .ref (G.1 + w1)), (2, .int x2)] 19 dX1_findCheapest_18 rfl (Nat.le_of_ble_eq_true rfl) rfl ?_
  refine pw_iconst (v := (0 : Int32)) (by decide) 20 dX1_findCheapest_19 rfl ?_
  refine pw_istore [(4, .int (0 : Int32)), (3, .int v3), (0, .ref (G.1 + 240)), (1, .ref (G.1 + w1)), (2, .int x2)] 22 dX1_findCheapest_20 rfl (Nat.le_of_ble_eq_true rfl) rfl ?_
  obtain ⟨m14, h15, h⟩ := bd1_e h
  have hL22_h15 : PW G (KM l G RX1 cX1_findCheapest 5 none wsX1_findCheapest 5 (Qv G mF)) 78 [] [] m14 := by
    exact pw_vret dX1_findCheapest_78 (Option.some.inj h)
  refine pw_sub [2, 3, 4, 1, 0] [(0, .ref (G.1 + 240)), (1, .ref (G.1 + w1)), (2, .int x2), (3, .int v3), (4, .int (0 : Int32))] rfl ?_
  exact kl_X1_findCheapest_22 hw1 FU x2 v3 (0 : Int32) m2 m14 h15 hL22_h15
theorem lw_X6_hiring_c63 : Cond.constant RX6 63 (-1000001 : Int32) ∈ wsX6_hiring := by decide +kernel
theorem fi_X6_hiring_6 : ∀ w ∈ wsX60, w ∈ wsX6_hiring := by decide +kernel
theorem lk_X6_hiring_39 : Cond.fieldLink RX6 39 (TX6 4).1 (TX6 4).2.1 (TX6 4).2.2.1 ∈ wsX6_hiring := by decide +kernel
theorem lk_X6_hiring_25 : Cond.fieldLink RX6 25 (TX6 2).1 (TX6 2).2.1 (TX6 2).2.2.1 ∈ wsX6_hiring := by decide +kernel
theorem lw_X6_hiring_c135 : Cond.constant RX6 135 (-1000002 : Int32) ∈ wsX6_hiring := by decide +kernel
set_option maxHeartbeats 4000000 in
set_option maxRecDepth 100000 in
theorem k_X6_hiring {l : Launch} {G : Gx} {x1 : Int32} {x2 : Int32} {m mF : Mm} {r : Int32}  (h : f_X6_hiring x1 x2 m = some (r, mF)) : Cn l G 6 yX6_hiring wsX6_hiring [.ref (G.1 + 0), .int x1, .int x2] m (Qi G r mF) := by
  unfold f_X6_hiring at h
  refine Cn.of (own := RX6) (lv := [(0, .ref (G.1 + 0)), (1, .int x1), (2, .int x2)]) (by decide) rfl rfl (Nat.le_of_ble_eq_true rfl) rfl ?_
  refine pw_aload_n 0 rfl rfl 1 dX6_hiring_0 rfl ?_
  refine pw_callVi 4 dX6_hiring_1 rfl [] 0 ⟨gX6_hiring_X6_isNone, rfl, sgV_X6_isNone, ⟨Nat.le_of_ble_eq_true rfl, Nat.le_of_ble_eq_true rfl⟩, ⟨Nat.le_refl _, Nat.le_refl _⟩⟩ ly_0 (by decide) la_0 rfl (k_X6_isNone rfl) rfl rfl (Nat.le_of_ble_eq_true rfl) ?_
  refine pw_if_eq 10 7 dX6_hiring_4 (by decide) rfl (fun c1 => ?_) (fun c1 => ?_)
  · have h := if_t h c1
    refine pw_iload_n 1 rfl rfl 11 dX6_hiring_10 rfl ?_
    refine pw_iconst (v := (1 : Int32)) (by decide) 12 dX6_hiring_11 rfl ?_
    refine pw_bipush (v := (30 : Int32)) (by decide) 14 dX6_hiring_12 rfl ?_
    refine pw_callSi 17 dX6_hiring_14 rfl [.int x1, .int (1 : Int32), .int (30 : Int32)] 3 ⟨gX6_hiring_X6_isWithin, rfl, sgS_X6_isWithin, ⟨Nat.le_of_ble_eq_true rfl, Nat.le_of_ble_eq_true rfl⟩, ⟨Nat.le_refl _, Nat.le_refl _⟩⟩ (k_X6_isWithin rfl) rfl rfl (Nat.le_of_ble_eq_true rfl) ?_
    refine pw_if_eq 27 20 dX6_hiring_17 (by decide) rfl (fun c2 => ?_) (fun c2 => ?_)
    · have h := if_t h c2
      refine pw_ldc 29 lw_X6_hiring_c63 dX6_hiring_27 rfl ?_
      exact pw_iret dX6_hiring_29 (pr_inj h)
    · have h := if_f h c2
      refine pw_iload_n 2 rfl rfl 21 dX6_hiring_20 rfl ?_
      refine pw_callSi 24 dX6_hiring_21 rfl [.int x2] 1 ⟨gX6_hiring_X6_isFlag, rfl, sgS_X6_isFlag, ⟨Nat.le_of_ble_eq_true rfl, Nat.le_of_ble_eq_true rfl⟩, ⟨Nat.le_refl _, Nat.le_refl _⟩⟩ (k_X6_isFlag rfl) rfl rfl (Nat.le_of_ble_eq_true rfl) ?_
      refine pw_if_ne 30 27 dX6_hiring_24 (by decide) rfl (fun c3 => ?_) (fun c3 => ?_)
      · have h := if_f h c3
        refine pw_aload_n 0 rfl rfl 31 dX6_hiring_30 rfl ?_
        refine pw_getR 4 34 dX6_hiring_31 rfl fi_X6_hiring_6 lk_X6_hiring_39 la_0 ly_0 (by decide) rfl (by decide) rfl rf_0_4 ?_
        refine pw_aload_n 0 rfl rfl 35 dX6_hiring_34 rfl ?_
        refine pw_getR 2 38 dX6_hiring_35 rfl fi_X6_hiring_6 lk_X6_hiring_25 la_0 ly_0 (by decide) rfl (by decide) rfl rf_0_2 ?_
        refine pw_iload_n 1 rfl rfl 39 dX6_hiring_38 rfl ?_
        obtain ⟨m4, hm4, h⟩ := bd1_e h
        refine pw_callVv 42 dX6_hiring_39 rfl [.ref (G.1 + 13), .int x1] 2 ⟨gX6_hiring_X1_findCheapest, rfl, sgV_X1_findCheapest, ⟨Nat.le_of_ble_eq_true rfl, Nat.le_of_ble_eq_true rfl⟩, ⟨Nat.le_refl _, Nat.le_refl _⟩⟩ ly_240 (by decide) la_240 rfl (k_X1_findCheapest isW_13 hm4) rfl rfl (Nat.le_of_ble_eq_true rfl) ?_
        refine pw_aload_n 0 rfl rfl 43 dX6_hiring_42 rfl ?_
        refine pw_getR 4 46 dX6_hiring_43 rfl fi_X6_hiring_6 lk_X6_hiring_39 la_0 ly_0 (by decide) rfl (by decide) rfl rf_0_4 ?_
        refine pw_iload_n 2 rfl rfl 47 dX6_hiring_46 rfl ?_
        refine pw_callVi 50 dX6_hiring_47 rfl [.int x2] 1 ⟨gX6_hiring_X1_answer, rfl, sgV_X1_answer, ⟨Nat.le_of_ble_eq_true rfl, Nat.le_of_ble_eq_true rfl⟩, ⟨Nat.le_refl _, Nat.le_refl _⟩⟩ ly_240 (by decide) la_240 rfl (k_X1_answer rfl) rfl rfl (Nat.le_of_ble_eq_true rfl) ?_
        exact pw_iret dX6_hiring_50 (pr_inj h)
      · have h := if_t h c3
        refine pw_ldc 29 lw_X6_hiring_c63 dX6_hiring_27 rfl ?_
        exact pw_iret dX6_hiring_29 (pr_inj h)
  · have h := if_f h c1
    refine pw_ldc 9 lw_X6_hiring_c135 dX6_hiring_7 rfl ?_
    exact pw_iret dX6_hiring_9 (pr_inj h)
theorem fi_X1_keepIfMore_1 : ∀ w ∈ wsX10, w ∈ wsX1_keepIfMore := by decide +kernel
theorem lk_X1_keepIfMore_12 : Cond.fieldLink RX1 12 (TX1 0).1 (TX1 0).2.1 (TX1 0).2.2.1 ∈ wsX1_keepIfMore := by decide +kernel
theorem fi_X1_keepIfMore_5 : ∀ w ∈ wsX50, w ∈ wsX1_keepIfMore := by decide +kernel
theorem lk_X1_keepIfMore_93 : Cond.fieldLink RX1 93 (TX5 4).1 (TX5 4).2.1 (TX5 4).2.2.1 ∈ wsX1_keepIfMore := by decide +kernel
theorem lk_X1_keepIfMore_26 : Cond.fieldLink RX1 26 (TX1 3).1 (TX1 3).2.1 (TX1 3).2.2.1 ∈ wsX1_keepIfMore := by decide +kernel
theorem lk_X1_keepIfMore_22 : Cond.fieldLink RX1 22 (TX1 2).1 (TX1 2).2.1 (TX1 2).2.2.1 ∈ wsX1_keepIfMore := by decide +kernel
set_option maxHeartbeats 4000000 in
set_option maxRecDepth 100000 in
theorem k_X1_keepIfMore {l : Launch} {G : Gx} {x1 : Int32} {m mF : Mm}   (h : f_X1_keepIfMore x1 m = some mF) : Cn l G 0 yX1_keepIfMore wsX1_keepIfMore [.ref (G.1 + 240), .int x1] m (Qv G mF) := by
  unfold f_X1_keepIfMore at h
  refine Cn.of (own := RX1) (lv := [(0, .ref (G.1 + 240)), (1, .int x1)]) (by decide) rfl rfl (Nat.le_of_ble_eq_true rfl) rfl ?_
  refine pw_aload_n 0 rfl rfl 1 dX1_keepIfMore_0 rfl ?_
  refine pw_getR 0 4 dX1_keepIfMore_1 rfl fi_X1_keepIfMore_1 lk_X1_keepIfMore_12 la_240 ly_240 (by decide) rfl (by decide) rfl rf_240_0 ?_
  refine pw_getI 4 7 dX1_keepIfMore_4 rfl fi_X1_keepIfMore_5 lk_X1_keepIfMore_93 la_241 ly_241 (by decide) rfl (by decide) rfl ?_
  refine pw_aload_n 0 rfl rfl 8 dX1_keepIfMore_7 rfl ?_
  refine pw_getI 3 11 dX1_keepIfMore_8 rfl fi_X1_keepIfMore_1 lk_X1_keepIfMore_26 la_240 ly_240 (by decide) rfl (by decide) rfl ?_
  refine pw_icmp_le 30 14 dX1_keepIfMore_11 (by decide) rfl (fun c1 => ?_) (fun c1 => ?_)
  · have h := if_t h c1
    exact pw_vret dX1_keepIfMore_30 (Option.some.inj h)
  · have h := if_f h c1
    refine pw_aload_n 0 rfl rfl 15 dX1_keepIfMore_14 rfl ?_
    refine pw_iload_n 1 rfl rfl 16 dX1_keepIfMore_15 rfl ?_
    refine pw_put (ty0 := tyX1) (ty := .int) 2 19 dX1_keepIfMore_16 rfl fi_X1_keepIfMore_1 tyX1_ok nmX1 lk_X1_keepIfMore_22 la_240 ly_240 (by decide) rfl (by decide) rfl rfl rfl rfl rfl ?_
    obtain ⟨m2, em2, h⟩ := nmE_ h
    refine pw_mem em2 ?_
    refine pw_aload_n 0 rfl rfl 20 dX1_keepIfMore_19 rfl ?_
    refine pw_aload_n 0 rfl rfl 21 dX1_keepIfMore_20 rfl ?_
    refine pw_getR 0 24 dX1_keepIfMore_21 rfl fi_X1_keepIfMore_1 lk_X1_keepIfMore_12 la_240 ly_240 (by decide) rfl (by decide) rfl rf_240_0 ?_
    refine pw_getI 4 27 dX1_keepIfMore_24 rfl fi_X1_keepIfMore_5 lk_X1_keepIfMore_93 la_241 ly_241 (by decide) rfl (by decide) rfl ?_
    obtain ⟨v3, ev3, h⟩ := nmE_ h
    refine pw_top ev3 ?_
    refine pw_put (ty0 := tyX1) (ty := .int) 3 30 dX1_keepIfMore_27 rfl fi_X1_keepIfMore_1 tyX1_ok nmX1 lk_X1_keepIfMore_26 la_240 ly_240 (by decide) rfl (by decide) rfl rfl rfl rfl rfl ?_
    obtain ⟨m4, em4, h⟩ := nmE_ h
    refine pw_mem em4 ?_
    exact pw_vret dX1_keepIfMore_30 (Option.some.inj h)
theorem fi_X1_tryOrder_1 : ∀ w ∈ wsX10, w ∈ wsX1_tryOrder := by decide +kernel
theorem lk_X1_tryOrder_12 : Cond.fieldLink RX1 12 (TX1 0).1 (TX1 0).2.1 (TX1 0).2.2.1 ∈ wsX1_tryOrder := by decide +kernel
theorem fi_X1_tryOrder_5 : ∀ w ∈ wsX50, w ∈ wsX1_tryOrder := by decide +kernel
theorem lk_X1_tryOrder_49 : Cond.fieldLink RX1 49 (TX5 0).1 (TX5 0).2.1 (TX5 0).2.2.1 ∈ wsX1_tryOrder := by decide +kernel
theorem lk_X1_tryOrder_18 : Cond.fieldLink RX1 18 (TX1 1).1 (TX1 1).2.1 (TX1 1).2.2.1 ∈ wsX1_tryOrder := by decide +kernel
set_option maxHeartbeats 4000000 in
set_option maxRecDepth 100000 in
theorem kl_X1_tryOrder_13 {l : Launch} {G : Gx} {w1 : Nat}  {mF : Mm} (hw1 : IsW w1) : ∀ (n : Nat) (y2 : Int32) (y3 : Int32) (y4 : Int32) (m : Mm) (a0 : Int32) (a1 : Mm), lp_X1_tryOrder_13 w1 n y2 y3 y4 m = some (a0, a1) → PW G (KM l G RX1 cX1_tryOrder 5 none wsX1_tryOrder 4 (Qv G mF)) 57 [(0, .ref (G.1 + 240)), (2, .int y2), (3, .int a0)] [] a1 → PW G (KM l G RX1 cX1_tryOrder 5 none wsX1_tryOrder 4 (Qv G mF)) 13 [(0, .ref (G.1 + 240)), (1, .ref (G.1 + w1)), (2, .int y2), (3, .int y3), (4, .int y4)] [] m := by
  intro n
  induction n with
  | zero => intro y2 y3 y4 m a0 a1 h hk; cases h
  | succ n ih =>
    intro y2 y3 y4 m a0 a1 h hk
    have h : lb_X1_tryOrder_13 (lp_X1_tryOrder_13 w1 n) w1 y2 y3 y4 m = _ := h
    unfold lb_X1_tryOrder_13 at h
    refine pw_iload 4 rfl 15 dX1_tryOrder_13 rfl ?_
    refine pw_aload_n 1 rfl rfl 16 dX1_tryOrder_15 rfl ?_
    refine pw_getI 0 19 dX1_tryOrder_16 rfl fi_X1_tryOrder_5 lk_X1_tryOrder_49 hw1.lt hw1.o (by decide) rfl (by decide) rfl ?_
    refine pw_icmp_ge 57 22 dX1_tryOrder_19 (by decide) rfl (fun c2 => ?_) (fun c2 => ?_)
    · have h := if_t h c2
      refine pw_sub [0, 2, 3] [(0, .ref (G.1 + 240)), (2, .int y2), (3, .int y3)] rfl ?_
      cases h; exact hk
    · have h := if_f h c2
      refine pw_aload_n 0 rfl rfl 23 dX1_tryOrder_22 rfl ?_
      refine pw_getR 0 26 dX1_tryOrder_23 rfl fi_X1_tryOrder_1 lk_X1_tryOrder_12 la_240 ly_240 (by decide) rfl (by decide) rfl rf_240_0 ?_
      refine pw_aload_n 0 rfl rfl 27 dX1_tryOrder_26 rfl ?_
      refine pw_getR 1 30 dX1_tryOrder_27 rfl fi_X1_tryOrder_1 lk_X1_tryOrder_18 la_240 ly_240 (by decide) rfl (by decide) rfl rf_240_1 ?_
      refine pw_iload 4 rfl 32 dX1_tryOrder_30 rfl ?_
      obtain ⟨h3, h⟩ := gd_e h
      refine pw_iald 33 dX1_tryOrder_32 rfl la_250 ly_250 h3 ?_
      refine pw_iload 4 rfl 35 dX1_tryOrder_33 rfl ?_
      obtain ⟨m4, hm4, h⟩ := bd1_e h
      refine pw_callVv 38 dX1_tryOrder_35 rfl [.int (m 250 (ix y4)), .int y4] 2 ⟨gX1_tryOrder_X5_sit, rfl, sgV_X5_sit, ⟨Nat.le_of_ble_eq_true rfl, Nat.le_of_ble_eq_true rfl⟩, ⟨Nat.le_refl _, Nat.le_refl _⟩⟩ ly_241 (by decide) la_241 rfl (k_X5_sit isW_241 hm4) rfl rfl (Nat.le_of_ble_eq_true rfl) ?_
      refine pw_iload_n 3 rfl rfl 39 dX1_tryOrder_38 rfl ?_
      refine pw_bipush (v := (10 : Int32)) (by decide) 41 dX1_tryOrder_39 rfl ?_
      refine pw_imul 42 dX1_tryOrder_41 rfl ?_
      refine pw_aload_n 0 rfl rfl 43 dX1_tryOrder_42 rfl ?_
      refine pw_getR 1 46 dX1_tryOrder_43 rfl fi_X1_tryOrder_1 lk_X1_tryOrder_18 la_240 ly_240 (by decide) rfl (by decide) rfl rf_240_1 ?_
      refine pw_iload 4 rfl 48 dX1_tryOrder_46 rfl ?_
      obtain ⟨h5, h⟩ := gd_e h
      refine pw_iald 49 dX1_tryOrder_48 rfl la_250 ly_250 h5 ?_
      refine pw_iadd 50 dX1_tryOrder_49 rfl ?_
      obtain ⟨v6, ev6, h⟩ := nmE_ h
      refine pw_top ev6 ?_
      refine pw_istore_n (hf := rfl) [(3, .int v6), (0, .ref (G.1 + 240)), (1, .ref (G.1 + w1)), (2, .int y2), (4, .int y4)] 51 dX1_tryOrder_50 rfl (Nat.le_of_ble_eq_true rfl) rfl ?_
      obtain ⟨v7, ev7, h⟩ := nmE_ h
      refine pw_iinc 4 rfl (by rw [ev7]; rfl) [(4, .int v7), (3, .int v6), (0, .ref (G.1 + 240)), (1, .ref (G.1 + w1)), (2, .int y2)] 54 dX1_tryOrder_51 rfl (Nat.le_of_ble_eq_true rfl) rfl ?_
      refine pw_goto 13 dX1_tryOrder_54 (by decide) ?_
      refine pw_sub [2, 3, 4, 1, 0] [(0, .ref (G.1 + 240)), (1, .ref (G.1 + w1)), (2, .int y2), (3, .int v6), (4, .int v7)] rfl ?_
      exact ih y2 v6 v7 m4 a0 a1 h hk
set_option maxHeartbeats 4000000 in
set_option maxRecDepth 100000 in
theorem k_X1_tryOrder {l : Launch} {G : Gx} {w1 : Nat} {x2 : Int32} {m mF : Mm}  (hw1 : IsW w1) (h : f_X1_tryOrder w1 x2 m = some mF) : Cn l G 4 yX1_tryOrder wsX1_tryOrder [.ref (G.1 + 240), .ref (G.1 + w1), .int x2] m (Qv G mF) := by
  unfold f_X1_tryOrder at h
  refine Cn.of (own := RX1) (lv := [(0, .ref (G.1 + 240)), (1, .ref (G.1 + w1)), (2, .int x2)]) (by decide) rfl rfl (Nat.le_of_ble_eq_true rfl) rfl ?_
  refine pw_aload_n 0 rfl rfl 1 dX1_tryOrder_0 rfl ?_
  refine pw_getR 0 4 dX1_tryOrder_1 rfl fi_X1_tryOrder_1 lk_X1_tryOrder_12 la_240 ly_240 (by decide) rfl (by decide) rfl rf_240_0 ?_
  refine pw_aload_n 1 rfl rfl 5 dX1_tryOrder_4 rfl ?_
  obtain ⟨m1, hm1, h⟩ := bd1_e h
  refine pw_callVv 8 dX1_tryOrder_5 rfl [.ref (G.1 + w1)] 1 ⟨gX1_tryOrder_X5_become, rfl, sgV_X5_become, ⟨Nat.le_of_ble_eq_true rfl, Nat.le_of_ble_eq_true rfl⟩, ⟨Nat.le_refl _, Nat.le_refl _⟩⟩ ly_241 (by decide) la_241 rfl (k_X5_become isW_241 hw1 hm1) rfl rfl (Nat.le_of_ble_eq_true rfl) ?_
  refine pw_iconst (v := (0 : Int32)) (by decide) 9 dX1_tryOrder_8 rfl ?_
  refine pw_istore_n (hf := rfl) [(3, .int (0 : Int32)), (0, .ref (G.1 + 240)), (1, .ref (G.1 + w1)), (2, .int x2)] 10 dX1_tryOrder_9 rfl (Nat.le_of_ble_eq_true rfl) rfl ?_
  refine pw_iconst (v := (0 : Int32)) (by decide) 11 dX1_tryOrder_10 rfl ?_
  refine pw_istore [(4, .int (0 : Int32)), (3, .int (0 : Int32)), (0, .ref (G.1 + 240)), (1, .ref (G.1 + w1)), (2, .int x2)] 13 dX1_tryOrder_11 rfl (Nat.le_of_ble_eq_true rfl) rfl ?_
  obtain ⟨z8, m9, h10, h⟩ := bd2_e h
  have hL13_h10 : PW G (KM l G RX1 cX1_tryOrder 5 none wsX1_tryOrder 4 (Qv G mF)) 57 [(0, .ref (G.1 + 240)), (2, .int x2), (3, .int z8)] [] m9 := by
    refine pw_aload_n 0 rfl rfl 58 dX1_tryOrder_57 rfl ?_
    refine pw_getR 0 61 dX1_tryOrder_58 rfl fi_X1_tryOrder_1 lk_X1_tryOrder_12 la_240 ly_240 (by decide) rfl (by decide) rfl rf_240_0 ?_
    refine pw_iload_n 1 rfl rfl 62 dX1_tryOrder_61 rfl ?_
    obtain ⟨m11, hm11, h⟩ := bd1_e h
    refine pw_callVv 65 dX1_tryOrder_62 rfl [.int x2] 1 ⟨gX1_tryOrder_X5_run, rfl, sgV_X5_run, ⟨Nat.le_of_ble_eq_true rfl, Nat.le_of_ble_eq_true rfl⟩, ⟨Nat.le_refl _, Nat.le_refl _⟩⟩ ly_241 (by decide) la_241 rfl (k_X5_run isW_241 hm11) rfl rfl (Nat.le_of_ble_eq_true rfl) ?_
    refine pw_aload_n 0 rfl rfl 66 dX1_tryOrder_65 rfl ?_
    refine pw_iload_n 2 rfl rfl 67 dX1_tryOrder_66 rfl ?_
    obtain ⟨m12, hm12, h⟩ := bd1_e h
    refine pw_callVv 70 dX1_tryOrder_67 rfl [.int z8] 1 ⟨gX1_tryOrder_X1_keepIfMore, rfl, sgV_X1_keepIfMore, ⟨Nat.le_of_ble_eq_true rfl, Nat.le_of_ble_eq_true rfl⟩, ⟨Nat.le_refl _, Nat.le_refl _⟩⟩ ly_240 (by decide) la_240 rfl (k_X1_keepIfMore hm12) rfl rfl (Nat.le_of_ble_eq_true rfl) ?_
    exact pw_vret dX1_tryOrder_70 (Option.some.inj h)
  refine pw_sub [2, 3, 4, 1, 0] [(0, .ref (G.1 + 240)), (1, .ref (G.1 + w1)), (2, .int x2), (3, .int (0 : Int32)), (4, .int (0 : Int32))] rfl ?_
  exact kl_X1_tryOrder_13 hw1 FU x2 (0 : Int32) (0 : Int32) m1 z8 m9 h10 hL13_h10
theorem fi_X1_exchange_1 : ∀ w ∈ wsX10, w ∈ wsX1_exchange := by decide +kernel
theorem lk_X1_exchange_18 : Cond.fieldLink RX1 18 (TX1 1).1 (TX1 1).2.1 (TX1 1).2.2.1 ∈ wsX1_exchange := by decide +kernel
set_option maxHeartbeats 4000000 in
set_option maxRecDepth 100000 in
theorem k_X1_exchange {l : Launch} {G : Gx} {x1 : Int32} {x2 : Int32} {m mF : Mm}   (h : f_X1_exchange x1 x2 m = some mF) : Cn l G 0 yX1_exchange wsX1_exchange [.ref (G.1 + 240), .int x1, .int x2] m (Qv G mF) := by
  unfold f_X1_exchange at h
  refine Cn.of (own := RX1) (lv := [(0, .ref (G.1 + 240)), (1, .int x1), (2, .int x2)]) (by decide) rfl rfl (Nat.le_of_ble_eq_true rfl) rfl ?_
  refine pw_aload_n 0 rfl rfl 1 dX1_exchange_0 rfl ?_
  refine pw_getR 1 4 dX1_exchange_1 rfl fi_X1_exchange_1 lk_X1_exchange_18 la_240 ly_240 (by decide) rfl (by decide) rfl rf_240_1 ?_
  refine pw_iload_n 1 rfl rfl 5 dX1_exchange_4 rfl ?_
  obtain ⟨h1, h⟩ := gd_e h
  refine pw_iald 6 dX1_exchange_5 rfl la_250 ly_250 h1 ?_
  obtain ⟨v2, ev2, h⟩ := nmE_ h
  refine pw_top ev2 ?_
  refine pw_istore_n (hf := rfl) [(3, .int v2), (0, .ref (G.1 + 240)), (1, .int x1), (2, .int x2)] 7 dX1_exchange_6 rfl (Nat.le_of_ble_eq_true rfl) rfl ?_
  refine pw_aload_n 1 rfl rfl 8 dX1_exchange_7 rfl ?_
  refine pw_getR 1 11 dX1_exchange_8 rfl fi_X1_exchange_1 lk_X1_exchange_18 la_240 ly_240 (by decide) rfl (by decide) rfl rf_240_1 ?_
  refine pw_iload_n 2 rfl rfl 12 dX1_exchange_11 rfl ?_
  refine pw_aload_n 1 rfl rfl 13 dX1_exchange_12 rfl ?_
  refine pw_getR 1 16 dX1_exchange_13 rfl fi_X1_exchange_1 lk_X1_exchange_18 la_240 ly_240 (by decide) rfl (by decide) rfl rf_240_1 ?_
  refine pw_iload_n 3 rfl rfl 17 dX1_exchange_16 rfl ?_
  obtain ⟨h3, h⟩ := gd_e h
  refine pw_iald 18 dX1_exchange_17 rfl la_250 ly_250 h3 ?_
  obtain ⟨v4, ev4, h⟩ := nmE_ h
  refine pw_top ev4 ?_
  obtain ⟨h8, h⟩ := gd_e h
  refine pw_iast 19 dX1_exchange_18 rfl la_250 ly_250 h8 ?_
  obtain ⟨m5, em5, h⟩ := nmE_ h
  refine pw_mem em5 ?_
  refine pw_aload_n 1 rfl rfl 20 dX1_exchange_19 rfl ?_
  refine pw_getR 1 23 dX1_exchange_20 rfl fi_X1_exchange_1 lk_X1_exchange_18 la_240 ly_240 (by decide) rfl (by decide) rfl rf_240_1 ?_
  refine pw_iload_n 3 rfl rfl 24 dX1_exchange_23 rfl ?_
  refine pw_iload_n 0 rfl rfl 25 dX1_exchange_24 rfl ?_
  obtain ⟨h7, h⟩ := gd_e h
  refine pw_iast 26 dX1_exchange_25 rfl la_250 ly_250 h7 ?_
  obtain ⟨m6, em6, h⟩ := nmE_ h
  refine pw_mem em6 ?_
  exact pw_vret dX1_exchange_26 (Option.some.inj h)
theorem fi_X1_nextOrder_1 : ∀ w ∈ wsX10, w ∈ wsX1_nextOrder := by decide +kernel
theorem lk_X1_nextOrder_18 : Cond.fieldLink RX1 18 (TX1 1).1 (TX1 1).2.1 (TX1 1).2.2.1 ∈ wsX1_nextOrder := by decide +kernel
set_option maxHeartbeats 4000000 in
set_option maxRecDepth 100000 in
theorem kl_X1_nextOrder_4 {l : Launch} {G : Gx}   {mF : Mm}  : ∀ (n : Nat) (y1 : Int32) (y2 : Int32) (m : Mm) (a0 : Int32), lp_X1_nextOrder_4 n y1 y2 m = some a0 → PW G (KM l G RX1 cX1_nextOrder 6 none wsX1_nextOrder 1 (Qv G mF)) 31 [(0, .ref (G.1 + 240)), (1, .int y1), (2, .int a0)] [] m → PW G (KM l G RX1 cX1_nextOrder 6 none wsX1_nextOrder 1 (Qv G mF)) 4 [(0, .ref (G.1 + 240)), (1, .int y1), (2, .int y2)] [] m := by
  intro n
  induction n with
  | zero => intro y1 y2 m a0 h hk; cases h
  | succ n ih =>
    intro y1 y2 m a0 h hk
    have h : lb_X1_nextOrder_4 (lp_X1_nextOrder_4 n) y1 y2 m = _ := h
    unfold lb_X1_nextOrder_4 at h
    refine pw_iload_n 2 rfl rfl 5 dX1_nextOrder_4 rfl ?_
    refine pw_if_lt 31 8 dX1_nextOrder_5 (by decide) rfl (fun c2 => ?_) (fun c2 => ?_)
    · have h := if_t h c2
      refine pw_sub [0, 1, 2] [(0, .ref (G.1 + 240)), (1, .int y1), (2, .int y2)] rfl ?_
      cases h; exact hk
    · have h := if_f h c2
      refine pw_aload_n 0 rfl rfl 9 dX1_nextOrder_8 rfl ?_
      refine pw_getR 1 12 dX1_nextOrder_9 rfl fi_X1_nextOrder_1 lk_X1_nextOrder_18 la_240 ly_240 (by decide) rfl (by decide) rfl rf_240_1 ?_
      refine pw_iload_n 2 rfl rfl 13 dX1_nextOrder_12 rfl ?_
      obtain ⟨h3, h⟩ := gd_e h
      refine pw_iald 14 dX1_nextOrder_13 rfl la_250 ly_250 h3 ?_
      refine pw_aload_n 0 rfl rfl 15 dX1_nextOrder_14 rfl ?_
      refine pw_getR 1 18 dX1_nextOrder_15 rfl fi_X1_nextOrder_1 lk_X1_nextOrder_18 la_240 ly_240 (by decide) rfl (by decide) rfl rf_240_1 ?_
      refine pw_iload_n 2 rfl rfl 19 dX1_nextOrder_18 rfl ?_
      refine pw_iconst (v := (1 : Int32)) (by decide) 20 dX1_nextOrder_19 rfl ?_
      refine pw_iadd 21 dX1_nextOrder_20 rfl ?_
      obtain ⟨h4, h⟩ := gd_e h
      refine pw_iald 22 dX1_nextOrder_21 rfl la_250 ly_250 h4 ?_
      refine pw_icmp_le 31 25 dX1_nextOrder_22 (by decide) rfl (fun c5 => ?_) (fun c5 => ?_)
      · have h := if_t h c5
        refine pw_sub [0, 1, 2] [(0, .ref (G.1 + 240)), (1, .int y1), (2, .int y2)] rfl ?_
        cases h; exact hk
      · have h := if_f h c5
        obtain ⟨v6, ev6, h⟩ := nmE_ h
        refine pw_iinc 2 rfl (by rw [ev6]; rfl) [(2, .int v6), (0, .ref (G.1 + 240)), (1, .int y1)] 28 dX1_nextOrder_25 rfl (Nat.le_of_ble_eq_true rfl) rfl ?_
        refine pw_goto 4 dX1_nextOrder_28 (by decide) ?_
        refine pw_sub [1, 2, 0] [(0, .ref (G.1 + 240)), (1, .int y1), (2, .int v6)] rfl ?_
        exact ih y1 v6 m a0 h hk
set_option maxHeartbeats 4000000 in
set_option maxRecDepth 100000 in
theorem kl_X1_nextOrder_40 {l : Launch} {G : Gx}   {mF : Mm}  : ∀ (n : Nat) (y1 : Int32) (y2 : Int32) (y3 : Int32) (m : Mm) (a0 : Int32), lp_X1_nextOrder_40 n y1 y2 y3 m = some a0 → PW G (KM l G RX1 cX1_nextOrder 6 none wsX1_nextOrder 1 (Qv G mF)) 66 [(0, .ref (G.1 + 240)), (1, .int y1), (2, .int y2), (3, .int a0)] [] m → PW G (KM l G RX1 cX1_nextOrder 6 none wsX1_nextOrder 1 (Qv G mF)) 40 [(0, .ref (G.1 + 240)), (1, .int y1), (2, .int y2), (3, .int y3)] [] m := by
  intro n
  induction n with
  | zero => intro y1 y2 y3 m a0 h hk; cases h
  | succ n ih =>
    intro y1 y2 y3 m a0 h hk
    have h : lb_X1_nextOrder_40 (lp_X1_nextOrder_40 n) y1 y2 y3 m = _ := h
    unfold lb_X1_nextOrder_40 at h
    refine pw_iload_n 3 rfl rfl 41 dX1_nextOrder_40 rfl ?_
    refine pw_iload_n 2 rfl rfl 42 dX1_nextOrder_41 rfl ?_
    refine pw_icmp_le 66 45 dX1_nextOrder_42 (by decide) rfl (fun c11 => ?_) (fun c11 => ?_)
    · have h := if_t h c11
      refine pw_sub [0, 1, 2, 3] [(0, .ref (G.1 + 240)), (1, .int y1), (2, .int y2), (3, .int y3)] rfl ?_
      cases h; exact hk
    · have h := if_f h c11
      refine pw_aload_n 0 rfl rfl 46 dX1_nextOrder_45 rfl ?_
      refine pw_getR 1 49 dX1_nextOrder_46 rfl fi_X1_nextOrder_1 lk_X1_nextOrder_18 la_240 ly_240 (by decide) rfl (by decide) rfl rf_240_1 ?_
      refine pw_iload_n 3 rfl rfl 50 dX1_nextOrder_49 rfl ?_
      obtain ⟨h12, h⟩ := gd_e h
      refine pw_iald 51 dX1_nextOrder_50 rfl la_250 ly_250 h12 ?_
      refine pw_aload_n 0 rfl rfl 52 dX1_nextOrder_51 rfl ?_
      refine pw_getR 1 55 dX1_nextOrder_52 rfl fi_X1_nextOrder_1 lk_X1_nextOrder_18 la_240 ly_240 (by decide) rfl (by decide) rfl rf_240_1 ?_
      refine pw_iload_n 2 rfl rfl 56 dX1_nextOrder_55 rfl ?_
      obtain ⟨h13, h⟩ := gd_e h
      refine pw_iald 57 dX1_nextOrder_56 rfl la_250 ly_250 h13 ?_
      refine pw_icmp_ge 66 60 dX1_nextOrder_57 (by decide) rfl (fun c14 => ?_) (fun c14 => ?_)
      · have h := if_t h c14
        refine pw_sub [0, 1, 2, 3] [(0, .ref (G.1 + 240)), (1, .int y1), (2, .int y2), (3, .int y3)] rfl ?_
        cases h; exact hk
      · have h := if_f h c14
        obtain ⟨v15, ev15, h⟩ := nmE_ h
        refine pw_iinc 3 rfl (by rw [ev15]; rfl) [(3, .int v15), (0, .ref (G.1 + 240)), (1, .int y1), (2, .int y2)] 63 dX1_nextOrder_60 rfl (Nat.le_of_ble_eq_true rfl) rfl ?_
        refine pw_goto 40 dX1_nextOrder_63 (by decide) ?_
        refine pw_sub [1, 2, 3, 0] [(0, .ref (G.1 + 240)), (1, .int y1), (2, .int y2), (3, .int v15)] rfl ?_
        exact ih y1 y2 v15 m a0 h hk
set_option maxHeartbeats 4000000 in
set_option maxRecDepth 100000 in
theorem kl_X1_nextOrder_82 {l : Launch} {G : Gx}   {mF : Mm}  : ∀ (n : Nat) (y4 : Int32) (y5 : Int32) (m : Mm) (a0 : Mm), lp_X1_nextOrder_82 n y4 y5 m = some a0 → PW G (KM l G RX1 cX1_nextOrder 6 none wsX1_nextOrder 1 (Qv G mF)) 106 [] [] a0 → PW G (KM l G RX1 cX1_nextOrder 6 none wsX1_nextOrder 1 (Qv G mF)) 82 [(0, .ref (G.1 + 240)), (4, .int y4), (5, .int y5)] [] m := by
  intro n
  induction n with
  | zero => intro y4 y5 m a0 h hk; cases h
  | succ n ih =>
    intro y4 y5 m a0 h hk
    have h : lb_X1_nextOrder_82 (lp_X1_nextOrder_82 n) y4 y5 m = _ := h
    unfold lb_X1_nextOrder_82 at h
    refine pw_iload 2 rfl 84 dX1_nextOrder_82 rfl ?_
    refine pw_iload 1 rfl 86 dX1_nextOrder_84 rfl ?_
    refine pw_icmp_ge 106 89 dX1_nextOrder_86 (by decide) rfl (fun c21 => ?_) (fun c21 => ?_)
    · have h := if_t h c21
      refine pw_sub [] [] rfl ?_
      cases h; exact hk
    · have h := if_f h c21
      refine pw_aload_n 0 rfl rfl 90 dX1_nextOrder_89 rfl ?_
      refine pw_iload 2 rfl 92 dX1_nextOrder_90 rfl ?_
      refine pw_iload 1 rfl 94 dX1_nextOrder_92 rfl ?_
      obtain ⟨m22, hm22, h⟩ := bd1_e h
      refine pw_callVv 97 dX1_nextOrder_94 rfl [.int y5, .int y4] 2 ⟨gX1_nextOrder_X1_exchange, rfl, sgV_X1_exchange, ⟨Nat.le_of_ble_eq_true rfl, Nat.le_of_ble_eq_true rfl⟩, ⟨Nat.le_refl _, Nat.le_refl _⟩⟩ ly_240 (by decide) la_240 rfl (k_X1_exchange hm22) rfl rfl (Nat.le_of_ble_eq_true rfl) ?_
      obtain ⟨v23, ev23, h⟩ := nmE_ h
      refine pw_iinc 1 rfl (by rw [ev23]; rfl) [(4, .int v23), (0, .ref (G.1 + 240)), (5, .int y5)] 100 dX1_nextOrder_97 rfl (Nat.le_of_ble_eq_true rfl) rfl ?_
      obtain ⟨v24, ev24, h⟩ := nmE_ h
      refine pw_iinc 2 rfl (by rw [ev24]; rfl) [(5, .int v24), (4, .int v23), (0, .ref (G.1 + 240))] 103 dX1_nextOrder_100 rfl (Nat.le_of_ble_eq_true rfl) rfl ?_
      refine pw_goto 82 dX1_nextOrder_103 (by decide) ?_
      refine pw_sub [2, 1, 0] [(0, .ref (G.1 + 240)), (4, .int v23), (5, .int v24)] rfl ?_
      exact ih v23 v24 m22 a0 h hk
set_option maxHeartbeats 4000000 in
set_option maxRecDepth 100000 in
theorem k_X1_nextOrder {l : Launch} {G : Gx} {x1 : Int32} {m mF : Mm}   (h : f_X1_nextOrder x1 m = some mF) : Cn l G 1 yX1_nextOrder wsX1_nextOrder [.ref (G.1 + 240), .int x1] m (Qv G mF) := by
  unfold f_X1_nextOrder at h
  refine Cn.of (own := RX1) (lv := [(0, .ref (G.1 + 240)), (1, .int x1)]) (by decide) rfl rfl (Nat.le_of_ble_eq_true rfl) rfl ?_
  refine pw_iload_n 1 rfl rfl 1 dX1_nextOrder_0 rfl ?_
  refine pw_iconst (v := (2 : Int32)) (by decide) 2 dX1_nextOrder_1 rfl ?_
  refine pw_isub 3 dX1_nextOrder_2 rfl ?_
  obtain ⟨v1, ev1, h⟩ := nmE_ h
  refine pw_top ev1 ?_
  refine pw_istore_n (hf := rfl) [(2, .int v1), (0, .ref (G.1 + 240)), (1, .int x1)] 4 dX1_nextOrder_3 rfl (Nat.le_of_ble_eq_true rfl) rfl ?_
  obtain ⟨z7, h8, h⟩ := bd1_e h
  have hL4_h8 : PW G (KM l G RX1 cX1_nextOrder 6 none wsX1_nextOrder 1 (Qv G mF)) 31 [(0, .ref (G.1 + 240)), (1, .int x1), (2, .int z7)] [] m := by
    refine pw_iload_n 2 rfl rfl 32 dX1_nextOrder_31 rfl ?_
    refine pw_if_ge 36 35 dX1_nextOrder_32 (by decide) rfl (fun c9 => ?_) (fun c9 => ?_)
    · have h := if_t h c9
      refine pw_iload_n 1 rfl rfl 37 dX1_nextOrder_36 rfl ?_
      refine pw_iconst (v := (1 : Int32)) (by decide) 38 dX1_nextOrder_37 rfl ?_
      refine pw_isub 39 dX1_nextOrder_38 rfl ?_
      obtain ⟨v10, ev10, h⟩ := nmE_ h
      refine pw_top ev10 ?_
      refine pw_istore_n (hf := rfl) [(3, .int v10), (0, .ref (G.1 + 240)), (1, .int x1), (2, .int z7)] 40 dX1_nextOrder_39 rfl (Nat.le_of_ble_eq_true rfl) rfl ?_
      obtain ⟨z16, h17, h⟩ := bd1_e h
      have hL40_h17 : PW G (KM l G RX1 cX1_nextOrder 6 none wsX1_nextOrder 1 (Qv G mF)) 66 [(0, .ref (G.1 + 240)), (1, .int x1), (2, .int z7), (3, .int z16)] [] m := by
        refine pw_aload_n 0 rfl rfl 67 dX1_nextOrder_66 rfl ?_
        refine pw_iload_n 2 rfl rfl 68 dX1_nextOrder_67 rfl ?_
        refine pw_iload_n 3 rfl rfl 69 dX1_nextOrder_68 rfl ?_
        obtain ⟨m18, hm18, h⟩ := bd1_e h
        refine pw_callVv 72 dX1_nextOrder_69 rfl [.int z7, .int z16] 2 ⟨gX1_nextOrder_X1_exchange, rfl, sgV_X1_exchange, ⟨Nat.le_of_ble_eq_true rfl, Nat.le_of_ble_eq_true rfl⟩, ⟨Nat.le_refl _, Nat.le_refl _⟩⟩ ly_240 (by decide) la_240 rfl (k_X1_exchange hm18) rfl rfl (Nat.le_of_ble_eq_true rfl) ?_
        refine pw_iload_n 1 rfl rfl 73 dX1_nextOrder_72 rfl ?_
        refine pw_iconst (v := (1 : Int32)) (by decide) 74 dX1_nextOrder_73 rfl ?_
        refine pw_isub 75 dX1_nextOrder_74 rfl ?_
        obtain ⟨v19, ev19, h⟩ := nmE_ h
        refine pw_top ev19 ?_
        refine pw_istore [(4, .int v19), (0, .ref (G.1 + 240)), (1, .int x1), (2, .int z7), (3, .int z16)] 77 dX1_nextOrder_75 rfl (Nat.le_of_ble_eq_true rfl) rfl ?_
        refine pw_iload_n 3 rfl rfl 78 dX1_nextOrder_77 rfl ?_
        refine pw_iconst (v := (1 : Int32)) (by decide) 79 dX1_nextOrder_78 rfl ?_
        refine pw_iadd 80 dX1_nextOrder_79 rfl ?_
        obtain ⟨v20, ev20, h⟩ := nmE_ h
        refine pw_top ev20 ?_
        refine pw_istore [(5, .int v20), (4, .int v19), (0, .ref (G.1 + 240)), (1, .int x1), (2, .int z7), (3, .int z16)] 82 dX1_nextOrder_80 rfl (Nat.le_of_ble_eq_true rfl) rfl ?_
        obtain ⟨m25, h26, h⟩ := bd1_e h
        have hL82_h26 : PW G (KM l G RX1 cX1_nextOrder 6 none wsX1_nextOrder 1 (Qv G mF)) 106 [] [] m25 := by
          exact pw_vret dX1_nextOrder_106 (Option.some.inj h)
        refine pw_sub [2, 1, 0] [(0, .ref (G.1 + 240)), (4, .int v19), (5, .int v20)] rfl ?_
        exact kl_X1_nextOrder_82 FU v19 v20 m18 m25 h26 hL82_h26
      refine pw_sub [1, 2, 3, 0] [(0, .ref (G.1 + 240)), (1, .int x1), (2, .int z7), (3, .int v10)] rfl ?_
      exact kl_X1_nextOrder_40 FU x1 z7 v10 m z16 h17 hL40_h17
    · have h := if_f h c9
      exact pw_vret dX1_nextOrder_35 (Option.some.inj h)
  refine pw_sub [1, 2, 0] [(0, .ref (G.1 + 240)), (1, .int x1), (2, .int v1)] rfl ?_
  exact kl_X1_nextOrder_4 FU x1 v1 m z7 h8 hL4_h8
