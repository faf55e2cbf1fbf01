set_option maxHeartbeats 4000000 in
set_option maxRecDepth 100000 in
theorem k_X7_manMark {l : Launch} {G : Gx} {x1 : Int32} {m mF : Mm} {r : Int32}  (h : f_X7_manMark x1 m = some (r, mF)) : Cn l G 2 yX7_manMark wsX7_manMark [.ref (G.1 + 298), .int x1] m (Qi G r mF) := by
  unfold f_X7_manMark at h
  refine Cn.of (own := RX7) (lv := [(0, .ref (G.1 + 298)), (1, .int x1)]) (by decide) rfl rfl (Nat.le_of_ble_eq_true rfl) rfl ?_
  refine pw_aload_n 0 rfl rfl 1 dX7_manMark_0 rfl ?_
  refine pw_bipush (v := (23 : Int32)) (by decide) 3 dX7_manMark_1 rfl ?_
  obtain ⟨m1, hm1, h⟩ := bd1_e h
  refine pw_callVv 6 dX7_manMark_3 rfl [.int (23 : Int32)] 1 ⟨gX7_manMark_X7_begins, rfl, sgV_X7_begins, ⟨Nat.le_of_ble_eq_true rfl, Nat.le_of_ble_eq_true rfl⟩, ⟨Nat.le_refl _, Nat.le_refl _⟩⟩ ly_298 (by decide) la_298 rfl (k_X7_begins hm1) rfl rfl (Nat.le_of_ble_eq_true rfl) ?_
  refine pw_aload_n 0 rfl rfl 7 dX7_manMark_6 rfl ?_
  refine pw_bipush (v := (20 : Int32)) (by decide) 9 dX7_manMark_7 rfl ?_
  obtain ⟨m2, hm2, h⟩ := bd1_e h
  refine pw_callVv 12 dX7_manMark_9 rfl [.int (20 : Int32)] 1 ⟨gX7_manMark_X7_begins, rfl, sgV_X7_begins, ⟨Nat.le_of_ble_eq_true rfl, Nat.le_of_ble_eq_true rfl⟩, ⟨Nat.le_refl _, Nat.le_refl _⟩⟩ ly_298 (by decide) la_298 rfl (k_X7_begins hm2) rfl rfl (Nat.le_of_ble_eq_true rfl) ?_
  refine pw_iload_n 1 rfl rfl 13 dX7_manMark_12 rfl ?_
  refine pw_aload_n 0 rfl rfl 14 dX7_manMark_13 rfl ?_
  refine pw_iload_n 1 rfl rfl 15 dX7_manMark_14 rfl ?_
  obtain ⟨r4, m3, hr4, h⟩ := bd2_e h
  refine pw_callVi 18 dX7_manMark_15 rfl [.int x1] 1 ⟨gX7_manMark_X7_manSize, rfl, sgV_X7_manSize, ⟨Nat.le_of_ble_eq_true rfl, Nat.le_of_ble_eq_true rfl⟩, ⟨Nat.le_refl _, Nat.le_refl _⟩⟩ ly_298 (by decide) la_298 rfl (k_X7_manSize hr4) rfl rfl (Nat.le_of_ble_eq_true rfl) ?_
  refine pw_isub 19 dX7_manMark_18 rfl ?_
  exact pw_iret dX7_manMark_19 (pr_inj h)
theorem lw_X7_ask_c67 : Cond.constant RX7 67 (-1000001 : Int32) ∈ wsX7_ask := by decide +kernel
theorem fi_X7_ask_7 : ∀ w ∈ wsX70, w ∈ wsX7_ask := by decide +kernel
theorem lk_X7_ask_222 : Cond.fieldLink RX7 222 (TX7 23).1 (TX7 23).2.1 (TX7 23).2.2.1 ∈ wsX7_ask := by decide +kernel
set_option maxHeartbeats 4000000 in
set_option maxRecDepth 100000 in
theorem k_X7_ask {l : Launch} {G : Gx} {x1 : Int32} {x2 : Int32} {m mF : Mm} {r : Int32}  (h : f_X7_ask x1 x2 m = some (r, mF)) : Cn l G 3 yX7_ask wsX7_ask [.ref (G.1 + 298), .int x1, .int x2] m (Qi G r mF) := by
  unfold f_X7_ask at h
  refine Cn.of (own := RX7) (lv := [(0, .ref (G.1 + 298)), (1, .int x1), (2, .int x2)]) (by decide) rfl rfl (Nat.le_of_ble_eq_true rfl) rfl ?_
  refine pw_aload_n 0 rfl rfl 1 dX7_ask_0 rfl ?_
  refine pw_iload_n 1 rfl rfl 2 dX7_ask_1 rfl ?_
  obtain ⟨r1, hr1, h⟩ := bd1_e h
  refine pw_callVi 5 dX7_ask_2 rfl [.int x1] 1 ⟨gX7_ask_X7_isGuest, rfl, sgV_X7_isGuest, ⟨Nat.le_of_ble_eq_true rfl, Nat.le_of_ble_eq_true rfl⟩, ⟨Nat.le_refl _, Nat.le_refl _⟩⟩ ly_298 (by decide) la_298 rfl (k_X7_isGuest hr1) rfl rfl (Nat.le_of_ble_eq_true rfl) ?_
  refine pw_if_eq 17 8 dX7_ask_5 (by decide) rfl (fun c2 => ?_) (fun c2 => ?_)
  · have h := if_t h c2
    refine pw_ldc 19 lw_X7_ask_c67 dX7_ask_17 rfl ?_
    exact pw_iret dX7_ask_19 (pr_inj h)
  · have h := if_f h c2
    refine pw_iload_n 2 rfl rfl 9 dX7_ask_8 rfl ?_
    refine pw_iconst (v := (0 : Int32)) (by decide) 10 dX7_ask_9 rfl ?_
    refine pw_iconst (v := (1 : Int32)) (by decide) 11 dX7_ask_10 rfl ?_
    refine pw_callSi 14 dX7_ask_11 rfl [.int x2, .int (0 : Int32), .int (1 : Int32)] 3 ⟨gX7_ask_X7_in, rfl, sgS_X7_in, ⟨Nat.le_of_ble_eq_true rfl, Nat.le_of_ble_eq_true rfl⟩, ⟨Nat.le_refl _, Nat.le_refl _⟩⟩ (k_X7_in rfl) rfl rfl (Nat.le_of_ble_eq_true rfl) ?_
    refine pw_if_ne 20 17 dX7_ask_14 (by decide) rfl (fun c3 => ?_) (fun c3 => ?_)
    · have h := if_f h c3
      refine pw_aload_n 0 rfl rfl 21 dX7_ask_20 rfl ?_
      refine pw_iconst (v := (0 : Int32)) (by decide) 22 dX7_ask_21 rfl ?_
      refine pw_put (ty0 := tyX7) (ty := .int) 23 25 dX7_ask_22 rfl fi_X7_ask_7 tyX7_ok nmX7 lk_X7_ask_222 la_298 ly_298 (by decide) rfl (by decide) rfl rfl rfl rfl rfl ?_
      obtain ⟨m4, em4, h⟩ := nmE_ h
      refine pw_mem em4 ?_
      refine pw_aload_n 0 rfl rfl 26 dX7_ask_25 rfl ?_
      refine pw_iload_n 1 rfl rfl 27 dX7_ask_26 rfl ?_
      obtain ⟨r5, hr5, h⟩ := bd1_e h
      refine pw_callVi 30 dX7_ask_27 rfl [.int x1] 1 ⟨gX7_ask_X7_kindIn, rfl, sgV_X7_kindIn, ⟨Nat.le_of_ble_eq_true rfl, Nat.le_of_ble_eq_true rfl⟩, ⟨Nat.le_refl _, Nat.le_refl _⟩⟩ ly_298 (by decide) la_298 rfl (k_X7_kindIn hr5) rfl rfl (Nat.le_of_ble_eq_true rfl) ?_
      refine pw_iconst (v := (4 : Int32)) (by decide) 31 dX7_ask_30 rfl ?_
      obtain ⟨j7, ej7, h⟩ := nmE_ h
      have hJ39_j7 : PW G (KM l G RX7 cX7_ask 4 (some .int) wsX7_ask 3 (Qi G r mF)) 39 [(0, .ref (G.1 + 298)), (1, .int x1), (2, .int x2)] [.int j7] m4 := by
        refine pw_istore_n (hf := rfl) [(3, .int j7), (0, .ref (G.1 + 298)), (1, .int x1), (2, .int x2)] 40 dX7_ask_39 rfl (Nat.le_of_ble_eq_true rfl) rfl ?_
        refine pw_iload_n 3 rfl rfl 41 dX7_ask_40 rfl ?_
        refine pw_if_ne 62 44 dX7_ask_41 (by decide) rfl (fun c8 => ?_) (fun c8 => ?_)
        · have h := if_f h c8
          refine pw_iload_n 0 rfl rfl 63 dX7_ask_62 rfl ?_
          refine pw_if_eq 74 66 dX7_ask_63 (by decide) rfl (fun c9 => ?_) (fun c9 => ?_)
          · have h := if_t h c9
            refine pw_aload_n 1 rfl rfl 75 dX7_ask_74 rfl ?_
            refine pw_iload_n 2 rfl rfl 76 dX7_ask_75 rfl ?_
            obtain ⟨r11, m10, hr11, h⟩ := bd2_e h
            refine pw_callVi 79 dX7_ask_76 rfl [.int x1] 1 ⟨gX7_ask_X7_auntMark, rfl, sgV_X7_auntMark, ⟨Nat.le_of_ble_eq_true rfl, Nat.le_of_ble_eq_true rfl⟩, ⟨Nat.le_refl _, Nat.le_refl _⟩⟩ ly_298 (by decide) la_298 rfl (k_X7_auntMark hr11) rfl rfl (Nat.le_of_ble_eq_true rfl) ?_
            exact pw_iret dX7_ask_79 (pr_inj h)
          · have h := if_f h c9
            refine pw_aload_n 1 rfl rfl 67 dX7_ask_66 rfl ?_
            refine pw_iload_n 2 rfl rfl 68 dX7_ask_67 rfl ?_
            obtain ⟨r13, m12, hr13, h⟩ := bd2_e h
            refine pw_callVi 71 dX7_ask_68 rfl [.int x1] 1 ⟨gX7_ask_X7_manMark, rfl, sgV_X7_manMark, ⟨Nat.le_of_ble_eq_true rfl, Nat.le_of_ble_eq_true rfl⟩, ⟨Nat.le_refl _, Nat.le_refl _⟩⟩ ly_298 (by decide) la_298 rfl (k_X7_manMark hr13) rfl rfl (Nat.le_of_ble_eq_true rfl) ?_
            refine pw_goto 79 dX7_ask_71 (by decide) ?_
            exact pw_iret dX7_ask_79 (pr_inj h)
        · have h := if_t h c8
          refine pw_iload_n 0 rfl rfl 45 dX7_ask_44 rfl ?_
          refine pw_if_eq 56 48 dX7_ask_45 (by decide) rfl (fun c14 => ?_) (fun c14 => ?_)
          · have h := if_t h c14
            refine pw_aload_n 1 rfl rfl 57 dX7_ask_56 rfl ?_
            refine pw_iload_n 2 rfl rfl 58 dX7_ask_57 rfl ?_
            obtain ⟨r16, m15, hr16, h⟩ := bd2_e h
            refine pw_callVi 61 dX7_ask_58 rfl [.int x1] 1 ⟨gX7_ask_X7_auntSize, rfl, sgV_X7_auntSize, ⟨Nat.le_of_ble_eq_true rfl, Nat.le_of_ble_eq_true rfl⟩, ⟨Nat.le_refl _, Nat.le_refl _⟩⟩ ly_298 (by decide) la_298 rfl (k_X7_auntSize hr16) rfl rfl (Nat.le_of_ble_eq_true rfl) ?_
            exact pw_iret dX7_ask_61 (pr_inj h)
          · have h := if_f h c14
            refine pw_aload_n 1 rfl rfl 49 dX7_ask_48 rfl ?_
            refine pw_iload_n 2 rfl rfl 50 dX7_ask_49 rfl ?_
            obtain ⟨r18, m17, hr18, h⟩ := bd2_e h
            refine pw_callVi 53 dX7_ask_50 rfl [.int x1] 1 ⟨gX7_ask_X7_manSize, rfl, sgV_X7_manSize, ⟨Nat.le_of_ble_eq_true rfl, Nat.le_of_ble_eq_true rfl⟩, ⟨Nat.le_refl _, Nat.le_refl _⟩⟩ ly_298 (by decide) la_298 rfl (k_X7_manSize hr18) rfl rfl (Nat.le_of_ble_eq_true rfl) ?_
            refine pw_goto 61 dX7_ask_53 (by decide) ?_
            exact pw_iret dX7_ask_61 (pr_inj h)
      refine pw_icmp_lt 38 34 dX7_ask_31 (by decide) rfl (fun c6 => ?_) (fun c6 => ?_)
      · have ej7 := if_tv ej7 c6
        refine pw_iconst (v := (0 : Int32)) (by decide) 39 dX7_ask_38 rfl ?_
        refine pw_sub [0, 1, 2] [(0, .ref (G.1 + 298)), (1, .int x1), (2, .int x2)] rfl ?_
        subst ej7; exact hJ39_j7
      · have ej7 := if_fv ej7 c6
        refine pw_iconst (v := (1 : Int32)) (by decide) 35 dX7_ask_34 rfl ?_
        refine pw_goto 39 dX7_ask_35 (by decide) ?_
        refine pw_sub [0, 1, 2] [(0, .ref (G.1 + 298)), (1, .int x1), (2, .int x2)] rfl ?_
        subst ej7; exact hJ39_j7
    · have h := if_t h c3
      refine pw_ldc 19 lw_X7_ask_c67 dX7_ask_17 rfl ?_
      exact pw_iret dX7_ask_19 (pr_inj h)
theorem fi_X7_trace_7 : ∀ w ∈ wsX70, w ∈ wsX7_trace := by decide +kernel
theorem lk_X7_trace_222 : Cond.fieldLink RX7 222 (TX7 23).1 (TX7 23).2.1 (TX7 23).2.2.1 ∈ wsX7_trace := by decide +kernel
theorem lw_X7_trace_c53 : Cond.constant RX7 53 (-1000000 : Int32) ∈ wsX7_trace := by decide +kernel
theorem lk_X7_trace_50 : Cond.fieldLink RX7 50 (TX7 22).1 (TX7 22).2.1 (TX7 22).2.2.1 ∈ wsX7_trace := by decide +kernel
set_option maxHeartbeats 4000000 in
set_option maxRecDepth 100000 in
theorem k_X7_trace {l : Launch} {G : Gx} {x1 : Int32} {m : Mm} {r : Int32}  (h : f_X7_trace x1 m = some r) : Cn l G 1 yX7_trace wsX7_trace [.ref (G.1 + 298), .int x1] m (Qi G r m) := by
  unfold f_X7_trace at h
  refine Cn.of (own := RX7) (lv := [(0, .ref (G.1 + 298)), (1, .int x1)]) (by decide) rfl rfl (Nat.le_of_ble_eq_true rfl) rfl ?_
  refine pw_iload_n 1 rfl rfl 1 dX7_trace_0 rfl ?_
  refine pw_iconst (v := (0 : Int32)) (by decide) 2 dX7_trace_1 rfl ?_
  refine pw_aload_n 0 rfl rfl 3 dX7_trace_2 rfl ?_
  refine pw_getI 23 6 dX7_trace_3 rfl fi_X7_trace_7 lk_X7_trace_222 la_298 ly_298 (by decide) rfl (by decide) rfl ?_
  refine pw_iconst (v := (1 : Int32)) (by decide) 7 dX7_trace_6 rfl ?_
  refine pw_isub 8 dX7_trace_7 rfl ?_
  refine pw_callSi 11 dX7_trace_8 rfl [.int x1, .int (0 : Int32), .int ((m 298 23) - (1 : Int32))] 3 ⟨gX7_trace_X7_in, rfl, sgS_X7_in, ⟨Nat.le_of_ble_eq_true rfl, Nat.le_of_ble_eq_true rfl⟩, ⟨Nat.le_refl _, Nat.le_refl _⟩⟩ (k_X7_in rfl) rfl rfl (Nat.le_of_ble_eq_true rfl) ?_
  refine pw_if_eq 23 14 dX7_trace_11 (by decide) rfl (fun c1 => ?_) (fun c1 => ?_)
  · have h := if_t h c1
    refine pw_ldc 25 lw_X7_trace_c53 dX7_trace_23 rfl ?_
    exact pw_iret dX7_trace_25 ⟨Option.some.inj h, rfl⟩
  · have h := if_f h c1
    refine pw_aload_n 0 rfl rfl 15 dX7_trace_14 rfl ?_
    refine pw_getR 22 18 dX7_trace_15 rfl fi_X7_trace_7 lk_X7_trace_50 la_298 ly_298 (by decide) rfl (by decide) rfl rf_298_22 ?_
    refine pw_iload_n 1 rfl rfl 19 dX7_trace_18 rfl ?_
    obtain ⟨h2, h⟩ := gd_e h
    refine pw_iald 20 dX7_trace_19 rfl la_312 ly_312 h2 ?_
    refine pw_goto 25 dX7_trace_20 (by decide) ?_
    exact pw_iret dX7_trace_25 ⟨Option.some.inj h, rfl⟩
theorem fi_X7_count_7 : ∀ w ∈ wsX70, w ∈ wsX7_count := by decide +kernel
theorem lk_X7_count_25 : Cond.fieldLink RX7 25 (TX7 13).1 (TX7 13).2.1 (TX7 13).2.2.1 ∈ wsX7_count := by decide +kernel
theorem lk_X7_count_142 : Cond.fieldLink RX7 142 (TX7 17).1 (TX7 17).2.1 (TX7 17).2.2.1 ∈ wsX7_count := by decide +kernel
theorem lk_X7_count_85 : Cond.fieldLink RX7 85 (TX7 6).1 (TX7 6).2.1 (TX7 6).2.2.1 ∈ wsX7_count := by decide +kernel
theorem lw_X7_count_c67 : Cond.constant RX7 67 (-1000001 : Int32) ∈ wsX7_count := by decide +kernel
set_option maxHeartbeats 4000000 in
set_option maxRecDepth 100000 in
theorem kl_X7_count_58 {l : Launch} {G : Gx}  {r : Int32}   : ∀ (n : Nat) (y2 : Int32) (y3 : Int32) (m : Mm) (a0 : Int32), lp_X7_count_58 n y2 y3 m = some a0 → PW G (KM l G RX7 cX7_count 4 (some .int) wsX7_count 1 (Qi G r m)) 86 [(2, .int a0)] [] m → PW G (KM l G RX7 cX7_count 4 (some .int) wsX7_count 1 (Qi G r m)) 58 [(0, .ref (G.1 + 298)), (2, .int y2), (3, .int y3)] [] m := by
  intro n
  induction n with
  | zero => intro y2 y3 m a0 h hk; cases h
  | succ n ih =>
    intro y2 y3 m a0 h hk
    have h : lb_X7_count_58 (lp_X7_count_58 n) y2 y3 m = _ := h
    unfold lb_X7_count_58 at h
    refine pw_iload_n 2 rfl rfl 59 dX7_count_58 rfl ?_
    refine pw_bipush (v := (8 : Int32)) (by decide) 61 dX7_count_59 rfl ?_
    refine pw_icmp_ge 86 64 dX7_count_61 (by decide) rfl (fun c1 => ?_) (fun c1 => ?_)
    · have h := if_t h c1
      refine pw_sub [1] [(2, .int y2)] rfl ?_
      cases h; exact hk
    · have h := if_f h c1
      refine pw_iload_n 1 rfl rfl 65 dX7_count_64 rfl ?_
      refine pw_aload_n 0 rfl rfl 66 dX7_count_65 rfl ?_
      refine pw_iload_n 2 rfl rfl 67 dX7_count_66 rfl ?_
      obtain ⟨r2, hr2, h⟩ := bd1_e h
      refine pw_callVi 70 dX7_count_67 rfl [.int y3] 1 ⟨gX7_count_X7_isMissing, rfl, sgV_X7_isMissing, ⟨Nat.le_of_ble_eq_true rfl, Nat.le_of_ble_eq_true rfl⟩, ⟨Nat.le_refl _, Nat.le_refl _⟩⟩ ly_298 (by decide) la_298 rfl (k_X7_isMissing hr2) rfl rfl (Nat.le_of_ble_eq_true rfl) ?_
      obtain ⟨j4, ej4, h⟩ := nmE_ h
      have hJ78_j4 : PW G (KM l G RX7 cX7_count 4 (some .int) wsX7_count 1 (Qi G r m)) 78 [(0, .ref (G.1 + 298)), (3, .int y3)] [.int j4, .int y2] m := by
        refine pw_iadd 79 dX7_count_78 rfl ?_
        obtain ⟨v5, ev5, h⟩ := nmE_ h
        refine pw_top ev5 ?_
        refine pw_istore_n (hf := rfl) [(2, .int v5), (0, .ref (G.1 + 298)), (3, .int y3)] 80 dX7_count_79 rfl (Nat.le_of_ble_eq_true rfl) rfl ?_
        obtain ⟨v6, ev6, h⟩ := nmE_ h
        refine pw_iinc 2 rfl (by rw [ev6]; rfl) [(3, .int v6), (2, .int v5), (0, .ref (G.1 + 298))] 83 dX7_count_80 rfl (Nat.le_of_ble_eq_true rfl) rfl ?_
        refine pw_goto 58 dX7_count_83 (by decide) ?_
        refine pw_sub [2, 1, 0] [(0, .ref (G.1 + 298)), (2, .int v5), (3, .int v6)] rfl ?_
        exact ih v5 v6 m a0 h hk
      refine pw_if_eq 77 73 dX7_count_70 (by decide) rfl (fun c3 => ?_) (fun c3 => ?_)
      · have ej4 := if_tv ej4 c3
        refine pw_iconst (v := (1 : Int32)) (by decide) 78 dX7_count_77 rfl ?_
        refine pw_sub [0, 2] [(0, .ref (G.1 + 298)), (3, .int y3)] rfl ?_
        subst ej4; exact hJ78_j4
      · have ej4 := if_fv ej4 c3
        refine pw_iconst (v := (0 : Int32)) (by decide) 74 dX7_count_73 rfl ?_
        refine pw_goto 78 dX7_count_74 (by decide) ?_
        refine pw_sub [0, 2] [(0, .ref (G.1 + 298)), (3, .int y3)] rfl ?_
        subst ej4; exact hJ78_j4
set_option maxHeartbeats 4000000 in
set_option maxRecDepth 100000 in
theorem k_X7_count {l : Launch} {G : Gx} {x1 : Int32} {m : Mm} {r : Int32}  (h : f_X7_count x1 m = some r) : Cn l G 1 yX7_count wsX7_count [.ref (G.1 + 298), .int x1] m (Qi G r m) := by
  unfold f_X7_count at h
  refine Cn.of (own := RX7) (lv := [(0, .ref (G.1 + 298)), (1, .int x1)]) (by decide) rfl rfl (Nat.le_of_ble_eq_true rfl) rfl ?_
  refine pw_iconst (v := (0 : Int32)) (by decide) 1 dX7_count_0 rfl ?_
  refine pw_istore_n (hf := rfl) [(2, .int (0 : Int32)), (0, .ref (G.1 + 298)), (1, .int x1)] 2 dX7_count_1 rfl (Nat.le_of_ble_eq_true rfl) rfl ?_
  refine pw_iload_n 2 rfl rfl 3 dX7_count_2 rfl ?_
  by_cases c10_0 : x1 = (0 : Int32)
  · have h := if_t h c10_0
    refine pw_tableIn 56 dX7_count_3 (by rw [c10_0]; decide) (by rw [c10_0]; decide) (by rw [c10_0]; rfl) (by decide) ?_
    refine pw_iconst (v := (0 : Int32)) (by decide) 57 dX7_count_56 rfl ?_
    refine pw_istore_n (hf := rfl) [(3, .int (0 : Int32)), (2, .int (0 : Int32)), (0, .ref (G.1 + 298)), (1, .int x1)] 58 dX7_count_57 rfl (Nat.le_of_ble_eq_true rfl) rfl ?_
    obtain ⟨z7, h8, h⟩ := bd1_e h
    have hL58_h8 : PW G (KM l G RX7 cX7_count 4 (some .int) wsX7_count 1 (Qi G r m)) 86 [(2, .int z7)] [] m := by
      refine pw_iload_n 0 rfl rfl 87 dX7_count_86 rfl ?_
      exact pw_iret dX7_count_87 ⟨Option.some.inj h, rfl⟩
    refine pw_sub [2, 1, 0] [(0, .ref (G.1 + 298)), (2, .int (0 : Int32)), (3, .int (0 : Int32))] rfl ?_
    exact kl_X7_count_58 FU (0 : Int32) (0 : Int32) m z7 h8 hL58_h8
  · have h := if_f h c10_0
    by_cases c10_1 : x1 = (1 : Int32)
    · have h := if_t h c10_1
      refine pw_tableIn 88 dX7_count_3 (by rw [c10_1]; decide) (by rw [c10_1]; decide) (by rw [c10_1]; rfl) (by decide) ?_
      refine pw_aload_n 1 rfl rfl 89 dX7_count_88 rfl ?_
      refine pw_getR 13 92 dX7_count_89 rfl fi_X7_count_7 lk_X7_count_25 la_298 ly_298 (by decide) rfl (by decide) rfl rf_298_13 ?_
      refine pw_iconst (v := (2 : Int32)) (by decide) 93 dX7_count_92 rfl ?_
      refine pw_iald 94 dX7_count_93 rfl la_304 ly_304 (vp_lit rfl rfl) ?_
      exact pw_iret dX7_count_94 ⟨Option.some.inj h, rfl⟩
    · have h := if_f h c10_1
      by_cases c10_2 : x1 = (2 : Int32)
      · have h := if_t h c10_2
        refine pw_tableIn 95 dX7_count_3 (by rw [c10_2]; decide) (by rw [c10_2]; decide) (by rw [c10_2]; rfl) (by decide) ?_
        refine pw_aload_n 1 rfl rfl 96 dX7_count_95 rfl ?_
        refine pw_getR 13 99 dX7_count_96 rfl fi_X7_count_7 lk_X7_count_25 la_298 ly_298 (by decide) rfl (by decide) rfl rf_298_13 ?_
        refine pw_iconst (v := (3 : Int32)) (by decide) 100 dX7_count_99 rfl ?_
        refine pw_iald 101 dX7_count_100 rfl la_304 ly_304 (vp_lit rfl rfl) ?_
        exact pw_iret dX7_count_101 ⟨Option.some.inj h, rfl⟩
      · have h := if_f h c10_2
        by_cases c10_3 : x1 = (3 : Int32)
        · have h := if_t h c10_3
          refine pw_tableIn 102 dX7_count_3 (by rw [c10_3]; decide) (by rw [c10_3]; decide) (by rw [c10_3]; rfl) (by decide) ?_
          refine pw_aload_n 1 rfl rfl 103 dX7_count_102 rfl ?_
          refine pw_getR 13 106 dX7_count_103 rfl fi_X7_count_7 lk_X7_count_25 la_298 ly_298 (by decide) rfl (by decide) rfl rf_298_13 ?_
          refine pw_iconst (v := (0 : Int32)) (by decide) 107 dX7_count_106 rfl ?_
          refine pw_iald 108 dX7_count_107 rfl la_304 ly_304 (vp_lit rfl rfl) ?_
          exact pw_iret dX7_count_108 ⟨Option.some.inj h, rfl⟩
        · have h := if_f h c10_3
          by_cases c10_4 : x1 = (4 : Int32)
          · have h := if_t h c10_4
            refine pw_tableIn 109 dX7_count_3 (by rw [c10_4]; decide) (by rw [c10_4]; decide) (by rw [c10_4]; rfl) (by decide) ?_
            refine pw_aload_n 1 rfl rfl 110 dX7_count_109 rfl ?_
            refine pw_getR 13 113 dX7_count_110 rfl fi_X7_count_7 lk_X7_count_25 la_298 ly_298 (by decide) rfl (by decide) rfl rf_298_13 ?_
            refine pw_iconst (v := (1 : Int32)) (by decide) 114 dX7_count_113 rfl ?_
            refine pw_iald 115 dX7_count_114 rfl la_304 ly_304 (vp_lit rfl rfl) ?_
            exact pw_iret dX7_count_115 ⟨Option.some.inj h, rfl⟩
          · have h := if_f h c10_4
            by_cases c10_5 : x1 = (5 : Int32)
            · have h := if_t h c10_5
              refine pw_tableIn 116 dX7_count_3 (by rw [c10_5]; decide) (by rw [c10_5]; decide) (by rw [c10_5]; rfl) (by decide) ?_
              refine pw_aload_n 1 rfl rfl 117 dX7_count_116 rfl ?_
              refine pw_getR 13 120 dX7_count_117 rfl fi_X7_count_7 lk_X7_count_25 la_298 ly_298 (by decide) rfl (by decide) rfl rf_298_13 ?_
              refine pw_iconst (v := (4 : Int32)) (by decide) 121 dX7_count_120 rfl ?_
              refine pw_iald 122 dX7_count_121 rfl la_304 ly_304 (vp_lit rfl rfl) ?_
              exact pw_iret dX7_count_122 ⟨Option.some.inj h, rfl⟩
            · have h := if_f h c10_5
              by_cases c10_6 : x1 = (6 : Int32)
              · have h := if_t h c10_6
                refine pw_tableIn 123 dX7_count_3 (by rw [c10_6]; decide) (by rw [c10_6]; decide) (by rw [c10_6]; rfl) (by decide) ?_
                refine pw_aload_n 1 rfl rfl 124 dX7_count_123 rfl ?_
                refine pw_getR 13 127 dX7_count_124 rfl fi_X7_count_7 lk_X7_count_25 la_298 ly_298 (by decide) rfl (by decide) rfl rf_298_13 ?_
                refine pw_iconst (v := (5 : Int32)) (by decide) 128 dX7_count_127 rfl ?_
                refine pw_iald 129 dX7_count_128 rfl la_304 ly_304 (vp_lit rfl rfl) ?_
                exact pw_iret dX7_count_129 ⟨Option.some.inj h, rfl⟩
              · have h := if_f h c10_6
                by_cases c10_7 : x1 = (7 : Int32)
                · have h := if_t h c10_7
                  refine pw_tableIn 130 dX7_count_3 (by rw [c10_7]; decide) (by rw [c10_7]; decide) (by rw [c10_7]; rfl) (by decide) ?_
                  refine pw_aload_n 1 rfl rfl 131 dX7_count_130 rfl ?_
                  obtain ⟨r9, hr9, h⟩ := bd1_e h
                  refine pw_callVi 134 dX7_count_131 rfl [] 0 ⟨gX7_count_X7_hired, rfl, sgV_X7_hired, ⟨Nat.le_of_ble_eq_true rfl, Nat.le_of_ble_eq_true rfl⟩, ⟨Nat.le_refl _, Nat.le_refl _⟩⟩ ly_298 (by decide) la_298 rfl (k_X7_hired hr9) rfl rfl (Nat.le_of_ble_eq_true rfl) ?_
                  exact pw_iret dX7_count_134 ⟨Option.some.inj h, rfl⟩
                · have h := if_f h c10_7
                  by_cases c10_8 : x1 = (8 : Int32)
                  · have h := if_t h c10_8
                    refine pw_tableIn 135 dX7_count_3 (by rw [c10_8]; decide) (by rw [c10_8]; decide) (by rw [c10_8]; rfl) (by decide) ?_
                    refine pw_aload_n 1 rfl rfl 136 dX7_count_135 rfl ?_
                    refine pw_getI 17 139 dX7_count_136 rfl fi_X7_count_7 lk_X7_count_142 la_298 ly_298 (by decide) rfl (by decide) rfl ?_
                    exact pw_iret dX7_count_139 ⟨Option.some.inj h, rfl⟩
                  · have h := if_f h c10_8
                    by_cases c10_9 : x1 = (9 : Int32)
                    · have h := if_t h c10_9
                      refine pw_tableIn 140 dX7_count_3 (by rw [c10_9]; decide) (by rw [c10_9]; decide) (by rw [c10_9]; rfl) (by decide) ?_
                      refine pw_aload_n 1 rfl rfl 141 dX7_count_140 rfl ?_
                      refine pw_getI 6 144 dX7_count_141 rfl fi_X7_count_7 lk_X7_count_85 la_298 ly_298 (by decide) rfl (by decide) rfl ?_
                      exact pw_iret dX7_count_144 ⟨Option.some.inj h, rfl⟩
                    · have h := if_f h c10_9
                      have c10_0_i : ¬ x1.toInt = 0 := fun e => c10_0 (Int32.toInt_inj.mp (e.trans rfl))
                      have c10_1_i : ¬ x1.toInt = 1 := fun e => c10_1 (Int32.toInt_inj.mp (e.trans rfl))
                      have c10_2_i : ¬ x1.toInt = 2 := fun e => c10_2 (Int32.toInt_inj.mp (e.trans rfl))
                      have c10_3_i : ¬ x1.toInt = 3 := fun e => c10_3 (Int32.toInt_inj.mp (e.trans rfl))
                      have c10_4_i : ¬ x1.toInt = 4 := fun e => c10_4 (Int32.toInt_inj.mp (e.trans rfl))
                      have c10_5_i : ¬ x1.toInt = 5 := fun e => c10_5 (Int32.toInt_inj.mp (e.trans rfl))
                      have c10_6_i : ¬ x1.toInt = 6 := fun e => c10_6 (Int32.toInt_inj.mp (e.trans rfl))
                      have c10_7_i : ¬ x1.toInt = 7 := fun e => c10_7 (Int32.toInt_inj.mp (e.trans rfl))
                      have c10_8_i : ¬ x1.toInt = 8 := fun e => c10_8 (Int32.toInt_inj.mp (e.trans rfl))
                      have c10_9_i : ¬ x1.toInt = 9 := fun e => c10_9 (Int32.toInt_inj.mp (e.trans rfl))
                      refine pw_tableOut 145 dX7_count_3 (by omega) (by decide) ?_
                      refine pw_ldc 147 lw_X7_count_c67 dX7_count_145 rfl ?_
                      exact pw_iret dX7_count_147 ⟨Option.some.inj h, rfl⟩
theorem fi_X7_status_7 : ∀ w ∈ wsX70, w ∈ wsX7_status := by decide +kernel
theorem lk_X7_status_54 : Cond.fieldLink RX7 54 (TX7 4).1 (TX7 4).2.1 (TX7 4).2.2.1 ∈ wsX7_status := by decide +kernel
set_option maxHeartbeats 4000000 in
set_option maxRecDepth 100000 in
theorem k_X7_status {l : Launch} {G : Gx}  {m : Mm} {r : Int32}  (h : f_X7_status m = r) : Cn l G 0 yX7_status wsX7_status [.ref (G.1 + 298)] m (Qi G r m) := by
  unfold f_X7_status at h
  refine Cn.of (own := RX7) (lv := [(0, .ref (G.1 + 298))]) (by decide) rfl rfl (Nat.le_of_ble_eq_true rfl) rfl ?_
  refine pw_aload_n 0 rfl rfl 1 dX7_status_0 rfl ?_
  refine pw_getI 4 4 dX7_status_1 rfl fi_X7_status_7 lk_X7_status_54 la_298 ly_298 (by decide) rfl (by decide) rfl ?_
  exact pw_iret dX7_status_4 ⟨h, rfl⟩
