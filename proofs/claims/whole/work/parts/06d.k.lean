theorem lw_X1_findOrder_c44 : Cond.constant RX1 44 (-1000000 : Int32) ∈ wsX1_findOrder := by decide +kernel
theorem fi_X1_findOrder_1 : ∀ w ∈ wsX10, w ∈ wsX1_findOrder := by decide +kernel
theorem lk_X1_findOrder_22 : Cond.fieldLink RX1 22 (TX1 2).1 (TX1 2).2.1 (TX1 2).2.2.1 ∈ wsX1_findOrder := by decide +kernel
theorem lk_X1_findOrder_26 : Cond.fieldLink RX1 26 (TX1 3).1 (TX1 3).2.1 (TX1 3).2.2.1 ∈ wsX1_findOrder := by decide +kernel
theorem fi_X1_findOrder_5 : ∀ w ∈ wsX50, w ∈ wsX1_findOrder := by decide +kernel
theorem lk_X1_findOrder_49 : Cond.fieldLink RX1 49 (TX5 0).1 (TX5 0).2.1 (TX5 0).2.2.1 ∈ wsX1_findOrder := by decide +kernel
theorem lk_X1_findOrder_18 : Cond.fieldLink RX1 18 (TX1 1).1 (TX1 1).2.1 (TX1 1).2.2.1 ∈ wsX1_findOrder := by decide +kernel
set_option maxHeartbeats 4000000 in
set_option maxRecDepth 100000 in
theorem kl_X1_findOrder_17 {l : Launch} {G : Gx} {w1 : Nat}  {mF : Mm} (hw1 : IsW w1) : ∀ (n : Nat) (y2 : Int32) (y3 : Int32) (y4 : Int32) (m : Mm) (a0 : Int32) (a1 : Mm), lp_X1_findOrder_17 w1 n y2 y3 y4 m = some (a0, a1) → PW G (KM l G RX1 cX1_findOrder 5 none wsX1_findOrder 5 (Qv G mF)) 48 [(0, .ref (G.1 + 240)), (1, .ref (G.1 + w1)), (2, .int y2), (3, .int a0)] [] a1 → PW G (KM l G RX1 cX1_findOrder 5 none wsX1_findOrder 5 (Qv G mF)) 17 [(0, .ref (G.1 + 240)), (1, .ref (G.1 + w1)), (2, .int y2), (3, .int y3), (4, .int y4)] [] m := by
  intro n
  induction n with
  | zero => intro y2 y3 y4 m a0 a1 h hk; cases h
  | succ n ih =>
    intro y2 y3 y4 m a0 a1 h hk
    have h : lb_X1_findOrder_17 (lp_X1_findOrder_17 w1 n) w1 y2 y3 y4 m = _ := h
    unfold lb_X1_findOrder_17 at h
    refine pw_iload 4 rfl 19 dX1_findOrder_17 rfl ?_
    refine pw_aload_n 1 rfl rfl 20 dX1_findOrder_19 rfl ?_
    refine pw_getI 0 23 dX1_findOrder_20 rfl fi_X1_findOrder_5 lk_X1_findOrder_49 hw1.lt hw1.o (by decide) rfl (by decide) rfl ?_
    refine pw_icmp_ge 48 26 dX1_findOrder_23 (by decide) rfl (fun c3 => ?_) (fun c3 => ?_)
    · have h := if_t h c3
      refine pw_sub [0, 1, 2, 3] [(0, .ref (G.1 + 240)), (1, .ref (G.1 + w1)), (2, .int y2), (3, .int y3)] rfl ?_
      cases h; exact hk
    · have h := if_f h c3
      refine pw_aload_n 0 rfl rfl 27 dX1_findOrder_26 rfl ?_
      refine pw_getR 1 30 dX1_findOrder_27 rfl fi_X1_findOrder_1 lk_X1_findOrder_18 la_240 ly_240 (by decide) rfl (by decide) rfl rf_240_1 ?_
      refine pw_iload 4 rfl 32 dX1_findOrder_30 rfl ?_
      refine pw_iload 4 rfl 34 dX1_findOrder_32 rfl ?_
      obtain ⟨h7, h⟩ := gd_e h
      refine pw_iast 35 dX1_findOrder_34 rfl la_250 ly_250 h7 ?_
      obtain ⟨m4, em4, h⟩ := nmE_ h
      refine pw_mem em4 ?_
      refine pw_iload_n 3 rfl rfl 36 dX1_findOrder_35 rfl ?_
      refine pw_iload 4 rfl 38 dX1_findOrder_36 rfl ?_
      refine pw_iconst (v := (1 : Int32)) (by decide) 39 dX1_findOrder_38 rfl ?_
      refine pw_iadd 40 dX1_findOrder_39 rfl ?_
      refine pw_imul 41 dX1_findOrder_40 rfl ?_
      obtain ⟨v5, ev5, h⟩ := nmE_ h
      refine pw_top ev5 ?_
      refine pw_istore_n (hf := rfl) [(3, .int v5), (0, .ref (G.1 + 240)), (1, .ref (G.1 + w1)), (2, .int y2), (4, .int y4)] 42 dX1_findOrder_41 rfl (Nat.le_of_ble_eq_true rfl) rfl ?_
      obtain ⟨v6, ev6, h⟩ := nmE_ h
      refine pw_iinc 4 rfl (by rw [ev6]; rfl) [(4, .int v6), (3, .int v5), (0, .ref (G.1 + 240)), (1, .ref (G.1 + w1)), (2, .int y2)] 45 dX1_findOrder_42 rfl (Nat.le_of_ble_eq_true rfl) rfl ?_
      refine pw_goto 17 dX1_findOrder_45 (by decide) ?_
      refine pw_sub [2, 3, 4, 1, 0] [(0, .ref (G.1 + 240)), (1, .ref (G.1 + w1)), (2, .int y2), (3, .int v5), (4, .int v6)] rfl ?_
      exact ih y2 v5 v6 m4 a0 a1 h hk
set_option maxHeartbeats 4000000 in
set_option maxRecDepth 100000 in
theorem kl_X1_findOrder_51 {l : Launch} {G : Gx} {w1 : Nat}  {mF : Mm} (hw1 : IsW w1) : ∀ (n : Nat) (y2 : Int32) (y3 : Int32) (y4 : Int32) (m : Mm) (a0 : Mm), lp_X1_findOrder_51 w1 n y2 y3 y4 m = some a0 → PW G (KM l G RX1 cX1_findOrder 5 none wsX1_findOrder 5 (Qv G mF)) 104 [] [] a0 → PW G (KM l G RX1 cX1_findOrder 5 none wsX1_findOrder 5 (Qv G mF)) 51 [(0, .ref (G.1 + 240)), (1, .ref (G.1 + w1)), (2, .int y2), (3, .int y3), (4, .int y4)] [] m := by
  intro n
  induction n with
  | zero => intro y2 y3 y4 m a0 h hk; cases h
  | succ n ih =>
    intro y2 y3 y4 m a0 h hk
    have h : lb_X1_findOrder_51 (lp_X1_findOrder_51 w1 n) w1 y2 y3 y4 m = _ := h
    unfold lb_X1_findOrder_51 at h
    refine pw_iload 4 rfl 53 dX1_findOrder_51 rfl ?_
    refine pw_iload_n 3 rfl rfl 54 dX1_findOrder_53 rfl ?_
    refine pw_icmp_ge 104 57 dX1_findOrder_54 (by decide) rfl (fun c11 => ?_) (fun c11 => ?_)
    · have h := if_t h c11
      refine pw_sub [] [] rfl ?_
      cases h; exact hk
    · have h := if_f h c11
      refine pw_aload_n 1 rfl rfl 58 dX1_findOrder_57 rfl ?_
      refine pw_getI 0 61 dX1_findOrder_58 rfl fi_X1_findOrder_5 lk_X1_findOrder_49 hw1.lt hw1.o (by decide) rfl (by decide) rfl ?_
      obtain ⟨m16, qm16, h⟩ := bd1_e h
      have hJ90_m16 : PW G (KM l G RX1 cX1_findOrder 5 none wsX1_findOrder 5 (Qv G mF)) 90 [(0, .ref (G.1 + 240)), (1, .ref (G.1 + w1)), (2, .int y2), (3, .int y3), (4, .int y4)] [] m16 := by
        refine pw_aload_n 0 rfl rfl 91 dX1_findOrder_90 rfl ?_
        refine pw_aload_n 1 rfl rfl 92 dX1_findOrder_91 rfl ?_
        refine pw_getI 0 95 dX1_findOrder_92 rfl fi_X1_findOrder_5 lk_X1_findOrder_49 hw1.lt hw1.o (by decide) rfl (by decide) rfl ?_
        obtain ⟨m17, hm17, h⟩ := bd1_e h
        refine pw_callVv 98 dX1_findOrder_95 rfl [.int (m16 w1 0)] 1 ⟨gX1_findOrder_X1_nextOrder, rfl, sgV_X1_nextOrder, ⟨Nat.le_of_ble_eq_true rfl, Nat.le_of_ble_eq_true rfl⟩, ⟨Nat.le_refl _, Nat.le_refl _⟩⟩ ly_240 (by decide) la_240 rfl (k_X1_nextOrder hm17) rfl rfl (Nat.le_of_ble_eq_true rfl) ?_
        obtain ⟨v18, ev18, h⟩ := nmE_ h
        refine pw_iinc 4 rfl (by rw [ev18]; rfl) [(4, .int v18), (0, .ref (G.1 + 240)), (1, .ref (G.1 + w1)), (2, .int y2), (3, .int y3)] 101 dX1_findOrder_98 rfl (Nat.le_of_ble_eq_true rfl) rfl ?_
        refine pw_goto 51 dX1_findOrder_101 (by decide) ?_
        refine pw_sub [1, 2, 3, 4, 0] [(0, .ref (G.1 + 240)), (1, .ref (G.1 + w1)), (2, .int y2), (3, .int y3), (4, .int v18)] rfl ?_
        exact ih y2 y3 v18 m17 a0 h hk
      refine pw_if_le 90 64 dX1_findOrder_61 (by decide) rfl (fun c12 => ?_) (fun c12 => ?_)
      · have qm16 := if_t qm16 c12
        refine pw_sub [0, 1, 2, 3, 4] [(0, .ref (G.1 + 240)), (1, .ref (G.1 + w1)), (2, .int y2), (3, .int y3), (4, .int y4)] rfl ?_
        cases qm16; exact hJ90_m16
      · have qm16 := if_f qm16 c12
        refine pw_aload_n 0 rfl rfl 65 dX1_findOrder_64 rfl ?_
        refine pw_getR 1 68 dX1_findOrder_65 rfl fi_X1_findOrder_1 lk_X1_findOrder_18 la_240 ly_240 (by decide) rfl (by decide) rfl rf_240_1 ?_
        refine pw_iconst (v := (0 : Int32)) (by decide) 69 dX1_findOrder_68 rfl ?_
        refine pw_iald 70 dX1_findOrder_69 rfl la_250 ly_250 (vp_lit rfl rfl) ?_
        refine pw_aload_n 0 rfl rfl 71 dX1_findOrder_70 rfl ?_
        refine pw_getR 1 74 dX1_findOrder_71 rfl fi_X1_findOrder_1 lk_X1_findOrder_18 la_240 ly_240 (by decide) rfl (by decide) rfl rf_240_1 ?_
        refine pw_aload_n 1 rfl rfl 75 dX1_findOrder_74 rfl ?_
        refine pw_getI 0 78 dX1_findOrder_75 rfl fi_X1_findOrder_5 lk_X1_findOrder_49 hw1.lt hw1.o (by decide) rfl (by decide) rfl ?_
        refine pw_iconst (v := (1 : Int32)) (by decide) 79 dX1_findOrder_78 rfl ?_
        refine pw_isub 80 dX1_findOrder_79 rfl ?_
        obtain ⟨h13, qm16⟩ := gd_e qm16
        refine pw_iald 81 dX1_findOrder_80 rfl la_250 ly_250 h13 ?_
        refine pw_icmp_gt 90 84 dX1_findOrder_81 (by decide) rfl (fun c14 => ?_) (fun c14 => ?_)
        · have qm16 := if_t qm16 c14
          refine pw_sub [0, 1, 2, 3, 4] [(0, .ref (G.1 + 240)), (1, .ref (G.1 + w1)), (2, .int y2), (3, .int y3), (4, .int y4)] rfl ?_
          cases qm16; exact hJ90_m16
        · have qm16 := if_f qm16 c14
          refine pw_aload_n 0 rfl rfl 85 dX1_findOrder_84 rfl ?_
          refine pw_aload_n 1 rfl rfl 86 dX1_findOrder_85 rfl ?_
          refine pw_iload_n 2 rfl rfl 87 dX1_findOrder_86 rfl ?_
          obtain ⟨m15, hm15, qm16⟩ := bd1_e qm16
          refine pw_callVv 90 dX1_findOrder_87 rfl [.ref (G.1 + w1), .int y2] 2 ⟨gX1_findOrder_X1_tryOrder, rfl, sgV_X1_tryOrder, ⟨Nat.le_of_ble_eq_true rfl, Nat.le_of_ble_eq_true rfl⟩, ⟨Nat.le_refl _, Nat.le_refl _⟩⟩ ly_240 (by decide) la_240 rfl (k_X1_tryOrder hw1 hm15) rfl rfl (Nat.le_of_ble_eq_true rfl) ?_
          refine pw_sub [0, 1, 2, 3, 4] [(0, .ref (G.1 + 240)), (1, .ref (G.1 + w1)), (2, .int y2), (3, .int y3), (4, .int y4)] rfl ?_
          cases qm16; exact hJ90_m16
set_option maxHeartbeats 4000000 in
set_option maxRecDepth 100000 in
theorem k_X1_findOrder {l : Launch} {G : Gx} {w1 : Nat} {x2 : Int32} {m mF : Mm}  (hw1 : IsW w1) (h : f_X1_findOrder w1 x2 m = some mF) : Cn l G 5 yX1_findOrder wsX1_findOrder [.ref (G.1 + 240), .ref (G.1 + w1), .int x2] m (Qv G mF) := by
  unfold f_X1_findOrder at h
  refine Cn.of (own := RX1) (lv := [(0, .ref (G.1 + 240)), (1, .ref (G.1 + w1)), (2, .int x2)]) (by decide) rfl rfl (Nat.le_of_ble_eq_true rfl) rfl ?_
  refine pw_aload_n 0 rfl rfl 1 dX1_findOrder_0 rfl ?_
  refine pw_ldc 3 lw_X1_findOrder_c44 dX1_findOrder_1 rfl ?_
  refine pw_put (ty0 := tyX1) (ty := .int) 2 6 dX1_findOrder_3 rfl fi_X1_findOrder_1 tyX1_ok nmX1 lk_X1_findOrder_22 la_240 ly_240 (by decide) rfl (by decide) rfl rfl rfl rfl rfl ?_
  obtain ⟨m1, em1, h⟩ := nmE_ h
  refine pw_mem em1 ?_
  refine pw_aload_n 0 rfl rfl 7 dX1_findOrder_6 rfl ?_
  refine pw_ldc 9 lw_X1_findOrder_c44 dX1_findOrder_7 rfl ?_
  refine pw_put (ty0 := tyX1) (ty := .int) 3 12 dX1_findOrder_9 rfl fi_X1_findOrder_1 tyX1_ok nmX1 lk_X1_findOrder_26 la_240 ly_240 (by decide) rfl (by decide) rfl rfl rfl rfl rfl ?_
  obtain ⟨m2, em2, h⟩ := nmE_ h
  refine pw_mem em2 ?_
  refine pw_iconst (v := (1 : Int32)) (by decide) 13 dX1_findOrder_12 rfl ?_
  refine pw_istore_n (hf := rfl) [(3, .int (1 : Int32)), (0, .ref (G.1 + 240)), (1, .ref (G.1 + w1)), (2, .int x2)] 14 dX1_findOrder_13 rfl (Nat.le_of_ble_eq_true rfl) rfl ?_
  refine pw_iconst (v := (0 : Int32)) (by decide) 15 dX1_findOrder_14 rfl ?_
  refine pw_istore [(4, .int (0 : Int32)), (3, .int (1 : Int32)), (0, .ref (G.1 + 240)), (1, .ref (G.1 + w1)), (2, .int x2)] 17 dX1_findOrder_15 rfl (Nat.le_of_ble_eq_true rfl) rfl ?_
  obtain ⟨z8, m9, h10, h⟩ := bd2_e h
  have hL17_h10 : PW G (KM l G RX1 cX1_findOrder 5 none wsX1_findOrder 5 (Qv G mF)) 48 [(0, .ref (G.1 + 240)), (1, .ref (G.1 + w1)), (2, .int x2), (3, .int z8)] [] m9 := by
    refine pw_iconst (v := (0 : Int32)) (by decide) 49 dX1_findOrder_48 rfl ?_
    refine pw_istore [(4, .int (0 : Int32)), (0, .ref (G.1 + 240)), (1, .ref (G.1 + w1)), (2, .int x2), (3, .int z8)] 51 dX1_findOrder_49 rfl (Nat.le_of_ble_eq_true rfl) rfl ?_
    obtain ⟨m19, h20, h⟩ := bd1_e h
    have hL51_h20 : PW G (KM l G RX1 cX1_findOrder 5 none wsX1_findOrder 5 (Qv G mF)) 104 [] [] m19 := by
      exact pw_vret dX1_findOrder_104 (Option.some.inj h)
    refine pw_sub [1, 2, 3, 4, 0] [(0, .ref (G.1 + 240)), (1, .ref (G.1 + w1)), (2, .int x2), (3, .int z8), (4, .int (0 : Int32))] rfl ?_
    exact kl_X1_findOrder_51 hw1 FU x2 z8 (0 : Int32) m9 m19 h20 hL51_h20
  refine pw_sub [2, 3, 4, 1, 0] [(0, .ref (G.1 + 240)), (1, .ref (G.1 + w1)), (2, .int x2), (3, .int (1 : Int32)), (4, .int (0 : Int32))] rfl ?_
  exact kl_X1_findOrder_17 hw1 FU x2 (1 : Int32) (0 : Int32) m2 z8 m9 h10 hL17_h10
theorem lw_X6_order_c63 : Cond.constant RX6 63 (-1000001 : Int32) ∈ wsX6_order := by decide +kernel
theorem fi_X6_order_6 : ∀ w ∈ wsX60, w ∈ wsX6_order := by decide +kernel
theorem lk_X6_order_39 : Cond.fieldLink RX6 39 (TX6 4).1 (TX6 4).2.1 (TX6 4).2.2.1 ∈ wsX6_order := by decide +kernel
theorem lk_X6_order_25 : Cond.fieldLink RX6 25 (TX6 2).1 (TX6 2).2.1 (TX6 2).2.2.1 ∈ wsX6_order := by decide +kernel
theorem lw_X6_order_c135 : Cond.constant RX6 135 (-1000002 : Int32) ∈ wsX6_order := by decide +kernel
set_option maxHeartbeats 4000000 in
set_option maxRecDepth 100000 in
theorem k_X6_order {l : Launch} {G : Gx} {x1 : Int32} {x2 : Int32} {m mF : Mm} {r : Int32}  (h : f_X6_order x1 x2 m = some (r, mF)) : Cn l G 6 yX6_order wsX6_order [.ref (G.1 + 0), .int x1, .int x2] m (Qi G r mF) := by
  unfold f_X6_order at h
  refine Cn.of (own := RX6) (lv := [(0, .ref (G.1 + 0)), (1, .int x1), (2, .int x2)]) (by decide) rfl rfl (Nat.le_of_ble_eq_true rfl) rfl ?_
  refine pw_aload_n 0 rfl rfl 1 dX6_order_0 rfl ?_
  refine pw_callVi 4 dX6_order_1 rfl [] 0 ⟨gX6_order_X6_isNone, rfl, sgV_X6_isNone, ⟨Nat.le_of_ble_eq_true rfl, Nat.le_of_ble_eq_true rfl⟩, ⟨Nat.le_refl _, Nat.le_refl _⟩⟩ ly_0 (by decide) la_0 rfl (k_X6_isNone rfl) rfl rfl (Nat.le_of_ble_eq_true rfl) ?_
  refine pw_if_eq 10 7 dX6_order_4 (by decide) rfl (fun c1 => ?_) (fun c1 => ?_)
  · have h := if_t h c1
    refine pw_iload_n 1 rfl rfl 11 dX6_order_10 rfl ?_
    refine pw_iconst (v := (1 : Int32)) (by decide) 12 dX6_order_11 rfl ?_
    refine pw_bipush (v := (10 : Int32)) (by decide) 14 dX6_order_12 rfl ?_
    refine pw_callSi 17 dX6_order_14 rfl [.int x1, .int (1 : Int32), .int (10 : Int32)] 3 ⟨gX6_order_X6_isWithin, rfl, sgS_X6_isWithin, ⟨Nat.le_of_ble_eq_true rfl, Nat.le_of_ble_eq_true rfl⟩, ⟨Nat.le_refl _, Nat.le_refl _⟩⟩ (k_X6_isWithin rfl) rfl rfl (Nat.le_of_ble_eq_true rfl) ?_
    refine pw_if_eq 27 20 dX6_order_17 (by decide) rfl (fun c2 => ?_) (fun c2 => ?_)
    · have h := if_t h c2
      refine pw_ldc 29 lw_X6_order_c63 dX6_order_27 rfl ?_
      exact pw_iret dX6_order_29 (pr_inj h)
    · have h := if_f h c2
      refine pw_iload_n 2 rfl rfl 21 dX6_order_20 rfl ?_
      refine pw_callSi 24 dX6_order_21 rfl [.int x2] 1 ⟨gX6_order_X6_isFlag, rfl, sgS_X6_isFlag, ⟨Nat.le_of_ble_eq_true rfl, Nat.le_of_ble_eq_true rfl⟩, ⟨Nat.le_refl _, Nat.le_refl _⟩⟩ (k_X6_isFlag rfl) rfl rfl (Nat.le_of_ble_eq_true rfl) ?_
      refine pw_if_ne 30 27 dX6_order_24 (by decide) rfl (fun c3 => ?_) (fun c3 => ?_)
      · have h := if_f h c3
        refine pw_aload_n 0 rfl rfl 31 dX6_order_30 rfl ?_
        refine pw_getR 4 34 dX6_order_31 rfl fi_X6_order_6 lk_X6_order_39 la_0 ly_0 (by decide) rfl (by decide) rfl rf_0_4 ?_
        refine pw_aload_n 0 rfl rfl 35 dX6_order_34 rfl ?_
        refine pw_getR 2 38 dX6_order_35 rfl fi_X6_order_6 lk_X6_order_25 la_0 ly_0 (by decide) rfl (by decide) rfl rf_0_2 ?_
        refine pw_iload_n 1 rfl rfl 39 dX6_order_38 rfl ?_
        obtain ⟨m4, hm4, h⟩ := bd1_e h
        refine pw_callVv 42 dX6_order_39 rfl [.ref (G.1 + 13), .int x1] 2 ⟨gX6_order_X1_findOrder, rfl, sgV_X1_findOrder, ⟨Nat.le_of_ble_eq_true rfl, Nat.le_of_ble_eq_true rfl⟩, ⟨Nat.le_refl _, Nat.le_refl _⟩⟩ ly_240 (by decide) la_240 rfl (k_X1_findOrder isW_13 hm4) rfl rfl (Nat.le_of_ble_eq_true rfl) ?_
        refine pw_aload_n 0 rfl rfl 43 dX6_order_42 rfl ?_
        refine pw_getR 4 46 dX6_order_43 rfl fi_X6_order_6 lk_X6_order_39 la_0 ly_0 (by decide) rfl (by decide) rfl rf_0_4 ?_
        refine pw_iload_n 2 rfl rfl 47 dX6_order_46 rfl ?_
        refine pw_callVi 50 dX6_order_47 rfl [.int x2] 1 ⟨gX6_order_X1_answer, rfl, sgV_X1_answer, ⟨Nat.le_of_ble_eq_true rfl, Nat.le_of_ble_eq_true rfl⟩, ⟨Nat.le_refl _, Nat.le_refl _⟩⟩ ly_240 (by decide) la_240 rfl (k_X1_answer rfl) rfl rfl (Nat.le_of_ble_eq_true rfl) ?_
        exact pw_iret dX6_order_50 (pr_inj h)
      · have h := if_t h c3
        refine pw_ldc 29 lw_X6_order_c63 dX6_order_27 rfl ?_
        exact pw_iret dX6_order_29 (pr_inj h)
  · have h := if_f h c1
    refine pw_ldc 9 lw_X6_order_c135 dX6_order_7 rfl ?_
    exact pw_iret dX6_order_9 (pr_inj h)
theorem lw_X1_findChange_c44 : Cond.constant RX1 44 (-1000000 : Int32) ∈ wsX1_findChange := by decide +kernel
theorem fi_X1_findChange_1 : ∀ w ∈ wsX10, w ∈ wsX1_findChange := by decide +kernel
theorem lk_X1_findChange_22 : Cond.fieldLink RX1 22 (TX1 2).1 (TX1 2).2.1 (TX1 2).2.2.1 ∈ wsX1_findChange := by decide +kernel
theorem lk_X1_findChange_26 : Cond.fieldLink RX1 26 (TX1 3).1 (TX1 3).2.1 (TX1 3).2.2.1 ∈ wsX1_findChange := by decide +kernel
theorem fi_X1_findChange_5 : ∀ w ∈ wsX50, w ∈ wsX1_findChange := by decide +kernel
theorem lk_X1_findChange_49 : Cond.fieldLink RX1 49 (TX5 0).1 (TX5 0).2.1 (TX5 0).2.2.1 ∈ wsX1_findChange := by decide +kernel
theorem lk_X1_findChange_12 : Cond.fieldLink RX1 12 (TX1 0).1 (TX1 0).2.1 (TX1 0).2.2.1 ∈ wsX1_findChange := by decide +kernel
set_option maxHeartbeats 4000000 in
set_option maxRecDepth 100000 in
theorem kl_X1_findChange_27 {l : Launch} {G : Gx} {w1 : Nat}  {mF : Mm} (hw1 : IsW w1) : ∀ (n : Nat) (y2 : Int32) (y3 : Int32) (y4 : Int32) (m : Mm) (a0 : Mm), lp_X1_findChange_27 w1 n y2 y3 y4 m = some a0 → PW G (KM l G RX1 cX1_findChange 5 none wsX1_findChange 4 (Qv G mF)) 79 [(0, .ref (G.1 + 240)), (1, .ref (G.1 + w1)), (2, .int y2), (3, .int y3)] [] a0 → PW G (KM l G RX1 cX1_findChange 5 none wsX1_findChange 4 (Qv G mF)) 27 [(0, .ref (G.1 + 240)), (1, .ref (G.1 + w1)), (2, .int y2), (3, .int y3), (4, .int y4)] [] m := by
  intro n
  induction n with
  | zero => intro y2 y3 y4 m a0 h hk; cases h
  | succ n ih =>
    intro y2 y3 y4 m a0 h hk
    have h : lb_X1_findChange_27 (lp_X1_findChange_27 w1 n) w1 y2 y3 y4 m = _ := h
    unfold lb_X1_findChange_27 at h
    refine pw_iload 4 rfl 29 dX1_findChange_27 rfl ?_
    refine pw_aload_n 1 rfl rfl 30 dX1_findChange_29 rfl ?_
    refine pw_getI 0 33 dX1_findChange_30 rfl fi_X1_findChange_5 lk_X1_findChange_49 hw1.lt hw1.o (by decide) rfl (by decide) rfl ?_
    refine pw_icmp_ge 79 36 dX1_findChange_33 (by decide) rfl (fun c5 => ?_) (fun c5 => ?_)
    · have h := if_t h c5
      refine pw_sub [0, 1, 2, 3] [(0, .ref (G.1 + 240)), (1, .ref (G.1 + w1)), (2, .int y2), (3, .int y3)] rfl ?_
      cases h; exact hk
    · have h := if_f h c5
      refine pw_aload_n 0 rfl rfl 37 dX1_findChange_36 rfl ?_
      refine pw_getR 0 40 dX1_findChange_37 rfl fi_X1_findChange_1 lk_X1_findChange_12 la_240 ly_240 (by decide) rfl (by decide) rfl rf_240_0 ?_
      refine pw_aload_n 1 rfl rfl 41 dX1_findChange_40 rfl ?_
      obtain ⟨m6, hm6, h⟩ := bd1_e h
      refine pw_callVv 44 dX1_findChange_41 rfl [.ref (G.1 + w1)] 1 ⟨gX1_findChange_X5_become, rfl, sgV_X5_become, ⟨Nat.le_of_ble_eq_true rfl, Nat.le_of_ble_eq_true rfl⟩, ⟨Nat.le_refl _, Nat.le_refl _⟩⟩ ly_241 (by decide) la_241 rfl (k_X5_become isW_241 hw1 hm6) rfl rfl (Nat.le_of_ble_eq_true rfl) ?_
      refine pw_aload_n 0 rfl rfl 45 dX1_findChange_44 rfl ?_
      refine pw_getR 0 48 dX1_findChange_45 rfl fi_X1_findChange_1 lk_X1_findChange_12 la_240 ly_240 (by decide) rfl (by decide) rfl rf_240_0 ?_
      refine pw_iload_n 3 rfl rfl 49 dX1_findChange_48 rfl ?_
      refine pw_iload 4 rfl 51 dX1_findChange_49 rfl ?_
      obtain ⟨m7, hm7, h⟩ := bd1_e h
      refine pw_callVv 54 dX1_findChange_51 rfl [.int y3, .int y4] 2 ⟨gX1_findChange_X5_trade, rfl, sgV_X5_trade, ⟨Nat.le_of_ble_eq_true rfl, Nat.le_of_ble_eq_true rfl⟩, ⟨Nat.le_refl _, Nat.le_refl _⟩⟩ ly_241 (by decide) la_241 rfl (k_X5_trade isW_241 hm7) rfl rfl (Nat.le_of_ble_eq_true rfl) ?_
      refine pw_aload_n 0 rfl rfl 55 dX1_findChange_54 rfl ?_
      refine pw_getR 0 58 dX1_findChange_55 rfl fi_X1_findChange_1 lk_X1_findChange_12 la_240 ly_240 (by decide) rfl (by decide) rfl rf_240_0 ?_
      refine pw_iload_n 2 rfl rfl 59 dX1_findChange_58 rfl ?_
      obtain ⟨m8, hm8, h⟩ := bd1_e h
      refine pw_callVv 62 dX1_findChange_59 rfl [.int y2] 1 ⟨gX1_findChange_X5_run, rfl, sgV_X5_run, ⟨Nat.le_of_ble_eq_true rfl, Nat.le_of_ble_eq_true rfl⟩, ⟨Nat.le_refl _, Nat.le_refl _⟩⟩ ly_241 (by decide) la_241 rfl (k_X5_run isW_241 hm8) rfl rfl (Nat.le_of_ble_eq_true rfl) ?_
      refine pw_aload_n 0 rfl rfl 63 dX1_findChange_62 rfl ?_
      refine pw_bipush (v := (10 : Int32)) (by decide) 65 dX1_findChange_63 rfl ?_
      refine pw_iload_n 3 rfl rfl 66 dX1_findChange_65 rfl ?_
      refine pw_imul 67 dX1_findChange_66 rfl ?_
      refine pw_iload 4 rfl 69 dX1_findChange_67 rfl ?_
      refine pw_iadd 70 dX1_findChange_69 rfl ?_
      obtain ⟨m9, hm9, h⟩ := bd1_e h
      refine pw_callVv 73 dX1_findChange_70 rfl [.int (((10 : Int32) * y3) + y4)] 1 ⟨gX1_findChange_X1_keepIfMore, rfl, sgV_X1_keepIfMore, ⟨Nat.le_of_ble_eq_true rfl, Nat.le_of_ble_eq_true rfl⟩, ⟨Nat.le_refl _, Nat.le_refl _⟩⟩ ly_240 (by decide) la_240 rfl (k_X1_keepIfMore hm9) rfl rfl (Nat.le_of_ble_eq_true rfl) ?_
      obtain ⟨v10, ev10, h⟩ := nmE_ h
      refine pw_iinc 4 rfl (by rw [ev10]; rfl) [(4, .int v10), (0, .ref (G.1 + 240)), (1, .ref (G.1 + w1)), (2, .int y2), (3, .int y3)] 76 dX1_findChange_73 rfl (Nat.le_of_ble_eq_true rfl) rfl ?_
      refine pw_goto 27 dX1_findChange_76 (by decide) ?_
      refine pw_sub [1, 2, 3, 4, 0] [(0, .ref (G.1 + 240)), (1, .ref (G.1 + w1)), (2, .int y2), (3, .int y3), (4, .int v10)] rfl ?_
      exact ih y2 y3 v10 m9 a0 h hk
set_option maxHeartbeats 4000000 in
set_option maxRecDepth 100000 in
theorem kl_X1_findChange_14 {l : Launch} {G : Gx} {w1 : Nat}  {mF : Mm} (hw1 : IsW w1) : ∀ (n : Nat) (y2 : Int32) (y3 : Int32) (m : Mm) (a0 : Mm), lp_X1_findChange_14 w1 n y2 y3 m = some a0 → PW G (KM l G RX1 cX1_findChange 5 none wsX1_findChange 4 (Qv G mF)) 85 [] [] a0 → PW G (KM l G RX1 cX1_findChange 5 none wsX1_findChange 4 (Qv G mF)) 14 [(0, .ref (G.1 + 240)), (1, .ref (G.1 + w1)), (2, .int y2), (3, .int y3)] [] m := by
  intro n
  induction n with
  | zero => intro y2 y3 m a0 h hk; cases h
  | succ n ih =>
    intro y2 y3 m a0 h hk
    have h : lb_X1_findChange_14 (lp_X1_findChange_14 w1 n) w1 y2 y3 m = _ := h
    unfold lb_X1_findChange_14 at h
    refine pw_iload_n 3 rfl rfl 15 dX1_findChange_14 rfl ?_
    refine pw_aload_n 1 rfl rfl 16 dX1_findChange_15 rfl ?_
    refine pw_getI 0 19 dX1_findChange_16 rfl fi_X1_findChange_5 lk_X1_findChange_49 hw1.lt hw1.o (by decide) rfl (by decide) rfl ?_
    refine pw_icmp_ge 85 22 dX1_findChange_19 (by decide) rfl (fun c3 => ?_) (fun c3 => ?_)
    · have h := if_t h c3
      refine pw_sub [] [] rfl ?_
      cases h; exact hk
    · have h := if_f h c3
      refine pw_iload_n 3 rfl rfl 23 dX1_findChange_22 rfl ?_
      refine pw_iconst (v := (1 : Int32)) (by decide) 24 dX1_findChange_23 rfl ?_
      refine pw_iadd 25 dX1_findChange_24 rfl ?_
      obtain ⟨v4, ev4, h⟩ := nmE_ h
      refine pw_top ev4 ?_
      refine pw_istore [(4, .int v4), (0, .ref (G.1 + 240)), (1, .ref (G.1 + w1)), (2, .int y2), (3, .int y3)] 27 dX1_findChange_25 rfl (Nat.le_of_ble_eq_true rfl) rfl ?_
      obtain ⟨m11, h12, h⟩ := bd1_e h
      have hL27_h12 : PW G (KM l G RX1 cX1_findChange 5 none wsX1_findChange 4 (Qv G mF)) 79 [(0, .ref (G.1 + 240)), (1, .ref (G.1 + w1)), (2, .int y2), (3, .int y3)] [] m11 := by
        obtain ⟨v13, ev13, h⟩ := nmE_ h
        refine pw_iinc 3 rfl (by rw [ev13]; rfl) [(3, .int v13), (0, .ref (G.1 + 240)), (1, .ref (G.1 + w1)), (2, .int y2)] 82 dX1_findChange_79 rfl (Nat.le_of_ble_eq_true rfl) rfl ?_
        refine pw_goto 14 dX1_findChange_82 (by decide) ?_
        refine pw_sub [1, 2, 3, 0] [(0, .ref (G.1 + 240)), (1, .ref (G.1 + w1)), (2, .int y2), (3, .int v13)] rfl ?_
        exact ih y2 v13 m11 a0 h hk
      refine pw_sub [1, 2, 3, 4, 0] [(0, .ref (G.1 + 240)), (1, .ref (G.1 + w1)), (2, .int y2), (3, .int y3), (4, .int v4)] rfl ?_
      exact kl_X1_findChange_27 hw1 FU y2 y3 v4 m m11 h12 hL27_h12
set_option maxHeartbeats 4000000 in
set_option maxRecDepth 100000 in
theorem k_X1_findChange {l : Launch} {G : Gx} {w1 : Nat} {x2 : Int32} {m mF : Mm}  (hw1 : IsW w1) (h : f_X1_findChange w1 x2 m = some mF) : Cn l G 4 yX1_findChange wsX1_findChange [.ref (G.1 + 240), .ref (G.1 + w1), .int x2] m (Qv G mF) := by
  unfold f_X1_findChange at h
  refine Cn.of (own := RX1) (lv := [(0, .ref (G.1 + 240)), (1, .ref (G.1 + w1)), (2, .int x2)]) (by decide) rfl rfl (Nat.le_of_ble_eq_true rfl) rfl ?_
  refine pw_aload_n 0 rfl rfl 1 dX1_findChange_0 rfl ?_
  refine pw_ldc 3 lw_X1_findChange_c44 dX1_findChange_1 rfl ?_
  refine pw_put (ty0 := tyX1) (ty := .int) 2 6 dX1_findChange_3 rfl fi_X1_findChange_1 tyX1_ok nmX1 lk_X1_findChange_22 la_240 ly_240 (by decide) rfl (by decide) rfl rfl rfl rfl rfl ?_
  obtain ⟨m1, em1, h⟩ := nmE_ h
  refine pw_mem em1 ?_
  refine pw_aload_n 0 rfl rfl 7 dX1_findChange_6 rfl ?_
  refine pw_ldc 9 lw_X1_findChange_c44 dX1_findChange_7 rfl ?_
  refine pw_put (ty0 := tyX1) (ty := .int) 3 12 dX1_findChange_9 rfl fi_X1_findChange_1 tyX1_ok nmX1 lk_X1_findChange_26 la_240 ly_240 (by decide) rfl (by decide) rfl rfl rfl rfl rfl ?_
  obtain ⟨m2, em2, h⟩ := nmE_ h
  refine pw_mem em2 ?_
  refine pw_iconst (v := (0 : Int32)) (by decide) 13 dX1_findChange_12 rfl ?_
  refine pw_istore_n (hf := rfl) [(3, .int (0 : Int32)), (0, .ref (G.1 + 240)), (1, .ref (G.1 + w1)), (2, .int x2)] 14 dX1_findChange_13 rfl (Nat.le_of_ble_eq_true rfl) rfl ?_
  obtain ⟨m14, h15, h⟩ := bd1_e h
  have hL14_h15 : PW G (KM l G RX1 cX1_findChange 5 none wsX1_findChange 4 (Qv G mF)) 85 [] [] m14 := by
    exact pw_vret dX1_findChange_85 (Option.some.inj h)
  refine pw_sub [1, 2, 3, 0] [(0, .ref (G.1 + 240)), (1, .ref (G.1 + w1)), (2, .int x2), (3, .int (0 : Int32))] rfl ?_
  exact kl_X1_findChange_14 hw1 FU x2 (0 : Int32) m2 m14 h15 hL14_h15
theorem lw_X6_change_c63 : Cond.constant RX6 63 (-1000001 : Int32) ∈ wsX6_change := by decide +kernel
theorem fi_X6_change_6 : ∀ w ∈ wsX60, w ∈ wsX6_change := by decide +kernel
theorem lk_X6_change_39 : Cond.fieldLink RX6 39 (TX6 4).1 (TX6 4).2.1 (TX6 4).2.2.1 ∈ wsX6_change := by decide +kernel
theorem lk_X6_change_25 : Cond.fieldLink RX6 25 (TX6 2).1 (TX6 2).2.1 (TX6 2).2.2.1 ∈ wsX6_change := by decide +kernel
theorem lw_X6_change_c135 : Cond.constant RX6 135 (-1000002 : Int32) ∈ wsX6_change := by decide +kernel
set_option maxHeartbeats 4000000 in
set_option maxRecDepth 100000 in
theorem k_X6_change {l : Launch} {G : Gx} {x1 : Int32} {x2 : Int32} {m mF : Mm} {r : Int32}  (h : f_X6_change x1 x2 m = some (r, mF)) : Cn l G 5 yX6_change wsX6_change [.ref (G.1 + 0), .int x1, .int x2] m (Qi G r mF) := by
  unfold f_X6_change at h
  refine Cn.of (own := RX6) (lv := [(0, .ref (G.1 + 0)), (1, .int x1), (2, .int x2)]) (by decide) rfl rfl (Nat.le_of_ble_eq_true rfl) rfl ?_
  refine pw_aload_n 0 rfl rfl 1 dX6_change_0 rfl ?_
  refine pw_callVi 4 dX6_change_1 rfl [] 0 ⟨gX6_change_X6_isNone, rfl, sgV_X6_isNone, ⟨Nat.le_of_ble_eq_true rfl, Nat.le_of_ble_eq_true rfl⟩, ⟨Nat.le_refl _, Nat.le_refl _⟩⟩ ly_0 (by decide) la_0 rfl (k_X6_isNone rfl) rfl rfl (Nat.le_of_ble_eq_true rfl) ?_
  refine pw_if_eq 10 7 dX6_change_4 (by decide) rfl (fun c1 => ?_) (fun c1 => ?_)
  · have h := if_t h c1
    refine pw_iload_n 1 rfl rfl 11 dX6_change_10 rfl ?_
    refine pw_iconst (v := (1 : Int32)) (by decide) 12 dX6_change_11 rfl ?_
    refine pw_bipush (v := (30 : Int32)) (by decide) 14 dX6_change_12 rfl ?_
    refine pw_callSi 17 dX6_change_14 rfl [.int x1, .int (1 : Int32), .int (30 : Int32)] 3 ⟨gX6_change_X6_isWithin, rfl, sgS_X6_isWithin, ⟨Nat.le_of_ble_eq_true rfl, Nat.le_of_ble_eq_true rfl⟩, ⟨Nat.le_refl _, Nat.le_refl _⟩⟩ (k_X6_isWithin rfl) rfl rfl (Nat.le_of_ble_eq_true rfl) ?_
    refine pw_if_eq 27 20 dX6_change_17 (by decide) rfl (fun c2 => ?_) (fun c2 => ?_)
    · have h := if_t h c2
      refine pw_ldc 29 lw_X6_change_c63 dX6_change_27 rfl ?_
      exact pw_iret dX6_change_29 (pr_inj h)
    · have h := if_f h c2
      refine pw_iload_n 2 rfl rfl 21 dX6_change_20 rfl ?_
      refine pw_callSi 24 dX6_change_21 rfl [.int x2] 1 ⟨gX6_change_X6_isFlag, rfl, sgS_X6_isFlag, ⟨Nat.le_of_ble_eq_true rfl, Nat.le_of_ble_eq_true rfl⟩, ⟨Nat.le_refl _, Nat.le_refl _⟩⟩ (k_X6_isFlag rfl) rfl rfl (Nat.le_of_ble_eq_true rfl) ?_
      refine pw_if_ne 30 27 dX6_change_24 (by decide) rfl (fun c3 => ?_) (fun c3 => ?_)
      · have h := if_f h c3
        refine pw_aload_n 0 rfl rfl 31 dX6_change_30 rfl ?_
        refine pw_getR 4 34 dX6_change_31 rfl fi_X6_change_6 lk_X6_change_39 la_0 ly_0 (by decide) rfl (by decide) rfl rf_0_4 ?_
        refine pw_aload_n 0 rfl rfl 35 dX6_change_34 rfl ?_
        refine pw_getR 2 38 dX6_change_35 rfl fi_X6_change_6 lk_X6_change_25 la_0 ly_0 (by decide) rfl (by decide) rfl rf_0_2 ?_
        refine pw_iload_n 1 rfl rfl 39 dX6_change_38 rfl ?_
        obtain ⟨m4, hm4, h⟩ := bd1_e h
        refine pw_callVv 42 dX6_change_39 rfl [.ref (G.1 + 13), .int x1] 2 ⟨gX6_change_X1_findChange, rfl, sgV_X1_findChange, ⟨Nat.le_of_ble_eq_true rfl, Nat.le_of_ble_eq_true rfl⟩, ⟨Nat.le_refl _, Nat.le_refl _⟩⟩ ly_240 (by decide) la_240 rfl (k_X1_findChange isW_13 hm4) rfl rfl (Nat.le_of_ble_eq_true rfl) ?_
        refine pw_aload_n 0 rfl rfl 43 dX6_change_42 rfl ?_
        refine pw_getR 4 46 dX6_change_43 rfl fi_X6_change_6 lk_X6_change_39 la_0 ly_0 (by decide) rfl (by decide) rfl rf_0_4 ?_
        refine pw_iload_n 2 rfl rfl 47 dX6_change_46 rfl ?_
        refine pw_callVi 50 dX6_change_47 rfl [.int x2] 1 ⟨gX6_change_X1_answer, rfl, sgV_X1_answer, ⟨Nat.le_of_ble_eq_true rfl, Nat.le_of_ble_eq_true rfl⟩, ⟨Nat.le_refl _, Nat.le_refl _⟩⟩ ly_240 (by decide) la_240 rfl (k_X1_answer rfl) rfl rfl (Nat.le_of_ble_eq_true rfl) ?_
        exact pw_iret dX6_change_50 (pr_inj h)
      · have h := if_t h c3
        refine pw_ldc 29 lw_X6_change_c63 dX6_change_27 rfl ?_
        exact pw_iret dX6_change_29 (pr_inj h)
  · have h := if_f h c1
    refine pw_ldc 9 lw_X6_change_c135 dX6_change_7 rfl ?_
    exact pw_iret dX6_change_9 (pr_inj h)
theorem fi_X2_listen_2 : ∀ w ∈ wsX20, w ∈ wsX2_listen := by decide +kernel
theorem lk_X2_listen_18 : Cond.fieldLink RX2 18 (TX2 1).1 (TX2 1).2.1 (TX2 1).2.2.1 ∈ wsX2_listen := by decide +kernel
theorem lw_X2_listen_ac22 : Cond.methodLink RX2 22 arraycopyName ∈ wsX2_listen := by decide +kernel
theorem lw_X2_listen_acn : Cond.native arraycopyName ∈ wsX2_listen := by decide +kernel
theorem lw_X2_listen_acs : Cond.static arraycopyName ∈ wsX2_listen := by decide +kernel
theorem lw_X2_listen_aci : Cond.initialized "java/lang/System" ∈ wsX2_listen := by decide +kernel
theorem lk_X2_listen_28 : Cond.fieldLink RX2 28 (TX2 2).1 (TX2 2).2.1 (TX2 2).2.2.1 ∈ wsX2_listen := by decide +kernel
theorem lk_X2_listen_32 : Cond.fieldLink RX2 32 (TX2 3).1 (TX2 3).2.1 (TX2 3).2.2.1 ∈ wsX2_listen := by decide +kernel
set_option maxHeartbeats 4000000 in
set_option maxRecDepth 100000 in
theorem k_X2_listen {l : Launch} {G : Gx} {x1 : Int32} {q2 nq2 : Nat} {x3 : Int32} {x4 : Int32} {m mF : Mm}  (lq2 : q2 < 313) (yq2 : ly q2 = (8, nq2)) (h : f_X2_listen x1 q2 nq2 x3 x4 m = some mF) : Cn l G 1 yX2_listen wsX2_listen [.ref (G.1 + 251), .int x1, .ref (G.1 + q2), .int x3, .int x4] m (Qv G mF) := by
  unfold f_X2_listen at h
  refine Cn.of (own := RX2) (lv := [(0, .ref (G.1 + 251)), (1, .int x1), (2, .ref (G.1 + q2)), (3, .int x3), (4, .int x4)]) (by decide) rfl rfl (Nat.le_of_ble_eq_true rfl) rfl ?_
  refine pw_aload_n 2 rfl rfl 1 dX2_listen_0 rfl ?_
  refine pw_iload_n 3 rfl rfl 2 dX2_listen_1 rfl ?_
  refine pw_aload_n 0 rfl rfl 3 dX2_listen_2 rfl ?_
  refine pw_getR 1 6 dX2_listen_3 rfl fi_X2_listen_2 lk_X2_listen_18 la_251 ly_251 (by decide) rfl (by decide) rfl rf_251_1 ?_
  refine pw_iconst (v := (0 : Int32)) (by decide) 7 dX2_listen_6 rfl ?_
  refine pw_iload 4 rfl 9 dX2_listen_7 rfl ?_
  obtain ⟨h4, h⟩ := gd_e h
  refine pw_copy 12 dX2_listen_9 rfl lw_X2_listen_ac22 lw_X2_listen_acn lw_X2_listen_acs lw_X2_listen_aci (Nat.le_of_ble_eq_true rfl) (Nat.le_of_ble_eq_true rfl) lq2 yq2 la_261 ly_261 h4 ?_
  obtain ⟨m1, em1, h⟩ := nmE_ h
  refine pw_mem em1 ?_
  refine pw_aload_n 0 rfl rfl 13 dX2_listen_12 rfl ?_
  refine pw_iload 4 rfl 15 dX2_listen_13 rfl ?_
  refine pw_put (ty0 := tyX2) (ty := .int) 2 18 dX2_listen_15 rfl fi_X2_listen_2 tyX2_ok nmX2 lk_X2_listen_28 la_251 ly_251 (by decide) rfl (by decide) rfl rfl rfl rfl rfl ?_
  obtain ⟨m2, em2, h⟩ := nmE_ h
  refine pw_mem em2 ?_
  refine pw_aload_n 0 rfl rfl 19 dX2_listen_18 rfl ?_
  refine pw_iload_n 1 rfl rfl 20 dX2_listen_19 rfl ?_
  refine pw_put (ty0 := tyX2) (ty := .int) 3 23 dX2_listen_20 rfl fi_X2_listen_2 tyX2_ok nmX2 lk_X2_listen_32 la_251 ly_251 (by decide) rfl (by decide) rfl rfl rfl rfl rfl ?_
  obtain ⟨m3, em3, h⟩ := nmE_ h
  refine pw_mem em3 ?_
  exact pw_vret dX2_listen_23 (Option.some.inj h)
theorem fi_X2_isAsTold_2 : ∀ w ∈ wsX20, w ∈ wsX2_isAsTold := by decide +kernel
theorem lk_X2_isAsTold_28 : Cond.fieldLink RX2 28 (TX2 2).1 (TX2 2).2.1 (TX2 2).2.2.1 ∈ wsX2_isAsTold := by decide +kernel
theorem lk_X2_isAsTold_12 : Cond.fieldLink RX2 12 (TX2 0).1 (TX2 0).2.1 (TX2 0).2.2.1 ∈ wsX2_isAsTold := by decide +kernel
theorem fi_X2_isAsTold_5 : ∀ w ∈ wsX50, w ∈ wsX2_isAsTold := by decide +kernel
theorem lk_X2_isAsTold_38 : Cond.fieldLink RX2 38 (TX5 11).1 (TX5 11).2.1 (TX5 11).2.2.1 ∈ wsX2_isAsTold := by decide +kernel
theorem lk_X2_isAsTold_32 : Cond.fieldLink RX2 32 (TX2 3).1 (TX2 3).2.1 (TX2 3).2.2.1 ∈ wsX2_isAsTold := by decide +kernel
theorem lk_X2_isAsTold_18 : Cond.fieldLink RX2 18 (TX2 1).1 (TX2 1).2.1 (TX2 1).2.2.1 ∈ wsX2_isAsTold := by decide +kernel
set_option maxHeartbeats 4000000 in
set_option maxRecDepth 100000 in
theorem kl_X2_isAsTold_2 {l : Launch} {G : Gx}  {r : Int32} {mF : Mm}  : ∀ (n : Nat) (y1 : Int32) (m : Mm) (res : ((Int32 × Mm) ⊕ Mm)), lp_X2_isAsTold_2 n y1 m = some res → (∀ (a0 : Mm), res = .inr a0 → PW G (KM l G RX2 cX2_isAsTold 2 (some .boolean) wsX2_isAsTold 3 (Qi G r mF)) 46 [] [] a0) → (∀ rt, res = .inl rt → (rt.1 = r ∧ rt.2 = mF)) → PW G (KM l G RX2 cX2_isAsTold 2 (some .boolean) wsX2_isAsTold 3 (Qi G r mF)) 2 [(0, .ref (G.1 + 251)), (1, .int y1)] [] m := by
  intro n
  induction n with
  | zero => intro y1 m res h hk hr; cases h
  | succ n ih =>
    intro y1 m res h hk hr
    have h : lb_X2_isAsTold_2 (lp_X2_isAsTold_2 n) y1 m = _ := h
    unfold lb_X2_isAsTold_2 at h
    refine pw_iload_n 1 rfl rfl 3 dX2_isAsTold_2 rfl ?_
    refine pw_aload_n 0 rfl rfl 4 dX2_isAsTold_3 rfl ?_
    refine pw_getI 2 7 dX2_isAsTold_4 rfl fi_X2_isAsTold_2 lk_X2_isAsTold_28 la_251 ly_251 (by decide) rfl (by decide) rfl ?_
    refine pw_icmp_ge 46 10 dX2_isAsTold_7 (by decide) rfl (fun c1 => ?_) (fun c1 => ?_)
    · have h := if_t h c1
      refine pw_sub [] [] rfl ?_
      exact hk _ (Option.some.inj h).symm
    · have h := if_f h c1
      refine pw_aload_n 0 rfl rfl 11 dX2_isAsTold_10 rfl ?_
      refine pw_getR 0 14 dX2_isAsTold_11 rfl fi_X2_isAsTold_2 lk_X2_isAsTold_12 la_251 ly_251 (by decide) rfl (by decide) rfl rf_251_0 ?_
      obtain ⟨m2, hm2, h⟩ := bd1_e h
      refine pw_callVv 17 dX2_isAsTold_14 rfl [] 0 ⟨gX2_isAsTold_X5_pass, rfl, sgV_X5_pass, ⟨Nat.le_of_ble_eq_true rfl, Nat.le_of_ble_eq_true rfl⟩, ⟨Nat.le_refl _, Nat.le_refl _⟩⟩ ly_252 (by decide) la_252 rfl (k_X5_pass isW_252 hm2) rfl rfl (Nat.le_of_ble_eq_true rfl) ?_
      refine pw_aload_n 0 rfl rfl 18 dX2_isAsTold_17 rfl ?_
      refine pw_getR 0 21 dX2_isAsTold_18 rfl fi_X2_isAsTold_2 lk_X2_isAsTold_12 la_251 ly_251 (by decide) rfl (by decide) rfl rf_251_0 ?_
      refine pw_getR 11 24 dX2_isAsTold_21 rfl fi_X2_isAsTold_5 lk_X2_isAsTold_38 la_252 ly_252 (by decide) rfl (by decide) rfl rf_252_11 ?_
      refine pw_aload_n 0 rfl rfl 25 dX2_isAsTold_24 rfl ?_
      refine pw_getI 3 28 dX2_isAsTold_25 rfl fi_X2_isAsTold_2 lk_X2_isAsTold_32 la_251 ly_251 (by decide) rfl (by decide) rfl ?_
      obtain ⟨h3, h⟩ := gd_e h
      refine pw_iald 29 dX2_isAsTold_28 rfl la_257 ly_257 h3 ?_
      refine pw_aload_n 0 rfl rfl 30 dX2_isAsTold_29 rfl ?_
      refine pw_getR 1 33 dX2_isAsTold_30 rfl fi_X2_isAsTold_2 lk_X2_isAsTold_18 la_251 ly_251 (by decide) rfl (by decide) rfl rf_251_1 ?_
      refine pw_iload_n 1 rfl rfl 34 dX2_isAsTold_33 rfl ?_
      obtain ⟨h4, h⟩ := gd_e h
      refine pw_iald 35 dX2_isAsTold_34 rfl la_261 ly_261 h4 ?_
      refine pw_icmp_eq 40 38 dX2_isAsTold_35 (by decide) rfl (fun c5 => ?_) (fun c5 => ?_)
      · have h := if_t h c5
        obtain ⟨v6, ev6, h⟩ := nmE_ h
        refine pw_iinc 1 rfl (by rw [ev6]; rfl) [(1, .int v6), (0, .ref (G.1 + 251))] 43 dX2_isAsTold_40 rfl (Nat.le_of_ble_eq_true rfl) rfl ?_
        refine pw_goto 2 dX2_isAsTold_43 (by decide) ?_
        refine pw_sub [1, 0] [(0, .ref (G.1 + 251)), (1, .int v6)] rfl ?_
        exact ih v6 m2 res h hk hr
      · have h := if_f h c5
        refine pw_iconst (v := (0 : Int32)) (by decide) 39 dX2_isAsTold_38 rfl ?_
        exact pw_zret dX2_isAsTold_39 (by decide) (hr _ (Option.some.inj h).symm)
set_option maxHeartbeats 4000000 in
set_option maxRecDepth 100000 in
theorem k_X2_isAsTold {l : Launch} {G : Gx}  {m mF : Mm} {r : Int32}  (h : f_X2_isAsTold m = some (r, mF)) : Cn l G 3 yX2_isAsTold wsX2_isAsTold [.ref (G.1 + 251)] m (Qi G r mF) := by
  unfold f_X2_isAsTold at h
  refine Cn.of (own := RX2) (lv := [(0, .ref (G.1 + 251))]) (by decide) rfl rfl (Nat.le_of_ble_eq_true rfl) rfl ?_
  refine pw_iconst (v := (0 : Int32)) (by decide) 1 dX2_isAsTold_0 rfl ?_
  refine pw_istore_n (hf := rfl) [(1, .int (0 : Int32)), (0, .ref (G.1 + 251))] 2 dX2_isAsTold_1 rfl (Nat.le_of_ble_eq_true rfl) rfl ?_
  rcases bdS1_e h with ⟨rt, h8, h⟩ | ⟨m7, h8, h⟩
  · refine pw_sub [1, 0] [(0, .ref (G.1 + 251)), (1, .int (0 : Int32))] rfl ?_
    exact kl_X2_isAsTold_2 FU (0 : Int32) m _ h8 (fun _ e2 => by cases e2) (fun rt2 e2 => by cases e2; exact by cases h; exact ⟨rfl, rfl⟩)
  · have hL2_h8 : PW G (KM l G RX2 cX2_isAsTold 2 (some .boolean) wsX2_isAsTold 3 (Qi G r mF)) 46 [] [] m7 := by
      refine pw_iconst (v := (1 : Int32)) (by decide) 47 dX2_isAsTold_46 rfl ?_
      exact pw_zret dX2_isAsTold_47 (by decide) (pr_inj h)
    refine pw_sub [1, 0] [(0, .ref (G.1 + 251)), (1, .int (0 : Int32))] rfl ?_
    exact kl_X2_isAsTold_2 FU (0 : Int32) m _ h8 (fun _ e2 => by cases e2; exact hL2_h8) (fun rt2 e2 => by cases e2)
theorem fi_X2_sorts_2 : ∀ w ∈ wsX20, w ∈ wsX2_sorts := by decide +kernel
theorem lk_X2_sorts_12 : Cond.fieldLink RX2 12 (TX2 0).1 (TX2 0).2.1 (TX2 0).2.2.1 ∈ wsX2_sorts := by decide +kernel
theorem fi_X2_sorts_5 : ∀ w ∈ wsX50, w ∈ wsX2_sorts := by decide +kernel
theorem lk_X2_sorts_45 : Cond.fieldLink RX2 45 (TX5 7).1 (TX5 7).2.1 (TX5 7).2.2.1 ∈ wsX2_sorts := by decide +kernel
theorem lk_X2_sorts_32 : Cond.fieldLink RX2 32 (TX2 3).1 (TX2 3).2.1 (TX2 3).2.2.1 ∈ wsX2_sorts := by decide +kernel
set_option maxHeartbeats 4000000 in
set_option maxRecDepth 100000 in
theorem kl_X2_sorts_4 {l : Launch} {G : Gx} {w1 : Nat} {r : Int32} {mF : Mm} (hw1 : IsW w1) : ∀ (n : Nat) (y2 : Int32) (y3 : Int32) (m : Mm) (a0 : Int32) (a1 : Mm), lp_X2_sorts_4 w1 n y2 y3 m = some (a0, a1) → PW G (KM l G RX2 cX2_sorts 4 (some .int) wsX2_sorts 4 (Qi G r mF)) 53 [(2, .int a0)] [] a1 → PW G (KM l G RX2 cX2_sorts 4 (some .int) wsX2_sorts 4 (Qi G r mF)) 4 [(0, .ref (G.1 + 251)), (1, .ref (G.1 + w1)), (2, .int y2), (3, .int y3)] [] m := by
  intro n
  induction n with
  | zero => intro y2 y3 m a0 a1 h hk; cases h
  | succ n ih =>
    intro y2 y3 m a0 a1 h hk
    have h : lb_X2_sorts_4 (lp_X2_sorts_4 w1 n) w1 y2 y3 m = _ := h
    unfold lb_X2_sorts_4 at h
    refine pw_iload_n 3 rfl rfl 5 dX2_sorts_4 rfl ?_
    refine pw_iconst (v := (5 : Int32)) (by decide) 6 dX2_sorts_5 rfl ?_
    refine pw_icmp_gt 53 9 dX2_sorts_6 (by decide) rfl (fun c1 => ?_) (fun c1 => ?_)
    · have h := if_t h c1
      refine pw_sub [2] [(2, .int y2)] rfl ?_
      cases h; exact hk
    · have h := if_f h c1
      refine pw_aload_n 0 rfl rfl 10 dX2_sorts_9 rfl ?_
      refine pw_getR 0 13 dX2_sorts_10 rfl fi_X2_sorts_2 lk_X2_sorts_12 la_251 ly_251 (by decide) rfl (by decide) rfl rf_251_0 ?_
      refine pw_aload_n 1 rfl rfl 14 dX2_sorts_13 rfl ?_
      obtain ⟨m2, hm2, h⟩ := bd1_e h
      refine pw_callVv 17 dX2_sorts_14 rfl [.ref (G.1 + w1)] 1 ⟨gX2_sorts_X5_become, rfl, sgV_X5_become, ⟨Nat.le_of_ble_eq_true rfl, Nat.le_of_ble_eq_true rfl⟩, ⟨Nat.le_refl _, Nat.le_refl _⟩⟩ ly_252 (by decide) la_252 rfl (k_X5_become isW_252 hw1 hm2) rfl rfl (Nat.le_of_ble_eq_true rfl) ?_
      refine pw_aload_n 0 rfl rfl 18 dX2_sorts_17 rfl ?_
      refine pw_getR 0 21 dX2_sorts_18 rfl fi_X2_sorts_2 lk_X2_sorts_12 la_251 ly_251 (by decide) rfl (by decide) rfl rf_251_0 ?_
      refine pw_getR 7 24 dX2_sorts_21 rfl fi_X2_sorts_5 lk_X2_sorts_45 la_252 ly_252 (by decide) rfl (by decide) rfl rf_252_7 ?_
      refine pw_aload_n 0 rfl rfl 25 dX2_sorts_24 rfl ?_
      refine pw_getI 3 28 dX2_sorts_25 rfl fi_X2_sorts_2 lk_X2_sorts_32 la_251 ly_251 (by decide) rfl (by decide) rfl ?_
      refine pw_iload_n 3 rfl rfl 29 dX2_sorts_28 rfl ?_
      obtain ⟨h10, h⟩ := gd_e h
      refine pw_iast 30 dX2_sorts_29 rfl la_253 ly_253 h10 ?_
      obtain ⟨m3, em3, h⟩ := nmE_ h
      refine pw_mem em3 ?_
      refine pw_iload_n 2 rfl rfl 31 dX2_sorts_30 rfl ?_
      refine pw_aload_n 0 rfl rfl 32 dX2_sorts_31 rfl ?_
      obtain ⟨r5, m4, hr5, h⟩ := bd2_e h
      refine pw_callVi 35 dX2_sorts_32 rfl [] 0 ⟨gX2_sorts_X2_isAsTold, rfl, sgV_X2_isAsTold, ⟨Nat.le_of_ble_eq_true rfl, Nat.le_of_ble_eq_true rfl⟩, ⟨Nat.le_refl _, Nat.le_refl _⟩⟩ ly_251 (by decide) la_251 rfl (k_X2_isAsTold hr5) rfl rfl (Nat.le_of_ble_eq_true rfl) ?_
      obtain ⟨j7, ej7, h⟩ := nmE_ h
      have hJ45_j7 : PW G (KM l G RX2 cX2_sorts 4 (some .int) wsX2_sorts 4 (Qi G r mF)) 45 [(0, .ref (G.1 + 251)), (1, .ref (G.1 + w1)), (3, .int y3)] [.int j7, .int y2] m4 := by
        refine pw_ior 46 dX2_sorts_45 rfl ?_
        obtain ⟨v8, ev8, h⟩ := nmE_ h
        refine pw_top ev8 ?_
        refine pw_istore_n (hf := rfl) [(2, .int v8), (0, .ref (G.1 + 251)), (1, .ref (G.1 + w1)), (3, .int y3)] 47 dX2_sorts_46 rfl (Nat.le_of_ble_eq_true rfl) rfl ?_
        obtain ⟨v9, ev9, h⟩ := nmE_ h
        refine pw_iinc 3 rfl (by rw [ev9]; rfl) [(3, .int v9), (2, .int v8), (0, .ref (G.1 + 251)), (1, .ref (G.1 + w1))] 50 dX2_sorts_47 rfl (Nat.le_of_ble_eq_true rfl) rfl ?_
        refine pw_goto 4 dX2_sorts_50 (by decide) ?_
        refine pw_sub [2, 3, 1, 0] [(0, .ref (G.1 + 251)), (1, .ref (G.1 + w1)), (2, .int v8), (3, .int v9)] rfl ?_
        exact ih v8 v9 m4 a0 a1 h hk
      refine pw_if_eq 44 38 dX2_sorts_35 (by decide) rfl (fun c6 => ?_) (fun c6 => ?_)
      · have ej7 := if_tv ej7 c6
        refine pw_iconst (v := (0 : Int32)) (by decide) 45 dX2_sorts_44 rfl ?_
        refine pw_sub [0, 1, 3] [(0, .ref (G.1 + 251)), (1, .ref (G.1 + w1)), (3, .int y3)] rfl ?_
        subst ej7; exact hJ45_j7
      · have ej7 := if_fv ej7 c6
        refine pw_iconst (v := (1 : Int32)) (by decide) 39 dX2_sorts_38 rfl ?_
        refine pw_iload_n 3 rfl rfl 40 dX2_sorts_39 rfl ?_
        refine pw_ishl 41 dX2_sorts_40 rfl ?_
        refine pw_goto 45 dX2_sorts_41 (by decide) ?_
        refine pw_sub [0, 1, 3] [(0, .ref (G.1 + 251)), (1, .ref (G.1 + w1)), (3, .int y3)] rfl ?_
        subst ej7; exact hJ45_j7
set_option maxHeartbeats 4000000 in
set_option maxRecDepth 100000 in
theorem k_X2_sorts {l : Launch} {G : Gx} {w1 : Nat} {m mF : Mm} {r : Int32} (hw1 : IsW w1) (h : f_X2_sorts w1 m = some (r, mF)) : Cn l G 4 yX2_sorts wsX2_sorts [.ref (G.1 + 251), .ref (G.1 + w1)] m (Qi G r mF) := by
  unfold f_X2_sorts at h
  refine Cn.of (own := RX2) (lv := [(0, .ref (G.1 + 251)), (1, .ref (G.1 + w1))]) (by decide) rfl rfl (Nat.le_of_ble_eq_true rfl) rfl ?_
  refine pw_iconst (v := (0 : Int32)) (by decide) 1 dX2_sorts_0 rfl ?_
  refine pw_istore_n (hf := rfl) [(2, .int (0 : Int32)), (0, .ref (G.1 + 251)), (1, .ref (G.1 + w1))] 2 dX2_sorts_1 rfl (Nat.le_of_ble_eq_true rfl) rfl ?_
  refine pw_iconst (v := (1 : Int32)) (by decide) 3 dX2_sorts_2 rfl ?_
  refine pw_istore_n (hf := rfl) [(3, .int (1 : Int32)), (2, .int (0 : Int32)), (0, .ref (G.1 + 251)), (1, .ref (G.1 + w1))] 4 dX2_sorts_3 rfl (Nat.le_of_ble_eq_true rfl) rfl ?_
  obtain ⟨z11, m12, h13, h⟩ := bd2_e h
  have hL4_h13 : PW G (KM l G RX2 cX2_sorts 4 (some .int) wsX2_sorts 4 (Qi G r mF)) 53 [(2, .int z11)] [] m12 := by
    refine pw_iload_n 0 rfl rfl 54 dX2_sorts_53 rfl ?_
    exact pw_iret dX2_sorts_54 (pr_inj h)
  refine pw_sub [2, 3, 1, 0] [(0, .ref (G.1 + 251)), (1, .ref (G.1 + w1)), (2, .int (0 : Int32)), (3, .int (1 : Int32))] rfl ?_
  exact kl_X2_sorts_4 hw1 FU (0 : Int32) (1 : Int32) m z11 m12 h13 hL4_h13
theorem fi_X2_starts_2 : ∀ w ∈ wsX20, w ∈ wsX2_starts := by decide +kernel
theorem lk_X2_starts_12 : Cond.fieldLink RX2 12 (TX2 0).1 (TX2 0).2.1 (TX2 0).2.2.1 ∈ wsX2_starts := by decide +kernel
theorem fi_X2_starts_5 : ∀ w ∈ wsX50, w ∈ wsX2_starts := by decide +kernel
theorem lk_X2_starts_52 : Cond.fieldLink RX2 52 (TX5 8).1 (TX5 8).2.1 (TX5 8).2.2.1 ∈ wsX2_starts := by decide +kernel
theorem lk_X2_starts_32 : Cond.fieldLink RX2 32 (TX2 3).1 (TX2 3).2.1 (TX2 3).2.2.1 ∈ wsX2_starts := by decide +kernel
set_option maxHeartbeats 4000000 in
set_option maxRecDepth 100000 in
theorem kl_X2_starts_4 {l : Launch} {G : Gx} {w1 : Nat} {r : Int32} {mF : Mm} (hw1 : IsW w1) : ∀ (n : Nat) (y2 : Int32) (y3 : Int32) (m : Mm) (a0 : Int32) (a1 : Mm), lp_X2_starts_4 w1 n y2 y3 m = some (a0, a1) → PW G (KM l G RX2 cX2_starts 4 (some .int) wsX2_starts 4 (Qi G r mF)) 54 [(2, .int a0)] [] a1 → PW G (KM l G RX2 cX2_starts 4 (some .int) wsX2_starts 4 (Qi G r mF)) 4 [(0, .ref (G.1 + 251)), (1, .ref (G.1 + w1)), (2, .int y2), (3, .int y3)] [] m := by
  intro n
  induction n with
  | zero => intro y2 y3 m a0 a1 h hk; cases h
  | succ n ih =>
    intro y2 y3 m a0 a1 h hk
    have h : lb_X2_starts_4 (lp_X2_starts_4 w1 n) w1 y2 y3 m = _ := h
    unfold lb_X2_starts_4 at h
    refine pw_iload_n 3 rfl rfl 5 dX2_starts_4 rfl ?_
    refine pw_bipush (v := (10 : Int32)) (by decide) 7 dX2_starts_5 rfl ?_
    refine pw_icmp_ge 54 10 dX2_starts_7 (by decide) rfl (fun c1 => ?_) (fun c1 => ?_)
    · have h := if_t h c1
      refine pw_sub [2] [(2, .int y2)] rfl ?_
      cases h; exact hk
    · have h := if_f h c1
      refine pw_aload_n 0 rfl rfl 11 dX2_starts_10 rfl ?_
      refine pw_getR 0 14 dX2_starts_11 rfl fi_X2_starts_2 lk_X2_starts_12 la_251 ly_251 (by decide) rfl (by decide) rfl rf_251_0 ?_
      refine pw_aload_n 1 rfl rfl 15 dX2_starts_14 rfl ?_
      obtain ⟨m2, hm2, h⟩ := bd1_e h
      refine pw_callVv 18 dX2_starts_15 rfl [.ref (G.1 + w1)] 1 ⟨gX2_starts_X5_become, rfl, sgV_X5_become, ⟨Nat.le_of_ble_eq_true rfl, Nat.le_of_ble_eq_true rfl⟩, ⟨Nat.le_refl _, Nat.le_refl _⟩⟩ ly_252 (by decide) la_252 rfl (k_X5_become isW_252 hw1 hm2) rfl rfl (Nat.le_of_ble_eq_true rfl) ?_
      refine pw_aload_n 0 rfl rfl 19 dX2_starts_18 rfl ?_
      refine pw_getR 0 22 dX2_starts_19 rfl fi_X2_starts_2 lk_X2_starts_12 la_251 ly_251 (by decide) rfl (by decide) rfl rf_251_0 ?_
      refine pw_getR 8 25 dX2_starts_22 rfl fi_X2_starts_5 lk_X2_starts_52 la_252 ly_252 (by decide) rfl (by decide) rfl rf_252_8 ?_
      refine pw_aload_n 0 rfl rfl 26 dX2_starts_25 rfl ?_
      refine pw_getI 3 29 dX2_starts_26 rfl fi_X2_starts_2 lk_X2_starts_32 la_251 ly_251 (by decide) rfl (by decide) rfl ?_
      refine pw_iload_n 3 rfl rfl 30 dX2_starts_29 rfl ?_
      obtain ⟨h10, h⟩ := gd_e h
      refine pw_iast 31 dX2_starts_30 rfl la_254 ly_254 h10 ?_
      obtain ⟨m3, em3, h⟩ := nmE_ h
      refine pw_mem em3 ?_
      refine pw_iload_n 2 rfl rfl 32 dX2_starts_31 rfl ?_
      refine pw_aload_n 0 rfl rfl 33 dX2_starts_32 rfl ?_
      obtain ⟨r5, m4, hr5, h⟩ := bd2_e h
      refine pw_callVi 36 dX2_starts_33 rfl [] 0 ⟨gX2_starts_X2_isAsTold, rfl, sgV_X2_isAsTold, ⟨Nat.le_of_ble_eq_true rfl, Nat.le_of_ble_eq_true rfl⟩, ⟨Nat.le_refl _, Nat.le_refl _⟩⟩ ly_251 (by decide) la_251 rfl (k_X2_isAsTold hr5) rfl rfl (Nat.le_of_ble_eq_true rfl) ?_
      obtain ⟨j7, ej7, h⟩ := nmE_ h
      have hJ46_j7 : PW G (KM l G RX2 cX2_starts 4 (some .int) wsX2_starts 4 (Qi G r mF)) 46 [(0, .ref (G.1 + 251)), (1, .ref (G.1 + w1)), (3, .int y3)] [.int j7, .int y2] m4 := by
        refine pw_ior 47 dX2_starts_46 rfl ?_
        obtain ⟨v8, ev8, h⟩ := nmE_ h
        refine pw_top ev8 ?_
        refine pw_istore_n (hf := rfl) [(2, .int v8), (0, .ref (G.1 + 251)), (1, .ref (G.1 + w1)), (3, .int y3)] 48 dX2_starts_47 rfl (Nat.le_of_ble_eq_true rfl) rfl ?_
        obtain ⟨v9, ev9, h⟩ := nmE_ h
        refine pw_iinc 3 rfl (by rw [ev9]; rfl) [(3, .int v9), (2, .int v8), (0, .ref (G.1 + 251)), (1, .ref (G.1 + w1))] 51 dX2_starts_48 rfl (Nat.le_of_ble_eq_true rfl) rfl ?_
        refine pw_goto 4 dX2_starts_51 (by decide) ?_
        refine pw_sub [2, 3, 1, 0] [(0, .ref (G.1 + 251)), (1, .ref (G.1 + w1)), (2, .int v8), (3, .int v9)] rfl ?_
        exact ih v8 v9 m4 a0 a1 h hk
      refine pw_if_eq 45 39 dX2_starts_36 (by decide) rfl (fun c6 => ?_) (fun c6 => ?_)
      · have ej7 := if_tv ej7 c6
        refine pw_iconst (v := (0 : Int32)) (by decide) 46 dX2_starts_45 rfl ?_
        refine pw_sub [0, 1, 3] [(0, .ref (G.1 + 251)), (1, .ref (G.1 + w1)), (3, .int y3)] rfl ?_
        subst ej7; exact hJ46_j7
      · have ej7 := if_fv ej7 c6
        refine pw_iconst (v := (1 : Int32)) (by decide) 40 dX2_starts_39 rfl ?_
        refine pw_iload_n 3 rfl rfl 41 dX2_starts_40 rfl ?_
        refine pw_ishl 42 dX2_starts_41 rfl ?_
        refine pw_goto 46 dX2_starts_42 (by decide) ?_
        refine pw_sub [0, 1, 3] [(0, .ref (G.1 + 251)), (1, .ref (G.1 + w1)), (3, .int y3)] rfl ?_
        subst ej7; exact hJ46_j7
set_option maxHeartbeats 4000000 in
set_option maxRecDepth 100000 in
theorem k_X2_starts {l : Launch} {G : Gx} {w1 : Nat} {m mF : Mm} {r : Int32} (hw1 : IsW w1) (h : f_X2_starts w1 m = some (r, mF)) : Cn l G 4 yX2_starts wsX2_starts [.ref (G.1 + 251), .ref (G.1 + w1)] m (Qi G r mF) := by
  unfold f_X2_starts at h
  refine Cn.of (own := RX2) (lv := [(0, .ref (G.1 + 251)), (1, .ref (G.1 + w1))]) (by decide) rfl rfl (Nat.le_of_ble_eq_true rfl) rfl ?_
  refine pw_iconst (v := (0 : Int32)) (by decide) 1 dX2_starts_0 rfl ?_
  refine pw_istore_n (hf := rfl) [(2, .int (0 : Int32)), (0, .ref (G.1 + 251)), (1, .ref (G.1 + w1))] 2 dX2_starts_1 rfl (Nat.le_of_ble_eq_true rfl) rfl ?_
  refine pw_iconst (v := (0 : Int32)) (by decide) 3 dX2_starts_2 rfl ?_
  refine pw_istore_n (hf := rfl) [(3, .int (0 : Int32)), (2, .int (0 : Int32)), (0, .ref (G.1 + 251)), (1, .ref (G.1 + w1))] 4 dX2_starts_3 rfl (Nat.le_of_ble_eq_true rfl) rfl ?_
  obtain ⟨z11, m12, h13, h⟩ := bd2_e h
  have hL4_h13 : PW G (KM l G RX2 cX2_starts 4 (some .int) wsX2_starts 4 (Qi G r mF)) 54 [(2, .int z11)] [] m12 := by
    refine pw_iload_n 0 rfl rfl 55 dX2_starts_54 rfl ?_
    exact pw_iret dX2_starts_55 (pr_inj h)
  refine pw_sub [2, 3, 1, 0] [(0, .ref (G.1 + 251)), (1, .ref (G.1 + w1)), (2, .int (0 : Int32)), (3, .int (0 : Int32))] rfl ?_
  exact kl_X2_starts_4 hw1 FU (0 : Int32) (0 : Int32) m z11 m12 h13 hL4_h13
theorem fi_X2_hymnsHeard_2 : ∀ w ∈ wsX20, w ∈ wsX2_hymnsHeard := by decide +kernel
theorem lk_X2_hymnsHeard_12 : Cond.fieldLink RX2 12 (TX2 0).1 (TX2 0).2.1 (TX2 0).2.2.1 ∈ wsX2_hymnsHeard := by decide +kernel
theorem fi_X2_hymnsHeard_5 : ∀ w ∈ wsX50, w ∈ wsX2_hymnsHeard := by decide +kernel
theorem lk_X2_hymnsHeard_55 : Cond.fieldLink RX2 55 (TX5 2).1 (TX5 2).2.1 (TX5 2).2.2.1 ∈ wsX2_hymnsHeard := by decide +kernel
set_option maxHeartbeats 4000000 in
set_option maxRecDepth 100000 in
theorem kl_X2_hymnsHeard_4 {l : Launch} {G : Gx} {w1 : Nat} {r : Int32} {mF : Mm} (hw1 : IsW w1) : ∀ (n : Nat) (y2 : Int32) (y3 : Int32) (m : Mm) (a0 : Int32) (a1 : Mm), lp_X2_hymnsHeard_4 w1 n y2 y3 m = some (a0, a1) → PW G (KM l G RX2 cX2_hymnsHeard 4 (some .int) wsX2_hymnsHeard 4 (Qi G r mF)) 49 [(2, .int a0)] [] a1 → PW G (KM l G RX2 cX2_hymnsHeard 4 (some .int) wsX2_hymnsHeard 4 (Qi G r mF)) 4 [(0, .ref (G.1 + 251)), (1, .ref (G.1 + w1)), (2, .int y2), (3, .int y3)] [] m := by
  intro n
  induction n with
  | zero => intro y2 y3 m a0 a1 h hk; cases h
  | succ n ih =>
    intro y2 y3 m a0 a1 h hk
    have h : lb_X2_hymnsHeard_4 (lp_X2_hymnsHeard_4 w1 n) w1 y2 y3 m = _ := h
    unfold lb_X2_hymnsHeard_4 at h
    refine pw_iload_n 3 rfl rfl 5 dX2_hymnsHeard_4 rfl ?_
    refine pw_bipush (v := (16 : Int32)) (by decide) 7 dX2_hymnsHeard_5 rfl ?_
    refine pw_icmp_ge 49 10 dX2_hymnsHeard_7 (by decide) rfl (fun c1 => ?_) (fun c1 => ?_)
    · have h := if_t h c1
      refine pw_sub [2] [(2, .int y2)] rfl ?_
      cases h; exact hk
    · have h := if_f h c1
      refine pw_aload_n 0 rfl rfl 11 dX2_hymnsHeard_10 rfl ?_
      refine pw_getR 0 14 dX2_hymnsHeard_11 rfl fi_X2_hymnsHeard_2 lk_X2_hymnsHeard_12 la_251 ly_251 (by decide) rfl (by decide) rfl rf_251_0 ?_
      refine pw_aload_n 1 rfl rfl 15 dX2_hymnsHeard_14 rfl ?_
      obtain ⟨m2, hm2, h⟩ := bd1_e h
      refine pw_callVv 18 dX2_hymnsHeard_15 rfl [.ref (G.1 + w1)] 1 ⟨gX2_hymnsHeard_X5_become, rfl, sgV_X5_become, ⟨Nat.le_of_ble_eq_true rfl, Nat.le_of_ble_eq_true rfl⟩, ⟨Nat.le_refl _, Nat.le_refl _⟩⟩ ly_252 (by decide) la_252 rfl (k_X5_become isW_252 hw1 hm2) rfl rfl (Nat.le_of_ble_eq_true rfl) ?_
      refine pw_aload_n 0 rfl rfl 19 dX2_hymnsHeard_18 rfl ?_
      refine pw_getR 0 22 dX2_hymnsHeard_19 rfl fi_X2_hymnsHeard_2 lk_X2_hymnsHeard_12 la_251 ly_251 (by decide) rfl (by decide) rfl rf_251_0 ?_
      refine pw_iload_n 3 rfl rfl 23 dX2_hymnsHeard_22 rfl ?_
      refine pw_put (ty0 := tyX5) (ty := .int) 2 26 dX2_hymnsHeard_23 rfl fi_X2_hymnsHeard_5 tyX5_ok nmX5 lk_X2_hymnsHeard_55 la_252 ly_252 (by decide) rfl (by decide) rfl rfl rfl rfl rfl ?_
      obtain ⟨m3, em3, h⟩ := nmE_ h
      refine pw_mem em3 ?_
      refine pw_iload_n 2 rfl rfl 27 dX2_hymnsHeard_26 rfl ?_
      refine pw_aload_n 0 rfl rfl 28 dX2_hymnsHeard_27 rfl ?_
      obtain ⟨r5, m4, hr5, h⟩ := bd2_e h
      refine pw_callVi 31 dX2_hymnsHeard_28 rfl [] 0 ⟨gX2_hymnsHeard_X2_isAsTold, rfl, sgV_X2_isAsTold, ⟨Nat.le_of_ble_eq_true rfl, Nat.le_of_ble_eq_true rfl⟩, ⟨Nat.le_refl _, Nat.le_refl _⟩⟩ ly_251 (by decide) la_251 rfl (k_X2_isAsTold hr5) rfl rfl (Nat.le_of_ble_eq_true rfl) ?_
      obtain ⟨j7, ej7, h⟩ := nmE_ h
      have hJ41_j7 : PW G (KM l G RX2 cX2_hymnsHeard 4 (some .int) wsX2_hymnsHeard 4 (Qi G r mF)) 41 [(0, .ref (G.1 + 251)), (1, .ref (G.1 + w1)), (3, .int y3)] [.int j7, .int y2] m4 := by
        refine pw_ior 42 dX2_hymnsHeard_41 rfl ?_
        obtain ⟨v8, ev8, h⟩ := nmE_ h
        refine pw_top ev8 ?_
        refine pw_istore_n (hf := rfl) [(2, .int v8), (0, .ref (G.1 + 251)), (1, .ref (G.1 + w1)), (3, .int y3)] 43 dX2_hymnsHeard_42 rfl (Nat.le_of_ble_eq_true rfl) rfl ?_
        obtain ⟨v9, ev9, h⟩ := nmE_ h
        refine pw_iinc 3 rfl (by rw [ev9]; rfl) [(3, .int v9), (2, .int v8), (0, .ref (G.1 + 251)), (1, .ref (G.1 + w1))] 46 dX2_hymnsHeard_43 rfl (Nat.le_of_ble_eq_true rfl) rfl ?_
        refine pw_goto 4 dX2_hymnsHeard_46 (by decide) ?_
        refine pw_sub [2, 3, 1, 0] [(0, .ref (G.1 + 251)), (1, .ref (G.1 + w1)), (2, .int v8), (3, .int v9)] rfl ?_
        exact ih v8 v9 m4 a0 a1 h hk
      refine pw_if_eq 40 34 dX2_hymnsHeard_31 (by decide) rfl (fun c6 => ?_) (fun c6 => ?_)
      · have ej7 := if_tv ej7 c6
        refine pw_iconst (v := (0 : Int32)) (by decide) 41 dX2_hymnsHeard_40 rfl ?_
        refine pw_sub [0, 1, 3] [(0, .ref (G.1 + 251)), (1, .ref (G.1 + w1)), (3, .int y3)] rfl ?_
        subst ej7; exact hJ41_j7
      · have ej7 := if_fv ej7 c6
        refine pw_iconst (v := (1 : Int32)) (by decide) 35 dX2_hymnsHeard_34 rfl ?_
        refine pw_iload_n 3 rfl rfl 36 dX2_hymnsHeard_35 rfl ?_
        refine pw_ishl 37 dX2_hymnsHeard_36 rfl ?_
        refine pw_goto 41 dX2_hymnsHeard_37 (by decide) ?_
        refine pw_sub [0, 1, 3] [(0, .ref (G.1 + 251)), (1, .ref (G.1 + w1)), (3, .int y3)] rfl ?_
        subst ej7; exact hJ41_j7
set_option maxHeartbeats 4000000 in
set_option maxRecDepth 100000 in
theorem k_X2_hymnsHeard {l : Launch} {G : Gx} {w1 : Nat} {m mF : Mm} {r : Int32} (hw1 : IsW w1) (h : f_X2_hymnsHeard w1 m = some (r, mF)) : Cn l G 4 yX2_hymnsHeard wsX2_hymnsHeard [.ref (G.1 + 251), .ref (G.1 + w1)] m (Qi G r mF) := by
  unfold f_X2_hymnsHeard at h
  refine Cn.of (own := RX2) (lv := [(0, .ref (G.1 + 251)), (1, .ref (G.1 + w1))]) (by decide) rfl rfl (Nat.le_of_ble_eq_true rfl) rfl ?_
  refine pw_iconst (v := (0 : Int32)) (by decide) 1 dX2_hymnsHeard_0 rfl ?_
  refine pw_istore_n (hf := rfl) [(2, .int (0 : Int32)), (0, .ref (G.1 + 251)), (1, .ref (G.1 + w1))] 2 dX2_hymnsHeard_1 rfl (Nat.le_of_ble_eq_true rfl) rfl ?_
  refine pw_iconst (v := (0 : Int32)) (by decide) 3 dX2_hymnsHeard_2 rfl ?_
  refine pw_istore_n (hf := rfl) [(3, .int (0 : Int32)), (2, .int (0 : Int32)), (0, .ref (G.1 + 251)), (1, .ref (G.1 + w1))] 4 dX2_hymnsHeard_3 rfl (Nat.le_of_ble_eq_true rfl) rfl ?_
  obtain ⟨z10, m11, h12, h⟩ := bd2_e h
  have hL4_h12 : PW G (KM l G RX2 cX2_hymnsHeard 4 (some .int) wsX2_hymnsHeard 4 (Qi G r mF)) 49 [(2, .int z10)] [] m11 := by
    refine pw_iload_n 0 rfl rfl 50 dX2_hymnsHeard_49 rfl ?_
    exact pw_iret dX2_hymnsHeard_50 (pr_inj h)
  refine pw_sub [2, 3, 1, 0] [(0, .ref (G.1 + 251)), (1, .ref (G.1 + w1)), (2, .int (0 : Int32)), (3, .int (0 : Int32))] rfl ?_
  exact kl_X2_hymnsHeard_4 hw1 FU (0 : Int32) (0 : Int32) m z10 m11 h12 hL4_h12
theorem fi_X2_isWell_2 : ∀ w ∈ wsX20, w ∈ wsX2_isWell := by decide +kernel
theorem lk_X2_isWell_12 : Cond.fieldLink RX2 12 (TX2 0).1 (TX2 0).2.1 (TX2 0).2.2.1 ∈ wsX2_isWell := by decide +kernel
theorem fi_X2_isWell_5 : ∀ w ∈ wsX50, w ∈ wsX2_isWell := by decide +kernel
theorem lk_X2_isWell_63 : Cond.fieldLink RX2 63 (TX5 10).1 (TX5 10).2.1 (TX5 10).2.2.1 ∈ wsX2_isWell := by decide +kernel
theorem lk_X2_isWell_32 : Cond.fieldLink RX2 32 (TX2 3).1 (TX2 3).2.1 (TX2 3).2.2.1 ∈ wsX2_isWell := by decide +kernel
set_option maxHeartbeats 4000000 in
set_option maxRecDepth 100000 in
theorem k_X2_isWell {l : Launch} {G : Gx} {w1 : Nat} {x2 : Int32} {m mF : Mm} {r : Int32} (hw1 : IsW w1) (h : f_X2_isWell w1 x2 m = some (r, mF)) : Cn l G 4 yX2_isWell wsX2_isWell [.ref (G.1 + 251), .ref (G.1 + w1), .int x2] m (Qi G r mF) := by
  unfold f_X2_isWell at h
  refine Cn.of (own := RX2) (lv := [(0, .ref (G.1 + 251)), (1, .ref (G.1 + w1)), (2, .int x2)]) (by decide) rfl rfl (Nat.le_of_ble_eq_true rfl) rfl ?_
  refine pw_aload_n 0 rfl rfl 1 dX2_isWell_0 rfl ?_
  refine pw_getR 0 4 dX2_isWell_1 rfl fi_X2_isWell_2 lk_X2_isWell_12 la_251 ly_251 (by decide) rfl (by decide) rfl rf_251_0 ?_
  refine pw_aload_n 1 rfl rfl 5 dX2_isWell_4 rfl ?_
  obtain ⟨m1, hm1, h⟩ := bd1_e h
  refine pw_callVv 8 dX2_isWell_5 rfl [.ref (G.1 + w1)] 1 ⟨gX2_isWell_X5_become, rfl, sgV_X5_become, ⟨Nat.le_of_ble_eq_true rfl, Nat.le_of_ble_eq_true rfl⟩, ⟨Nat.le_refl _, Nat.le_refl _⟩⟩ ly_252 (by decide) la_252 rfl (k_X5_become isW_252 hw1 hm1) rfl rfl (Nat.le_of_ble_eq_true rfl) ?_
  refine pw_aload_n 0 rfl rfl 9 dX2_isWell_8 rfl ?_
  refine pw_getR 0 12 dX2_isWell_9 rfl fi_X2_isWell_2 lk_X2_isWell_12 la_251 ly_251 (by decide) rfl (by decide) rfl rf_251_0 ?_
  refine pw_getR 10 15 dX2_isWell_12 rfl fi_X2_isWell_5 lk_X2_isWell_63 la_252 ly_252 (by decide) rfl (by decide) rfl rf_252_10 ?_
  refine pw_aload_n 0 rfl rfl 16 dX2_isWell_15 rfl ?_
  refine pw_getI 3 19 dX2_isWell_16 rfl fi_X2_isWell_2 lk_X2_isWell_32 la_251 ly_251 (by decide) rfl (by decide) rfl ?_
  refine pw_iload_n 2 rfl rfl 20 dX2_isWell_19 rfl ?_
  obtain ⟨h6, h⟩ := gd_e h
  refine pw_iast 21 dX2_isWell_20 rfl la_256 ly_256 h6 ?_
  obtain ⟨m2, em2, h⟩ := nmE_ h
  refine pw_mem em2 ?_
  refine pw_aload_n 0 rfl rfl 22 dX2_isWell_21 rfl ?_
  obtain ⟨r4, m3, hr4, h⟩ := bd2_e h
  refine pw_callVi 25 dX2_isWell_22 rfl [] 0 ⟨gX2_isWell_X2_isAsTold, rfl, sgV_X2_isAsTold, ⟨Nat.le_of_ble_eq_true rfl, Nat.le_of_ble_eq_true rfl⟩, ⟨Nat.le_refl _, Nat.le_refl _⟩⟩ ly_251 (by decide) la_251 rfl (k_X2_isAsTold hr4) rfl rfl (Nat.le_of_ble_eq_true rfl) ?_
  obtain ⟨h5, h⟩ := gd_e h
  exact pw_zret dX2_isWell_25 h5 (pr_inj h)
set_option maxHeartbeats 4000000 in
set_option maxRecDepth 100000 in
theorem kl_X2_wells_4 {l : Launch} {G : Gx} {w1 : Nat} {r : Int32} {mF : Mm} (hw1 : IsW w1) : ∀ (n : Nat) (y2 : Int32) (y3 : Int32) (m : Mm) (a0 : Int32) (a1 : Mm), lp_X2_wells_4 w1 n y2 y3 m = some (a0, a1) → PW G (KM l G RX2 cX2_wells 4 (some .int) wsX2_wells 5 (Qi G r mF)) 33 [(2, .int a0)] [] a1 → PW G (KM l G RX2 cX2_wells 4 (some .int) wsX2_wells 5 (Qi G r mF)) 4 [(0, .ref (G.1 + 251)), (1, .ref (G.1 + w1)), (2, .int y2), (3, .int y3)] [] m := by
  intro n
  induction n with
  | zero => intro y2 y3 m a0 a1 h hk; cases h
  | succ n ih =>
    intro y2 y3 m a0 a1 h hk
    have h : lb_X2_wells_4 (lp_X2_wells_4 w1 n) w1 y2 y3 m = _ := h
    unfold lb_X2_wells_4 at h
    refine pw_iload_n 3 rfl rfl 5 dX2_wells_4 rfl ?_
    refine pw_bipush (v := (100 : Int32)) (by decide) 7 dX2_wells_5 rfl ?_
    refine pw_icmp_ge 33 10 dX2_wells_7 (by decide) rfl (fun c1 => ?_) (fun c1 => ?_)
    · have h := if_t h c1
      refine pw_sub [2] [(2, .int y2)] rfl ?_
      cases h; exact hk
    · have h := if_f h c1
      refine pw_iload_n 2 rfl rfl 11 dX2_wells_10 rfl ?_
      refine pw_aload_n 0 rfl rfl 12 dX2_wells_11 rfl ?_
      refine pw_aload_n 1 rfl rfl 13 dX2_wells_12 rfl ?_
      refine pw_iload_n 3 rfl rfl 14 dX2_wells_13 rfl ?_
      obtain ⟨r3, m2, hr3, h⟩ := bd2_e h
      refine pw_callVi 17 dX2_wells_14 rfl [.ref (G.1 + w1), .int y3] 2 ⟨gX2_wells_X2_isWell, rfl, sgV_X2_isWell, ⟨Nat.le_of_ble_eq_true rfl, Nat.le_of_ble_eq_true rfl⟩, ⟨Nat.le_refl _, Nat.le_refl _⟩⟩ ly_251 (by decide) la_251 rfl (k_X2_isWell hw1 hr3) rfl rfl (Nat.le_of_ble_eq_true rfl) ?_
      obtain ⟨j5, ej5, h⟩ := nmE_ h
      have hJ25_j5 : PW G (KM l G RX2 cX2_wells 4 (some .int) wsX2_wells 5 (Qi G r mF)) 25 [(0, .ref (G.1 + 251)), (1, .ref (G.1 + w1)), (3, .int y3)] [.int j5, .int y2] m2 := by
        refine pw_iadd 26 dX2_wells_25 rfl ?_
        obtain ⟨v6, ev6, h⟩ := nmE_ h
        refine pw_top ev6 ?_
        refine pw_istore_n (hf := rfl) [(2, .int v6), (0, .ref (G.1 + 251)), (1, .ref (G.1 + w1)), (3, .int y3)] 27 dX2_wells_26 rfl (Nat.le_of_ble_eq_true rfl) rfl ?_
        obtain ⟨v7, ev7, h⟩ := nmE_ h
        refine pw_iinc 3 rfl (by rw [ev7]; rfl) [(3, .int v7), (2, .int v6), (0, .ref (G.1 + 251)), (1, .ref (G.1 + w1))] 30 dX2_wells_27 rfl (Nat.le_of_ble_eq_true rfl) rfl ?_
        refine pw_goto 4 dX2_wells_30 (by decide) ?_
        refine pw_sub [2, 3, 1, 0] [(0, .ref (G.1 + 251)), (1, .ref (G.1 + w1)), (2, .int v6), (3, .int v7)] rfl ?_
        exact ih v6 v7 m2 a0 a1 h hk
      refine pw_if_eq 24 20 dX2_wells_17 (by decide) rfl (fun c4 => ?_) (fun c4 => ?_)
      · have ej5 := if_tv ej5 c4
        refine pw_iconst (v := (0 : Int32)) (by decide) 25 dX2_wells_24 rfl ?_
        refine pw_sub [0, 1, 3] [(0, .ref (G.1 + 251)), (1, .ref (G.1 + w1)), (3, .int y3)] rfl ?_
        subst ej5; exact hJ25_j5
      · have ej5 := if_fv ej5 c4
        refine pw_iconst (v := (1 : Int32)) (by decide) 21 dX2_wells_20 rfl ?_
        refine pw_goto 25 dX2_wells_21 (by decide) ?_
        refine pw_sub [0, 1, 3] [(0, .ref (G.1 + 251)), (1, .ref (G.1 + w1)), (3, .int y3)] rfl ?_
        subst ej5; exact hJ25_j5
set_option maxHeartbeats 4000000 in
set_option maxRecDepth 100000 in
theorem k_X2_wells {l : Launch} {G : Gx} {w1 : Nat} {m mF : Mm} {r : Int32} (hw1 : IsW w1) (h : f_X2_wells w1 m = some (r, mF)) : Cn l G 5 yX2_wells wsX2_wells [.ref (G.1 + 251), .ref (G.1 + w1)] m (Qi G r mF) := by
  unfold f_X2_wells at h
  refine Cn.of (own := RX2) (lv := [(0, .ref (G.1 + 251)), (1, .ref (G.1 + w1))]) (by decide) rfl rfl (Nat.le_of_ble_eq_true rfl) rfl ?_
  refine pw_iconst (v := (0 : Int32)) (by decide) 1 dX2_wells_0 rfl ?_
  refine pw_istore_n (hf := rfl) [(2, .int (0 : Int32)), (0, .ref (G.1 + 251)), (1, .ref (G.1 + w1))] 2 dX2_wells_1 rfl (Nat.le_of_ble_eq_true rfl) rfl ?_
  refine pw_iconst (v := (0 : Int32)) (by decide) 3 dX2_wells_2 rfl ?_
  refine pw_istore_n (hf := rfl) [(3, .int (0 : Int32)), (2, .int (0 : Int32)), (0, .ref (G.1 + 251)), (1, .ref (G.1 + w1))] 4 dX2_wells_3 rfl (Nat.le_of_ble_eq_true rfl) rfl ?_
  obtain ⟨z8, m9, h10, h⟩ := bd2_e h
  have hL4_h10 : PW G (KM l G RX2 cX2_wells 4 (some .int) wsX2_wells 5 (Qi G r mF)) 33 [(2, .int z8)] [] m9 := by
    refine pw_iload_n 0 rfl rfl 34 dX2_wells_33 rfl ?_
    exact pw_iret dX2_wells_34 (pr_inj h)
  refine pw_sub [2, 3, 1, 0] [(0, .ref (G.1 + 251)), (1, .ref (G.1 + w1)), (2, .int (0 : Int32)), (3, .int (0 : Int32))] rfl ?_
  exact kl_X2_wells_4 hw1 FU (0 : Int32) (0 : Int32) m z8 m9 h10 hL4_h10
theorem lw_X2_leastWell_c62 : Cond.constant RX2 62 (-1000000 : Int32) ∈ wsX2_leastWell := by decide +kernel
set_option maxHeartbeats 4000000 in
set_option maxRecDepth 100000 in
theorem kl_X2_leastWell_2 {l : Launch} {G : Gx} {w1 : Nat} {r : Int32} {mF : Mm} (hw1 : IsW w1) : ∀ (n : Nat) (y2 : Int32) (m : Mm) (res : ((Int32 × Mm) ⊕ Mm)), lp_X2_leastWell_2 w1 n y2 m = some res → (∀ (a0 : Mm), res = .inr a0 → PW G (KM l G RX2 cX2_leastWell 3 (some .int) wsX2_leastWell 5 (Qi G r mF)) 25 [] [] a0) → (∀ rt, res = .inl rt → (rt.1 = r ∧ rt.2 = mF)) → PW G (KM l G RX2 cX2_leastWell 3 (some .int) wsX2_leastWell 5 (Qi G r mF)) 2 [(0, .ref (G.1 + 251)), (1, .ref (G.1 + w1)), (2, .int y2)] [] m := by
  intro n
  induction n with
  | zero => intro y2 m res h hk hr; cases h
  | succ n ih =>
    intro y2 m res h hk hr
    have h : lb_X2_leastWell_2 (lp_X2_leastWell_2 w1 n) w1 y2 m = _ := h
    unfold lb_X2_leastWell_2 at h
    refine pw_iload_n 2 rfl rfl 3 dX2_leastWell_2 rfl ?_
    refine pw_bipush (v := (100 : Int32)) (by decide) 5 dX2_leastWell_3 rfl ?_
    refine pw_icmp_ge 25 8 dX2_leastWell_5 (by decide) rfl (fun c1 => ?_) (fun c1 => ?_)
    · have h := if_t h c1
      refine pw_sub [] [] rfl ?_
      exact hk _ (Option.some.inj h).symm
    · have h := if_f h c1
      refine pw_aload_n 0 rfl rfl 9 dX2_leastWell_8 rfl ?_
      refine pw_aload_n 1 rfl rfl 10 dX2_leastWell_9 rfl ?_
      refine pw_iload_n 2 rfl rfl 11 dX2_leastWell_10 rfl ?_
      obtain ⟨r3, m2, hr3, h⟩ := bd2_e h
      refine pw_callVi 14 dX2_leastWell_11 rfl [.ref (G.1 + w1), .int y2] 2 ⟨gX2_leastWell_X2_isWell, rfl, sgV_X2_isWell, ⟨Nat.le_of_ble_eq_true rfl, Nat.le_of_ble_eq_true rfl⟩, ⟨Nat.le_refl _, Nat.le_refl _⟩⟩ ly_251 (by decide) la_251 rfl (k_X2_isWell hw1 hr3) rfl rfl (Nat.le_of_ble_eq_true rfl) ?_
      refine pw_if_eq 19 17 dX2_leastWell_14 (by decide) rfl (fun c4 => ?_) (fun c4 => ?_)
      · have h := if_t h c4
        obtain ⟨v5, ev5, h⟩ := nmE_ h
        refine pw_iinc 2 rfl (by rw [ev5]; rfl) [(2, .int v5), (0, .ref (G.1 + 251)), (1, .ref (G.1 + w1))] 22 dX2_leastWell_19 rfl (Nat.le_of_ble_eq_true rfl) rfl ?_
        refine pw_goto 2 dX2_leastWell_22 (by decide) ?_
        refine pw_sub [1, 2, 0] [(0, .ref (G.1 + 251)), (1, .ref (G.1 + w1)), (2, .int v5)] rfl ?_
        exact ih v5 m2 res h hk hr
      · have h := if_f h c4
        refine pw_iload_n 2 rfl rfl 18 dX2_leastWell_17 rfl ?_
        exact pw_iret dX2_leastWell_18 (hr _ (Option.some.inj h).symm)
set_option maxHeartbeats 4000000 in
set_option maxRecDepth 100000 in
theorem k_X2_leastWell {l : Launch} {G : Gx} {w1 : Nat} {m mF : Mm} {r : Int32} (hw1 : IsW w1) (h : f_X2_leastWell w1 m = some (r, mF)) : Cn l G 5 yX2_leastWell wsX2_leastWell [.ref (G.1 + 251), .ref (G.1 + w1)] m (Qi G r mF) := by
  unfold f_X2_leastWell at h
  refine Cn.of (own := RX2) (lv := [(0, .ref (G.1 + 251)), (1, .ref (G.1 + w1))]) (by decide) rfl rfl (Nat.le_of_ble_eq_true rfl) rfl ?_
  refine pw_iconst (v := (0 : Int32)) (by decide) 1 dX2_leastWell_0 rfl ?_
  refine pw_istore_n (hf := rfl) [(2, .int (0 : Int32)), (0, .ref (G.1 + 251)), (1, .ref (G.1 + w1))] 2 dX2_leastWell_1 rfl (Nat.le_of_ble_eq_true rfl) rfl ?_
  rcases bdS1_e h with ⟨rt, h7, h⟩ | ⟨m6, h7, h⟩
  · refine pw_sub [1, 2, 0] [(0, .ref (G.1 + 251)), (1, .ref (G.1 + w1)), (2, .int (0 : Int32))] rfl ?_
    exact kl_X2_leastWell_2 hw1 FU (0 : Int32) m _ h7 (fun _ e2 => by cases e2) (fun rt2 e2 => by cases e2; exact by cases h; exact ⟨rfl, rfl⟩)
  · have hL2_h7 : PW G (KM l G RX2 cX2_leastWell 3 (some .int) wsX2_leastWell 5 (Qi G r mF)) 25 [] [] m6 := by
      refine pw_ldc 27 lw_X2_leastWell_c62 dX2_leastWell_25 rfl ?_
      exact pw_iret dX2_leastWell_27 (pr_inj h)
    refine pw_sub [1, 2, 0] [(0, .ref (G.1 + 251)), (1, .ref (G.1 + w1)), (2, .int (0 : Int32))] rfl ?_
    exact kl_X2_leastWell_2 hw1 FU (0 : Int32) m _ h7 (fun _ e2 => by cases e2; exact hL2_h7) (fun rt2 e2 => by cases e2)
theorem fi_X6_fits_6 : ∀ w ∈ wsX60, w ∈ wsX6_fits := by decide +kernel
theorem lk_X6_fits_25 : Cond.fieldLink RX6 25 (TX6 2).1 (TX6 2).2.1 (TX6 2).2.2.1 ∈ wsX6_fits := by decide +kernel
theorem lw_X6_fits_c63 : Cond.constant RX6 63 (-1000001 : Int32) ∈ wsX6_fits := by decide +kernel
theorem lk_X6_fits_11 : Cond.fieldLink RX6 11 (TX6 0).1 (TX6 0).2.1 (TX6 0).2.2.1 ∈ wsX6_fits := by decide +kernel
theorem fi_X6_fits_4 : ∀ w ∈ wsX40, w ∈ wsX6_fits := by decide +kernel
theorem lk_X6_fits_75 : Cond.fieldLink RX6 75 (TX4 0).1 (TX4 0).2.1 (TX4 0).2.2.1 ∈ wsX6_fits := by decide +kernel
theorem lk_X6_fits_46 : Cond.fieldLink RX6 46 (TX6 5).1 (TX6 5).2.1 (TX6 5).2.2.1 ∈ wsX6_fits := by decide +kernel
theorem lk_X6_fits_91 : Cond.fieldLink RX6 91 (TX4 3).1 (TX4 3).2.1 (TX4 3).2.2.1 ∈ wsX6_fits := by decide +kernel
theorem lk_X6_fits_230 : Cond.fieldLink RX6 230 (TX6 9).1 (TX6 9).2.1 (TX6 9).2.2.1 ∈ wsX6_fits := by decide +kernel
set_option maxHeartbeats 4000000 in
set_option maxRecDepth 100000 in
theorem k_X6_fits {l : Launch} {G : Gx} {x1 : Int32} {x2 : Int32} {x3 : Int32} {x4 : Int32} {x5 : Int32} {m mF : Mm} {r : Int32}  (h : f_X6_fits x1 x2 x3 x4 x5 m = some (r, mF)) : Cn l G 6 yX6_fits wsX6_fits [.ref (G.1 + 0), .int x1, .int x2, .int x3, .int x4, .int x5] m (Qi G r mF) := by
  unfold f_X6_fits at h
  refine Cn.of (own := RX6) (lv := [(0, .ref (G.1 + 0)), (1, .int x1), (2, .int x2), (3, .int x3), (4, .int x4), (5, .int x5)]) (by decide) rfl rfl (Nat.le_of_ble_eq_true rfl) rfl ?_
  refine pw_aload_n 0 rfl rfl 1 dX6_fits_0 rfl ?_
  refine pw_getR 2 4 dX6_fits_1 rfl fi_X6_fits_6 lk_X6_fits_25 la_0 ly_0 (by decide) rfl (by decide) rfl rf_0_2 ?_
  refine pw_iload_n 1 rfl rfl 5 dX6_fits_4 rfl ?_
  refine pw_callVi 8 dX6_fits_5 rfl [.int x1] 1 ⟨gX6_fits_X5_has, rfl, sgV_X5_has, ⟨Nat.le_of_ble_eq_true rfl, Nat.le_of_ble_eq_true rfl⟩, ⟨Nat.le_refl _, Nat.le_refl _⟩⟩ ly_13 (by decide) la_13 rfl (k_X5_has isW_13 rfl) rfl rfl (Nat.le_of_ble_eq_true rfl) ?_
  refine pw_if_eq 39 11 dX6_fits_8 (by decide) rfl (fun c1 => ?_) (fun c1 => ?_)
  · have h := if_t h c1
    refine pw_ldc 41 lw_X6_fits_c63 dX6_fits_39 rfl ?_
    exact pw_iret dX6_fits_41 (pr_inj h)
  · have h := if_f h c1
    refine pw_iload_n 2 rfl rfl 12 dX6_fits_11 rfl ?_
    refine pw_callSi 15 dX6_fits_12 rfl [.int x2] 1 ⟨gX6_fits_X6_isRow, rfl, sgS_X6_isRow, ⟨Nat.le_of_ble_eq_true rfl, Nat.le_of_ble_eq_true rfl⟩, ⟨Nat.le_refl _, Nat.le_refl _⟩⟩ (k_X6_isRow rfl) rfl rfl (Nat.le_of_ble_eq_true rfl) ?_
    refine pw_if_eq 39 18 dX6_fits_15 (by decide) rfl (fun c2 => ?_) (fun c2 => ?_)
    · have h := if_t h c2
      refine pw_ldc 41 lw_X6_fits_c63 dX6_fits_39 rfl ?_
      exact pw_iret dX6_fits_41 (pr_inj h)
    · have h := if_f h c2
      refine pw_iload 4 rfl 20 dX6_fits_18 rfl ?_
      refine pw_iconst (v := (1 : Int32)) (by decide) 21 dX6_fits_20 rfl ?_
      refine pw_bipush (v := (12 : Int32)) (by decide) 23 dX6_fits_21 rfl ?_
      refine pw_callSi 26 dX6_fits_23 rfl [.int x4, .int (1 : Int32), .int (12 : Int32)] 3 ⟨gX6_fits_X6_isWithin, rfl, sgS_X6_isWithin, ⟨Nat.le_of_ble_eq_true rfl, Nat.le_of_ble_eq_true rfl⟩, ⟨Nat.le_refl _, Nat.le_refl _⟩⟩ (k_X6_isWithin rfl) rfl rfl (Nat.le_of_ble_eq_true rfl) ?_
      refine pw_if_eq 39 29 dX6_fits_26 (by decide) rfl (fun c3 => ?_) (fun c3 => ?_)
      · have h := if_t h c3
        refine pw_ldc 41 lw_X6_fits_c63 dX6_fits_39 rfl ?_
        exact pw_iret dX6_fits_41 (pr_inj h)
      · have h := if_f h c3
        refine pw_iload 5 rfl 31 dX6_fits_29 rfl ?_
        refine pw_iconst (v := (0 : Int32)) (by decide) 32 dX6_fits_31 rfl ?_
        refine pw_iconst (v := (4 : Int32)) (by decide) 33 dX6_fits_32 rfl ?_
        refine pw_callSi 36 dX6_fits_33 rfl [.int x5, .int (0 : Int32), .int (4 : Int32)] 3 ⟨gX6_fits_X6_isWithin, rfl, sgS_X6_isWithin, ⟨Nat.le_of_ble_eq_true rfl, Nat.le_of_ble_eq_true rfl⟩, ⟨Nat.le_refl _, Nat.le_refl _⟩⟩ (k_X6_isWithin rfl) rfl rfl (Nat.le_of_ble_eq_true rfl) ?_
        refine pw_if_ne 42 39 dX6_fits_36 (by decide) rfl (fun c4 => ?_) (fun c4 => ?_)
        · have h := if_f h c4
          refine pw_aload_n 0 rfl rfl 43 dX6_fits_42 rfl ?_
          refine pw_getR 0 46 dX6_fits_43 rfl fi_X6_fits_6 lk_X6_fits_11 la_0 ly_0 (by decide) rfl (by decide) rfl rf_0_0 ?_
          refine pw_iload_n 2 rfl rfl 47 dX6_fits_46 rfl ?_
          obtain ⟨h5, h⟩ := gd_e h
          refine pw_aaldR 48 dX6_fits_47 rfl la_1 ly_1 h5 ?_
          obtain ⟨w6, ew6, h⟩ := nmE_ h
          refine pw_topr ew6 ?_
          have hw6 : IsR w6 := by rw [ew6]; exact isR_rows h5
          refine pw_getI 0 51 dX6_fits_48 rfl fi_X6_fits_4 lk_X6_fits_75 hw6.lt hw6.o (by decide) rfl (by decide) rfl ?_
          refine pw_if_ne 60 54 dX6_fits_51 (by decide) rfl (fun c7 => ?_) (fun c7 => ?_)
          · have h := if_f h c7
            refine pw_aload_n 0 rfl rfl 61 dX6_fits_60 rfl ?_
            refine pw_getR 0 64 dX6_fits_61 rfl fi_X6_fits_6 lk_X6_fits_11 la_0 ly_0 (by decide) rfl (by decide) rfl rf_0_0 ?_
            refine pw_iload_n 2 rfl rfl 65 dX6_fits_64 rfl ?_
            obtain ⟨h8, h⟩ := gd_e h
            refine pw_aaldR 66 dX6_fits_65 rfl la_1 ly_1 h8 ?_
            obtain ⟨w9, ew9, h⟩ := nmE_ h
            refine pw_topr ew9 ?_
            have hw9 : IsR w9 := by rw [ew9]; exact isR_rows h8
            refine pw_iload_n 3 rfl rfl 67 dX6_fits_66 rfl ?_
            refine pw_iload 4 rfl 69 dX6_fits_67 rfl ?_
            refine pw_callVi 72 dX6_fits_69 rfl [.int x3, .int x4] 2 ⟨gX6_fits_X4_spans, rfl, sgV_X4_spans, ⟨Nat.le_of_ble_eq_true rfl, Nat.le_of_ble_eq_true rfl⟩, ⟨Nat.le_refl _, Nat.le_refl _⟩⟩ hw9.o (by decide) hw9.lt rfl (k_X4_spans hw9 rfl) rfl rfl (Nat.le_of_ble_eq_true rfl) ?_
            refine pw_if_ne 81 75 dX6_fits_72 (by decide) rfl (fun c10 => ?_) (fun c10 => ?_)
            · have h := if_f h c10
              refine pw_aload_n 0 rfl rfl 82 dX6_fits_81 rfl ?_
              refine pw_getR 5 85 dX6_fits_82 rfl fi_X6_fits_6 lk_X6_fits_46 la_0 ly_0 (by decide) rfl (by decide) rfl rf_0_5 ?_
              refine pw_iload_n 1 rfl rfl 86 dX6_fits_85 rfl ?_
              refine pw_aload_n 0 rfl rfl 87 dX6_fits_86 rfl ?_
              refine pw_getR 0 90 dX6_fits_87 rfl fi_X6_fits_6 lk_X6_fits_11 la_0 ly_0 (by decide) rfl (by decide) rfl rf_0_0 ?_
              refine pw_iload_n 2 rfl rfl 91 dX6_fits_90 rfl ?_
              obtain ⟨h11, h⟩ := gd_e h
              refine pw_aaldR 92 dX6_fits_91 rfl la_1 ly_1 h11 ?_
              obtain ⟨w12, ew12, h⟩ := nmE_ h
              refine pw_topr ew12 ?_
              have hw12 : IsR w12 := by rw [ew12]; exact isR_rows h11
              refine pw_getR 3 95 dX6_fits_92 rfl fi_X6_fits_4 lk_X6_fits_91 hw12.lt hw12.o (by decide) rfl (by decide) rfl hw12.rf3 ?_
              refine pw_iload_n 3 rfl rfl 96 dX6_fits_95 rfl ?_
              refine pw_iload 4 rfl 98 dX6_fits_96 rfl ?_
              obtain ⟨m13, hm13, h⟩ := bd1_e h
              refine pw_callVv 101 dX6_fits_98 rfl [.int x1, .ref (G.1 + (w12 + 1)), .int x3, .int x4] 4 ⟨gX6_fits_X2_listen, rfl, sgV_X2_listen, ⟨Nat.le_of_ble_eq_true rfl, Nat.le_of_ble_eq_true rfl⟩, ⟨Nat.le_refl _, Nat.le_refl _⟩⟩ ly_251 (by decide) la_251 rfl (k_X2_listen hw12.lt1 hw12.o1 hm13) rfl rfl (Nat.le_of_ble_eq_true rfl) ?_
              refine pw_aload_n 0 rfl rfl 102 dX6_fits_101 rfl ?_
              refine pw_iconst (v := (0 : Int32)) (by decide) 103 dX6_fits_102 rfl ?_
              refine pw_put (ty0 := tyX6) (ty := .int) 9 106 dX6_fits_103 rfl fi_X6_fits_6 tyX6_ok nmX6 lk_X6_fits_230 la_0 ly_0 (by decide) rfl (by decide) rfl rfl rfl rfl rfl ?_
              obtain ⟨m14, em14, h⟩ := nmE_ h
              refine pw_mem em14 ?_
              refine pw_iload 5 rfl 108 dX6_fits_106 rfl ?_
              by_cases c25_0 : x5 = (0 : Int32)
              · have h := if_t h c25_0
                refine pw_tableIn 140 dX6_fits_108 (by rw [c25_0]; decide) (by rw [c25_0]; decide) (by rw [c25_0]; rfl) (by decide) ?_
                refine pw_aload_n 0 rfl rfl 141 dX6_fits_140 rfl ?_
                refine pw_getR 5 144 dX6_fits_141 rfl fi_X6_fits_6 lk_X6_fits_46 la_0 ly_0 (by decide) rfl (by decide) rfl rf_0_5 ?_
                refine pw_aload_n 0 rfl rfl 145 dX6_fits_144 rfl ?_
                refine pw_getR 2 148 dX6_fits_145 rfl fi_X6_fits_6 lk_X6_fits_25 la_0 ly_0 (by decide) rfl (by decide) rfl rf_0_2 ?_
                obtain ⟨r16, m15, hr16, h⟩ := bd2_e h
                refine pw_callVi 151 dX6_fits_148 rfl [.ref (G.1 + 13)] 1 ⟨gX6_fits_X2_sorts, rfl, sgV_X2_sorts, ⟨Nat.le_of_ble_eq_true rfl, Nat.le_of_ble_eq_true rfl⟩, ⟨Nat.le_refl _, Nat.le_refl _⟩⟩ ly_251 (by decide) la_251 rfl (k_X2_sorts isW_13 hr16) rfl rfl (Nat.le_of_ble_eq_true rfl) ?_
                exact pw_iret dX6_fits_151 (pr_inj h)
              · have h := if_f h c25_0
                by_cases c25_1 : x5 = (1 : Int32)
                · have h := if_t h c25_1
                  refine pw_tableIn 152 dX6_fits_108 (by rw [c25_1]; decide) (by rw [c25_1]; decide) (by rw [c25_1]; rfl) (by decide) ?_
                  refine pw_aload_n 0 rfl rfl 153 dX6_fits_152 rfl ?_
                  refine pw_getR 5 156 dX6_fits_153 rfl fi_X6_fits_6 lk_X6_fits_46 la_0 ly_0 (by decide) rfl (by decide) rfl rf_0_5 ?_
                  refine pw_aload_n 0 rfl rfl 157 dX6_fits_156 rfl ?_
                  refine pw_getR 2 160 dX6_fits_157 rfl fi_X6_fits_6 lk_X6_fits_25 la_0 ly_0 (by decide) rfl (by decide) rfl rf_0_2 ?_
                  obtain ⟨r18, m17, hr18, h⟩ := bd2_e h
                  refine pw_callVi 163 dX6_fits_160 rfl [.ref (G.1 + 13)] 1 ⟨gX6_fits_X2_starts, rfl, sgV_X2_starts, ⟨Nat.le_of_ble_eq_true rfl, Nat.le_of_ble_eq_true rfl⟩, ⟨Nat.le_refl _, Nat.le_refl _⟩⟩ ly_251 (by decide) la_251 rfl (k_X2_starts isW_13 hr18) rfl rfl (Nat.le_of_ble_eq_true rfl) ?_
                  exact pw_iret dX6_fits_163 (pr_inj h)
                · have h := if_f h c25_1
                  by_cases c25_2 : x5 = (2 : Int32)
                  · have h := if_t h c25_2
                    refine pw_tableIn 164 dX6_fits_108 (by rw [c25_2]; decide) (by rw [c25_2]; decide) (by rw [c25_2]; rfl) (by decide) ?_
                    refine pw_aload_n 0 rfl rfl 165 dX6_fits_164 rfl ?_
                    refine pw_getR 5 168 dX6_fits_165 rfl fi_X6_fits_6 lk_X6_fits_46 la_0 ly_0 (by decide) rfl (by decide) rfl rf_0_5 ?_
                    refine pw_aload_n 0 rfl rfl 169 dX6_fits_168 rfl ?_
                    refine pw_getR 2 172 dX6_fits_169 rfl fi_X6_fits_6 lk_X6_fits_25 la_0 ly_0 (by decide) rfl (by decide) rfl rf_0_2 ?_
                    obtain ⟨r20, m19, hr20, h⟩ := bd2_e h
                    refine pw_callVi 175 dX6_fits_172 rfl [.ref (G.1 + 13)] 1 ⟨gX6_fits_X2_hymnsHeard, rfl, sgV_X2_hymnsHeard, ⟨Nat.le_of_ble_eq_true rfl, Nat.le_of_ble_eq_true rfl⟩, ⟨Nat.le_refl _, Nat.le_refl _⟩⟩ ly_251 (by decide) la_251 rfl (k_X2_hymnsHeard isW_13 hr20) rfl rfl (Nat.le_of_ble_eq_true rfl) ?_
                    exact pw_iret dX6_fits_175 (pr_inj h)
                  · have h := if_f h c25_2
                    by_cases c25_3 : x5 = (3 : Int32)
                    · have h := if_t h c25_3
                      refine pw_tableIn 176 dX6_fits_108 (by rw [c25_3]; decide) (by rw [c25_3]; decide) (by rw [c25_3]; rfl) (by decide) ?_
                      refine pw_aload_n 0 rfl rfl 177 dX6_fits_176 rfl ?_
                      refine pw_getR 5 180 dX6_fits_177 rfl fi_X6_fits_6 lk_X6_fits_46 la_0 ly_0 (by decide) rfl (by decide) rfl rf_0_5 ?_
                      refine pw_aload_n 0 rfl rfl 181 dX6_fits_180 rfl ?_
                      refine pw_getR 2 184 dX6_fits_181 rfl fi_X6_fits_6 lk_X6_fits_25 la_0 ly_0 (by decide) rfl (by decide) rfl rf_0_2 ?_
                      obtain ⟨r22, m21, hr22, h⟩ := bd2_e h
                      refine pw_callVi 187 dX6_fits_184 rfl [.ref (G.1 + 13)] 1 ⟨gX6_fits_X2_wells, rfl, sgV_X2_wells, ⟨Nat.le_of_ble_eq_true rfl, Nat.le_of_ble_eq_true rfl⟩, ⟨Nat.le_refl _, Nat.le_refl _⟩⟩ ly_251 (by decide) la_251 rfl (k_X2_wells isW_13 hr22) rfl rfl (Nat.le_of_ble_eq_true rfl) ?_
                      exact pw_iret dX6_fits_187 (pr_inj h)
                    · have h := if_f h c25_3
                      have c25_0_i : ¬ x5.toInt = 0 := fun e => c25_0 (Int32.toInt_inj.mp (e.trans rfl))
                      have c25_1_i : ¬ x5.toInt = 1 := fun e => c25_1 (Int32.toInt_inj.mp (e.trans rfl))
                      have c25_2_i : ¬ x5.toInt = 2 := fun e => c25_2 (Int32.toInt_inj.mp (e.trans rfl))
                      have c25_3_i : ¬ x5.toInt = 3 := fun e => c25_3 (Int32.toInt_inj.mp (e.trans rfl))
                      refine pw_tableOut 188 dX6_fits_108 (by omega) (by decide) ?_
                      refine pw_aload_n 0 rfl rfl 189 dX6_fits_188 rfl ?_
                      refine pw_getR 5 192 dX6_fits_189 rfl fi_X6_fits_6 lk_X6_fits_46 la_0 ly_0 (by decide) rfl (by decide) rfl rf_0_5 ?_
                      refine pw_aload_n 0 rfl rfl 193 dX6_fits_192 rfl ?_
                      refine pw_getR 2 196 dX6_fits_193 rfl fi_X6_fits_6 lk_X6_fits_25 la_0 ly_0 (by decide) rfl (by decide) rfl rf_0_2 ?_
                      obtain ⟨r24, m23, hr24, h⟩ := bd2_e h
                      refine pw_callVi 199 dX6_fits_196 rfl [.ref (G.1 + 13)] 1 ⟨gX6_fits_X2_leastWell, rfl, sgV_X2_leastWell, ⟨Nat.le_of_ble_eq_true rfl, Nat.le_of_ble_eq_true rfl⟩, ⟨Nat.le_refl _, Nat.le_refl _⟩⟩ ly_251 (by decide) la_251 rfl (k_X2_leastWell isW_13 hr24) rfl rfl (Nat.le_of_ble_eq_true rfl) ?_
                      exact pw_iret dX6_fits_199 (pr_inj h)
            · have h := if_t h c10
              refine pw_aload_n 0 rfl rfl 76 dX6_fits_75 rfl ?_
              refine pw_iconst (v := (2 : Int32)) (by decide) 77 dX6_fits_76 rfl ?_
              obtain ⟨r27, m26, hr27, h⟩ := bd2_e h
              refine pw_callVi 80 dX6_fits_77 rfl [.int (2 : Int32)] 1 ⟨gX6_fits_X6_find, rfl, sgV_X6_find, ⟨Nat.le_of_ble_eq_true rfl, Nat.le_of_ble_eq_true rfl⟩, ⟨Nat.le_refl _, Nat.le_refl _⟩⟩ ly_0 (by decide) la_0 rfl (k_X6_find hr27) rfl rfl (Nat.le_of_ble_eq_true rfl) ?_
              exact pw_iret dX6_fits_80 (pr_inj h)
          · have h := if_t h c7
            refine pw_aload_n 0 rfl rfl 55 dX6_fits_54 rfl ?_
            refine pw_iconst (v := (1 : Int32)) (by decide) 56 dX6_fits_55 rfl ?_
            obtain ⟨r29, m28, hr29, h⟩ := bd2_e h
            refine pw_callVi 59 dX6_fits_56 rfl [.int (1 : Int32)] 1 ⟨gX6_fits_X6_find, rfl, sgV_X6_find, ⟨Nat.le_of_ble_eq_true rfl, Nat.le_of_ble_eq_true rfl⟩, ⟨Nat.le_refl _, Nat.le_refl _⟩⟩ ly_0 (by decide) la_0 rfl (k_X6_find hr29) rfl rfl (Nat.le_of_ble_eq_true rfl) ?_
            exact pw_iret dX6_fits_59 (pr_inj h)
        · have h := if_t h c4
          refine pw_ldc 41 lw_X6_fits_c63 dX6_fits_39 rfl ?_
          exact pw_iret dX6_fits_41 (pr_inj h)
theorem fi_X1_waysToStay_5 : ∀ w ∈ wsX50, w ∈ wsX1_waysToStay := by decide +kernel
theorem lk_X1_waysToStay_49 : Cond.fieldLink RX1 49 (TX5 0).1 (TX5 0).2.1 (TX5 0).2.2.1 ∈ wsX1_waysToStay := by decide +kernel
set_option maxHeartbeats 4000000 in
set_option maxRecDepth 100000 in
theorem kl_X1_waysToStay_5 {l : Launch} {G : Gx} {w1 : Nat} {r : Int32}  (hw1 : IsW w1) : ∀ (n : Nat) (y1 : Int32) (y2 : Int32) (y3 : Int32) (y4 : Int32) (m : Mm) (a0 : Int32), lp_X1_waysToStay_5 w1 n y1 y2 y3 y4 m = some a0 → PW G (KM l G RX1 cX1_waysToStay 5 (some .int) wsX1_waysToStay 1 (Qi G r m)) 50 [(3, .int a0)] [] m → PW G (KM l G RX1 cX1_waysToStay 5 (some .int) wsX1_waysToStay 1 (Qi G r m)) 5 [(0, .ref (G.1 + w1)), (1, .int y1), (2, .int y2), (3, .int y3), (4, .int y4)] [] m := by
  intro n
  induction n with
  | zero => intro y1 y2 y3 y4 m a0 h hk; cases h
  | succ n ih =>
    intro y1 y2 y3 y4 m a0 h hk
    have h : lb_X1_waysToStay_5 (lp_X1_waysToStay_5 w1 n) w1 y1 y2 y3 y4 m = _ := h
    unfold lb_X1_waysToStay_5 at h
    refine pw_iload 4 rfl 7 dX1_waysToStay_5 rfl ?_
    refine pw_aload_n 0 rfl rfl 8 dX1_waysToStay_7 rfl ?_
    refine pw_getI 0 11 dX1_waysToStay_8 rfl fi_X1_waysToStay_5 lk_X1_waysToStay_49 hw1.lt hw1.o (by decide) rfl (by decide) rfl ?_
    refine pw_icmp_ge 50 14 dX1_waysToStay_11 (by decide) rfl (fun c1 => ?_) (fun c1 => ?_)
    · have h := if_t h c1
      refine pw_sub [3] [(3, .int y3)] rfl ?_
      cases h; exact hk
    · have h := if_f h c1
      refine pw_aload_n 0 rfl rfl 15 dX1_waysToStay_14 rfl ?_
      refine pw_iload 4 rfl 17 dX1_waysToStay_15 rfl ?_
      refine pw_callVi 20 dX1_waysToStay_17 rfl [.int y4] 1 ⟨gX1_waysToStay_X5_isHired, rfl, sgV_X5_isHired, ⟨Nat.le_of_ble_eq_true rfl, Nat.le_of_ble_eq_true rfl⟩, ⟨Nat.le_refl _, Nat.le_refl _⟩⟩ hw1.o (by decide) hw1.lt rfl (k_X5_isHired hw1 rfl) rfl rfl (Nat.le_of_ble_eq_true rfl) ?_
      obtain ⟨j6, qj6, h⟩ := bd1_e h
      have hJ44_j6 : PW G (KM l G RX1 cX1_waysToStay 5 (some .int) wsX1_waysToStay 1 (Qi G r m)) 44 [(0, .ref (G.1 + w1)), (1, .int y1), (2, .int y2), (3, .int j6), (4, .int y4)] [] m := by
        obtain ⟨v7, ev7, h⟩ := nmE_ h
        refine pw_iinc 4 rfl (by rw [ev7]; rfl) [(4, .int v7), (0, .ref (G.1 + w1)), (1, .int y1), (2, .int y2), (3, .int j6)] 47 dX1_waysToStay_44 rfl (Nat.le_of_ble_eq_true rfl) rfl ?_
        refine pw_goto 5 dX1_waysToStay_47 (by decide) ?_
        refine pw_sub [1, 2, 3, 4, 0] [(0, .ref (G.1 + w1)), (1, .int y1), (2, .int y2), (3, .int j6), (4, .int v7)] rfl ?_
        exact ih y1 y2 j6 v7 m a0 h hk
      refine pw_if_eq 44 23 dX1_waysToStay_20 (by decide) rfl (fun c2 => ?_) (fun c2 => ?_)
      · have qj6 := if_t qj6 c2
        refine pw_sub [0, 1, 2, 3, 4] [(0, .ref (G.1 + w1)), (1, .int y1), (2, .int y2), (3, .int y3), (4, .int y4)] rfl ?_
        cases qj6; exact hJ44_j6
      · have qj6 := if_f qj6 c2
        refine pw_iload_n 3 rfl rfl 24 dX1_waysToStay_23 rfl ?_
        refine pw_iload_n 1 rfl rfl 25 dX1_waysToStay_24 rfl ?_
        refine pw_iload 4 rfl 27 dX1_waysToStay_25 rfl ?_
        refine pw_ishr 28 dX1_waysToStay_27 rfl ?_
        refine pw_iconst (v := (1 : Int32)) (by decide) 29 dX1_waysToStay_28 rfl ?_
        refine pw_iand 30 dX1_waysToStay_29 rfl ?_
        refine pw_iconst (v := (1 : Int32)) (by decide) 31 dX1_waysToStay_30 rfl ?_
        obtain ⟨j4, ej4, qj6⟩ := nmE_ qj6
        have hJ42_j4 : PW G (KM l G RX1 cX1_waysToStay 5 (some .int) wsX1_waysToStay 1 (Qi G r m)) 42 [(0, .ref (G.1 + w1)), (1, .int y1), (2, .int y2), (4, .int y4)] [.int j4, .int y3] m := by
          refine pw_imul 43 dX1_waysToStay_42 rfl ?_
          obtain ⟨v5, ev5, qj6⟩ := nmE_ qj6
          refine pw_top ev5 ?_
          refine pw_istore_n (hf := rfl) [(3, .int v5), (0, .ref (G.1 + w1)), (1, .int y1), (2, .int y2), (4, .int y4)] 44 dX1_waysToStay_43 rfl (Nat.le_of_ble_eq_true rfl) rfl ?_
          refine pw_sub [1, 2, 3, 0, 4] [(0, .ref (G.1 + w1)), (1, .int y1), (2, .int y2), (3, .int v5), (4, .int y4)] rfl ?_
          cases qj6; exact hJ44_j6
        refine pw_icmp_ne 41 34 dX1_waysToStay_31 (by decide) rfl (fun c3 => ?_) (fun c3 => ?_)
        · have ej4 := if_fv ej4 c3
          refine pw_iload_n 2 rfl rfl 42 dX1_waysToStay_41 rfl ?_
          refine pw_sub [0, 1, 2, 4] [(0, .ref (G.1 + w1)), (1, .int y1), (2, .int y2), (4, .int y4)] rfl ?_
          subst ej4; exact hJ42_j4
        · have ej4 := if_tv ej4 c3
          refine pw_bipush (v := (10 : Int32)) (by decide) 36 dX1_waysToStay_34 rfl ?_
          refine pw_iload_n 2 rfl rfl 37 dX1_waysToStay_36 rfl ?_
          refine pw_isub 38 dX1_waysToStay_37 rfl ?_
          refine pw_goto 42 dX1_waysToStay_38 (by decide) ?_
          refine pw_sub [0, 1, 2, 4] [(0, .ref (G.1 + w1)), (1, .int y1), (2, .int y2), (4, .int y4)] rfl ?_
          subst ej4; exact hJ42_j4
set_option maxHeartbeats 4000000 in
set_option maxRecDepth 100000 in
theorem k_X1_waysToStay {l : Launch} {G : Gx} {w1 : Nat} {x1 : Int32} {x2 : Int32} {m : Mm} {r : Int32} (hw1 : IsW w1) (h : f_X1_waysToStay w1 x1 x2 m = some r) : Cn l G 1 yX1_waysToStay wsX1_waysToStay [.ref (G.1 + w1), .int x1, .int x2] m (Qi G r m) := by
  unfold f_X1_waysToStay at h
  refine Cn.of (own := RX1) (lv := [(0, .ref (G.1 + w1)), (1, .int x1), (2, .int x2)]) (by decide) rfl rfl (Nat.le_of_ble_eq_true rfl) rfl ?_
  refine pw_iconst (v := (1 : Int32)) (by decide) 1 dX1_waysToStay_0 rfl ?_
  refine pw_istore_n (hf := rfl) [(3, .int (1 : Int32)), (0, .ref (G.1 + w1)), (1, .int x1), (2, .int x2)] 2 dX1_waysToStay_1 rfl (Nat.le_of_ble_eq_true rfl) rfl ?_
  refine pw_iconst (v := (0 : Int32)) (by decide) 3 dX1_waysToStay_2 rfl ?_
  refine pw_istore [(4, .int (0 : Int32)), (3, .int (1 : Int32)), (0, .ref (G.1 + w1)), (1, .int x1), (2, .int x2)] 5 dX1_waysToStay_3 rfl (Nat.le_of_ble_eq_true rfl) rfl ?_
  obtain ⟨z8, h9, h⟩ := bd1_e h
  have hL5_h9 : PW G (KM l G RX1 cX1_waysToStay 5 (some .int) wsX1_waysToStay 1 (Qi G r m)) 50 [(3, .int z8)] [] m := by
    refine pw_iload_n 0 rfl rfl 51 dX1_waysToStay_50 rfl ?_
    exact pw_iret dX1_waysToStay_51 ⟨Option.some.inj h, rfl⟩
  refine pw_sub [2, 3, 4, 1, 0] [(0, .ref (G.1 + w1)), (1, .int x1), (2, .int x2), (3, .int (1 : Int32)), (4, .int (0 : Int32))] rfl ?_
  exact kl_X1_waysToStay_5 hw1 FU x1 x2 (1 : Int32) (0 : Int32) m z8 h9 hL5_h9
set_option maxHeartbeats 4000000 in
set_option maxRecDepth 100000 in
theorem kl_X1_commonDivisor_7 {l : Launch} {G : Gx}  {r : Int32}  {m : Mm}  : ∀ (n : Nat) (y2 : Int32) (y3 : Int32) (y4 : Int32) (a0 : Int32), lp_X1_commonDivisor_7 n y2 y3 y4 = some a0 → PW G (KM l G RX1 cX1_commonDivisor 6 (some .int) wsX1_commonDivisor 0 (Qi G r m)) 34 [(2, .int a0)] [] m → PW G (KM l G RX1 cX1_commonDivisor 6 (some .int) wsX1_commonDivisor 0 (Qi G r m)) 7 [(2, .int y2), (3, .int y3), (4, .int y4)] [] m := by
  intro n
  induction n with
  | zero => intro y2 y3 y4 a0 h hk; cases h
  | succ n ih =>
    intro y2 y3 y4 a0 h hk
    have h : lb_X1_commonDivisor_7 (lp_X1_commonDivisor_7 n) y2 y3 y4 = _ := h
    unfold lb_X1_commonDivisor_7 at h
    refine pw_iload 2 rfl 9 dX1_commonDivisor_7 rfl ?_
    refine pw_bipush (v := (64 : Int32)) (by decide) 11 dX1_commonDivisor_9 rfl ?_
    refine pw_icmp_ge 34 14 dX1_commonDivisor_11 (by decide) rfl (fun c1 => ?_) (fun c1 => ?_)
    · have h := if_t h c1
      refine pw_sub [0] [(2, .int y2)] rfl ?_
      cases h; exact hk
    · have h := if_f h c1
      refine pw_iload_n 1 rfl rfl 15 dX1_commonDivisor_14 rfl ?_
      refine pw_if_eq 34 18 dX1_commonDivisor_15 (by decide) rfl (fun c2 => ?_) (fun c2 => ?_)
      · have h := if_t h c2
        refine pw_sub [0] [(2, .int y2)] rfl ?_
        cases h; exact hk
      · have h := if_f h c2
        refine pw_iload_n 0 rfl rfl 19 dX1_commonDivisor_18 rfl ?_
        refine pw_iload_n 1 rfl rfl 20 dX1_commonDivisor_19 rfl ?_
        obtain ⟨h3, h⟩ := gd_e h
        refine pw_irem h3 21 dX1_commonDivisor_20 rfl ?_
        obtain ⟨v4, ev4, h⟩ := nmE_ h
        refine pw_top ev4 ?_
        refine pw_istore [(5, .int v4), (2, .int y2), (3, .int y3), (4, .int y4)] 23 dX1_commonDivisor_21 rfl (Nat.le_of_ble_eq_true rfl) rfl ?_
        refine pw_iload_n 2 rfl rfl 24 dX1_commonDivisor_23 rfl ?_
        refine pw_istore_n (hf := rfl) [(2, .int y3), (5, .int v4), (3, .int y3), (4, .int y4)] 25 dX1_commonDivisor_24 rfl (Nat.le_of_ble_eq_true rfl) rfl ?_
        refine pw_iload 1 rfl 27 dX1_commonDivisor_25 rfl ?_
        refine pw_istore_n (hf := rfl) [(3, .int v4), (2, .int y3), (5, .int v4), (4, .int y4)] 28 dX1_commonDivisor_27 rfl (Nat.le_of_ble_eq_true rfl) rfl ?_
        obtain ⟨v5, ev5, h⟩ := nmE_ h
        refine pw_iinc 3 rfl (by rw [ev5]; rfl) [(4, .int v5), (3, .int v4), (2, .int y3), (5, .int v4)] 31 dX1_commonDivisor_28 rfl (Nat.le_of_ble_eq_true rfl) rfl ?_
        refine pw_goto 7 dX1_commonDivisor_31 (by decide) ?_
        refine pw_sub [2, 1, 0] [(2, .int y3), (3, .int v4), (4, .int v5)] rfl ?_
        exact ih y3 v4 v5 a0 h hk
set_option maxHeartbeats 4000000 in
set_option maxRecDepth 100000 in
theorem k_X1_commonDivisor {l : Launch} {G : Gx} {x0 : Int32} {x1 : Int32} {m : Mm} {r : Int32}  (h : f_X1_commonDivisor x0 x1 = some r) : Cn l G 0 yX1_commonDivisor wsX1_commonDivisor [.int x0, .int x1] m (Qi G r m) := by
  unfold f_X1_commonDivisor at h
  refine Cn.of (own := RX1) (lv := [(0, .int x0), (1, .int x1)]) (by decide) rfl rfl (Nat.le_of_ble_eq_true rfl) rfl ?_
  refine pw_iload_n 0 rfl rfl 1 dX1_commonDivisor_0 rfl ?_
  refine pw_istore_n (hf := rfl) [(2, .int x0), (0, .int x0), (1, .int x1)] 2 dX1_commonDivisor_1 rfl (Nat.le_of_ble_eq_true rfl) rfl ?_
  refine pw_iload_n 2 rfl rfl 3 dX1_commonDivisor_2 rfl ?_
  refine pw_istore_n (hf := rfl) [(3, .int x1), (2, .int x0), (0, .int x0), (1, .int x1)] 4 dX1_commonDivisor_3 rfl (Nat.le_of_ble_eq_true rfl) rfl ?_
  refine pw_iconst (v := (0 : Int32)) (by decide) 5 dX1_commonDivisor_4 rfl ?_
  refine pw_istore [(4, .int (0 : Int32)), (3, .int x1), (2, .int x0), (0, .int x0), (1, .int x1)] 7 dX1_commonDivisor_5 rfl (Nat.le_of_ble_eq_true rfl) rfl ?_
  obtain ⟨z6, h7, h⟩ := bd1_e h
  have hL7_h7 : PW G (KM l G RX1 cX1_commonDivisor 6 (some .int) wsX1_commonDivisor 0 (Qi G r m)) 34 [(2, .int z6)] [] m := by
    refine pw_iload_n 0 rfl rfl 35 dX1_commonDivisor_34 rfl ?_
    exact pw_iret dX1_commonDivisor_35 ⟨Option.some.inj h, rfl⟩
  refine pw_sub [2, 1, 0] [(2, .int x0), (3, .int x1), (4, .int (0 : Int32))] rfl ?_
  exact kl_X1_commonDivisor_7 FU x0 x1 (0 : Int32) z6 h7 hL7_h7
theorem fi_X1_weighAway_5 : ∀ w ∈ wsX50, w ∈ wsX1_weighAway := by decide +kernel
theorem lk_X1_weighAway_49 : Cond.fieldLink RX1 49 (TX5 0).1 (TX5 0).2.1 (TX5 0).2.2.1 ∈ wsX1_weighAway := by decide +kernel
theorem lk_X1_weighAway_102 : Cond.fieldLink RX1 102 (TX5 6).1 (TX5 6).2.1 (TX5 6).2.2.1 ∈ wsX1_weighAway := by decide +kernel
theorem fi_X1_weighAway_1 : ∀ w ∈ wsX10, w ∈ wsX1_weighAway := by decide +kernel
theorem lk_X1_weighAway_22 : Cond.fieldLink RX1 22 (TX1 2).1 (TX1 2).2.1 (TX1 2).2.2.1 ∈ wsX1_weighAway := by decide +kernel
theorem lk_X1_weighAway_26 : Cond.fieldLink RX1 26 (TX1 3).1 (TX1 3).2.1 (TX1 3).2.2.1 ∈ wsX1_weighAway := by decide +kernel
set_option maxHeartbeats 4000000 in
set_option maxRecDepth 100000 in
theorem kl_X1_weighAway_9 {l : Launch} {G : Gx} {w1 : Nat}  {mF : Mm} (hw1 : IsW w1) : ∀ (n : Nat) (y2 : Int32) (y3 : Int32) (y4 : Int32) (y5 : Int32) (y6 : Int32) (m : Mm) (a0 : Int32), lp_X1_weighAway_9 w1 n y2 y3 y4 y5 y6 m = some a0 → PW G (KM l G RX1 cX1_weighAway 8 none wsX1_weighAway 5 (Qv G mF)) 44 [(0, .ref (G.1 + 240)), (1, .ref (G.1 + w1)), (2, .int y2), (3, .int y3), (4, .int y4), (5, .int a0)] [] m → PW G (KM l G RX1 cX1_weighAway 8 none wsX1_weighAway 5 (Qv G mF)) 9 [(0, .ref (G.1 + 240)), (1, .ref (G.1 + w1)), (2, .int y2), (3, .int y3), (4, .int y4), (5, .int y5), (6, .int y6)] [] m := by
  intro n
  induction n with
  | zero => intro y2 y3 y4 y5 y6 m a0 h hk; cases h
  | succ n ih =>
    intro y2 y3 y4 y5 y6 m a0 h hk
    have h : lb_X1_weighAway_9 (lp_X1_weighAway_9 w1 n) w1 y2 y3 y4 y5 y6 m = _ := h
    unfold lb_X1_weighAway_9 at h
    refine pw_iload 6 rfl 11 dX1_weighAway_9 rfl ?_
    refine pw_aload_n 1 rfl rfl 12 dX1_weighAway_11 rfl ?_
    refine pw_getI 0 15 dX1_weighAway_12 rfl fi_X1_weighAway_5 lk_X1_weighAway_49 hw1.lt hw1.o (by decide) rfl (by decide) rfl ?_
    refine pw_icmp_ge 44 18 dX1_weighAway_15 (by decide) rfl (fun c1 => ?_) (fun c1 => ?_)
    · have h := if_t h c1
      refine pw_sub [0, 1, 2, 3, 4, 5] [(0, .ref (G.1 + 240)), (1, .ref (G.1 + w1)), (2, .int y2), (3, .int y3), (4, .int y4), (5, .int y5)] rfl ?_
      cases h; exact hk
    · have h := if_f h c1
      refine pw_iload 5 rfl 20 dX1_weighAway_18 rfl ?_
      refine pw_aload_n 1 rfl rfl 21 dX1_weighAway_20 rfl ?_
      refine pw_iload 6 rfl 23 dX1_weighAway_21 rfl ?_
      refine pw_callVi 26 dX1_weighAway_23 rfl [.int y6] 1 ⟨gX1_weighAway_X5_isHired, rfl, sgV_X5_isHired, ⟨Nat.le_of_ble_eq_true rfl, Nat.le_of_ble_eq_true rfl⟩, ⟨Nat.le_refl _, Nat.le_refl _⟩⟩ hw1.o (by decide) hw1.lt rfl (k_X5_isHired hw1 rfl) rfl rfl (Nat.le_of_ble_eq_true rfl) ?_
      obtain ⟨j3, ej3, h⟩ := nmE_ h
      have hJ35_j3 : PW G (KM l G RX1 cX1_weighAway 8 none wsX1_weighAway 5 (Qv G mF)) 35 [(0, .ref (G.1 + 240)), (1, .ref (G.1 + w1)), (2, .int y2), (3, .int y3), (4, .int y4), (6, .int y6)] [.int j3, .int y5] m := by
        refine pw_imul 36 dX1_weighAway_35 rfl ?_
        obtain ⟨v4, ev4, h⟩ := nmE_ h
        refine pw_top ev4 ?_
        refine pw_istore [(5, .int v4), (0, .ref (G.1 + 240)), (1, .ref (G.1 + w1)), (2, .int y2), (3, .int y3), (4, .int y4), (6, .int y6)] 38 dX1_weighAway_36 rfl (Nat.le_of_ble_eq_true rfl) rfl ?_
        obtain ⟨v5, ev5, h⟩ := nmE_ h
        refine pw_iinc 6 rfl (by rw [ev5]; rfl) [(6, .int v5), (5, .int v4), (0, .ref (G.1 + 240)), (1, .ref (G.1 + w1)), (2, .int y2), (3, .int y3), (4, .int y4)] 41 dX1_weighAway_38 rfl (Nat.le_of_ble_eq_true rfl) rfl ?_
        refine pw_goto 9 dX1_weighAway_41 (by decide) ?_
        refine pw_sub [2, 3, 4, 5, 6, 1, 0] [(0, .ref (G.1 + 240)), (1, .ref (G.1 + w1)), (2, .int y2), (3, .int y3), (4, .int y4), (5, .int v4), (6, .int v5)] rfl ?_
        exact ih y2 y3 y4 v4 v5 m a0 h hk
      refine pw_if_eq 34 29 dX1_weighAway_26 (by decide) rfl (fun c2 => ?_) (fun c2 => ?_)
      · have ej3 := if_tv ej3 c2
        refine pw_iconst (v := (1 : Int32)) (by decide) 35 dX1_weighAway_34 rfl ?_
        refine pw_sub [0, 1, 2, 3, 4, 6] [(0, .ref (G.1 + 240)), (1, .ref (G.1 + w1)), (2, .int y2), (3, .int y3), (4, .int y4), (6, .int y6)] rfl ?_
        subst ej3; exact hJ35_j3
      · have ej3 := if_fv ej3 c2
        refine pw_bipush (v := (10 : Int32)) (by decide) 31 dX1_weighAway_29 rfl ?_
        refine pw_goto 35 dX1_weighAway_31 (by decide) ?_
        refine pw_sub [0, 1, 2, 3, 4, 6] [(0, .ref (G.1 + 240)), (1, .ref (G.1 + w1)), (2, .int y2), (3, .int y3), (4, .int y4), (6, .int y6)] rfl ?_
        subst ej3; exact hJ35_j3
set_option maxHeartbeats 4000000 in
set_option maxRecDepth 100000 in
theorem kl_X1_weighAway_55 {l : Launch} {G : Gx} {w1 : Nat}  {mF : Mm} (hw1 : IsW w1) : ∀ (n : Nat) (y2 : Int32) (y3 : Int32) (y4 : Int32) (y5 : Int32) (y6 : Int32) (y7 : Int32) (m : Mm) (a0 : Int32) (a1 : Mm), lp_X1_weighAway_55 w1 n y2 y3 y4 y5 y6 y7 m = some (a0, a1) → PW G (KM l G RX1 cX1_weighAway 8 none wsX1_weighAway 5 (Qv G mF)) 103 [(0, .ref (G.1 + 240)), (4, .int a0), (5, .int y5)] [] a1 → PW G (KM l G RX1 cX1_weighAway 8 none wsX1_weighAway 5 (Qv G mF)) 55 [(0, .ref (G.1 + 240)), (1, .ref (G.1 + w1)), (2, .int y2), (3, .int y3), (4, .int y4), (5, .int y5), (6, .int y6), (7, .int y7)] [] m := by
  intro n
  induction n with
  | zero => intro y2 y3 y4 y5 y6 y7 m a0 a1 h hk; cases h
  | succ n ih =>
    intro y2 y3 y4 y5 y6 y7 m a0 a1 h hk
    have h : lb_X1_weighAway_55 (lp_X1_weighAway_55 w1 n) w1 y2 y3 y4 y5 y6 y7 m = _ := h
    unfold lb_X1_weighAway_55 at h
    refine pw_iload 7 rfl 57 dX1_weighAway_55 rfl ?_
    refine pw_iload 6 rfl 59 dX1_weighAway_57 rfl ?_
    refine pw_icmp_ge 103 62 dX1_weighAway_59 (by decide) rfl (fun c9 => ?_) (fun c9 => ?_)
    · have h := if_t h c9
      refine pw_sub [0, 4, 5] [(0, .ref (G.1 + 240)), (4, .int y4), (5, .int y5)] rfl ?_
      cases h; exact hk
    · have h := if_f h c9
      refine pw_iload 7 rfl 64 dX1_weighAway_62 rfl ?_
      refine pw_aload_n 1 rfl rfl 65 dX1_weighAway_64 rfl ?_
      refine pw_getI 6 68 dX1_weighAway_65 rfl fi_X1_weighAway_5 lk_X1_weighAway_102 hw1.lt hw1.o (by decide) rfl (by decide) rfl ?_
      refine pw_iconst (v := (-1 : Int32)) (by decide) 69 dX1_weighAway_68 rfl ?_
      refine pw_ixor 70 dX1_weighAway_69 rfl ?_
      refine pw_iand 71 dX1_weighAway_70 rfl ?_
      obtain ⟨j16, m17, qj16, h⟩ := bd2_e h
      have hJ97_j16 : PW G (KM l G RX1 cX1_weighAway 8 none wsX1_weighAway 5 (Qv G mF)) 97 [(0, .ref (G.1 + 240)), (1, .ref (G.1 + w1)), (2, .int y2), (3, .int y3), (4, .int j16), (5, .int y5), (6, .int y6), (7, .int y7)] [] m17 := by
        obtain ⟨v18, ev18, h⟩ := nmE_ h
        refine pw_iinc 7 rfl (by rw [ev18]; rfl) [(7, .int v18), (0, .ref (G.1 + 240)), (1, .ref (G.1 + w1)), (2, .int y2), (3, .int y3), (4, .int j16), (5, .int y5), (6, .int y6)] 100 dX1_weighAway_97 rfl (Nat.le_of_ble_eq_true rfl) rfl ?_
        refine pw_goto 55 dX1_weighAway_100 (by decide) ?_
        refine pw_sub [1, 2, 3, 4, 5, 6, 7, 0] [(0, .ref (G.1 + 240)), (1, .ref (G.1 + w1)), (2, .int y2), (3, .int y3), (4, .int j16), (5, .int y5), (6, .int y6), (7, .int v18)] rfl ?_
        exact ih y2 y3 j16 y5 y6 v18 m17 a0 a1 h hk
      refine pw_if_ne 97 74 dX1_weighAway_71 (by decide) rfl (fun c10 => ?_) (fun c10 => ?_)
      · have qj16 := if_f qj16 c10
        refine pw_sub [0, 1, 2, 3, 4, 5, 6, 7] [(0, .ref (G.1 + 240)), (1, .ref (G.1 + w1)), (2, .int y2), (3, .int y3), (4, .int y4), (5, .int y5), (6, .int y6), (7, .int y7)] rfl ?_
        cases qj16; exact hJ97_j16
      · have qj16 := if_t qj16 c10
        refine pw_aload_n 0 rfl rfl 75 dX1_weighAway_74 rfl ?_
        refine pw_aload_n 1 rfl rfl 76 dX1_weighAway_75 rfl ?_
        refine pw_iload 7 rfl 78 dX1_weighAway_76 rfl ?_
        refine pw_iload_n 2 rfl rfl 79 dX1_weighAway_78 rfl ?_
        obtain ⟨r12, m11, hr12, qj16⟩ := bd2_e qj16
        refine pw_callVi 82 dX1_weighAway_79 rfl [.ref (G.1 + w1), .int y7, .int y2] 3 ⟨gX1_weighAway_X1_fillsWith, rfl, sgV_X1_fillsWith, ⟨Nat.le_of_ble_eq_true rfl, Nat.le_of_ble_eq_true rfl⟩, ⟨Nat.le_refl _, Nat.le_refl _⟩⟩ ly_240 (by decide) la_240 rfl (k_X1_fillsWith hw1 hr12) rfl rfl (Nat.le_of_ble_eq_true rfl) ?_
        refine pw_if_eq 97 85 dX1_weighAway_82 (by decide) rfl (fun c13 => ?_) (fun c13 => ?_)
        · have qj16 := if_t qj16 c13
          refine pw_sub [0, 1, 2, 3, 4, 5, 6, 7] [(0, .ref (G.1 + 240)), (1, .ref (G.1 + w1)), (2, .int y2), (3, .int y3), (4, .int y4), (5, .int y5), (6, .int y6), (7, .int y7)] rfl ?_
          cases qj16; exact hJ97_j16
        · have qj16 := if_f qj16 c13
          refine pw_iload 4 rfl 87 dX1_weighAway_85 rfl ?_
          refine pw_aload_n 1 rfl rfl 88 dX1_weighAway_87 rfl ?_
          refine pw_iload 7 rfl 90 dX1_weighAway_88 rfl ?_
          refine pw_iload_n 3 rfl rfl 91 dX1_weighAway_90 rfl ?_
          obtain ⟨r14, hr14, qj16⟩ := bd1_e qj16
          refine pw_callSi 94 dX1_weighAway_91 rfl [.ref (G.1 + w1), .int y7, .int y3] 3 ⟨gX1_weighAway_X1_waysToStay, rfl, sgS_X1_waysToStay, ⟨Nat.le_of_ble_eq_true rfl, Nat.le_of_ble_eq_true rfl⟩, ⟨Nat.le_refl _, Nat.le_refl _⟩⟩ (k_X1_waysToStay hw1 hr14) rfl rfl (Nat.le_of_ble_eq_true rfl) ?_
          refine pw_iadd 95 dX1_weighAway_94 rfl ?_
          obtain ⟨v15, ev15, qj16⟩ := nmE_ qj16
          refine pw_top ev15 ?_
          refine pw_istore [(4, .int v15), (0, .ref (G.1 + 240)), (1, .ref (G.1 + w1)), (2, .int y2), (3, .int y3), (5, .int y5), (6, .int y6), (7, .int y7)] 97 dX1_weighAway_95 rfl (Nat.le_of_ble_eq_true rfl) rfl ?_
          refine pw_sub [1, 2, 3, 4, 0, 5, 6, 7] [(0, .ref (G.1 + 240)), (1, .ref (G.1 + w1)), (2, .int y2), (3, .int y3), (4, .int v15), (5, .int y5), (6, .int y6), (7, .int y7)] rfl ?_
          cases qj16; exact hJ97_j16
set_option maxHeartbeats 4000000 in
set_option maxRecDepth 100000 in
theorem k_X1_weighAway {l : Launch} {G : Gx} {w1 : Nat} {x2 : Int32} {x3 : Int32} {m mF : Mm}  (hw1 : IsW w1) (h : f_X1_weighAway w1 x2 x3 m = some mF) : Cn l G 5 yX1_weighAway wsX1_weighAway [.ref (G.1 + 240), .ref (G.1 + w1), .int x2, .int x3] m (Qv G mF) := by
  unfold f_X1_weighAway at h
  refine Cn.of (own := RX1) (lv := [(0, .ref (G.1 + 240)), (1, .ref (G.1 + w1)), (2, .int x2), (3, .int x3)]) (by decide) rfl rfl (Nat.le_of_ble_eq_true rfl) rfl ?_
  refine pw_iconst (v := (0 : Int32)) (by decide) 1 dX1_weighAway_0 rfl ?_
  refine pw_istore [(4, .int (0 : Int32)), (0, .ref (G.1 + 240)), (1, .ref (G.1 + w1)), (2, .int x2), (3, .int x3)] 3 dX1_weighAway_1 rfl (Nat.le_of_ble_eq_true rfl) rfl ?_
  refine pw_iconst (v := (1 : Int32)) (by decide) 4 dX1_weighAway_3 rfl ?_
  refine pw_istore [(5, .int (1 : Int32)), (4, .int (0 : Int32)), (0, .ref (G.1 + 240)), (1, .ref (G.1 + w1)), (2, .int x2), (3, .int x3)] 6 dX1_weighAway_4 rfl (Nat.le_of_ble_eq_true rfl) rfl ?_
  refine pw_iconst (v := (0 : Int32)) (by decide) 7 dX1_weighAway_6 rfl ?_
  refine pw_istore [(6, .int (0 : Int32)), (5, .int (1 : Int32)), (4, .int (0 : Int32)), (0, .ref (G.1 + 240)), (1, .ref (G.1 + w1)), (2, .int x2), (3, .int x3)] 9 dX1_weighAway_7 rfl (Nat.le_of_ble_eq_true rfl) rfl ?_
  obtain ⟨z6, h7, h⟩ := bd1_e h
  have hL9_h7 : PW G (KM l G RX1 cX1_weighAway 8 none wsX1_weighAway 5 (Qv G mF)) 44 [(0, .ref (G.1 + 240)), (1, .ref (G.1 + w1)), (2, .int x2), (3, .int x3), (4, .int (0 : Int32)), (5, .int z6)] [] m := by
    refine pw_iconst (v := (1 : Int32)) (by decide) 45 dX1_weighAway_44 rfl ?_
    refine pw_aload_n 1 rfl rfl 46 dX1_weighAway_45 rfl ?_
    refine pw_getI 0 49 dX1_weighAway_46 rfl fi_X1_weighAway_5 lk_X1_weighAway_49 hw1.lt hw1.o (by decide) rfl (by decide) rfl ?_
    refine pw_ishl 50 dX1_weighAway_49 rfl ?_
    obtain ⟨v8, ev8, h⟩ := nmE_ h
    refine pw_top ev8 ?_
    refine pw_istore [(6, .int v8), (0, .ref (G.1 + 240)), (1, .ref (G.1 + w1)), (2, .int x2), (3, .int x3), (4, .int (0 : Int32)), (5, .int z6)] 52 dX1_weighAway_50 rfl (Nat.le_of_ble_eq_true rfl) rfl ?_
    refine pw_iconst (v := (0 : Int32)) (by decide) 53 dX1_weighAway_52 rfl ?_
    refine pw_istore [(7, .int (0 : Int32)), (6, .int v8), (0, .ref (G.1 + 240)), (1, .ref (G.1 + w1)), (2, .int x2), (3, .int x3), (4, .int (0 : Int32)), (5, .int z6)] 55 dX1_weighAway_53 rfl (Nat.le_of_ble_eq_true rfl) rfl ?_
    obtain ⟨z19, m20, h21, h⟩ := bd2_e h
    have hL55_h21 : PW G (KM l G RX1 cX1_weighAway 8 none wsX1_weighAway 5 (Qv G mF)) 103 [(0, .ref (G.1 + 240)), (4, .int z19), (5, .int z6)] [] m20 := by
      refine pw_iload 1 rfl 105 dX1_weighAway_103 rfl ?_
      refine pw_iload 2 rfl 107 dX1_weighAway_105 rfl ?_
      obtain ⟨r22, hr22, h⟩ := bd1_e h
      refine pw_callSi 110 dX1_weighAway_107 rfl [.int z19, .int z6] 2 ⟨gX1_weighAway_X1_commonDivisor, rfl, sgS_X1_commonDivisor, ⟨Nat.le_of_ble_eq_true rfl, Nat.le_of_ble_eq_true rfl⟩, ⟨Nat.le_refl _, Nat.le_refl _⟩⟩ (k_X1_commonDivisor hr22) rfl rfl (Nat.le_of_ble_eq_true rfl) ?_
      refine pw_istore [(7, .int r22), (0, .ref (G.1 + 240)), (4, .int z19), (5, .int z6)] 112 dX1_weighAway_110 rfl (Nat.le_of_ble_eq_true rfl) rfl ?_
      refine pw_aload_n 1 rfl rfl 113 dX1_weighAway_112 rfl ?_
      refine pw_iload 0 rfl 115 dX1_weighAway_113 rfl ?_
      obtain ⟨j25, qj25, h⟩ := bd1_e h
      have hJ128_j25 : PW G (KM l G RX1 cX1_weighAway 8 none wsX1_weighAway 5 (Qv G mF)) 128 [(0, .ref (G.1 + 240)), (5, .int z6), (7, .int r22)] [.int j25, .ref (G.1 + 240)] m20 := by
        refine pw_put (ty0 := tyX1) (ty := .int) 2 131 dX1_weighAway_128 rfl fi_X1_weighAway_1 tyX1_ok nmX1 lk_X1_weighAway_22 la_240 ly_240 (by decide) rfl (by decide) rfl rfl rfl rfl rfl ?_
        obtain ⟨m26, em26, h⟩ := nmE_ h
        refine pw_mem em26 ?_
        refine pw_aload_n 0 rfl rfl 132 dX1_weighAway_131 rfl ?_
        refine pw_iload 2 rfl 134 dX1_weighAway_132 rfl ?_
        obtain ⟨j29, qj29, h⟩ := bd1_e h
        have hJ147_j29 : PW G (KM l G RX1 cX1_weighAway 8 none wsX1_weighAway 5 (Qv G mF)) 147 [] [.int j29, .ref (G.1 + 240)] m26 := by
          refine pw_put (ty0 := tyX1) (ty := .int) 3 150 dX1_weighAway_147 rfl fi_X1_weighAway_1 tyX1_ok nmX1 lk_X1_weighAway_26 la_240 ly_240 (by decide) rfl (by decide) rfl rfl rfl rfl rfl ?_
          obtain ⟨m30, em30, h⟩ := nmE_ h
          refine pw_mem em30 ?_
          exact pw_vret dX1_weighAway_150 (Option.some.inj h)
        refine pw_if_ne 142 137 dX1_weighAway_134 (by decide) rfl (fun c27 => ?_) (fun c27 => ?_)
        · have qj29 := if_f qj29 c27
          refine pw_iload 1 rfl 144 dX1_weighAway_142 rfl ?_
          refine pw_iload 2 rfl 146 dX1_weighAway_144 rfl ?_
          obtain ⟨h28, qj29⟩ := gd_e qj29
          refine pw_idiv h28 147 dX1_weighAway_146 rfl ?_
          refine pw_sub [] [] rfl ?_
          cases qj29; exact hJ147_j29
        · have qj29 := if_t qj29 c27
          refine pw_iload 1 rfl 139 dX1_weighAway_137 rfl ?_
          refine pw_goto 147 dX1_weighAway_139 (by decide) ?_
          refine pw_sub [] [] rfl ?_
          cases qj29; exact hJ147_j29
      refine pw_if_ne 123 118 dX1_weighAway_115 (by decide) rfl (fun c23 => ?_) (fun c23 => ?_)
      · have qj25 := if_f qj25 c23
        refine pw_iload 2 rfl 125 dX1_weighAway_123 rfl ?_
        refine pw_iload 0 rfl 127 dX1_weighAway_125 rfl ?_
        obtain ⟨h24, qj25⟩ := gd_e qj25
        refine pw_idiv h24 128 dX1_weighAway_127 rfl ?_
        refine pw_sub [1, 3, 0] [(0, .ref (G.1 + 240)), (5, .int z6), (7, .int r22)] rfl ?_
        cases qj25; exact hJ128_j25
      · have qj25 := if_t qj25 c23
        refine pw_iload 2 rfl 120 dX1_weighAway_118 rfl ?_
        refine pw_goto 128 dX1_weighAway_120 (by decide) ?_
        refine pw_sub [1, 3, 0] [(0, .ref (G.1 + 240)), (5, .int z6), (7, .int r22)] rfl ?_
        cases qj25; exact hJ128_j25
    refine pw_sub [2, 3, 4, 5, 6, 7, 1, 0] [(0, .ref (G.1 + 240)), (1, .ref (G.1 + w1)), (2, .int x2), (3, .int x3), (4, .int (0 : Int32)), (5, .int z6), (6, .int v8), (7, .int (0 : Int32))] rfl ?_
    exact kl_X1_weighAway_55 hw1 FU x2 x3 (0 : Int32) z6 v8 (0 : Int32) m z19 m20 h21 hL55_h21
  refine pw_sub [3, 4, 5, 6, 2, 1, 0] [(0, .ref (G.1 + 240)), (1, .ref (G.1 + w1)), (2, .int x2), (3, .int x3), (4, .int (0 : Int32)), (5, .int (1 : Int32)), (6, .int (0 : Int32))] rfl ?_
  exact kl_X1_weighAway_9 hw1 FU x2 x3 (0 : Int32) (1 : Int32) (0 : Int32) m z6 h7 hL9_h7
