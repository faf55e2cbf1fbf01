set_option maxHeartbeats 4000000 in
set_option maxRecDepth 100000 in
theorem k_X6_isRow {l : Launch} {G : Gx} {x0 : Int32} {m : Mm} {r : Int32}  (h : f_X6_isRow x0 = r) : Cn l G 0 yX6_isRow wsX6_isRow [.int x0] m (Qi G r m) := by
  unfold f_X6_isRow at h
  refine Cn.of (own := RX6) (lv := [(0, .int x0)]) (by decide) rfl rfl (Nat.le_of_ble_eq_true rfl) rfl ?_
  refine pw_iload_n 0 rfl rfl 1 dX6_isRow_0 rfl ?_
  refine pw_if_lt 14 4 dX6_isRow_1 (by decide) rfl (fun c1 => ?_) (fun c1 => ?_)
  · have h := if_t h c1
    refine pw_iconst (v := (0 : Int32)) (by decide) 15 dX6_isRow_14 rfl ?_
    exact pw_zret dX6_isRow_15 (by decide) ⟨h, rfl⟩
  · have h := if_f h c1
    refine pw_iload_n 0 rfl rfl 5 dX6_isRow_4 rfl ?_
    refine pw_bipush (v := (8 : Int32)) (by decide) 7 dX6_isRow_5 rfl ?_
    refine pw_icmp_ge 14 10 dX6_isRow_7 (by decide) rfl (fun c2 => ?_) (fun c2 => ?_)
    · have h := if_t h c2
      refine pw_iconst (v := (0 : Int32)) (by decide) 15 dX6_isRow_14 rfl ?_
      exact pw_zret dX6_isRow_15 (by decide) ⟨h, rfl⟩
    · have h := if_f h c2
      refine pw_iconst (v := (1 : Int32)) (by decide) 11 dX6_isRow_10 rfl ?_
      refine pw_goto 15 dX6_isRow_11 (by decide) ?_
      exact pw_zret dX6_isRow_15 (by decide) ⟨h, rfl⟩
theorem fi_X6_find_6 : ∀ w ∈ wsX60, w ∈ wsX6_find := by decide +kernel
theorem lk_X6_find_230 : Cond.fieldLink RX6 230 (TX6 9).1 (TX6 9).2.1 (TX6 9).2.2.1 ∈ wsX6_find := by decide +kernel
theorem lw_X6_find_c284 : Cond.constant RX6 284 (-1000010 : Int32) ∈ wsX6_find := by decide +kernel
set_option maxHeartbeats 4000000 in
set_option maxRecDepth 100000 in
theorem k_X6_find {l : Launch} {G : Gx} {x1 : Int32} {m mF : Mm} {r : Int32}  (h : f_X6_find x1 m = some (r, mF)) : Cn l G 0 yX6_find wsX6_find [.ref (G.1 + 0), .int x1] m (Qi G r mF) := by
  unfold f_X6_find at h
  refine Cn.of (own := RX6) (lv := [(0, .ref (G.1 + 0)), (1, .int x1)]) (by decide) rfl rfl (Nat.le_of_ble_eq_true rfl) rfl ?_
  refine pw_aload_n 0 rfl rfl 1 dX6_find_0 rfl ?_
  refine pw_iload_n 1 rfl rfl 2 dX6_find_1 rfl ?_
  refine pw_put (ty0 := tyX6) (ty := .int) 9 5 dX6_find_2 rfl fi_X6_find_6 tyX6_ok nmX6 lk_X6_find_230 la_0 ly_0 (by decide) rfl (by decide) rfl rfl rfl rfl rfl ?_
  obtain ⟨m1, em1, h⟩ := nmE_ h
  refine pw_mem em1 ?_
  refine pw_ldcw 8 lw_X6_find_c284 dX6_find_5 rfl ?_
  refine pw_iload_n 1 rfl rfl 9 dX6_find_8 rfl ?_
  refine pw_isub 10 dX6_find_9 rfl ?_
  exact pw_iret dX6_find_10 (pr_inj h)
theorem fi_X4_make_4 : ∀ w ∈ wsX40, w ∈ wsX4_make := by decide +kernel
theorem lk_X4_make_15 : Cond.fieldLink RX4 15 (TX4 0).1 (TX4 0).2.1 (TX4 0).2.2.1 ∈ wsX4_make := by decide +kernel
theorem lk_X4_make_19 : Cond.fieldLink RX4 19 (TX4 1).1 (TX4 1).2.1 (TX4 1).2.2.1 ∈ wsX4_make := by decide +kernel
theorem lk_X4_make_23 : Cond.fieldLink RX4 23 (TX4 2).1 (TX4 2).2.1 (TX4 2).2.2.1 ∈ wsX4_make := by decide +kernel
theorem lk_X4_make_9 : Cond.fieldLink RX4 9 (TX4 3).1 (TX4 3).2.1 (TX4 3).2.2.1 ∈ wsX4_make := by decide +kernel
set_option maxHeartbeats 4000000 in
set_option maxRecDepth 100000 in
theorem kl_X4_make_17 {l : Launch} {G : Gx} {w0 : Nat}  {mF : Mm} (hw0 : IsR w0) : ∀ (n : Nat) (y3 : Int32) (m : Mm) (a0 : Mm), lp_X4_make_17 w0 n y3 m = some a0 → PW G (KM l G RX4 cX4_make 4 none wsX4_make 0 (Qv G mF)) 36 [] [] a0 → PW G (KM l G RX4 cX4_make 4 none wsX4_make 0 (Qv G mF)) 17 [(0, .ref (G.1 + w0)), (3, .int y3)] [] m := by
  intro n
  induction n with
  | zero => intro y3 m a0 h hk; cases h
  | succ n ih =>
    intro y3 m a0 h hk
    have h : lb_X4_make_17 (lp_X4_make_17 w0 n) w0 y3 m = _ := h
    unfold lb_X4_make_17 at h
    refine pw_iload_n 1 rfl rfl 18 dX4_make_17 rfl ?_
    refine pw_bipush (v := (40 : Int32)) (by decide) 20 dX4_make_18 rfl ?_
    refine pw_icmp_ge 36 23 dX4_make_20 (by decide) rfl (fun c4 => ?_) (fun c4 => ?_)
    · have h := if_t h c4
      refine pw_sub [] [] rfl ?_
      cases h; exact hk
    · have h := if_f h c4
      refine pw_aload_n 0 rfl rfl 24 dX4_make_23 rfl ?_
      refine pw_getR 3 27 dX4_make_24 rfl fi_X4_make_4 lk_X4_make_9 hw0.lt hw0.o (by decide) rfl (by decide) rfl hw0.rf3 ?_
      refine pw_iload_n 1 rfl rfl 28 dX4_make_27 rfl ?_
      refine pw_iconst (v := (0 : Int32)) (by decide) 29 dX4_make_28 rfl ?_
      obtain ⟨h7, h⟩ := gd_e h
      refine pw_iast 30 dX4_make_29 rfl hw0.lt1 hw0.o1 h7 ?_
      obtain ⟨m5, em5, h⟩ := nmE_ h
      refine pw_mem em5 ?_
      obtain ⟨v6, ev6, h⟩ := nmE_ h
      refine pw_iinc 1 rfl (by rw [ev6]; rfl) [(3, .int v6), (0, .ref (G.1 + w0))] 33 dX4_make_30 rfl (Nat.le_of_ble_eq_true rfl) rfl ?_
      refine pw_goto 17 dX4_make_33 (by decide) ?_
      refine pw_sub [1, 0] [(0, .ref (G.1 + w0)), (3, .int v6)] rfl ?_
      exact ih v6 m5 a0 h hk
set_option maxHeartbeats 4000000 in
set_option maxRecDepth 100000 in
theorem k_X4_make {l : Launch} {G : Gx} {w0 : Nat} {x1 : Int32} {x2 : Int32} {m mF : Mm}  (hw0 : IsR w0) (h : f_X4_make w0 x1 x2 m = some mF) : Cn l G 0 yX4_make wsX4_make [.ref (G.1 + w0), .int x1, .int x2] m (Qv G mF) := by
  unfold f_X4_make at h
  refine Cn.of (own := RX4) (lv := [(0, .ref (G.1 + w0)), (1, .int x1), (2, .int x2)]) (by decide) rfl rfl (Nat.le_of_ble_eq_true rfl) rfl ?_
  refine pw_aload_n 0 rfl rfl 1 dX4_make_0 rfl ?_
  refine pw_iconst (v := (1 : Int32)) (by decide) 2 dX4_make_1 rfl ?_
  refine pw_put (ty0 := tyX4) (ty := .boolean) 0 5 dX4_make_2 rfl fi_X4_make_4 tyX4_ok nmX4 lk_X4_make_15 hw0.lt hw0.o (by decide) rfl (by decide) rfl rfl rfl rfl rfl ?_
  obtain ⟨m1, em1, h⟩ := nmE_ h
  refine pw_mem em1 ?_
  refine pw_aload_n 0 rfl rfl 6 dX4_make_5 rfl ?_
  refine pw_iload_n 1 rfl rfl 7 dX4_make_6 rfl ?_
  refine pw_put (ty0 := tyX4) (ty := .int) 1 10 dX4_make_7 rfl fi_X4_make_4 tyX4_ok nmX4 lk_X4_make_19 hw0.lt hw0.o (by decide) rfl (by decide) rfl rfl rfl rfl rfl ?_
  obtain ⟨m2, em2, h⟩ := nmE_ h
  refine pw_mem em2 ?_
  refine pw_aload_n 0 rfl rfl 11 dX4_make_10 rfl ?_
  refine pw_iload_n 2 rfl rfl 12 dX4_make_11 rfl ?_
  refine pw_put (ty0 := tyX4) (ty := .int) 2 15 dX4_make_12 rfl fi_X4_make_4 tyX4_ok nmX4 lk_X4_make_23 hw0.lt hw0.o (by decide) rfl (by decide) rfl rfl rfl rfl rfl ?_
  obtain ⟨m3, em3, h⟩ := nmE_ h
  refine pw_mem em3 ?_
  refine pw_iconst (v := (0 : Int32)) (by decide) 16 dX4_make_15 rfl ?_
  refine pw_istore_n (hf := rfl) [(3, .int (0 : Int32)), (0, .ref (G.1 + w0)), (1, .int x1), (2, .int x2)] 17 dX4_make_16 rfl (Nat.le_of_ble_eq_true rfl) rfl ?_
  obtain ⟨m8, h9, h⟩ := bd1_e h
  have hL17_h9 : PW G (KM l G RX4 cX4_make 4 none wsX4_make 0 (Qv G mF)) 36 [] [] m8 := by
    exact pw_vret dX4_make_36 (Option.some.inj h)
  refine pw_sub [1, 0] [(0, .ref (G.1 + w0)), (3, .int (0 : Int32))] rfl ?_
  exact kl_X4_make_17 hw0 FU (0 : Int32) m3 m8 h9 hL17_h9
theorem fi_X6_findNothing_6 : ∀ w ∈ wsX60, w ∈ wsX6_findNothing := by decide +kernel
theorem lk_X6_findNothing_230 : Cond.fieldLink RX6 230 (TX6 9).1 (TX6 9).2.1 (TX6 9).2.2.1 ∈ wsX6_findNothing := by decide +kernel
set_option maxHeartbeats 4000000 in
set_option maxRecDepth 100000 in
theorem k_X6_findNothing {l : Launch} {G : Gx} {x1 : Int32} {m mF : Mm} {r : Int32}  (h : f_X6_findNothing x1 m = some (r, mF)) : Cn l G 0 yX6_findNothing wsX6_findNothing [.ref (G.1 + 0), .int x1] m (Qi G r mF) := by
  unfold f_X6_findNothing at h
  refine Cn.of (own := RX6) (lv := [(0, .ref (G.1 + 0)), (1, .int x1)]) (by decide) rfl rfl (Nat.le_of_ble_eq_true rfl) rfl ?_
  refine pw_aload_n 0 rfl rfl 1 dX6_findNothing_0 rfl ?_
  refine pw_iconst (v := (0 : Int32)) (by decide) 2 dX6_findNothing_1 rfl ?_
  refine pw_put (ty0 := tyX6) (ty := .int) 9 5 dX6_findNothing_2 rfl fi_X6_findNothing_6 tyX6_ok nmX6 lk_X6_findNothing_230 la_0 ly_0 (by decide) rfl (by decide) rfl rfl rfl rfl rfl ?_
  obtain ⟨m1, em1, h⟩ := nmE_ h
  refine pw_mem em1 ?_
  refine pw_iload_n 1 rfl rfl 6 dX6_findNothing_5 rfl ?_
  exact pw_iret dX6_findNothing_6 (pr_inj h)
theorem lw_X6_row_c63 : Cond.constant RX6 63 (-1000001 : Int32) ∈ wsX6_row := by decide +kernel
theorem fi_X6_row_6 : ∀ w ∈ wsX60, w ∈ wsX6_row := by decide +kernel
theorem lk_X6_row_11 : Cond.fieldLink RX6 11 (TX6 0).1 (TX6 0).2.1 (TX6 0).2.2.1 ∈ wsX6_row := by decide +kernel
set_option maxHeartbeats 4000000 in
set_option maxRecDepth 100000 in
theorem k_X6_row {l : Launch} {G : Gx} {x1 : Int32} {x2 : Int32} {x3 : Int32} {m mF : Mm} {r : Int32}  (h : f_X6_row x1 x2 x3 m = some (r, mF)) : Cn l G 1 yX6_row wsX6_row [.ref (G.1 + 0), .int x1, .int x2, .int x3] m (Qi G r mF) := by
  unfold f_X6_row at h
  refine Cn.of (own := RX6) (lv := [(0, .ref (G.1 + 0)), (1, .int x1), (2, .int x2), (3, .int x3)]) (by decide) rfl rfl (Nat.le_of_ble_eq_true rfl) rfl ?_
  refine pw_iload_n 1 rfl rfl 1 dX6_row_0 rfl ?_
  refine pw_callSi 4 dX6_row_1 rfl [.int x1] 1 ⟨gX6_row_X6_isRow, rfl, sgS_X6_isRow, ⟨Nat.le_of_ble_eq_true rfl, Nat.le_of_ble_eq_true rfl⟩, ⟨Nat.le_refl _, Nat.le_refl _⟩⟩ (k_X6_isRow rfl) rfl rfl (Nat.le_of_ble_eq_true rfl) ?_
  refine pw_if_eq 22 7 dX6_row_4 (by decide) rfl (fun c1 => ?_) (fun c1 => ?_)
  · have h := if_t h c1
    refine pw_ldc 24 lw_X6_row_c63 dX6_row_22 rfl ?_
    exact pw_iret dX6_row_24 (pr_inj h)
  · have h := if_f h c1
    refine pw_iload_n 2 rfl rfl 8 dX6_row_7 rfl ?_
    refine pw_if_lt 22 11 dX6_row_8 (by decide) rfl (fun c2 => ?_) (fun c2 => ?_)
    · have h := if_t h c2
      refine pw_ldc 24 lw_X6_row_c63 dX6_row_22 rfl ?_
      exact pw_iret dX6_row_24 (pr_inj h)
    · have h := if_f h c2
      refine pw_iload_n 2 rfl rfl 12 dX6_row_11 rfl ?_
      refine pw_iconst (v := (3 : Int32)) (by decide) 13 dX6_row_12 rfl ?_
      refine pw_icmp_ge 22 16 dX6_row_13 (by decide) rfl (fun c3 => ?_) (fun c3 => ?_)
      · have h := if_t h c3
        refine pw_ldc 24 lw_X6_row_c63 dX6_row_22 rfl ?_
        exact pw_iret dX6_row_24 (pr_inj h)
      · have h := if_f h c3
        refine pw_iload_n 3 rfl rfl 17 dX6_row_16 rfl ?_
        refine pw_bipush (v := (40 : Int32)) (by decide) 19 dX6_row_17 rfl ?_
        refine pw_icmp_le 25 22 dX6_row_19 (by decide) rfl (fun c4 => ?_) (fun c4 => ?_)
        · have h := if_t h c4
          refine pw_iload_n 3 rfl rfl 26 dX6_row_25 rfl ?_
          refine pw_if_ge 35 29 dX6_row_26 (by decide) rfl (fun c5 => ?_) (fun c5 => ?_)
          · have h := if_t h c5
            refine pw_aload_n 0 rfl rfl 36 dX6_row_35 rfl ?_
            refine pw_getR 0 39 dX6_row_36 rfl fi_X6_row_6 lk_X6_row_11 la_0 ly_0 (by decide) rfl (by decide) rfl rf_0_0 ?_
            refine pw_iload_n 1 rfl rfl 40 dX6_row_39 rfl ?_
            obtain ⟨h6, h⟩ := gd_e h
            refine pw_aaldR 41 dX6_row_40 rfl la_1 ly_1 h6 ?_
            obtain ⟨w7, ew7, h⟩ := nmE_ h
            refine pw_topr ew7 ?_
            have hw7 : IsR w7 := by rw [ew7]; exact isR_rows h6
            refine pw_iload_n 2 rfl rfl 42 dX6_row_41 rfl ?_
            refine pw_iload_n 3 rfl rfl 43 dX6_row_42 rfl ?_
            obtain ⟨m8, hm8, h⟩ := bd1_e h
            refine pw_callVv 46 dX6_row_43 rfl [.int x2, .int x3] 2 ⟨gX6_row_X4_make, rfl, sgV_X4_make, ⟨Nat.le_of_ble_eq_true rfl, Nat.le_of_ble_eq_true rfl⟩, ⟨Nat.le_refl _, Nat.le_refl _⟩⟩ hw7.o (by decide) hw7.lt rfl (k_X4_make hw7 hm8) rfl rfl (Nat.le_of_ble_eq_true rfl) ?_
            refine pw_aload_n 0 rfl rfl 47 dX6_row_46 rfl ?_
            refine pw_iload_n 3 rfl rfl 48 dX6_row_47 rfl ?_
            obtain ⟨r10, m9, hr10, h⟩ := bd2_e h
            refine pw_callVi 51 dX6_row_48 rfl [.int x3] 1 ⟨gX6_row_X6_findNothing, rfl, sgV_X6_findNothing, ⟨Nat.le_of_ble_eq_true rfl, Nat.le_of_ble_eq_true rfl⟩, ⟨Nat.le_refl _, Nat.le_refl _⟩⟩ ly_0 (by decide) la_0 rfl (k_X6_findNothing hr10) rfl rfl (Nat.le_of_ble_eq_true rfl) ?_
            exact pw_iret dX6_row_51 (pr_inj h)
          · have h := if_f h c5
            refine pw_aload_n 0 rfl rfl 30 dX6_row_29 rfl ?_
            refine pw_iconst (v := (4 : Int32)) (by decide) 31 dX6_row_30 rfl ?_
            obtain ⟨r12, m11, hr12, h⟩ := bd2_e h
            refine pw_callVi 34 dX6_row_31 rfl [.int (4 : Int32)] 1 ⟨gX6_row_X6_find, rfl, sgV_X6_find, ⟨Nat.le_of_ble_eq_true rfl, Nat.le_of_ble_eq_true rfl⟩, ⟨Nat.le_refl _, Nat.le_refl _⟩⟩ ly_0 (by decide) la_0 rfl (k_X6_find hr12) rfl rfl (Nat.le_of_ble_eq_true rfl) ?_
            exact pw_iret dX6_row_34 (pr_inj h)
        · have h := if_f h c4
          refine pw_ldc 24 lw_X6_row_c63 dX6_row_22 rfl ?_
          exact pw_iret dX6_row_24 (pr_inj h)
theorem fi_X4_spans_4 : ∀ w ∈ wsX40, w ∈ wsX4_spans := by decide +kernel
theorem lk_X4_spans_23 : Cond.fieldLink RX4 23 (TX4 2).1 (TX4 2).2.1 (TX4 2).2.2.1 ∈ wsX4_spans := by decide +kernel
set_option maxHeartbeats 4000000 in
set_option maxRecDepth 100000 in
theorem k_X4_spans {l : Launch} {G : Gx} {w0 : Nat} {x1 : Int32} {x2 : Int32} {m : Mm} {r : Int32} (hw0 : IsR w0) (h : f_X4_spans w0 x1 x2 m = r) : Cn l G 0 yX4_spans wsX4_spans [.ref (G.1 + w0), .int x1, .int x2] m (Qi G r m) := by
  unfold f_X4_spans at h
  refine Cn.of (own := RX4) (lv := [(0, .ref (G.1 + w0)), (1, .int x1), (2, .int x2)]) (by decide) rfl rfl (Nat.le_of_ble_eq_true rfl) rfl ?_
  refine pw_iload_n 1 rfl rfl 1 dX4_spans_0 rfl ?_
  refine pw_if_lt 30 4 dX4_spans_1 (by decide) rfl (fun c1 => ?_) (fun c1 => ?_)
  · have h := if_t h c1
    refine pw_iconst (v := (0 : Int32)) (by decide) 31 dX4_spans_30 rfl ?_
    exact pw_zret dX4_spans_31 (by decide) ⟨h, rfl⟩
  · have h := if_f h c1
    refine pw_iload_n 2 rfl rfl 5 dX4_spans_4 rfl ?_
    refine pw_if_lt 30 8 dX4_spans_5 (by decide) rfl (fun c2 => ?_) (fun c2 => ?_)
    · have h := if_t h c2
      refine pw_iconst (v := (0 : Int32)) (by decide) 31 dX4_spans_30 rfl ?_
      exact pw_zret dX4_spans_31 (by decide) ⟨h, rfl⟩
    · have h := if_f h c2
      refine pw_iload_n 1 rfl rfl 9 dX4_spans_8 rfl ?_
      refine pw_aload_n 0 rfl rfl 10 dX4_spans_9 rfl ?_
      refine pw_getI 2 13 dX4_spans_10 rfl fi_X4_spans_4 lk_X4_spans_23 hw0.lt hw0.o (by decide) rfl (by decide) rfl ?_
      refine pw_icmp_gt 30 16 dX4_spans_13 (by decide) rfl (fun c3 => ?_) (fun c3 => ?_)
      · have h := if_t h c3
        refine pw_iconst (v := (0 : Int32)) (by decide) 31 dX4_spans_30 rfl ?_
        exact pw_zret dX4_spans_31 (by decide) ⟨h, rfl⟩
      · have h := if_f h c3
        refine pw_iload_n 2 rfl rfl 17 dX4_spans_16 rfl ?_
        refine pw_aload_n 0 rfl rfl 18 dX4_spans_17 rfl ?_
        refine pw_getI 2 21 dX4_spans_18 rfl fi_X4_spans_4 lk_X4_spans_23 hw0.lt hw0.o (by decide) rfl (by decide) rfl ?_
        refine pw_iload_n 1 rfl rfl 22 dX4_spans_21 rfl ?_
        refine pw_isub 23 dX4_spans_22 rfl ?_
        refine pw_icmp_gt 30 26 dX4_spans_23 (by decide) rfl (fun c4 => ?_) (fun c4 => ?_)
        · have h := if_t h c4
          refine pw_iconst (v := (0 : Int32)) (by decide) 31 dX4_spans_30 rfl ?_
          exact pw_zret dX4_spans_31 (by decide) ⟨h, rfl⟩
        · have h := if_f h c4
          refine pw_iconst (v := (1 : Int32)) (by decide) 27 dX4_spans_26 rfl ?_
          refine pw_goto 31 dX4_spans_27 (by decide) ?_
          exact pw_zret dX4_spans_31 (by decide) ⟨h, rfl⟩
theorem fi_X4_cut_4 : ∀ w ∈ wsX40, w ∈ wsX4_cut := by decide +kernel
theorem lk_X4_cut_19 : Cond.fieldLink RX4 19 (TX4 1).1 (TX4 1).2.1 (TX4 1).2.2.1 ∈ wsX4_cut := by decide +kernel
set_option maxHeartbeats 4000000 in
set_option maxRecDepth 100000 in
theorem k_X4_cut {l : Launch} {G : Gx} {w0 : Nat} {x1 : Int32} {m : Mm} {r : Int32} (hw0 : IsR w0) (h : f_X4_cut w0 x1 m = r) : Cn l G 0 yX4_cut wsX4_cut [.ref (G.1 + w0), .int x1] m (Qi G r m) := by
  unfold f_X4_cut at h
  refine Cn.of (own := RX4) (lv := [(0, .ref (G.1 + w0)), (1, .int x1)]) (by decide) rfl rfl (Nat.le_of_ble_eq_true rfl) rfl ?_
  refine pw_aload_n 0 rfl rfl 1 dX4_cut_0 rfl ?_
  refine pw_getI 1 4 dX4_cut_1 rfl fi_X4_cut_4 lk_X4_cut_19 hw0.lt hw0.o (by decide) rfl (by decide) rfl ?_
  obtain ⟨v1, ev1, h⟩ := nmE_ h
  refine pw_top ev1 ?_
  by_cases c2_0 : v1 = (0 : Int32)
  · have h := if_t h c2_0
    refine pw_lookup (off := 28) 32 dX4_cut_4 (by decide) (by rw [c2_0]; rfl) (by decide) ?_
    refine pw_iload_n 1 rfl rfl 33 dX4_cut_32 rfl ?_
    refine pw_i2b 34 dX4_cut_33 rfl ?_
    exact pw_iret dX4_cut_34 ⟨h, rfl⟩
  · have h := if_f h c2_0
    by_cases c2_1 : v1 = (1 : Int32)
    · have h := if_t h c2_1
      refine pw_lookup (off := 31) 35 dX4_cut_4 (by decide) (by rw [c2_1]; rfl) (by decide) ?_
      refine pw_iload_n 1 rfl rfl 36 dX4_cut_35 rfl ?_
      refine pw_i2s 37 dX4_cut_36 rfl ?_
      exact pw_iret dX4_cut_37 ⟨h, rfl⟩
    · have h := if_f h c2_1
      have c2_0_i : ¬ v1.toInt = 0 := fun e => c2_0 (Int32.toInt_inj.mp (e.trans rfl))
      have c2_1_i : ¬ v1.toInt = 1 := fun e => c2_1 (Int32.toInt_inj.mp (e.trans rfl))
      refine pw_lookup (off := 34) 38 dX4_cut_4 (by decide) (by simp [Op.lookupswitch.offset, show ¬ (0 = v1.toInt) from fun e => c2_0_i e.symm, show ¬ (1 = v1.toInt) from fun e => c2_1_i e.symm]) (by decide) ?_
      refine pw_iload_n 1 rfl rfl 39 dX4_cut_38 rfl ?_
      exact pw_iret dX4_cut_39 ⟨h, rfl⟩
theorem fi_X4_put_4 : ∀ w ∈ wsX40, w ∈ wsX4_put := by decide +kernel
theorem lk_X4_put_9 : Cond.fieldLink RX4 9 (TX4 3).1 (TX4 3).2.1 (TX4 3).2.2.1 ∈ wsX4_put := by decide +kernel
set_option maxHeartbeats 4000000 in
set_option maxRecDepth 100000 in
theorem k_X4_put {l : Launch} {G : Gx} {w0 : Nat} {x1 : Int32} {x2 : Int32} {m mF : Mm} {r : Int32} (hw0 : IsR w0) (h : f_X4_put w0 x1 x2 m = some (r, mF)) : Cn l G 1 yX4_put wsX4_put [.ref (G.1 + w0), .int x1, .int x2] m (Qi G r mF) := by
  unfold f_X4_put at h
  refine Cn.of (own := RX4) (lv := [(0, .ref (G.1 + w0)), (1, .int x1), (2, .int x2)]) (by decide) rfl rfl (Nat.le_of_ble_eq_true rfl) rfl ?_
  refine pw_aload_n 0 rfl rfl 1 dX4_put_0 rfl ?_
  refine pw_getR 3 4 dX4_put_1 rfl fi_X4_put_4 lk_X4_put_9 hw0.lt hw0.o (by decide) rfl (by decide) rfl hw0.rf3 ?_
  refine pw_iload_n 1 rfl rfl 5 dX4_put_4 rfl ?_
  refine pw_aload_n 0 rfl rfl 6 dX4_put_5 rfl ?_
  refine pw_iload_n 2 rfl rfl 7 dX4_put_6 rfl ?_
  refine pw_callVi 10 dX4_put_7 rfl [.int x2] 1 ⟨gX4_put_X4_cut, rfl, sgV_X4_cut, ⟨Nat.le_of_ble_eq_true rfl, Nat.le_of_ble_eq_true rfl⟩, ⟨Nat.le_refl _, Nat.le_refl _⟩⟩ hw0.o (by decide) hw0.lt rfl (k_X4_cut hw0 rfl) rfl rfl (Nat.le_of_ble_eq_true rfl) ?_
  obtain ⟨v1, ev1, h⟩ := nmE_ h
  refine pw_top ev1 ?_
  obtain ⟨h4, h⟩ := gd_e h
  refine pw_iast 11 dX4_put_10 rfl hw0.lt1 hw0.o1 h4 ?_
  obtain ⟨m2, em2, h⟩ := nmE_ h
  refine pw_mem em2 ?_
  refine pw_aload_n 0 rfl rfl 12 dX4_put_11 rfl ?_
  refine pw_getR 3 15 dX4_put_12 rfl fi_X4_put_4 lk_X4_put_9 hw0.lt hw0.o (by decide) rfl (by decide) rfl hw0.rf3 ?_
  refine pw_iload_n 1 rfl rfl 16 dX4_put_15 rfl ?_
  obtain ⟨h3, h⟩ := gd_e h
  refine pw_iald 17 dX4_put_16 rfl hw0.lt1 hw0.o1 h3 ?_
  exact pw_iret dX4_put_17 (pr_inj h)
theorem fi_X6_set_6 : ∀ w ∈ wsX60, w ∈ wsX6_set := by decide +kernel
theorem lk_X6_set_11 : Cond.fieldLink RX6 11 (TX6 0).1 (TX6 0).2.1 (TX6 0).2.2.1 ∈ wsX6_set := by decide +kernel
theorem fi_X6_set_4 : ∀ w ∈ wsX40, w ∈ wsX6_set := by decide +kernel
theorem lk_X6_set_75 : Cond.fieldLink RX6 75 (TX4 0).1 (TX4 0).2.1 (TX4 0).2.2.1 ∈ wsX6_set := by decide +kernel
theorem lw_X6_set_c63 : Cond.constant RX6 63 (-1000001 : Int32) ∈ wsX6_set := by decide +kernel
set_option maxHeartbeats 4000000 in
set_option maxRecDepth 100000 in
theorem k_X6_set {l : Launch} {G : Gx} {x1 : Int32} {x2 : Int32} {x3 : Int32} {m mF : Mm} {r : Int32}  (h : f_X6_set x1 x2 x3 m = some (r, mF)) : Cn l G 2 yX6_set wsX6_set [.ref (G.1 + 0), .int x1, .int x2, .int x3] m (Qi G r mF) := by
  unfold f_X6_set at h
  refine Cn.of (own := RX6) (lv := [(0, .ref (G.1 + 0)), (1, .int x1), (2, .int x2), (3, .int x3)]) (by decide) rfl rfl (Nat.le_of_ble_eq_true rfl) rfl ?_
  refine pw_iload_n 1 rfl rfl 1 dX6_set_0 rfl ?_
  refine pw_callSi 4 dX6_set_1 rfl [.int x1] 1 ⟨gX6_set_X6_isRow, rfl, sgS_X6_isRow, ⟨Nat.le_of_ble_eq_true rfl, Nat.le_of_ble_eq_true rfl⟩, ⟨Nat.le_refl _, Nat.le_refl _⟩⟩ (k_X6_isRow rfl) rfl rfl (Nat.le_of_ble_eq_true rfl) ?_
  refine pw_if_ne 10 7 dX6_set_4 (by decide) rfl (fun c1 => ?_) (fun c1 => ?_)
  · have h := if_f h c1
    refine pw_aload_n 0 rfl rfl 11 dX6_set_10 rfl ?_
    refine pw_getR 0 14 dX6_set_11 rfl fi_X6_set_6 lk_X6_set_11 la_0 ly_0 (by decide) rfl (by decide) rfl rf_0_0 ?_
    refine pw_iload_n 1 rfl rfl 15 dX6_set_14 rfl ?_
    obtain ⟨h2, h⟩ := gd_e h
    refine pw_aaldR 16 dX6_set_15 rfl la_1 ly_1 h2 ?_
    obtain ⟨w3, ew3, h⟩ := nmE_ h
    refine pw_topr ew3 ?_
    have hw3 : IsR w3 := by rw [ew3]; exact isR_rows h2
    refine pw_getI 0 19 dX6_set_16 rfl fi_X6_set_4 lk_X6_set_75 hw3.lt hw3.o (by decide) rfl (by decide) rfl ?_
    refine pw_if_ne 28 22 dX6_set_19 (by decide) rfl (fun c4 => ?_) (fun c4 => ?_)
    · have h := if_f h c4
      refine pw_aload_n 0 rfl rfl 29 dX6_set_28 rfl ?_
      refine pw_getR 0 32 dX6_set_29 rfl fi_X6_set_6 lk_X6_set_11 la_0 ly_0 (by decide) rfl (by decide) rfl rf_0_0 ?_
      refine pw_iload_n 1 rfl rfl 33 dX6_set_32 rfl ?_
      obtain ⟨h5, h⟩ := gd_e h
      refine pw_aaldR 34 dX6_set_33 rfl la_1 ly_1 h5 ?_
      obtain ⟨w6, ew6, h⟩ := nmE_ h
      refine pw_topr ew6 ?_
      have hw6 : IsR w6 := by rw [ew6]; exact isR_rows h5
      refine pw_iload_n 2 rfl rfl 35 dX6_set_34 rfl ?_
      refine pw_iconst (v := (1 : Int32)) (by decide) 36 dX6_set_35 rfl ?_
      refine pw_callVi 39 dX6_set_36 rfl [.int x2, .int (1 : Int32)] 2 ⟨gX6_set_X4_spans, rfl, sgV_X4_spans, ⟨Nat.le_of_ble_eq_true rfl, Nat.le_of_ble_eq_true rfl⟩, ⟨Nat.le_refl _, Nat.le_refl _⟩⟩ hw6.o (by decide) hw6.lt rfl (k_X4_spans hw6 rfl) rfl rfl (Nat.le_of_ble_eq_true rfl) ?_
      refine pw_if_ne 48 42 dX6_set_39 (by decide) rfl (fun c7 => ?_) (fun c7 => ?_)
      · have h := if_f h c7
        refine pw_aload_n 0 rfl rfl 49 dX6_set_48 rfl ?_
        refine pw_aload_n 0 rfl rfl 50 dX6_set_49 rfl ?_
        refine pw_getR 0 53 dX6_set_50 rfl fi_X6_set_6 lk_X6_set_11 la_0 ly_0 (by decide) rfl (by decide) rfl rf_0_0 ?_
        refine pw_iload_n 1 rfl rfl 54 dX6_set_53 rfl ?_
        obtain ⟨h8, h⟩ := gd_e h
        refine pw_aaldR 55 dX6_set_54 rfl la_1 ly_1 h8 ?_
        obtain ⟨w9, ew9, h⟩ := nmE_ h
        refine pw_topr ew9 ?_
        have hw9 : IsR w9 := by rw [ew9]; exact isR_rows h8
        refine pw_iload_n 2 rfl rfl 56 dX6_set_55 rfl ?_
        refine pw_iload_n 3 rfl rfl 57 dX6_set_56 rfl ?_
        obtain ⟨r11, m10, hr11, h⟩ := bd2_e h
        refine pw_callVi 60 dX6_set_57 rfl [.int x2, .int x3] 2 ⟨gX6_set_X4_put, rfl, sgV_X4_put, ⟨Nat.le_of_ble_eq_true rfl, Nat.le_of_ble_eq_true rfl⟩, ⟨Nat.le_refl _, Nat.le_refl _⟩⟩ hw9.o (by decide) hw9.lt rfl (k_X4_put hw9 hr11) rfl rfl (Nat.le_of_ble_eq_true rfl) ?_
        obtain ⟨r13, m12, hr13, h⟩ := bd2_e h
        refine pw_callVi 63 dX6_set_60 rfl [.int r11] 1 ⟨gX6_set_X6_findNothing, rfl, sgV_X6_findNothing, ⟨Nat.le_of_ble_eq_true rfl, Nat.le_of_ble_eq_true rfl⟩, ⟨Nat.le_refl _, Nat.le_refl _⟩⟩ ly_0 (by decide) la_0 rfl (k_X6_findNothing hr13) rfl rfl (Nat.le_of_ble_eq_true rfl) ?_
        exact pw_iret dX6_set_63 (pr_inj h)
      · have h := if_t h c7
        refine pw_aload_n 0 rfl rfl 43 dX6_set_42 rfl ?_
        refine pw_iconst (v := (2 : Int32)) (by decide) 44 dX6_set_43 rfl ?_
        obtain ⟨r15, m14, hr15, h⟩ := bd2_e h
        refine pw_callVi 47 dX6_set_44 rfl [.int (2 : Int32)] 1 ⟨gX6_set_X6_find, rfl, sgV_X6_find, ⟨Nat.le_of_ble_eq_true rfl, Nat.le_of_ble_eq_true rfl⟩, ⟨Nat.le_refl _, Nat.le_refl _⟩⟩ ly_0 (by decide) la_0 rfl (k_X6_find hr15) rfl rfl (Nat.le_of_ble_eq_true rfl) ?_
        exact pw_iret dX6_set_47 (pr_inj h)
    · have h := if_t h c4
      refine pw_aload_n 0 rfl rfl 23 dX6_set_22 rfl ?_
      refine pw_iconst (v := (1 : Int32)) (by decide) 24 dX6_set_23 rfl ?_
      obtain ⟨r17, m16, hr17, h⟩ := bd2_e h
      refine pw_callVi 27 dX6_set_24 rfl [.int (1 : Int32)] 1 ⟨gX6_set_X6_find, rfl, sgV_X6_find, ⟨Nat.le_of_ble_eq_true rfl, Nat.le_of_ble_eq_true rfl⟩, ⟨Nat.le_refl _, Nat.le_refl _⟩⟩ ly_0 (by decide) la_0 rfl (k_X6_find hr17) rfl rfl (Nat.le_of_ble_eq_true rfl) ?_
      exact pw_iret dX6_set_27 (pr_inj h)
  · have h := if_t h c1
    refine pw_ldc 9 lw_X6_set_c63 dX6_set_7 rfl ?_
    exact pw_iret dX6_set_9 (pr_inj h)
theorem lw_X6_copy_c63 : Cond.constant RX6 63 (-1000001 : Int32) ∈ wsX6_copy := by decide +kernel
theorem fi_X6_copy_6 : ∀ w ∈ wsX60, w ∈ wsX6_copy := by decide +kernel
theorem lk_X6_copy_11 : Cond.fieldLink RX6 11 (TX6 0).1 (TX6 0).2.1 (TX6 0).2.2.1 ∈ wsX6_copy := by decide +kernel
theorem fi_X6_copy_4 : ∀ w ∈ wsX40, w ∈ wsX6_copy := by decide +kernel
theorem lk_X6_copy_75 : Cond.fieldLink RX6 75 (TX4 0).1 (TX4 0).2.1 (TX4 0).2.2.1 ∈ wsX6_copy := by decide +kernel
theorem lk_X6_copy_87 : Cond.fieldLink RX6 87 (TX4 1).1 (TX4 1).2.1 (TX4 1).2.2.1 ∈ wsX6_copy := by decide +kernel
theorem lk_X6_copy_91 : Cond.fieldLink RX6 91 (TX4 3).1 (TX4 3).2.1 (TX4 3).2.2.1 ∈ wsX6_copy := by decide +kernel
theorem lw_X6_copy_ac94 : Cond.methodLink RX6 94 arraycopyName ∈ wsX6_copy := by decide +kernel
theorem lw_X6_copy_acn : Cond.native arraycopyName ∈ wsX6_copy := by decide +kernel
theorem lw_X6_copy_acs : Cond.static arraycopyName ∈ wsX6_copy := by decide +kernel
theorem lw_X6_copy_aci : Cond.initialized "java/lang/System" ∈ wsX6_copy := by decide +kernel
set_option maxHeartbeats 4000000 in
set_option maxRecDepth 100000 in
theorem k_X6_copy {l : Launch} {G : Gx} {x1 : Int32} {x2 : Int32} {x3 : Int32} {x4 : Int32} {x5 : Int32} {m mF : Mm} {r : Int32}  (h : f_X6_copy x1 x2 x3 x4 x5 m = some (r, mF)) : Cn l G 1 yX6_copy wsX6_copy [.ref (G.1 + 0), .int x1, .int x2, .int x3, .int x4, .int x5] m (Qi G r mF) := by
  unfold f_X6_copy at h
  refine Cn.of (own := RX6) (lv := [(0, .ref (G.1 + 0)), (1, .int x1), (2, .int x2), (3, .int x3), (4, .int x4), (5, .int x5)]) (by decide) rfl rfl (Nat.le_of_ble_eq_true rfl) rfl ?_
  refine pw_iload_n 1 rfl rfl 1 dX6_copy_0 rfl ?_
  refine pw_callSi 4 dX6_copy_1 rfl [.int x1] 1 ⟨gX6_copy_X6_isRow, rfl, sgS_X6_isRow, ⟨Nat.le_of_ble_eq_true rfl, Nat.le_of_ble_eq_true rfl⟩, ⟨Nat.le_refl _, Nat.le_refl _⟩⟩ (k_X6_isRow rfl) rfl rfl (Nat.le_of_ble_eq_true rfl) ?_
  refine pw_if_eq 14 7 dX6_copy_4 (by decide) rfl (fun c1 => ?_) (fun c1 => ?_)
  · have h := if_t h c1
    refine pw_ldc 16 lw_X6_copy_c63 dX6_copy_14 rfl ?_
    exact pw_iret dX6_copy_16 (pr_inj h)
  · have h := if_f h c1
    refine pw_iload_n 3 rfl rfl 8 dX6_copy_7 rfl ?_
    refine pw_callSi 11 dX6_copy_8 rfl [.int x3] 1 ⟨gX6_copy_X6_isRow, rfl, sgS_X6_isRow, ⟨Nat.le_of_ble_eq_true rfl, Nat.le_of_ble_eq_true rfl⟩, ⟨Nat.le_refl _, Nat.le_refl _⟩⟩ (k_X6_isRow rfl) rfl rfl (Nat.le_of_ble_eq_true rfl) ?_
    refine pw_if_ne 17 14 dX6_copy_11 (by decide) rfl (fun c2 => ?_) (fun c2 => ?_)
    · have h := if_f h c2
      refine pw_aload_n 0 rfl rfl 18 dX6_copy_17 rfl ?_
      refine pw_getR 0 21 dX6_copy_18 rfl fi_X6_copy_6 lk_X6_copy_11 la_0 ly_0 (by decide) rfl (by decide) rfl rf_0_0 ?_
      refine pw_iload_n 1 rfl rfl 22 dX6_copy_21 rfl ?_
      obtain ⟨h3, h⟩ := gd_e h
      refine pw_aaldR 23 dX6_copy_22 rfl la_1 ly_1 h3 ?_
      obtain ⟨w4, ew4, h⟩ := nmE_ h
      refine pw_topr ew4 ?_
      have hw4 : IsR w4 := by rw [ew4]; exact isR_rows h3
      refine pw_astore [(6, .ref (G.1 + w4)), (0, .ref (G.1 + 0)), (1, .int x1), (2, .int x2), (3, .int x3), (4, .int x4), (5, .int x5)] 25 dX6_copy_23 rfl (Nat.le_of_ble_eq_true rfl) rfl ?_
      refine pw_aload_n 1 rfl rfl 26 dX6_copy_25 rfl ?_
      refine pw_getR 0 29 dX6_copy_26 rfl fi_X6_copy_6 lk_X6_copy_11 la_0 ly_0 (by decide) rfl (by decide) rfl rf_0_0 ?_
      refine pw_iload_n 4 rfl rfl 30 dX6_copy_29 rfl ?_
      obtain ⟨h5, h⟩ := gd_e h
      refine pw_aaldR 31 dX6_copy_30 rfl la_1 ly_1 h5 ?_
      obtain ⟨w6, ew6, h⟩ := nmE_ h
      refine pw_topr ew6 ?_
      have hw6 : IsR w6 := by rw [ew6]; exact isR_rows h5
      refine pw_astore [(7, .ref (G.1 + w6)), (6, .ref (G.1 + w4)), (0, .ref (G.1 + 0)), (1, .int x1), (2, .int x2), (3, .int x3), (4, .int x4), (5, .int x5)] 33 dX6_copy_31 rfl (Nat.le_of_ble_eq_true rfl) rfl ?_
      refine pw_aload 1 rfl 35 dX6_copy_33 rfl ?_
      refine pw_getI 0 38 dX6_copy_35 rfl fi_X6_copy_4 lk_X6_copy_75 hw4.lt hw4.o (by decide) rfl (by decide) rfl ?_
      refine pw_if_eq 49 41 dX6_copy_38 (by decide) rfl (fun c7 => ?_) (fun c7 => ?_)
      · have h := if_t h c7
        refine pw_aload_n 2 rfl rfl 50 dX6_copy_49 rfl ?_
        refine pw_iconst (v := (1 : Int32)) (by decide) 51 dX6_copy_50 rfl ?_
        obtain ⟨r9, m8, hr9, h⟩ := bd2_e h
        refine pw_callVi 54 dX6_copy_51 rfl [.int (1 : Int32)] 1 ⟨gX6_copy_X6_find, rfl, sgV_X6_find, ⟨Nat.le_of_ble_eq_true rfl, Nat.le_of_ble_eq_true rfl⟩, ⟨Nat.le_refl _, Nat.le_refl _⟩⟩ ly_0 (by decide) la_0 rfl (k_X6_find hr9) rfl rfl (Nat.le_of_ble_eq_true rfl) ?_
        exact pw_iret dX6_copy_54 (pr_inj h)
      · have h := if_f h c7
        refine pw_aload 0 rfl 43 dX6_copy_41 rfl ?_
        refine pw_getI 0 46 dX6_copy_43 rfl fi_X6_copy_4 lk_X6_copy_75 hw6.lt hw6.o (by decide) rfl (by decide) rfl ?_
        refine pw_if_ne 55 49 dX6_copy_46 (by decide) rfl (fun c10 => ?_) (fun c10 => ?_)
        · have h := if_f h c10
          refine pw_aload 1 rfl 57 dX6_copy_55 rfl ?_
          refine pw_getI 1 60 dX6_copy_57 rfl fi_X6_copy_4 lk_X6_copy_87 hw4.lt hw4.o (by decide) rfl (by decide) rfl ?_
          refine pw_aload 0 rfl 62 dX6_copy_60 rfl ?_
          refine pw_getI 1 65 dX6_copy_62 rfl fi_X6_copy_4 lk_X6_copy_87 hw6.lt hw6.o (by decide) rfl (by decide) rfl ?_
          refine pw_icmp_eq 74 68 dX6_copy_65 (by decide) rfl (fun c11 => ?_) (fun c11 => ?_)
          · have h := if_t h c11
            refine pw_aload 1 rfl 76 dX6_copy_74 rfl ?_
            refine pw_iload_n 4 rfl rfl 77 dX6_copy_76 rfl ?_
            refine pw_iload 7 rfl 79 dX6_copy_77 rfl ?_
            refine pw_callVi 82 dX6_copy_79 rfl [.int x2, .int x5] 2 ⟨gX6_copy_X4_spans, rfl, sgV_X4_spans, ⟨Nat.le_of_ble_eq_true rfl, Nat.le_of_ble_eq_true rfl⟩, ⟨Nat.le_refl _, Nat.le_refl _⟩⟩ hw4.o (by decide) hw4.lt rfl (k_X4_spans hw4 rfl) rfl rfl (Nat.le_of_ble_eq_true rfl) ?_
            refine pw_if_eq 97 85 dX6_copy_82 (by decide) rfl (fun c12 => ?_) (fun c12 => ?_)
            · have h := if_t h c12
              refine pw_aload_n 2 rfl rfl 98 dX6_copy_97 rfl ?_
              refine pw_iconst (v := (2 : Int32)) (by decide) 99 dX6_copy_98 rfl ?_
              obtain ⟨r14, m13, hr14, h⟩ := bd2_e h
              refine pw_callVi 102 dX6_copy_99 rfl [.int (2 : Int32)] 1 ⟨gX6_copy_X6_find, rfl, sgV_X6_find, ⟨Nat.le_of_ble_eq_true rfl, Nat.le_of_ble_eq_true rfl⟩, ⟨Nat.le_refl _, Nat.le_refl _⟩⟩ ly_0 (by decide) la_0 rfl (k_X6_find hr14) rfl rfl (Nat.le_of_ble_eq_true rfl) ?_
              exact pw_iret dX6_copy_102 (pr_inj h)
            · have h := if_f h c12
              refine pw_aload 0 rfl 87 dX6_copy_85 rfl ?_
              refine pw_iload 6 rfl 89 dX6_copy_87 rfl ?_
              refine pw_iload 7 rfl 91 dX6_copy_89 rfl ?_
              refine pw_callVi 94 dX6_copy_91 rfl [.int x4, .int x5] 2 ⟨gX6_copy_X4_spans, rfl, sgV_X4_spans, ⟨Nat.le_of_ble_eq_true rfl, Nat.le_of_ble_eq_true rfl⟩, ⟨Nat.le_refl _, Nat.le_refl _⟩⟩ hw6.o (by decide) hw6.lt rfl (k_X4_spans hw6 rfl) rfl rfl (Nat.le_of_ble_eq_true rfl) ?_
              refine pw_if_ne 103 97 dX6_copy_94 (by decide) rfl (fun c15 => ?_) (fun c15 => ?_)
              · have h := if_f h c15
                refine pw_aload 1 rfl 105 dX6_copy_103 rfl ?_
                refine pw_getR 3 108 dX6_copy_105 rfl fi_X6_copy_4 lk_X6_copy_91 hw4.lt hw4.o (by decide) rfl (by decide) rfl hw4.rf3 ?_
                refine pw_iload_n 4 rfl rfl 109 dX6_copy_108 rfl ?_
                refine pw_aload 0 rfl 111 dX6_copy_109 rfl ?_
                refine pw_getR 3 114 dX6_copy_111 rfl fi_X6_copy_4 lk_X6_copy_91 hw6.lt hw6.o (by decide) rfl (by decide) rfl hw6.rf3 ?_
                refine pw_iload 6 rfl 116 dX6_copy_114 rfl ?_
                refine pw_iload 7 rfl 118 dX6_copy_116 rfl ?_
                obtain ⟨h19, h⟩ := gd_e h
                refine pw_copy 121 dX6_copy_118 rfl lw_X6_copy_ac94 lw_X6_copy_acn lw_X6_copy_acs lw_X6_copy_aci (Nat.le_of_ble_eq_true rfl) (Nat.le_of_ble_eq_true rfl) hw4.lt1 hw4.o1 hw6.lt1 hw6.o1 h19 ?_
                obtain ⟨m16, em16, h⟩ := nmE_ h
                refine pw_mem em16 ?_
                refine pw_aload_n 2 rfl rfl 122 dX6_copy_121 rfl ?_
                refine pw_iload 7 rfl 124 dX6_copy_122 rfl ?_
                obtain ⟨r18, m17, hr18, h⟩ := bd2_e h
                refine pw_callVi 127 dX6_copy_124 rfl [.int x5] 1 ⟨gX6_copy_X6_findNothing, rfl, sgV_X6_findNothing, ⟨Nat.le_of_ble_eq_true rfl, Nat.le_of_ble_eq_true rfl⟩, ⟨Nat.le_refl _, Nat.le_refl _⟩⟩ ly_0 (by decide) la_0 rfl (k_X6_findNothing hr18) rfl rfl (Nat.le_of_ble_eq_true rfl) ?_
                exact pw_iret dX6_copy_127 (pr_inj h)
              · have h := if_t h c15
                refine pw_aload_n 2 rfl rfl 98 dX6_copy_97 rfl ?_
                refine pw_iconst (v := (2 : Int32)) (by decide) 99 dX6_copy_98 rfl ?_
                obtain ⟨r21, m20, hr21, h⟩ := bd2_e h
                refine pw_callVi 102 dX6_copy_99 rfl [.int (2 : Int32)] 1 ⟨gX6_copy_X6_find, rfl, sgV_X6_find, ⟨Nat.le_of_ble_eq_true rfl, Nat.le_of_ble_eq_true rfl⟩, ⟨Nat.le_refl _, Nat.le_refl _⟩⟩ ly_0 (by decide) la_0 rfl (k_X6_find hr21) rfl rfl (Nat.le_of_ble_eq_true rfl) ?_
                exact pw_iret dX6_copy_102 (pr_inj h)
          · have h := if_f h c11
            refine pw_aload_n 2 rfl rfl 69 dX6_copy_68 rfl ?_
            refine pw_iconst (v := (5 : Int32)) (by decide) 70 dX6_copy_69 rfl ?_
            obtain ⟨r23, m22, hr23, h⟩ := bd2_e h
            refine pw_callVi 73 dX6_copy_70 rfl [.int (5 : Int32)] 1 ⟨gX6_copy_X6_find, rfl, sgV_X6_find, ⟨Nat.le_of_ble_eq_true rfl, Nat.le_of_ble_eq_true rfl⟩, ⟨Nat.le_refl _, Nat.le_refl _⟩⟩ ly_0 (by decide) la_0 rfl (k_X6_find hr23) rfl rfl (Nat.le_of_ble_eq_true rfl) ?_
            exact pw_iret dX6_copy_73 (pr_inj h)
        · have h := if_t h c10
          refine pw_aload_n 2 rfl rfl 50 dX6_copy_49 rfl ?_
          refine pw_iconst (v := (1 : Int32)) (by decide) 51 dX6_copy_50 rfl ?_
          obtain ⟨r25, m24, hr25, h⟩ := bd2_e h
          refine pw_callVi 54 dX6_copy_51 rfl [.int (1 : Int32)] 1 ⟨gX6_copy_X6_find, rfl, sgV_X6_find, ⟨Nat.le_of_ble_eq_true rfl, Nat.le_of_ble_eq_true rfl⟩, ⟨Nat.le_refl _, Nat.le_refl _⟩⟩ ly_0 (by decide) la_0 rfl (k_X6_find hr25) rfl rfl (Nat.le_of_ble_eq_true rfl) ?_
          exact pw_iret dX6_copy_54 (pr_inj h)
    · have h := if_t h c2
      refine pw_ldc 16 lw_X6_copy_c63 dX6_copy_14 rfl ?_
      exact pw_iret dX6_copy_16 (pr_inj h)
theorem fi_X6_drop_6 : ∀ w ∈ wsX60, w ∈ wsX6_drop := by decide +kernel
theorem lk_X6_drop_11 : Cond.fieldLink RX6 11 (TX6 0).1 (TX6 0).2.1 (TX6 0).2.2.1 ∈ wsX6_drop := by decide +kernel
theorem fi_X6_drop_4 : ∀ w ∈ wsX40, w ∈ wsX6_drop := by decide +kernel
theorem lk_X6_drop_75 : Cond.fieldLink RX6 75 (TX4 0).1 (TX4 0).2.1 (TX4 0).2.2.1 ∈ wsX6_drop := by decide +kernel
theorem lk_X6_drop_100 : Cond.fieldLink RX6 100 (TX4 2).1 (TX4 2).2.1 (TX4 2).2.2.1 ∈ wsX6_drop := by decide +kernel
theorem lw_X6_drop_c63 : Cond.constant RX6 63 (-1000001 : Int32) ∈ wsX6_drop := by decide +kernel
set_option maxHeartbeats 4000000 in
set_option maxRecDepth 100000 in
theorem k_X6_drop {l : Launch} {G : Gx} {x1 : Int32} {m mF : Mm} {r : Int32}  (h : f_X6_drop x1 m = some (r, mF)) : Cn l G 1 yX6_drop wsX6_drop [.ref (G.1 + 0), .int x1] m (Qi G r mF) := by
  unfold f_X6_drop at h
  refine Cn.of (own := RX6) (lv := [(0, .ref (G.1 + 0)), (1, .int x1)]) (by decide) rfl rfl (Nat.le_of_ble_eq_true rfl) rfl ?_
  refine pw_iload_n 1 rfl rfl 1 dX6_drop_0 rfl ?_
  refine pw_callSi 4 dX6_drop_1 rfl [.int x1] 1 ⟨gX6_drop_X6_isRow, rfl, sgS_X6_isRow, ⟨Nat.le_of_ble_eq_true rfl, Nat.le_of_ble_eq_true rfl⟩, ⟨Nat.le_refl _, Nat.le_refl _⟩⟩ (k_X6_isRow rfl) rfl rfl (Nat.le_of_ble_eq_true rfl) ?_
  refine pw_if_ne 10 7 dX6_drop_4 (by decide) rfl (fun c1 => ?_) (fun c1 => ?_)
  · have h := if_f h c1
    refine pw_aload_n 0 rfl rfl 11 dX6_drop_10 rfl ?_
    refine pw_getR 0 14 dX6_drop_11 rfl fi_X6_drop_6 lk_X6_drop_11 la_0 ly_0 (by decide) rfl (by decide) rfl rf_0_0 ?_
    refine pw_iload_n 1 rfl rfl 15 dX6_drop_14 rfl ?_
    obtain ⟨h2, h⟩ := gd_e h
    refine pw_aaldR 16 dX6_drop_15 rfl la_1 ly_1 h2 ?_
    obtain ⟨w3, ew3, h⟩ := nmE_ h
    refine pw_topr ew3 ?_
    have hw3 : IsR w3 := by rw [ew3]; exact isR_rows h2
    refine pw_getI 0 19 dX6_drop_16 rfl fi_X6_drop_4 lk_X6_drop_75 hw3.lt hw3.o (by decide) rfl (by decide) rfl ?_
    refine pw_if_ne 28 22 dX6_drop_19 (by decide) rfl (fun c4 => ?_) (fun c4 => ?_)
    · have h := if_f h c4
      refine pw_aload_n 0 rfl rfl 29 dX6_drop_28 rfl ?_
      refine pw_getR 0 32 dX6_drop_29 rfl fi_X6_drop_6 lk_X6_drop_11 la_0 ly_0 (by decide) rfl (by decide) rfl rf_0_0 ?_
      refine pw_iload_n 1 rfl rfl 33 dX6_drop_32 rfl ?_
      obtain ⟨h5, h⟩ := gd_e h
      refine pw_aaldR 34 dX6_drop_33 rfl la_1 ly_1 h5 ?_
      obtain ⟨w6, ew6, h⟩ := nmE_ h
      refine pw_topr ew6 ?_
      have hw6 : IsR w6 := by rw [ew6]; exact isR_rows h5
      refine pw_iconst (v := (0 : Int32)) (by decide) 35 dX6_drop_34 rfl ?_
      refine pw_put (ty0 := tyX4) (ty := .boolean) 0 38 dX6_drop_35 rfl fi_X6_drop_4 tyX4_ok nmX4 lk_X6_drop_75 hw6.lt hw6.o (by decide) rfl (by decide) rfl rfl rfl rfl rfl ?_
      obtain ⟨m7, em7, h⟩ := nmE_ h
      refine pw_mem em7 ?_
      refine pw_aload_n 0 rfl rfl 39 dX6_drop_38 rfl ?_
      refine pw_aload_n 0 rfl rfl 40 dX6_drop_39 rfl ?_
      refine pw_getR 0 43 dX6_drop_40 rfl fi_X6_drop_6 lk_X6_drop_11 la_0 ly_0 (by decide) rfl (by decide) rfl rf_0_0 ?_
      refine pw_iload_n 1 rfl rfl 44 dX6_drop_43 rfl ?_
      obtain ⟨h8, h⟩ := gd_e h
      refine pw_aaldR 45 dX6_drop_44 rfl la_1 ly_1 h8 ?_
      obtain ⟨w9, ew9, h⟩ := nmE_ h
      refine pw_topr ew9 ?_
      have hw9 : IsR w9 := by rw [ew9]; exact isR_rows h8
      refine pw_getI 2 48 dX6_drop_45 rfl fi_X6_drop_4 lk_X6_drop_100 hw9.lt hw9.o (by decide) rfl (by decide) rfl ?_
      obtain ⟨r11, m10, hr11, h⟩ := bd2_e h
      refine pw_callVi 51 dX6_drop_48 rfl [.int (m7 w9 2)] 1 ⟨gX6_drop_X6_findNothing, rfl, sgV_X6_findNothing, ⟨Nat.le_of_ble_eq_true rfl, Nat.le_of_ble_eq_true rfl⟩, ⟨Nat.le_refl _, Nat.le_refl _⟩⟩ ly_0 (by decide) la_0 rfl (k_X6_findNothing hr11) rfl rfl (Nat.le_of_ble_eq_true rfl) ?_
      exact pw_iret dX6_drop_51 (pr_inj h)
    · have h := if_t h c4
      refine pw_aload_n 0 rfl rfl 23 dX6_drop_22 rfl ?_
      refine pw_iconst (v := (1 : Int32)) (by decide) 24 dX6_drop_23 rfl ?_
      obtain ⟨r13, m12, hr13, h⟩ := bd2_e h
      refine pw_callVi 27 dX6_drop_24 rfl [.int (1 : Int32)] 1 ⟨gX6_drop_X6_find, rfl, sgV_X6_find, ⟨Nat.le_of_ble_eq_true rfl, Nat.le_of_ble_eq_true rfl⟩, ⟨Nat.le_refl _, Nat.le_refl _⟩⟩ ly_0 (by decide) la_0 rfl (k_X6_find hr13) rfl rfl (Nat.le_of_ble_eq_true rfl) ?_
      exact pw_iret dX6_drop_27 (pr_inj h)
  · have h := if_t h c1
    refine pw_ldc 9 lw_X6_drop_c63 dX6_drop_7 rfl ?_
    exact pw_iret dX6_drop_9 (pr_inj h)
theorem fi_X3_take_3 : ∀ w ∈ wsX30, w ∈ wsX3_take := by decide +kernel
theorem lk_X3_take_22 : Cond.fieldLink RX3 22 (TX3 2).1 (TX3 2).2.1 (TX3 2).2.2.1 ∈ wsX3_take := by decide +kernel
theorem lk_X3_take_18 : Cond.fieldLink RX3 18 (TX3 1).1 (TX3 1).2.1 (TX3 1).2.2.1 ∈ wsX3_take := by decide +kernel
set_option maxHeartbeats 4000000 in
set_option maxRecDepth 100000 in
theorem k_X3_take {l : Launch} {G : Gx} {x1 : Int32} {m mF : Mm} {r : Int32}  (h : f_X3_take x1 m = some (r, mF)) : Cn l G 0 yX3_take wsX3_take [.ref (G.1 + 2), .int x1] m (Qi G r mF) := by
  unfold f_X3_take at h
  refine Cn.of (own := RX3) (lv := [(0, .ref (G.1 + 2)), (1, .int x1)]) (by decide) rfl rfl (Nat.le_of_ble_eq_true rfl) rfl ?_
  refine pw_aload_n 0 rfl rfl 1 dX3_take_0 rfl ?_
  refine pw_getI 2 4 dX3_take_1 rfl fi_X3_take_3 lk_X3_take_22 la_2 ly_2 (by decide) rfl (by decide) rfl ?_
  refine pw_bipush (v := (110 : Int32)) (by decide) 6 dX3_take_4 rfl ?_
  refine pw_icmp_lt 11 9 dX3_take_6 (by decide) rfl (fun c1 => ?_) (fun c1 => ?_)
  · have h := if_t h c1
    refine pw_aload_n 0 rfl rfl 12 dX3_take_11 rfl ?_
    refine pw_getR 1 15 dX3_take_12 rfl fi_X3_take_3 lk_X3_take_18 la_2 ly_2 (by decide) rfl (by decide) rfl rf_2_1 ?_
    refine pw_aload_n 0 rfl rfl 16 dX3_take_15 rfl ?_
    refine pw_getI 2 19 dX3_take_16 rfl fi_X3_take_3 lk_X3_take_22 la_2 ly_2 (by decide) rfl (by decide) rfl ?_
    refine pw_iload_n 1 rfl rfl 20 dX3_take_19 rfl ?_
    obtain ⟨h5, h⟩ := gd_e h
    refine pw_iast 21 dX3_take_20 rfl la_12 ly_12 h5 ?_
    obtain ⟨m2, em2, h⟩ := nmE_ h
    refine pw_mem em2 ?_
    refine pw_aload_n 0 rfl rfl 22 dX3_take_21 rfl ?_
    refine pw_dup rfl 23 dX3_take_22 rfl ?_
    refine pw_getI 2 26 dX3_take_23 rfl fi_X3_take_3 lk_X3_take_22 la_2 ly_2 (by decide) rfl (by decide) rfl ?_
    refine pw_iconst (v := (1 : Int32)) (by decide) 27 dX3_take_26 rfl ?_
    refine pw_iadd 28 dX3_take_27 rfl ?_
    obtain ⟨v3, ev3, h⟩ := nmE_ h
    refine pw_top ev3 ?_
    refine pw_put (ty0 := tyX3) (ty := .int) 2 31 dX3_take_28 rfl fi_X3_take_3 tyX3_ok nmX3 lk_X3_take_22 la_2 ly_2 (by decide) rfl (by decide) rfl rfl rfl rfl rfl ?_
    obtain ⟨m4, em4, h⟩ := nmE_ h
    refine pw_mem em4 ?_
    refine pw_iconst (v := (1 : Int32)) (by decide) 32 dX3_take_31 rfl ?_
    exact pw_zret dX3_take_32 (by decide) (pr_inj h)
  · have h := if_f h c1
    refine pw_iconst (v := (0 : Int32)) (by decide) 10 dX3_take_9 rfl ?_
    exact pw_zret dX3_take_10 (by decide) (pr_inj h)
theorem lw_X6_feed_c63 : Cond.constant RX6 63 (-1000001 : Int32) ∈ wsX6_feed := by decide +kernel
theorem fi_X6_feed_6 : ∀ w ∈ wsX60, w ∈ wsX6_feed := by decide +kernel
theorem lk_X6_feed_18 : Cond.fieldLink RX6 18 (TX6 1).1 (TX6 1).2.1 (TX6 1).2.2.1 ∈ wsX6_feed := by decide +kernel
theorem lw_X6_feed_c107 : Cond.constant RX6 107 (-1000003 : Int32) ∈ wsX6_feed := by decide +kernel
theorem fi_X6_feed_3 : ∀ w ∈ wsX30, w ∈ wsX6_feed := by decide +kernel
theorem lk_X6_feed_106 : Cond.fieldLink RX6 106 (TX3 2).1 (TX3 2).2.1 (TX3 2).2.2.1 ∈ wsX6_feed := by decide +kernel
set_option maxHeartbeats 4000000 in
set_option maxRecDepth 100000 in
theorem k_X6_feed {l : Launch} {G : Gx} {x1 : Int32} {m mF : Mm} {r : Int32}  (h : f_X6_feed x1 m = some (r, mF)) : Cn l G 1 yX6_feed wsX6_feed [.ref (G.1 + 0), .int x1] m (Qi G r mF) := by
  unfold f_X6_feed at h
  refine Cn.of (own := RX6) (lv := [(0, .ref (G.1 + 0)), (1, .int x1)]) (by decide) rfl rfl (Nat.le_of_ble_eq_true rfl) rfl ?_
  refine pw_iload_n 1 rfl rfl 1 dX6_feed_0 rfl ?_
  refine pw_if_lt 11 4 dX6_feed_1 (by decide) rfl (fun c1 => ?_) (fun c1 => ?_)
  · have h := if_t h c1
    refine pw_ldc 13 lw_X6_feed_c63 dX6_feed_11 rfl ?_
    exact pw_iret dX6_feed_13 (pr_inj h)
  · have h := if_f h c1
    refine pw_iload_n 1 rfl rfl 5 dX6_feed_4 rfl ?_
    refine pw_sipush (v := (255 : Int32)) (by decide) 8 dX6_feed_5 rfl ?_
    refine pw_icmp_le 14 11 dX6_feed_8 (by decide) rfl (fun c2 => ?_) (fun c2 => ?_)
    · have h := if_t h c2
      refine pw_aload_n 0 rfl rfl 15 dX6_feed_14 rfl ?_
      refine pw_getR 1 18 dX6_feed_15 rfl fi_X6_feed_6 lk_X6_feed_18 la_0 ly_0 (by decide) rfl (by decide) rfl rf_0_1 ?_
      refine pw_iload_n 1 rfl rfl 19 dX6_feed_18 rfl ?_
      obtain ⟨r4, m3, hr4, h⟩ := bd2_e h
      refine pw_callVi 22 dX6_feed_19 rfl [.int x1] 1 ⟨gX6_feed_X3_take, rfl, sgV_X3_take, ⟨Nat.le_of_ble_eq_true rfl, Nat.le_of_ble_eq_true rfl⟩, ⟨Nat.le_refl _, Nat.le_refl _⟩⟩ ly_2 (by decide) la_2 rfl (k_X3_take hr4) rfl rfl (Nat.le_of_ble_eq_true rfl) ?_
      refine pw_if_eq 35 25 dX6_feed_22 (by decide) rfl (fun c5 => ?_) (fun c5 => ?_)
      · have h := if_t h c5
        refine pw_ldc 37 lw_X6_feed_c107 dX6_feed_35 rfl ?_
        exact pw_iret dX6_feed_37 (pr_inj h)
      · have h := if_f h c5
        refine pw_aload_n 0 rfl rfl 26 dX6_feed_25 rfl ?_
        refine pw_getR 1 29 dX6_feed_26 rfl fi_X6_feed_6 lk_X6_feed_18 la_0 ly_0 (by decide) rfl (by decide) rfl rf_0_1 ?_
        refine pw_getI 2 32 dX6_feed_29 rfl fi_X6_feed_3 lk_X6_feed_106 la_2 ly_2 (by decide) rfl (by decide) rfl ?_
        refine pw_goto 37 dX6_feed_32 (by decide) ?_
        exact pw_iret dX6_feed_37 (pr_inj h)
    · have h := if_f h c2
      refine pw_ldc 13 lw_X6_feed_c63 dX6_feed_11 rfl ?_
      exact pw_iret dX6_feed_13 (pr_inj h)
theorem fi_X3_refuse_3 : ∀ w ∈ wsX30, w ∈ wsX3_refuse := by decide +kernel
theorem lk_X3_refuse_70 : Cond.fieldLink RX3 70 (TX3 4).1 (TX3 4).2.1 (TX3 4).2.2.1 ∈ wsX3_refuse := by decide +kernel
set_option maxHeartbeats 4000000 in
set_option maxRecDepth 100000 in
theorem k_X3_refuse {l : Launch} {G : Gx} {x1 : Int32} {m mF : Mm} {r : Int32}  (h : f_X3_refuse x1 m = some (r, mF)) : Cn l G 0 yX3_refuse wsX3_refuse [.ref (G.1 + 2), .int x1] m (Qi G r mF) := by
  unfold f_X3_refuse at h
  refine Cn.of (own := RX3) (lv := [(0, .ref (G.1 + 2)), (1, .int x1)]) (by decide) rfl rfl (Nat.le_of_ble_eq_true rfl) rfl ?_
  refine pw_aload_n 0 rfl rfl 1 dX3_refuse_0 rfl ?_
  refine pw_iload_n 1 rfl rfl 2 dX3_refuse_1 rfl ?_
  refine pw_put (ty0 := tyX3) (ty := .int) 4 5 dX3_refuse_2 rfl fi_X3_refuse_3 tyX3_ok nmX3 lk_X3_refuse_70 la_2 ly_2 (by decide) rfl (by decide) rfl rfl rfl rfl rfl ?_
  obtain ⟨m1, em1, h⟩ := nmE_ h
  refine pw_mem em1 ?_
  refine pw_iconst (v := (0 : Int32)) (by decide) 6 dX3_refuse_5 rfl ?_
  exact pw_zret dX3_refuse_6 (by decide) (pr_inj h)
theorem fi_X3_sign_3 : ∀ w ∈ wsX30, w ∈ wsX3_sign := by decide +kernel
theorem lk_X3_sign_26 : Cond.fieldLink RX3 26 (TX3 3).1 (TX3 3).2.1 (TX3 3).2.2.1 ∈ wsX3_sign := by decide +kernel
theorem lk_X3_sign_22 : Cond.fieldLink RX3 22 (TX3 2).1 (TX3 2).2.1 (TX3 2).2.2.1 ∈ wsX3_sign := by decide +kernel
theorem lk_X3_sign_18 : Cond.fieldLink RX3 18 (TX3 1).1 (TX3 1).2.1 (TX3 1).2.2.1 ∈ wsX3_sign := by decide +kernel
set_option maxHeartbeats 4000000 in
set_option maxRecDepth 100000 in
theorem k_X3_sign {l : Launch} {G : Gx} {x1 : Int32} {m mF : Mm} {r : Int32}  (h : f_X3_sign x1 m = some (r, mF)) : Cn l G 1 yX3_sign wsX3_sign [.ref (G.1 + 2), .int x1] m (Qi G r mF) := by
  unfold f_X3_sign at h
  refine Cn.of (own := RX3) (lv := [(0, .ref (G.1 + 2)), (1, .int x1)]) (by decide) rfl rfl (Nat.le_of_ble_eq_true rfl) rfl ?_
  refine pw_aload_n 0 rfl rfl 1 dX3_sign_0 rfl ?_
  refine pw_getI 3 4 dX3_sign_1 rfl fi_X3_sign_3 lk_X3_sign_26 la_2 ly_2 (by decide) rfl (by decide) rfl ?_
  refine pw_aload_n 0 rfl rfl 5 dX3_sign_4 rfl ?_
  refine pw_getI 2 8 dX3_sign_5 rfl fi_X3_sign_3 lk_X3_sign_22 la_2 ly_2 (by decide) rfl (by decide) rfl ?_
  refine pw_icmp_ge 24 11 dX3_sign_8 (by decide) rfl (fun c1 => ?_) (fun c1 => ?_)
  · have h := if_t h c1
    refine pw_aload_n 0 rfl rfl 25 dX3_sign_24 rfl ?_
    refine pw_iconst (v := (1 : Int32)) (by decide) 26 dX3_sign_25 rfl ?_
    obtain ⟨r3, m2, hr3, h⟩ := bd2_e h
    refine pw_callVi 29 dX3_sign_26 rfl [.int (1 : Int32)] 1 ⟨gX3_sign_X3_refuse, rfl, sgV_X3_refuse, ⟨Nat.le_of_ble_eq_true rfl, Nat.le_of_ble_eq_true rfl⟩, ⟨Nat.le_refl _, Nat.le_refl _⟩⟩ ly_2 (by decide) la_2 rfl (k_X3_refuse hr3) rfl rfl (Nat.le_of_ble_eq_true rfl) ?_
    obtain ⟨h4, h⟩ := gd_e h
    exact pw_zret dX3_sign_29 h4 (pr_inj h)
  · have h := if_f h c1
    refine pw_aload_n 0 rfl rfl 12 dX3_sign_11 rfl ?_
    refine pw_getR 1 15 dX3_sign_12 rfl fi_X3_sign_3 lk_X3_sign_18 la_2 ly_2 (by decide) rfl (by decide) rfl rf_2_1 ?_
    refine pw_aload_n 0 rfl rfl 16 dX3_sign_15 rfl ?_
    refine pw_getI 3 19 dX3_sign_16 rfl fi_X3_sign_3 lk_X3_sign_26 la_2 ly_2 (by decide) rfl (by decide) rfl ?_
    obtain ⟨h5, h⟩ := gd_e h
    refine pw_iald 20 dX3_sign_19 rfl la_12 ly_12 h5 ?_
    refine pw_iload_n 1 rfl rfl 21 dX3_sign_20 rfl ?_
    refine pw_icmp_eq 30 24 dX3_sign_21 (by decide) rfl (fun c6 => ?_) (fun c6 => ?_)
    · have h := if_t h c6
      refine pw_aload_n 0 rfl rfl 31 dX3_sign_30 rfl ?_
      refine pw_dup rfl 32 dX3_sign_31 rfl ?_
      refine pw_getI 3 35 dX3_sign_32 rfl fi_X3_sign_3 lk_X3_sign_26 la_2 ly_2 (by decide) rfl (by decide) rfl ?_
      refine pw_iconst (v := (1 : Int32)) (by decide) 36 dX3_sign_35 rfl ?_
      refine pw_iadd 37 dX3_sign_36 rfl ?_
      obtain ⟨v7, ev7, h⟩ := nmE_ h
      refine pw_top ev7 ?_
      refine pw_put (ty0 := tyX3) (ty := .int) 3 40 dX3_sign_37 rfl fi_X3_sign_3 tyX3_ok nmX3 lk_X3_sign_26 la_2 ly_2 (by decide) rfl (by decide) rfl rfl rfl rfl rfl ?_
      obtain ⟨m8, em8, h⟩ := nmE_ h
      refine pw_mem em8 ?_
      refine pw_iconst (v := (1 : Int32)) (by decide) 41 dX3_sign_40 rfl ?_
      exact pw_zret dX3_sign_41 (by decide) (pr_inj h)
    · have h := if_f h c6
      refine pw_aload_n 0 rfl rfl 25 dX3_sign_24 rfl ?_
      refine pw_iconst (v := (1 : Int32)) (by decide) 26 dX3_sign_25 rfl ?_
      obtain ⟨r10, m9, hr10, h⟩ := bd2_e h
      refine pw_callVi 29 dX3_sign_26 rfl [.int (1 : Int32)] 1 ⟨gX3_sign_X3_refuse, rfl, sgV_X3_refuse, ⟨Nat.le_of_ble_eq_true rfl, Nat.le_of_ble_eq_true rfl⟩, ⟨Nat.le_refl _, Nat.le_refl _⟩⟩ ly_2 (by decide) la_2 rfl (k_X3_refuse hr10) rfl rfl (Nat.le_of_ble_eq_true rfl) ?_
      obtain ⟨h11, h⟩ := gd_e h
      exact pw_zret dX3_sign_29 h11 (pr_inj h)
set_option maxHeartbeats 4000000 in
set_option maxRecDepth 100000 in
theorem k_X3_isFigure {l : Launch} {G : Gx} {x0 : Int32} {m : Mm} {r : Int32}  (h : f_X3_isFigure x0 = r) : Cn l G 0 yX3_isFigure wsX3_isFigure [.int x0] m (Qi G r m) := by
  unfold f_X3_isFigure at h
  refine Cn.of (own := RX3) (lv := [(0, .int x0)]) (by decide) rfl rfl (Nat.le_of_ble_eq_true rfl) rfl ?_
  refine pw_iload_n 0 rfl rfl 1 dX3_isFigure_0 rfl ?_
  refine pw_bipush (v := (48 : Int32)) (by decide) 3 dX3_isFigure_1 rfl ?_
  refine pw_icmp_lt 16 6 dX3_isFigure_3 (by decide) rfl (fun c1 => ?_) (fun c1 => ?_)
  · have h := if_t h c1
    refine pw_iconst (v := (0 : Int32)) (by decide) 17 dX3_isFigure_16 rfl ?_
    exact pw_zret dX3_isFigure_17 (by decide) ⟨h, rfl⟩
  · have h := if_f h c1
    refine pw_iload_n 0 rfl rfl 7 dX3_isFigure_6 rfl ?_
    refine pw_bipush (v := (57 : Int32)) (by decide) 9 dX3_isFigure_7 rfl ?_
    refine pw_icmp_gt 16 12 dX3_isFigure_9 (by decide) rfl (fun c2 => ?_) (fun c2 => ?_)
    · have h := if_t h c2
      refine pw_iconst (v := (0 : Int32)) (by decide) 17 dX3_isFigure_16 rfl ?_
      exact pw_zret dX3_isFigure_17 (by decide) ⟨h, rfl⟩
    · have h := if_f h c2
      refine pw_iconst (v := (1 : Int32)) (by decide) 13 dX3_isFigure_12 rfl ?_
      refine pw_goto 17 dX3_isFigure_13 (by decide) ?_
      exact pw_zret dX3_isFigure_17 (by decide) ⟨h, rfl⟩
theorem fi_X3_number_3 : ∀ w ∈ wsX30, w ∈ wsX3_number := by decide +kernel
theorem lk_X3_number_26 : Cond.fieldLink RX3 26 (TX3 3).1 (TX3 3).2.1 (TX3 3).2.2.1 ∈ wsX3_number := by decide +kernel
theorem lk_X3_number_22 : Cond.fieldLink RX3 22 (TX3 2).1 (TX3 2).2.1 (TX3 2).2.2.1 ∈ wsX3_number := by decide +kernel
theorem lk_X3_number_18 : Cond.fieldLink RX3 18 (TX3 1).1 (TX3 1).2.1 (TX3 1).2.2.1 ∈ wsX3_number := by decide +kernel
set_option maxHeartbeats 4000000 in
set_option maxRecDepth 100000 in
theorem kl_X3_number_8 {l : Launch} {G : Gx}  {r : Int32} {mF : Mm}  : ∀ (n : Nat) (y1 : Int32) (y2 : Int32) (y3 : Int32) (y4 : Int32) (m : Mm) (a0 : Int32) (a1 : Int32), lp_X3_number_8 n y1 y2 y3 y4 m = some (a0, a1) → PW G (KM l G RX3 cX3_number 5 (some .int) wsX3_number 1 (Qi G r mF)) 61 [(0, .ref (G.1 + 2)), (1, .int y1), (2, .int y2), (3, .int a0), (4, .int a1)] [] m → PW G (KM l G RX3 cX3_number 5 (some .int) wsX3_number 1 (Qi G r mF)) 8 [(0, .ref (G.1 + 2)), (1, .int y1), (2, .int y2), (3, .int y3), (4, .int y4)] [] m := by
  intro n
  induction n with
  | zero => intro y1 y2 y3 y4 m a0 a1 h hk; cases h
  | succ n ih =>
    intro y1 y2 y3 y4 m a0 a1 h hk
    have h : lb_X3_number_8 (lp_X3_number_8 n) y1 y2 y3 y4 m = _ := h
    unfold lb_X3_number_8 at h
    refine pw_iload_n 3 rfl rfl 9 dX3_number_8 rfl ?_
    refine pw_aload_n 0 rfl rfl 10 dX3_number_9 rfl ?_
    refine pw_getI 2 13 dX3_number_10 rfl fi_X3_number_3 lk_X3_number_22 la_2 ly_2 (by decide) rfl (by decide) rfl ?_
    refine pw_icmp_ge 61 16 dX3_number_13 (by decide) rfl (fun c2 => ?_) (fun c2 => ?_)
    · have h := if_t h c2
      refine pw_sub [0, 1, 2, 3, 4] [(0, .ref (G.1 + 2)), (1, .int y1), (2, .int y2), (3, .int y3), (4, .int y4)] rfl ?_
      cases h; exact hk
    · have h := if_f h c2
      refine pw_iload_n 3 rfl rfl 17 dX3_number_16 rfl ?_
      refine pw_aload_n 0 rfl rfl 18 dX3_number_17 rfl ?_
      refine pw_getI 3 21 dX3_number_18 rfl fi_X3_number_3 lk_X3_number_26 la_2 ly_2 (by decide) rfl (by decide) rfl ?_
      refine pw_iconst (v := (3 : Int32)) (by decide) 22 dX3_number_21 rfl ?_
      refine pw_iadd 23 dX3_number_22 rfl ?_
      refine pw_icmp_ge 61 26 dX3_number_23 (by decide) rfl (fun c3 => ?_) (fun c3 => ?_)
      · have h := if_t h c3
        refine pw_sub [0, 1, 2, 3, 4] [(0, .ref (G.1 + 2)), (1, .int y1), (2, .int y2), (3, .int y3), (4, .int y4)] rfl ?_
        cases h; exact hk
      · have h := if_f h c3
        refine pw_aload_n 0 rfl rfl 27 dX3_number_26 rfl ?_
        refine pw_getR 1 30 dX3_number_27 rfl fi_X3_number_3 lk_X3_number_18 la_2 ly_2 (by decide) rfl (by decide) rfl rf_2_1 ?_
        refine pw_iload_n 3 rfl rfl 31 dX3_number_30 rfl ?_
        obtain ⟨h4, h⟩ := gd_e h
        refine pw_iald 32 dX3_number_31 rfl la_12 ly_12 h4 ?_
        refine pw_callSi 35 dX3_number_32 rfl [.int (m 12 (ix y3))] 1 ⟨gX3_number_X3_isFigure, rfl, sgS_X3_isFigure, ⟨Nat.le_of_ble_eq_true rfl, Nat.le_of_ble_eq_true rfl⟩, ⟨Nat.le_refl _, Nat.le_refl _⟩⟩ (k_X3_isFigure rfl) rfl rfl (Nat.le_of_ble_eq_true rfl) ?_
        refine pw_if_eq 61 38 dX3_number_35 (by decide) rfl (fun c5 => ?_) (fun c5 => ?_)
        · have h := if_t h c5
          refine pw_sub [0, 1, 2, 3, 4] [(0, .ref (G.1 + 2)), (1, .int y1), (2, .int y2), (3, .int y3), (4, .int y4)] rfl ?_
          cases h; exact hk
        · have h := if_f h c5
          refine pw_iload 4 rfl 40 dX3_number_38 rfl ?_
          refine pw_bipush (v := (10 : Int32)) (by decide) 42 dX3_number_40 rfl ?_
          refine pw_imul 43 dX3_number_42 rfl ?_
          refine pw_aload_n 0 rfl rfl 44 dX3_number_43 rfl ?_
          refine pw_getR 1 47 dX3_number_44 rfl fi_X3_number_3 lk_X3_number_18 la_2 ly_2 (by decide) rfl (by decide) rfl rf_2_1 ?_
          refine pw_iload_n 3 rfl rfl 48 dX3_number_47 rfl ?_
          obtain ⟨h6, h⟩ := gd_e h
          refine pw_iald 49 dX3_number_48 rfl la_12 ly_12 h6 ?_
          refine pw_iadd 50 dX3_number_49 rfl ?_
          refine pw_bipush (v := (48 : Int32)) (by decide) 52 dX3_number_50 rfl ?_
          refine pw_isub 53 dX3_number_52 rfl ?_
          obtain ⟨v7, ev7, h⟩ := nmE_ h
          refine pw_top ev7 ?_
          refine pw_istore [(4, .int v7), (0, .ref (G.1 + 2)), (1, .int y1), (2, .int y2), (3, .int y3)] 55 dX3_number_53 rfl (Nat.le_of_ble_eq_true rfl) rfl ?_
          obtain ⟨v8, ev8, h⟩ := nmE_ h
          refine pw_iinc 4 rfl (by rw [ev8]; rfl) [(3, .int v8), (4, .int v7), (0, .ref (G.1 + 2)), (1, .int y1), (2, .int y2)] 58 dX3_number_55 rfl (Nat.le_of_ble_eq_true rfl) rfl ?_
          refine pw_goto 8 dX3_number_58 (by decide) ?_
          refine pw_sub [2, 3, 4, 0, 1] [(0, .ref (G.1 + 2)), (1, .int y1), (2, .int y2), (3, .int v8), (4, .int v7)] rfl ?_
          exact ih y1 y2 v8 v7 m a0 a1 h hk
set_option maxHeartbeats 4000000 in
set_option maxRecDepth 100000 in
theorem k_X3_number {l : Launch} {G : Gx} {x1 : Int32} {x2 : Int32} {m mF : Mm} {r : Int32}  (h : f_X3_number x1 x2 m = some (r, mF)) : Cn l G 1 yX3_number wsX3_number [.ref (G.1 + 2), .int x1, .int x2] m (Qi G r mF) := by
  unfold f_X3_number at h
  refine Cn.of (own := RX3) (lv := [(0, .ref (G.1 + 2)), (1, .int x1), (2, .int x2)]) (by decide) rfl rfl (Nat.le_of_ble_eq_true rfl) rfl ?_
  refine pw_aload_n 0 rfl rfl 1 dX3_number_0 rfl ?_
  refine pw_getI 3 4 dX3_number_1 rfl fi_X3_number_3 lk_X3_number_26 la_2 ly_2 (by decide) rfl (by decide) rfl ?_
  obtain ⟨v1, ev1, h⟩ := nmE_ h
  refine pw_top ev1 ?_
  refine pw_istore_n (hf := rfl) [(3, .int v1), (0, .ref (G.1 + 2)), (1, .int x1), (2, .int x2)] 5 dX3_number_4 rfl (Nat.le_of_ble_eq_true rfl) rfl ?_
  refine pw_iconst (v := (0 : Int32)) (by decide) 6 dX3_number_5 rfl ?_
  refine pw_istore [(4, .int (0 : Int32)), (3, .int v1), (0, .ref (G.1 + 2)), (1, .int x1), (2, .int x2)] 8 dX3_number_6 rfl (Nat.le_of_ble_eq_true rfl) rfl ?_
  obtain ⟨z9, z10, h11, h⟩ := bd2_e h
  have hL8_h11 : PW G (KM l G RX3 cX3_number 5 (some .int) wsX3_number 1 (Qi G r mF)) 61 [(0, .ref (G.1 + 2)), (1, .int x1), (2, .int x2), (3, .int z9), (4, .int z10)] [] m := by
    refine pw_iload_n 3 rfl rfl 62 dX3_number_61 rfl ?_
    refine pw_aload_n 0 rfl rfl 63 dX3_number_62 rfl ?_
    refine pw_getI 3 66 dX3_number_63 rfl fi_X3_number_3 lk_X3_number_26 la_2 ly_2 (by decide) rfl (by decide) rfl ?_
    refine pw_icmp_eq 79 69 dX3_number_66 (by decide) rfl (fun c12 => ?_) (fun c12 => ?_)
    · have h := if_t h c12
      refine pw_aload_n 0 rfl rfl 80 dX3_number_79 rfl ?_
      refine pw_iconst (v := (1 : Int32)) (by decide) 81 dX3_number_80 rfl ?_
      obtain ⟨r14, m13, hr14, h⟩ := bd2_e h
      refine pw_callVi 84 dX3_number_81 rfl [.int (1 : Int32)] 1 ⟨gX3_number_X3_refuse, rfl, sgV_X3_refuse, ⟨Nat.le_of_ble_eq_true rfl, Nat.le_of_ble_eq_true rfl⟩, ⟨Nat.le_refl _, Nat.le_refl _⟩⟩ ly_2 (by decide) la_2 rfl (k_X3_refuse hr14) rfl rfl (Nat.le_of_ble_eq_true rfl) ?_
      refine pw_pop rfl 85 dX3_number_84 rfl ?_
      refine pw_iconst (v := (-1 : Int32)) (by decide) 86 dX3_number_85 rfl ?_
      exact pw_iret dX3_number_86 (pr_inj h)
    · have h := if_f h c12
      refine pw_iload_n 3 rfl rfl 70 dX3_number_69 rfl ?_
      refine pw_aload_n 0 rfl rfl 71 dX3_number_70 rfl ?_
      refine pw_getI 3 74 dX3_number_71 rfl fi_X3_number_3 lk_X3_number_26 la_2 ly_2 (by decide) rfl (by decide) rfl ?_
      refine pw_iconst (v := (3 : Int32)) (by decide) 75 dX3_number_74 rfl ?_
      refine pw_iadd 76 dX3_number_75 rfl ?_
      refine pw_icmp_ne 87 79 dX3_number_76 (by decide) rfl (fun c15 => ?_) (fun c15 => ?_)
      · have h := if_f h c15
        refine pw_iload 4 rfl 89 dX3_number_87 rfl ?_
        refine pw_iload_n 1 rfl rfl 90 dX3_number_89 rfl ?_
        refine pw_icmp_lt 99 93 dX3_number_90 (by decide) rfl (fun c16 => ?_) (fun c16 => ?_)
        · have h := if_t h c16
          refine pw_aload_n 0 rfl rfl 100 dX3_number_99 rfl ?_
          refine pw_iconst (v := (2 : Int32)) (by decide) 101 dX3_number_100 rfl ?_
          obtain ⟨r18, m17, hr18, h⟩ := bd2_e h
          refine pw_callVi 104 dX3_number_101 rfl [.int (2 : Int32)] 1 ⟨gX3_number_X3_refuse, rfl, sgV_X3_refuse, ⟨Nat.le_of_ble_eq_true rfl, Nat.le_of_ble_eq_true rfl⟩, ⟨Nat.le_refl _, Nat.le_refl _⟩⟩ ly_2 (by decide) la_2 rfl (k_X3_refuse hr18) rfl rfl (Nat.le_of_ble_eq_true rfl) ?_
          refine pw_pop rfl 105 dX3_number_104 rfl ?_
          refine pw_iconst (v := (-1 : Int32)) (by decide) 106 dX3_number_105 rfl ?_
          exact pw_iret dX3_number_106 (pr_inj h)
        · have h := if_f h c16
          refine pw_iload 4 rfl 95 dX3_number_93 rfl ?_
          refine pw_iload_n 2 rfl rfl 96 dX3_number_95 rfl ?_
          refine pw_icmp_le 107 99 dX3_number_96 (by decide) rfl (fun c19 => ?_) (fun c19 => ?_)
          · have h := if_t h c19
            refine pw_aload_n 0 rfl rfl 108 dX3_number_107 rfl ?_
            refine pw_iload_n 3 rfl rfl 109 dX3_number_108 rfl ?_
            refine pw_put (ty0 := tyX3) (ty := .int) 3 112 dX3_number_109 rfl fi_X3_number_3 tyX3_ok nmX3 lk_X3_number_26 la_2 ly_2 (by decide) rfl (by decide) rfl rfl rfl rfl rfl ?_
            obtain ⟨m20, em20, h⟩ := nmE_ h
            refine pw_mem em20 ?_
            refine pw_iload 4 rfl 114 dX3_number_112 rfl ?_
            exact pw_iret dX3_number_114 (pr_inj h)
          · have h := if_f h c19
            refine pw_aload_n 0 rfl rfl 100 dX3_number_99 rfl ?_
            refine pw_iconst (v := (2 : Int32)) (by decide) 101 dX3_number_100 rfl ?_
            obtain ⟨r22, m21, hr22, h⟩ := bd2_e h
            refine pw_callVi 104 dX3_number_101 rfl [.int (2 : Int32)] 1 ⟨gX3_number_X3_refuse, rfl, sgV_X3_refuse, ⟨Nat.le_of_ble_eq_true rfl, Nat.le_of_ble_eq_true rfl⟩, ⟨Nat.le_refl _, Nat.le_refl _⟩⟩ ly_2 (by decide) la_2 rfl (k_X3_refuse hr22) rfl rfl (Nat.le_of_ble_eq_true rfl) ?_
            refine pw_pop rfl 105 dX3_number_104 rfl ?_
            refine pw_iconst (v := (-1 : Int32)) (by decide) 106 dX3_number_105 rfl ?_
            exact pw_iret dX3_number_106 (pr_inj h)
      · have h := if_t h c15
        refine pw_aload_n 0 rfl rfl 80 dX3_number_79 rfl ?_
        refine pw_iconst (v := (1 : Int32)) (by decide) 81 dX3_number_80 rfl ?_
        obtain ⟨r24, m23, hr24, h⟩ := bd2_e h
        refine pw_callVi 84 dX3_number_81 rfl [.int (1 : Int32)] 1 ⟨gX3_number_X3_refuse, rfl, sgV_X3_refuse, ⟨Nat.le_of_ble_eq_true rfl, Nat.le_of_ble_eq_true rfl⟩, ⟨Nat.le_refl _, Nat.le_refl _⟩⟩ ly_2 (by decide) la_2 rfl (k_X3_refuse hr24) rfl rfl (Nat.le_of_ble_eq_true rfl) ?_
        refine pw_pop rfl 85 dX3_number_84 rfl ?_
        refine pw_iconst (v := (-1 : Int32)) (by decide) 86 dX3_number_85 rfl ?_
        exact pw_iret dX3_number_86 (pr_inj h)
  refine pw_sub [2, 3, 4, 1, 0] [(0, .ref (G.1 + 2)), (1, .int x1), (2, .int x2), (3, .int v1), (4, .int (0 : Int32))] rfl ?_
  exact kl_X3_number_8 FU x1 x2 v1 (0 : Int32) m z9 z10 h11 hL8_h11
theorem fi_X3_readLaw_3 : ∀ w ∈ wsX30, w ∈ wsX3_readLaw := by decide +kernel
theorem lk_X3_readLaw_12 : Cond.fieldLink RX3 12 (TX3 0).1 (TX3 0).2.1 (TX3 0).2.2.1 ∈ wsX3_readLaw := by decide +kernel
theorem fi_X3_readLaw_5 : ∀ w ∈ wsX50, w ∈ wsX3_readLaw := by decide +kernel
theorem lk_X3_readLaw_50 : Cond.fieldLink RX3 50 (TX5 1).1 (TX5 1).2.1 (TX5 1).2.2.1 ∈ wsX3_readLaw := by decide +kernel
theorem lk_X3_readLaw_53 : Cond.fieldLink RX3 53 (TX5 2).1 (TX5 2).2.1 (TX5 2).2.2.1 ∈ wsX3_readLaw := by decide +kernel
set_option maxHeartbeats 4000000 in
set_option maxRecDepth 100000 in
theorem k_X3_readLaw {l : Launch} {G : Gx}  {m mF : Mm} {r : Int32}  (h : f_X3_readLaw m = some (r, mF)) : Cn l G 2 yX3_readLaw wsX3_readLaw [.ref (G.1 + 2)] m (Qi G r mF) := by
  unfold f_X3_readLaw at h
  refine Cn.of (own := RX3) (lv := [(0, .ref (G.1 + 2))]) (by decide) rfl rfl (Nat.le_of_ble_eq_true rfl) rfl ?_
  refine pw_aload_n 0 rfl rfl 1 dX3_readLaw_0 rfl ?_
  refine pw_bipush (v := (119 : Int32)) (by decide) 3 dX3_readLaw_1 rfl ?_
  obtain ⟨r2, m1, hr2, h⟩ := bd2_e h
  refine pw_callVi 6 dX3_readLaw_3 rfl [.int (119 : Int32)] 1 ⟨gX3_readLaw_X3_sign, rfl, sgV_X3_sign, ⟨Nat.le_of_ble_eq_true rfl, Nat.le_of_ble_eq_true rfl⟩, ⟨Nat.le_refl _, Nat.le_refl _⟩⟩ ly_2 (by decide) la_2 rfl (k_X3_sign hr2) rfl rfl (Nat.le_of_ble_eq_true rfl) ?_
  refine pw_if_ne 11 9 dX3_readLaw_6 (by decide) rfl (fun c3 => ?_) (fun c3 => ?_)
  · have h := if_f h c3
    refine pw_aload_n 0 rfl rfl 12 dX3_readLaw_11 rfl ?_
    refine pw_getR 0 15 dX3_readLaw_12 rfl fi_X3_readLaw_3 lk_X3_readLaw_12 la_2 ly_2 (by decide) rfl (by decide) rfl rf_2_0 ?_
    refine pw_aload_n 0 rfl rfl 16 dX3_readLaw_15 rfl ?_
    refine pw_iconst (v := (1 : Int32)) (by decide) 17 dX3_readLaw_16 rfl ?_
    refine pw_bipush (v := (99 : Int32)) (by decide) 19 dX3_readLaw_17 rfl ?_
    obtain ⟨r5, m4, hr5, h⟩ := bd2_e h
    refine pw_callVi 22 dX3_readLaw_19 rfl [.int (1 : Int32), .int (99 : Int32)] 2 ⟨gX3_readLaw_X3_number, rfl, sgV_X3_number, ⟨Nat.le_of_ble_eq_true rfl, Nat.le_of_ble_eq_true rfl⟩, ⟨Nat.le_refl _, Nat.le_refl _⟩⟩ ly_2 (by decide) la_2 rfl (k_X3_number hr5) rfl rfl (Nat.le_of_ble_eq_true rfl) ?_
    refine pw_put (ty0 := tyX5) (ty := .int) 1 25 dX3_readLaw_22 rfl fi_X3_readLaw_5 tyX5_ok nmX5 lk_X3_readLaw_50 la_3 ly_3 (by decide) rfl (by decide) rfl rfl rfl rfl rfl ?_
    obtain ⟨m6, em6, h⟩ := nmE_ h
    refine pw_mem em6 ?_
    refine pw_aload_n 0 rfl rfl 26 dX3_readLaw_25 rfl ?_
    refine pw_getR 0 29 dX3_readLaw_26 rfl fi_X3_readLaw_3 lk_X3_readLaw_12 la_2 ly_2 (by decide) rfl (by decide) rfl rf_2_0 ?_
    refine pw_getI 1 32 dX3_readLaw_29 rfl fi_X3_readLaw_5 lk_X3_readLaw_50 la_3 ly_3 (by decide) rfl (by decide) rfl ?_
    refine pw_if_lt 44 35 dX3_readLaw_32 (by decide) rfl (fun c7 => ?_) (fun c7 => ?_)
    · have h := if_t h c7
      refine pw_iconst (v := (0 : Int32)) (by decide) 45 dX3_readLaw_44 rfl ?_
      exact pw_zret dX3_readLaw_45 (by decide) (pr_inj h)
    · have h := if_f h c7
      refine pw_aload_n 0 rfl rfl 36 dX3_readLaw_35 rfl ?_
      refine pw_bipush (v := (44 : Int32)) (by decide) 38 dX3_readLaw_36 rfl ?_
      obtain ⟨r9, m8, hr9, h⟩ := bd2_e h
      refine pw_callVi 41 dX3_readLaw_38 rfl [.int (44 : Int32)] 1 ⟨gX3_readLaw_X3_sign, rfl, sgV_X3_sign, ⟨Nat.le_of_ble_eq_true rfl, Nat.le_of_ble_eq_true rfl⟩, ⟨Nat.le_refl _, Nat.le_refl _⟩⟩ ly_2 (by decide) la_2 rfl (k_X3_sign hr9) rfl rfl (Nat.le_of_ble_eq_true rfl) ?_
      refine pw_if_ne 46 44 dX3_readLaw_41 (by decide) rfl (fun c10 => ?_) (fun c10 => ?_)
      · have h := if_f h c10
        refine pw_aload_n 0 rfl rfl 47 dX3_readLaw_46 rfl ?_
        refine pw_getR 0 50 dX3_readLaw_47 rfl fi_X3_readLaw_3 lk_X3_readLaw_12 la_2 ly_2 (by decide) rfl (by decide) rfl rf_2_0 ?_
        refine pw_aload_n 0 rfl rfl 51 dX3_readLaw_50 rfl ?_
        refine pw_iconst (v := (0 : Int32)) (by decide) 52 dX3_readLaw_51 rfl ?_
        refine pw_bipush (v := (15 : Int32)) (by decide) 54 dX3_readLaw_52 rfl ?_
        obtain ⟨r12, m11, hr12, h⟩ := bd2_e h
        refine pw_callVi 57 dX3_readLaw_54 rfl [.int (0 : Int32), .int (15 : Int32)] 2 ⟨gX3_readLaw_X3_number, rfl, sgV_X3_number, ⟨Nat.le_of_ble_eq_true rfl, Nat.le_of_ble_eq_true rfl⟩, ⟨Nat.le_refl _, Nat.le_refl _⟩⟩ ly_2 (by decide) la_2 rfl (k_X3_number hr12) rfl rfl (Nat.le_of_ble_eq_true rfl) ?_
        refine pw_put (ty0 := tyX5) (ty := .int) 2 60 dX3_readLaw_57 rfl fi_X3_readLaw_5 tyX5_ok nmX5 lk_X3_readLaw_53 la_3 ly_3 (by decide) rfl (by decide) rfl rfl rfl rfl rfl ?_
        obtain ⟨m13, em13, h⟩ := nmE_ h
        refine pw_mem em13 ?_
        refine pw_aload_n 0 rfl rfl 61 dX3_readLaw_60 rfl ?_
        refine pw_getR 0 64 dX3_readLaw_61 rfl fi_X3_readLaw_3 lk_X3_readLaw_12 la_2 ly_2 (by decide) rfl (by decide) rfl rf_2_0 ?_
        refine pw_getI 2 67 dX3_readLaw_64 rfl fi_X3_readLaw_5 lk_X3_readLaw_53 la_3 ly_3 (by decide) rfl (by decide) rfl ?_
        refine pw_if_lt 83 70 dX3_readLaw_67 (by decide) rfl (fun c14 => ?_) (fun c14 => ?_)
        · have h := if_t h c14
          refine pw_iconst (v := (0 : Int32)) (by decide) 84 dX3_readLaw_83 rfl ?_
          exact pw_zret dX3_readLaw_84 (by decide) (pr_inj h)
        · have h := if_f h c14
          refine pw_aload_n 0 rfl rfl 71 dX3_readLaw_70 rfl ?_
          refine pw_bipush (v := (59 : Int32)) (by decide) 73 dX3_readLaw_71 rfl ?_
          obtain ⟨r16, m15, hr16, h⟩ := bd2_e h
          refine pw_callVi 76 dX3_readLaw_73 rfl [.int (59 : Int32)] 1 ⟨gX3_readLaw_X3_sign, rfl, sgV_X3_sign, ⟨Nat.le_of_ble_eq_true rfl, Nat.le_of_ble_eq_true rfl⟩, ⟨Nat.le_refl _, Nat.le_refl _⟩⟩ ly_2 (by decide) la_2 rfl (k_X3_sign hr16) rfl rfl (Nat.le_of_ble_eq_true rfl) ?_
          refine pw_if_eq 83 79 dX3_readLaw_76 (by decide) rfl (fun c17 => ?_) (fun c17 => ?_)
          · have h := if_t h c17
            refine pw_iconst (v := (0 : Int32)) (by decide) 84 dX3_readLaw_83 rfl ?_
            exact pw_zret dX3_readLaw_84 (by decide) (pr_inj h)
          · have h := if_f h c17
            refine pw_iconst (v := (1 : Int32)) (by decide) 80 dX3_readLaw_79 rfl ?_
            refine pw_goto 84 dX3_readLaw_80 (by decide) ?_
            exact pw_zret dX3_readLaw_84 (by decide) (pr_inj h)
      · have h := if_t h c10
        refine pw_iconst (v := (0 : Int32)) (by decide) 45 dX3_readLaw_44 rfl ?_
        exact pw_zret dX3_readLaw_45 (by decide) (pr_inj h)
  · have h := if_t h c3
    refine pw_iconst (v := (0 : Int32)) (by decide) 10 dX3_readLaw_9 rfl ?_
    exact pw_zret dX3_readLaw_10 (by decide) (pr_inj h)
set_option maxHeartbeats 4000000 in
set_option maxRecDepth 100000 in
theorem k_X3_sortOf {l : Launch} {G : Gx} {x0 : Int32} {m : Mm} {r : Int32}  (h : f_X3_sortOf x0 = r) : Cn l G 0 yX3_sortOf wsX3_sortOf [.int x0] m (Qi G r m) := by
  unfold f_X3_sortOf at h
  refine Cn.of (own := RX3) (lv := [(0, .int x0)]) (by decide) rfl rfl (Nat.le_of_ble_eq_true rfl) rfl ?_
  refine pw_iload_n 0 rfl rfl 1 dX3_sortOf_0 rfl ?_
  by_cases c1_0 : x0 = (97 : Int32)
  · have h := if_t h c1_0
    refine pw_lookup (off := 51) 52 dX3_sortOf_1 (by decide) (by rw [c1_0]; rfl) (by decide) ?_
    refine pw_iconst (v := (1 : Int32)) (by decide) 53 dX3_sortOf_52 rfl ?_
    exact pw_iret dX3_sortOf_53 ⟨h, rfl⟩
  · have h := if_f h c1_0
    by_cases c1_1 : x0 = (99 : Int32)
    · have h := if_t h c1_1
      refine pw_lookup (off := 55) 56 dX3_sortOf_1 (by decide) (by rw [c1_1]; rfl) (by decide) ?_
      refine pw_iconst (v := (3 : Int32)) (by decide) 57 dX3_sortOf_56 rfl ?_
      exact pw_iret dX3_sortOf_57 ⟨h, rfl⟩
    · have h := if_f h c1_1
      by_cases c1_2 : x0 = (109 : Int32)
      · have h := if_t h c1_2
        refine pw_lookup (off := 57) 58 dX3_sortOf_1 (by decide) (by rw [c1_2]; rfl) (by decide) ?_
        refine pw_iconst (v := (4 : Int32)) (by decide) 59 dX3_sortOf_58 rfl ?_
        exact pw_iret dX3_sortOf_59 ⟨h, rfl⟩
      · have h := if_f h c1_2
        by_cases c1_3 : x0 = (111 : Int32)
        · have h := if_t h c1_3
          refine pw_lookup (off := 59) 60 dX3_sortOf_1 (by decide) (by rw [c1_3]; rfl) (by decide) ?_
          refine pw_iconst (v := (5 : Int32)) (by decide) 61 dX3_sortOf_60 rfl ?_
          exact pw_iret dX3_sortOf_61 ⟨h, rfl⟩
        · have h := if_f h c1_3
          by_cases c1_4 : x0 = (114 : Int32)
          · have h := if_t h c1_4
            refine pw_lookup (off := 53) 54 dX3_sortOf_1 (by decide) (by rw [c1_4]; rfl) (by decide) ?_
            refine pw_iconst (v := (2 : Int32)) (by decide) 55 dX3_sortOf_54 rfl ?_
            exact pw_iret dX3_sortOf_55 ⟨h, rfl⟩
          · have h := if_f h c1_4
            have c1_0_i : ¬ x0.toInt = 97 := fun e => c1_0 (Int32.toInt_inj.mp (e.trans rfl))
            have c1_1_i : ¬ x0.toInt = 99 := fun e => c1_1 (Int32.toInt_inj.mp (e.trans rfl))
            have c1_2_i : ¬ x0.toInt = 109 := fun e => c1_2 (Int32.toInt_inj.mp (e.trans rfl))
            have c1_3_i : ¬ x0.toInt = 111 := fun e => c1_3 (Int32.toInt_inj.mp (e.trans rfl))
            have c1_4_i : ¬ x0.toInt = 114 := fun e => c1_4 (Int32.toInt_inj.mp (e.trans rfl))
            refine pw_lookup (off := 61) 62 dX3_sortOf_1 (by decide) (by simp [Op.lookupswitch.offset, show ¬ (97 = x0.toInt) from fun e => c1_0_i e.symm, show ¬ (99 = x0.toInt) from fun e => c1_1_i e.symm, show ¬ (109 = x0.toInt) from fun e => c1_2_i e.symm, show ¬ (111 = x0.toInt) from fun e => c1_3_i e.symm, show ¬ (114 = x0.toInt) from fun e => c1_4_i e.symm]) (by decide) ?_
            refine pw_iconst (v := (0 : Int32)) (by decide) 63 dX3_sortOf_62 rfl ?_
            exact pw_iret dX3_sortOf_63 ⟨h, rfl⟩
theorem fi_X5_welcome_5 : ∀ w ∈ wsX50, w ∈ wsX5_welcome := by decide +kernel
theorem lk_X5_welcome_9 : Cond.fieldLink RX5 9 (TX5 7).1 (TX5 7).2.1 (TX5 7).2.2.1 ∈ wsX5_welcome := by decide +kernel
theorem lk_X5_welcome_36 : Cond.fieldLink RX5 36 (TX5 0).1 (TX5 0).2.1 (TX5 0).2.2.1 ∈ wsX5_welcome := by decide +kernel
theorem lk_X5_welcome_15 : Cond.fieldLink RX5 15 (TX5 8).1 (TX5 8).2.1 (TX5 8).2.2.1 ∈ wsX5_welcome := by decide +kernel
theorem lk_X5_welcome_21 : Cond.fieldLink RX5 21 (TX5 10).1 (TX5 10).2.1 (TX5 10).2.2.1 ∈ wsX5_welcome := by decide +kernel
theorem lk_X5_welcome_18 : Cond.fieldLink RX5 18 (TX5 9).1 (TX5 9).2.1 (TX5 9).2.2.1 ∈ wsX5_welcome := by decide +kernel
theorem lk_X5_welcome_24 : Cond.fieldLink RX5 24 (TX5 11).1 (TX5 11).2.1 (TX5 11).2.2.1 ∈ wsX5_welcome := by decide +kernel
theorem lk_X5_welcome_27 : Cond.fieldLink RX5 27 (TX5 12).1 (TX5 12).2.1 (TX5 12).2.2.1 ∈ wsX5_welcome := by decide +kernel
theorem lk_X5_welcome_30 : Cond.fieldLink RX5 30 (TX5 13).1 (TX5 13).2.1 (TX5 13).2.2.1 ∈ wsX5_welcome := by decide +kernel
theorem lk_X5_welcome_40 : Cond.fieldLink RX5 40 (TX5 6).1 (TX5 6).2.1 (TX5 6).2.2.1 ∈ wsX5_welcome := by decide +kernel
set_option maxHeartbeats 4000000 in
set_option maxRecDepth 100000 in
theorem k_X5_welcome {l : Launch} {G : Gx} {w0 : Nat} {x1 : Int32} {x2 : Int32} {x3 : Int32} {x4 : Int32} {m mF : Mm}  (hw0 : IsW w0) (h : f_X5_welcome w0 x1 x2 x3 x4 m = some mF) : Cn l G 0 yX5_welcome wsX5_welcome [.ref (G.1 + w0), .int x1, .int x2, .int x3, .int x4] m (Qv G mF) := by
  unfold f_X5_welcome at h
  refine Cn.of (own := RX5) (lv := [(0, .ref (G.1 + w0)), (1, .int x1), (2, .int x2), (3, .int x3), (4, .int x4)]) (by decide) rfl rfl (Nat.le_of_ble_eq_true rfl) rfl ?_
  refine pw_aload_n 0 rfl rfl 1 dX5_welcome_0 rfl ?_
  refine pw_getR 7 4 dX5_welcome_1 rfl fi_X5_welcome_5 lk_X5_welcome_9 hw0.lt hw0.o (by decide) rfl (by decide) rfl hw0.rf7 ?_
  refine pw_aload_n 0 rfl rfl 5 dX5_welcome_4 rfl ?_
  refine pw_getI 0 8 dX5_welcome_5 rfl fi_X5_welcome_5 lk_X5_welcome_36 hw0.lt hw0.o (by decide) rfl (by decide) rfl ?_
  refine pw_iload_n 1 rfl rfl 9 dX5_welcome_8 rfl ?_
  obtain ⟨h20, h⟩ := gd_e h
  refine pw_iast 10 dX5_welcome_9 rfl hw0.lt1 hw0.o1 h20 ?_
  obtain ⟨m1, em1, h⟩ := nmE_ h
  refine pw_mem em1 ?_
  refine pw_aload_n 0 rfl rfl 11 dX5_welcome_10 rfl ?_
  refine pw_getR 8 14 dX5_welcome_11 rfl fi_X5_welcome_5 lk_X5_welcome_15 hw0.lt hw0.o (by decide) rfl (by decide) rfl hw0.rf8 ?_
  refine pw_aload_n 0 rfl rfl 15 dX5_welcome_14 rfl ?_
  refine pw_getI 0 18 dX5_welcome_15 rfl fi_X5_welcome_5 lk_X5_welcome_36 hw0.lt hw0.o (by decide) rfl (by decide) rfl ?_
  refine pw_iload_n 2 rfl rfl 19 dX5_welcome_18 rfl ?_
  obtain ⟨h19, h⟩ := gd_e h
  refine pw_iast 20 dX5_welcome_19 rfl hw0.lt2 hw0.o2 h19 ?_
  obtain ⟨m2, em2, h⟩ := nmE_ h
  refine pw_mem em2 ?_
  refine pw_aload_n 0 rfl rfl 21 dX5_welcome_20 rfl ?_
  refine pw_getR 10 24 dX5_welcome_21 rfl fi_X5_welcome_5 lk_X5_welcome_21 hw0.lt hw0.o (by decide) rfl (by decide) rfl hw0.rf10 ?_
  refine pw_aload_n 0 rfl rfl 25 dX5_welcome_24 rfl ?_
  refine pw_getI 0 28 dX5_welcome_25 rfl fi_X5_welcome_5 lk_X5_welcome_36 hw0.lt hw0.o (by decide) rfl (by decide) rfl ?_
  refine pw_iload_n 3 rfl rfl 29 dX5_welcome_28 rfl ?_
  obtain ⟨h18, h⟩ := gd_e h
  refine pw_iast 30 dX5_welcome_29 rfl hw0.lt4 hw0.o4 h18 ?_
  obtain ⟨m3, em3, h⟩ := nmE_ h
  refine pw_mem em3 ?_
  refine pw_aload_n 0 rfl rfl 31 dX5_welcome_30 rfl ?_
  refine pw_getR 9 34 dX5_welcome_31 rfl fi_X5_welcome_5 lk_X5_welcome_18 hw0.lt hw0.o (by decide) rfl (by decide) rfl hw0.rf9 ?_
  refine pw_aload_n 0 rfl rfl 35 dX5_welcome_34 rfl ?_
  refine pw_getI 0 38 dX5_welcome_35 rfl fi_X5_welcome_5 lk_X5_welcome_36 hw0.lt hw0.o (by decide) rfl (by decide) rfl ?_
  refine pw_iload 4 rfl 40 dX5_welcome_38 rfl ?_
  obtain ⟨h17, h⟩ := gd_e h
  refine pw_iast 41 dX5_welcome_40 rfl hw0.lt3 hw0.o3 h17 ?_
  obtain ⟨m4, em4, h⟩ := nmE_ h
  refine pw_mem em4 ?_
  refine pw_aload_n 0 rfl rfl 42 dX5_welcome_41 rfl ?_
  refine pw_getR 11 45 dX5_welcome_42 rfl fi_X5_welcome_5 lk_X5_welcome_24 hw0.lt hw0.o (by decide) rfl (by decide) rfl hw0.rf11 ?_
  refine pw_aload_n 0 rfl rfl 46 dX5_welcome_45 rfl ?_
  refine pw_getI 0 49 dX5_welcome_46 rfl fi_X5_welcome_5 lk_X5_welcome_36 hw0.lt hw0.o (by decide) rfl (by decide) rfl ?_
  refine pw_iconst (v := (0 : Int32)) (by decide) 50 dX5_welcome_49 rfl ?_
  obtain ⟨h16, h⟩ := gd_e h
  refine pw_iast 51 dX5_welcome_50 rfl hw0.lt5 hw0.o5 h16 ?_
  obtain ⟨m5, em5, h⟩ := nmE_ h
  refine pw_mem em5 ?_
  refine pw_aload_n 0 rfl rfl 52 dX5_welcome_51 rfl ?_
  refine pw_getR 12 55 dX5_welcome_52 rfl fi_X5_welcome_5 lk_X5_welcome_27 hw0.lt hw0.o (by decide) rfl (by decide) rfl hw0.rf12 ?_
  refine pw_aload_n 0 rfl rfl 56 dX5_welcome_55 rfl ?_
  refine pw_getI 0 59 dX5_welcome_56 rfl fi_X5_welcome_5 lk_X5_welcome_36 hw0.lt hw0.o (by decide) rfl (by decide) rfl ?_
  refine pw_aload_n 0 rfl rfl 60 dX5_welcome_59 rfl ?_
  refine pw_getI 0 63 dX5_welcome_60 rfl fi_X5_welcome_5 lk_X5_welcome_36 hw0.lt hw0.o (by decide) rfl (by decide) rfl ?_
  obtain ⟨v6, ev6, h⟩ := nmE_ h
  refine pw_top ev6 ?_
  obtain ⟨h15, h⟩ := gd_e h
  refine pw_iast 64 dX5_welcome_63 rfl hw0.lt6 hw0.o6 h15 ?_
  obtain ⟨m7, em7, h⟩ := nmE_ h
  refine pw_mem em7 ?_
  refine pw_aload_n 0 rfl rfl 65 dX5_welcome_64 rfl ?_
  refine pw_getR 13 68 dX5_welcome_65 rfl fi_X5_welcome_5 lk_X5_welcome_30 hw0.lt hw0.o (by decide) rfl (by decide) rfl hw0.rf13 ?_
  refine pw_aload_n 0 rfl rfl 69 dX5_welcome_68 rfl ?_
  refine pw_getI 0 72 dX5_welcome_69 rfl fi_X5_welcome_5 lk_X5_welcome_36 hw0.lt hw0.o (by decide) rfl (by decide) rfl ?_
  refine pw_aload_n 0 rfl rfl 73 dX5_welcome_72 rfl ?_
  refine pw_getI 0 76 dX5_welcome_73 rfl fi_X5_welcome_5 lk_X5_welcome_36 hw0.lt hw0.o (by decide) rfl (by decide) rfl ?_
  obtain ⟨v8, ev8, h⟩ := nmE_ h
  refine pw_top ev8 ?_
  obtain ⟨h14, h⟩ := gd_e h
  refine pw_iast 77 dX5_welcome_76 rfl hw0.lt7 hw0.o7 h14 ?_
  obtain ⟨m9, em9, h⟩ := nmE_ h
  refine pw_mem em9 ?_
  refine pw_aload_n 0 rfl rfl 78 dX5_welcome_77 rfl ?_
  refine pw_aload_n 0 rfl rfl 79 dX5_welcome_78 rfl ?_
  refine pw_getI 6 82 dX5_welcome_79 rfl fi_X5_welcome_5 lk_X5_welcome_40 hw0.lt hw0.o (by decide) rfl (by decide) rfl ?_
  refine pw_iconst (v := (1 : Int32)) (by decide) 83 dX5_welcome_82 rfl ?_
  refine pw_aload_n 0 rfl rfl 84 dX5_welcome_83 rfl ?_
  refine pw_getI 0 87 dX5_welcome_84 rfl fi_X5_welcome_5 lk_X5_welcome_36 hw0.lt hw0.o (by decide) rfl (by decide) rfl ?_
  refine pw_ishl 88 dX5_welcome_87 rfl ?_
  refine pw_ior 89 dX5_welcome_88 rfl ?_
  obtain ⟨v10, ev10, h⟩ := nmE_ h
  refine pw_top ev10 ?_
  refine pw_put (ty0 := tyX5) (ty := .int) 6 92 dX5_welcome_89 rfl fi_X5_welcome_5 tyX5_ok nmX5 lk_X5_welcome_40 hw0.lt hw0.o (by decide) rfl (by decide) rfl rfl rfl rfl rfl ?_
  obtain ⟨m11, em11, h⟩ := nmE_ h
  refine pw_mem em11 ?_
  refine pw_aload_n 0 rfl rfl 93 dX5_welcome_92 rfl ?_
  refine pw_dup rfl 94 dX5_welcome_93 rfl ?_
  refine pw_getI 0 97 dX5_welcome_94 rfl fi_X5_welcome_5 lk_X5_welcome_36 hw0.lt hw0.o (by decide) rfl (by decide) rfl ?_
  refine pw_iconst (v := (1 : Int32)) (by decide) 98 dX5_welcome_97 rfl ?_
  refine pw_iadd 99 dX5_welcome_98 rfl ?_
  obtain ⟨v12, ev12, h⟩ := nmE_ h
  refine pw_top ev12 ?_
  refine pw_put (ty0 := tyX5) (ty := .int) 0 102 dX5_welcome_99 rfl fi_X5_welcome_5 tyX5_ok nmX5 lk_X5_welcome_36 hw0.lt hw0.o (by decide) rfl (by decide) rfl rfl rfl rfl rfl ?_
  obtain ⟨m13, em13, h⟩ := nmE_ h
  refine pw_mem em13 ?_
  exact pw_vret dX5_welcome_102 (Option.some.inj h)
theorem fi_X3_readGuest_3 : ∀ w ∈ wsX30, w ∈ wsX3_readGuest := by decide +kernel
theorem lk_X3_readGuest_26 : Cond.fieldLink RX3 26 (TX3 3).1 (TX3 3).2.1 (TX3 3).2.2.1 ∈ wsX3_readGuest := by decide +kernel
theorem lk_X3_readGuest_22 : Cond.fieldLink RX3 22 (TX3 2).1 (TX3 2).2.1 (TX3 2).2.2.1 ∈ wsX3_readGuest := by decide +kernel
theorem lk_X3_readGuest_18 : Cond.fieldLink RX3 18 (TX3 1).1 (TX3 1).2.1 (TX3 1).2.2.1 ∈ wsX3_readGuest := by decide +kernel
theorem lk_X3_readGuest_12 : Cond.fieldLink RX3 12 (TX3 0).1 (TX3 0).2.1 (TX3 0).2.2.1 ∈ wsX3_readGuest := by decide +kernel
theorem fi_X3_readGuest_5 : ∀ w ∈ wsX50, w ∈ wsX3_readGuest := by decide +kernel
theorem lk_X3_readGuest_29 : Cond.fieldLink RX3 29 (TX5 0).1 (TX5 0).2.1 (TX5 0).2.2.1 ∈ wsX3_readGuest := by decide +kernel
set_option maxHeartbeats 4000000 in
set_option maxRecDepth 100000 in
theorem k_X3_readGuest {l : Launch} {G : Gx}  {m mF : Mm} {r : Int32}  (h : f_X3_readGuest m = some (r, mF)) : Cn l G 2 yX3_readGuest wsX3_readGuest [.ref (G.1 + 2)] m (Qi G r mF) := by
  unfold f_X3_readGuest at h
  refine Cn.of (own := RX3) (lv := [(0, .ref (G.1 + 2))]) (by decide) rfl rfl (Nat.le_of_ble_eq_true rfl) rfl ?_
  refine pw_aload_n 0 rfl rfl 1 dX3_readGuest_0 rfl ?_
  refine pw_getI 3 4 dX3_readGuest_1 rfl fi_X3_readGuest_3 lk_X3_readGuest_26 la_2 ly_2 (by decide) rfl (by decide) rfl ?_
  refine pw_aload_n 0 rfl rfl 5 dX3_readGuest_4 rfl ?_
  refine pw_getI 2 8 dX3_readGuest_5 rfl fi_X3_readGuest_3 lk_X3_readGuest_22 la_2 ly_2 (by decide) rfl (by decide) rfl ?_
  obtain ⟨j3, qj3, h⟩ := bd1_e h
  have hJ27_j3 : PW G (KM l G RX3 cX3_readGuest 5 (some .boolean) wsX3_readGuest 2 (Qi G r mF)) 27 [(0, .ref (G.1 + 2))] [.int j3] m := by
    refine pw_istore_n (hf := rfl) [(1, .int j3), (0, .ref (G.1 + 2))] 28 dX3_readGuest_27 rfl (Nat.le_of_ble_eq_true rfl) rfl ?_
    refine pw_iload_n 0 rfl rfl 29 dX3_readGuest_28 rfl ?_
    refine pw_if_ne 38 32 dX3_readGuest_29 (by decide) rfl (fun c4 => ?_) (fun c4 => ?_)
    · have h := if_f h c4
      refine pw_aload_n 1 rfl rfl 39 dX3_readGuest_38 rfl ?_
      refine pw_getR 0 42 dX3_readGuest_39 rfl fi_X3_readGuest_3 lk_X3_readGuest_12 la_2 ly_2 (by decide) rfl (by decide) rfl rf_2_0 ?_
      refine pw_getI 0 45 dX3_readGuest_42 rfl fi_X3_readGuest_5 lk_X3_readGuest_29 la_3 ly_3 (by decide) rfl (by decide) rfl ?_
      refine pw_bipush (v := (7 : Int32)) (by decide) 47 dX3_readGuest_45 rfl ?_
      refine pw_icmp_lt 56 50 dX3_readGuest_47 (by decide) rfl (fun c5 => ?_) (fun c5 => ?_)
      · have h := if_t h c5
        refine pw_aload_n 1 rfl rfl 57 dX3_readGuest_56 rfl ?_
        refine pw_dup rfl 58 dX3_readGuest_57 rfl ?_
        refine pw_getI 3 61 dX3_readGuest_58 rfl fi_X3_readGuest_3 lk_X3_readGuest_26 la_2 ly_2 (by decide) rfl (by decide) rfl ?_
        refine pw_iconst (v := (1 : Int32)) (by decide) 62 dX3_readGuest_61 rfl ?_
        refine pw_iadd 63 dX3_readGuest_62 rfl ?_
        obtain ⟨v6, ev6, h⟩ := nmE_ h
        refine pw_top ev6 ?_
        refine pw_put (ty0 := tyX3) (ty := .int) 3 66 dX3_readGuest_63 rfl fi_X3_readGuest_3 tyX3_ok nmX3 lk_X3_readGuest_26 la_2 ly_2 (by decide) rfl (by decide) rfl rfl rfl rfl rfl ?_
        obtain ⟨m7, em7, h⟩ := nmE_ h
        refine pw_mem em7 ?_
        refine pw_aload_n 1 rfl rfl 67 dX3_readGuest_66 rfl ?_
        refine pw_iconst (v := (0 : Int32)) (by decide) 68 dX3_readGuest_67 rfl ?_
        refine pw_bipush (v := (9 : Int32)) (by decide) 70 dX3_readGuest_68 rfl ?_
        obtain ⟨r9, m8, hr9, h⟩ := bd2_e h
        refine pw_callVi 73 dX3_readGuest_70 rfl [.int (0 : Int32), .int (9 : Int32)] 2 ⟨gX3_readGuest_X3_number, rfl, sgV_X3_number, ⟨Nat.le_of_ble_eq_true rfl, Nat.le_of_ble_eq_true rfl⟩, ⟨Nat.le_refl _, Nat.le_refl _⟩⟩ ly_2 (by decide) la_2 rfl (k_X3_number hr9) rfl rfl (Nat.le_of_ble_eq_true rfl) ?_
        refine pw_istore_n (hf := rfl) [(2, .int r9), (1, .int j3), (0, .ref (G.1 + 2))] 74 dX3_readGuest_73 rfl (Nat.le_of_ble_eq_true rfl) rfl ?_
        refine pw_iload_n 0 rfl rfl 75 dX3_readGuest_74 rfl ?_
        refine pw_if_lt 87 78 dX3_readGuest_75 (by decide) rfl (fun c10 => ?_) (fun c10 => ?_)
        · have h := if_t h c10
          refine pw_iconst (v := (0 : Int32)) (by decide) 88 dX3_readGuest_87 rfl ?_
          exact pw_zret dX3_readGuest_88 (by decide) (pr_inj h)
        · have h := if_f h c10
          refine pw_aload_n 2 rfl rfl 79 dX3_readGuest_78 rfl ?_
          refine pw_bipush (v := (44 : Int32)) (by decide) 81 dX3_readGuest_79 rfl ?_
          obtain ⟨r12, m11, hr12, h⟩ := bd2_e h
          refine pw_callVi 84 dX3_readGuest_81 rfl [.int (44 : Int32)] 1 ⟨gX3_readGuest_X3_sign, rfl, sgV_X3_sign, ⟨Nat.le_of_ble_eq_true rfl, Nat.le_of_ble_eq_true rfl⟩, ⟨Nat.le_refl _, Nat.le_refl _⟩⟩ ly_2 (by decide) la_2 rfl (k_X3_sign hr12) rfl rfl (Nat.le_of_ble_eq_true rfl) ?_
          refine pw_if_ne 89 87 dX3_readGuest_84 (by decide) rfl (fun c13 => ?_) (fun c13 => ?_)
          · have h := if_f h c13
            refine pw_aload_n 2 rfl rfl 90 dX3_readGuest_89 rfl ?_
            refine pw_iconst (v := (0 : Int32)) (by decide) 91 dX3_readGuest_90 rfl ?_
            refine pw_bipush (v := (99 : Int32)) (by decide) 93 dX3_readGuest_91 rfl ?_
            obtain ⟨r15, m14, hr15, h⟩ := bd2_e h
            refine pw_callVi 96 dX3_readGuest_93 rfl [.int (0 : Int32), .int (99 : Int32)] 2 ⟨gX3_readGuest_X3_number, rfl, sgV_X3_number, ⟨Nat.le_of_ble_eq_true rfl, Nat.le_of_ble_eq_true rfl⟩, ⟨Nat.le_refl _, Nat.le_refl _⟩⟩ ly_2 (by decide) la_2 rfl (k_X3_number hr15) rfl rfl (Nat.le_of_ble_eq_true rfl) ?_
            refine pw_istore_n (hf := rfl) [(3, .int r15), (2, .int r9), (1, .int j3), (0, .ref (G.1 + 2))] 97 dX3_readGuest_96 rfl (Nat.le_of_ble_eq_true rfl) rfl ?_
            refine pw_iload_n 0 rfl rfl 98 dX3_readGuest_97 rfl ?_
            refine pw_if_lt 110 101 dX3_readGuest_98 (by decide) rfl (fun c16 => ?_) (fun c16 => ?_)
            · have h := if_t h c16
              refine pw_iconst (v := (0 : Int32)) (by decide) 111 dX3_readGuest_110 rfl ?_
              exact pw_zret dX3_readGuest_111 (by decide) (pr_inj h)
            · have h := if_f h c16
              refine pw_aload_n 3 rfl rfl 102 dX3_readGuest_101 rfl ?_
              refine pw_bipush (v := (44 : Int32)) (by decide) 104 dX3_readGuest_102 rfl ?_
              obtain ⟨r18, m17, hr18, h⟩ := bd2_e h
              refine pw_callVi 107 dX3_readGuest_104 rfl [.int (44 : Int32)] 1 ⟨gX3_readGuest_X3_sign, rfl, sgV_X3_sign, ⟨Nat.le_of_ble_eq_true rfl, Nat.le_of_ble_eq_true rfl⟩, ⟨Nat.le_refl _, Nat.le_refl _⟩⟩ ly_2 (by decide) la_2 rfl (k_X3_sign hr18) rfl rfl (Nat.le_of_ble_eq_true rfl) ?_
              refine pw_if_ne 112 110 dX3_readGuest_107 (by decide) rfl (fun c19 => ?_) (fun c19 => ?_)
              · have h := if_f h c19
                refine pw_aload_n 3 rfl rfl 113 dX3_readGuest_112 rfl ?_
                refine pw_iconst (v := (0 : Int32)) (by decide) 114 dX3_readGuest_113 rfl ?_
                refine pw_bipush (v := (9 : Int32)) (by decide) 116 dX3_readGuest_114 rfl ?_
                obtain ⟨r21, m20, hr21, h⟩ := bd2_e h
                refine pw_callVi 119 dX3_readGuest_116 rfl [.int (0 : Int32), .int (9 : Int32)] 2 ⟨gX3_readGuest_X3_number, rfl, sgV_X3_number, ⟨Nat.le_of_ble_eq_true rfl, Nat.le_of_ble_eq_true rfl⟩, ⟨Nat.le_refl _, Nat.le_refl _⟩⟩ ly_2 (by decide) la_2 rfl (k_X3_number hr21) rfl rfl (Nat.le_of_ble_eq_true rfl) ?_
                refine pw_istore [(4, .int r21), (3, .int r15), (2, .int r9), (1, .int j3), (0, .ref (G.1 + 2))] 121 dX3_readGuest_119 rfl (Nat.le_of_ble_eq_true rfl) rfl ?_
                refine pw_iload 0 rfl 123 dX3_readGuest_121 rfl ?_
                refine pw_if_lt 135 126 dX3_readGuest_123 (by decide) rfl (fun c22 => ?_) (fun c22 => ?_)
                · have h := if_t h c22
                  refine pw_iconst (v := (0 : Int32)) (by decide) 136 dX3_readGuest_135 rfl ?_
                  exact pw_zret dX3_readGuest_136 (by decide) (pr_inj h)
                · have h := if_f h c22
                  refine pw_aload_n 4 rfl rfl 127 dX3_readGuest_126 rfl ?_
                  refine pw_bipush (v := (59 : Int32)) (by decide) 129 dX3_readGuest_127 rfl ?_
                  obtain ⟨r24, m23, hr24, h⟩ := bd2_e h
                  refine pw_callVi 132 dX3_readGuest_129 rfl [.int (59 : Int32)] 1 ⟨gX3_readGuest_X3_sign, rfl, sgV_X3_sign, ⟨Nat.le_of_ble_eq_true rfl, Nat.le_of_ble_eq_true rfl⟩, ⟨Nat.le_refl _, Nat.le_refl _⟩⟩ ly_2 (by decide) la_2 rfl (k_X3_sign hr24) rfl rfl (Nat.le_of_ble_eq_true rfl) ?_
                  refine pw_if_ne 137 135 dX3_readGuest_132 (by decide) rfl (fun c25 => ?_) (fun c25 => ?_)
                  · have h := if_f h c25
                    refine pw_aload_n 4 rfl rfl 138 dX3_readGuest_137 rfl ?_
                    refine pw_getR 0 141 dX3_readGuest_138 rfl fi_X3_readGuest_3 lk_X3_readGuest_12 la_2 ly_2 (by decide) rfl (by decide) rfl rf_2_0 ?_
                    refine pw_iload_n 3 rfl rfl 142 dX3_readGuest_141 rfl ?_
                    refine pw_iload_n 2 rfl rfl 143 dX3_readGuest_142 rfl ?_
                    refine pw_iload_n 1 rfl rfl 144 dX3_readGuest_143 rfl ?_
                    refine pw_iload 0 rfl 146 dX3_readGuest_144 rfl ?_
                    obtain ⟨m26, hm26, h⟩ := bd1_e h
                    refine pw_callVv 149 dX3_readGuest_146 rfl [.int j3, .int r9, .int r15, .int r21] 4 ⟨gX3_readGuest_X5_welcome, rfl, sgV_X5_welcome, ⟨Nat.le_of_ble_eq_true rfl, Nat.le_of_ble_eq_true rfl⟩, ⟨Nat.le_refl _, Nat.le_refl _⟩⟩ ly_3 (by decide) la_3 rfl (k_X5_welcome isW_3 hm26) rfl rfl (Nat.le_of_ble_eq_true rfl) ?_
                    refine pw_iconst (v := (1 : Int32)) (by decide) 150 dX3_readGuest_149 rfl ?_
                    exact pw_zret dX3_readGuest_150 (by decide) (pr_inj h)
                  · have h := if_t h c25
                    refine pw_iconst (v := (0 : Int32)) (by decide) 136 dX3_readGuest_135 rfl ?_
                    exact pw_zret dX3_readGuest_136 (by decide) (pr_inj h)
              · have h := if_t h c19
                refine pw_iconst (v := (0 : Int32)) (by decide) 111 dX3_readGuest_110 rfl ?_
                exact pw_zret dX3_readGuest_111 (by decide) (pr_inj h)
          · have h := if_t h c13
            refine pw_iconst (v := (0 : Int32)) (by decide) 88 dX3_readGuest_87 rfl ?_
            exact pw_zret dX3_readGuest_88 (by decide) (pr_inj h)
      · have h := if_f h c5
        refine pw_aload_n 1 rfl rfl 51 dX3_readGuest_50 rfl ?_
        refine pw_iconst (v := (3 : Int32)) (by decide) 52 dX3_readGuest_51 rfl ?_
        obtain ⟨r28, m27, hr28, h⟩ := bd2_e h
        refine pw_callVi 55 dX3_readGuest_52 rfl [.int (3 : Int32)] 1 ⟨gX3_readGuest_X3_refuse, rfl, sgV_X3_refuse, ⟨Nat.le_of_ble_eq_true rfl, Nat.le_of_ble_eq_true rfl⟩, ⟨Nat.le_refl _, Nat.le_refl _⟩⟩ ly_2 (by decide) la_2 rfl (k_X3_refuse hr28) rfl rfl (Nat.le_of_ble_eq_true rfl) ?_
        obtain ⟨h29, h⟩ := gd_e h
        exact pw_zret dX3_readGuest_55 h29 (pr_inj h)
    · have h := if_t h c4
      refine pw_aload_n 1 rfl rfl 33 dX3_readGuest_32 rfl ?_
      refine pw_iconst (v := (1 : Int32)) (by decide) 34 dX3_readGuest_33 rfl ?_
      obtain ⟨r31, m30, hr31, h⟩ := bd2_e h
      refine pw_callVi 37 dX3_readGuest_34 rfl [.int (1 : Int32)] 1 ⟨gX3_readGuest_X3_refuse, rfl, sgV_X3_refuse, ⟨Nat.le_of_ble_eq_true rfl, Nat.le_of_ble_eq_true rfl⟩, ⟨Nat.le_refl _, Nat.le_refl _⟩⟩ ly_2 (by decide) la_2 rfl (k_X3_refuse hr31) rfl rfl (Nat.le_of_ble_eq_true rfl) ?_
      obtain ⟨h32, h⟩ := gd_e h
      exact pw_zret dX3_readGuest_37 h32 (pr_inj h)
  refine pw_icmp_ge 26 11 dX3_readGuest_8 (by decide) rfl (fun c1 => ?_) (fun c1 => ?_)
  · have qj3 := if_t qj3 c1
    refine pw_iconst (v := (0 : Int32)) (by decide) 27 dX3_readGuest_26 rfl ?_
    refine pw_sub [0] [(0, .ref (G.1 + 2))] rfl ?_
    cases qj3; exact hJ27_j3
  · have qj3 := if_f qj3 c1
    refine pw_aload_n 0 rfl rfl 12 dX3_readGuest_11 rfl ?_
    refine pw_getR 1 15 dX3_readGuest_12 rfl fi_X3_readGuest_3 lk_X3_readGuest_18 la_2 ly_2 (by decide) rfl (by decide) rfl rf_2_1 ?_
    refine pw_aload_n 0 rfl rfl 16 dX3_readGuest_15 rfl ?_
    refine pw_getI 3 19 dX3_readGuest_16 rfl fi_X3_readGuest_3 lk_X3_readGuest_26 la_2 ly_2 (by decide) rfl (by decide) rfl ?_
    obtain ⟨h2, qj3⟩ := gd_e qj3
    refine pw_iald 20 dX3_readGuest_19 rfl la_12 ly_12 h2 ?_
    refine pw_callSi 23 dX3_readGuest_20 rfl [.int (m 12 (ix (m 2 3)))] 1 ⟨gX3_readGuest_X3_sortOf, rfl, sgS_X3_sortOf, ⟨Nat.le_of_ble_eq_true rfl, Nat.le_of_ble_eq_true rfl⟩, ⟨Nat.le_refl _, Nat.le_refl _⟩⟩ (k_X3_sortOf rfl) rfl rfl (Nat.le_of_ble_eq_true rfl) ?_
    refine pw_goto 27 dX3_readGuest_23 (by decide) ?_
    refine pw_sub [0] [(0, .ref (G.1 + 2))] rfl ?_
    cases qj3; exact hJ27_j3
theorem fi_X3_read_3 : ∀ w ∈ wsX30, w ∈ wsX3_read := by decide +kernel
theorem lk_X3_read_26 : Cond.fieldLink RX3 26 (TX3 3).1 (TX3 3).2.1 (TX3 3).2.2.1 ∈ wsX3_read := by decide +kernel
theorem lk_X3_read_12 : Cond.fieldLink RX3 12 (TX3 0).1 (TX3 0).2.1 (TX3 0).2.2.1 ∈ wsX3_read := by decide +kernel
theorem fi_X3_read_5 : ∀ w ∈ wsX50, w ∈ wsX3_read := by decide +kernel
theorem lk_X3_read_29 : Cond.fieldLink RX3 29 (TX5 0).1 (TX5 0).2.1 (TX5 0).2.2.1 ∈ wsX3_read := by decide +kernel
theorem lk_X3_read_32 : Cond.fieldLink RX3 32 (TX5 6).1 (TX5 6).2.1 (TX5 6).2.2.1 ∈ wsX3_read := by decide +kernel
theorem lk_X3_read_22 : Cond.fieldLink RX3 22 (TX3 2).1 (TX3 2).2.1 (TX3 2).2.2.1 ∈ wsX3_read := by decide +kernel
set_option maxHeartbeats 4000000 in
set_option maxRecDepth 100000 in
theorem kl_X3_read_43 {l : Launch} {G : Gx}  {r : Int32} {mF : Mm}  : ∀ (n : Nat) (y1 : Int32) (y2 : Int32) (m : Mm) (a0 : Int32) (a1 : Mm), lp_X3_read_43 n y1 y2 m = some (a0, a1) → PW G (KM l G RX3 cX3_read 3 (some .boolean) wsX3_read 3 (Qi G r mF)) 75 [(0, .ref (G.1 + 2)), (1, .int a0)] [] a1 → PW G (KM l G RX3 cX3_read 3 (some .boolean) wsX3_read 3 (Qi G r mF)) 43 [(0, .ref (G.1 + 2)), (1, .int y1), (2, .int y2)] [] m := by
  intro n
  induction n with
  | zero => intro y1 y2 m a0 a1 h hk; cases h
  | succ n ih =>
    intro y1 y2 m a0 a1 h hk
    have h : lb_X3_read_43 (lp_X3_read_43 n) y1 y2 m = _ := h
    unfold lb_X3_read_43 at h
    refine pw_iload_n 2 rfl rfl 44 dX3_read_43 rfl ?_
    refine pw_bipush (v := (110 : Int32)) (by decide) 46 dX3_read_44 rfl ?_
    refine pw_icmp_ge 75 49 dX3_read_46 (by decide) rfl (fun c12 => ?_) (fun c12 => ?_)
    · have h := if_t h c12
      refine pw_sub [0, 1] [(0, .ref (G.1 + 2)), (1, .int y1)] rfl ?_
      cases h; exact hk
    · have h := if_f h c12
      refine pw_iload_n 1 rfl rfl 50 dX3_read_49 rfl ?_
      refine pw_if_eq 75 53 dX3_read_50 (by decide) rfl (fun c13 => ?_) (fun c13 => ?_)
      · have h := if_t h c13
        refine pw_sub [0, 1] [(0, .ref (G.1 + 2)), (1, .int y1)] rfl ?_
        cases h; exact hk
      · have h := if_f h c13
        refine pw_aload_n 0 rfl rfl 54 dX3_read_53 rfl ?_
        refine pw_getI 3 57 dX3_read_54 rfl fi_X3_read_3 lk_X3_read_26 la_2 ly_2 (by decide) rfl (by decide) rfl ?_
        refine pw_aload_n 0 rfl rfl 58 dX3_read_57 rfl ?_
        refine pw_getI 2 61 dX3_read_58 rfl fi_X3_read_3 lk_X3_read_22 la_2 ly_2 (by decide) rfl (by decide) rfl ?_
        refine pw_icmp_ge 75 64 dX3_read_61 (by decide) rfl (fun c14 => ?_) (fun c14 => ?_)
        · have h := if_t h c14
          refine pw_sub [0, 1] [(0, .ref (G.1 + 2)), (1, .int y1)] rfl ?_
          cases h; exact hk
        · have h := if_f h c14
          refine pw_aload_n 0 rfl rfl 65 dX3_read_64 rfl ?_
          obtain ⟨r16, m15, hr16, h⟩ := bd2_e h
          refine pw_callVi 68 dX3_read_65 rfl [] 0 ⟨gX3_read_X3_readGuest, rfl, sgV_X3_readGuest, ⟨Nat.le_of_ble_eq_true rfl, Nat.le_of_ble_eq_true rfl⟩, ⟨Nat.le_refl _, Nat.le_refl _⟩⟩ ly_2 (by decide) la_2 rfl (k_X3_readGuest hr16) rfl rfl (Nat.le_of_ble_eq_true rfl) ?_
          refine pw_istore_n (hf := rfl) [(1, .int r16), (0, .ref (G.1 + 2)), (2, .int y2)] 69 dX3_read_68 rfl (Nat.le_of_ble_eq_true rfl) rfl ?_
          obtain ⟨v17, ev17, h⟩ := nmE_ h
          refine pw_iinc 2 rfl (by rw [ev17]; rfl) [(2, .int v17), (1, .int r16), (0, .ref (G.1 + 2))] 72 dX3_read_69 rfl (Nat.le_of_ble_eq_true rfl) rfl ?_
          refine pw_goto 43 dX3_read_72 (by decide) ?_
          refine pw_sub [2, 1, 0] [(0, .ref (G.1 + 2)), (1, .int r16), (2, .int v17)] rfl ?_
          exact ih r16 v17 m15 a0 a1 h hk
set_option maxHeartbeats 4000000 in
set_option maxRecDepth 100000 in
theorem k_X3_read {l : Launch} {G : Gx}  {m mF : Mm} {r : Int32}  (h : f_X3_read m = some (r, mF)) : Cn l G 3 yX3_read wsX3_read [.ref (G.1 + 2)] m (Qi G r mF) := by
  unfold f_X3_read at h
  refine Cn.of (own := RX3) (lv := [(0, .ref (G.1 + 2))]) (by decide) rfl rfl (Nat.le_of_ble_eq_true rfl) rfl ?_
  refine pw_aload_n 0 rfl rfl 1 dX3_read_0 rfl ?_
  refine pw_iconst (v := (0 : Int32)) (by decide) 2 dX3_read_1 rfl ?_
  refine pw_put (ty0 := tyX3) (ty := .int) 3 5 dX3_read_2 rfl fi_X3_read_3 tyX3_ok nmX3 lk_X3_read_26 la_2 ly_2 (by decide) rfl (by decide) rfl rfl rfl rfl rfl ?_
  obtain ⟨m1, em1, h⟩ := nmE_ h
  refine pw_mem em1 ?_
  refine pw_aload_n 0 rfl rfl 6 dX3_read_5 rfl ?_
  refine pw_getR 0 9 dX3_read_6 rfl fi_X3_read_3 lk_X3_read_12 la_2 ly_2 (by decide) rfl (by decide) rfl rf_2_0 ?_
  refine pw_iconst (v := (0 : Int32)) (by decide) 10 dX3_read_9 rfl ?_
  refine pw_put (ty0 := tyX5) (ty := .int) 0 13 dX3_read_10 rfl fi_X3_read_5 tyX5_ok nmX5 lk_X3_read_29 la_3 ly_3 (by decide) rfl (by decide) rfl rfl rfl rfl rfl ?_
  obtain ⟨m2, em2, h⟩ := nmE_ h
  refine pw_mem em2 ?_
  refine pw_aload_n 0 rfl rfl 14 dX3_read_13 rfl ?_
  refine pw_getR 0 17 dX3_read_14 rfl fi_X3_read_3 lk_X3_read_12 la_2 ly_2 (by decide) rfl (by decide) rfl rf_2_0 ?_
  refine pw_iconst (v := (0 : Int32)) (by decide) 18 dX3_read_17 rfl ?_
  refine pw_put (ty0 := tyX5) (ty := .int) 6 21 dX3_read_18 rfl fi_X3_read_5 tyX5_ok nmX5 lk_X3_read_32 la_3 ly_3 (by decide) rfl (by decide) rfl rfl rfl rfl rfl ?_
  obtain ⟨m3, em3, h⟩ := nmE_ h
  refine pw_mem em3 ?_
  refine pw_aload_n 0 rfl rfl 22 dX3_read_21 rfl ?_
  obtain ⟨r5, m4, hr5, h⟩ := bd2_e h
  refine pw_callVi 25 dX3_read_22 rfl [] 0 ⟨gX3_read_X3_readLaw, rfl, sgV_X3_readLaw, ⟨Nat.le_of_ble_eq_true rfl, Nat.le_of_ble_eq_true rfl⟩, ⟨Nat.le_refl _, Nat.le_refl _⟩⟩ ly_2 (by decide) la_2 rfl (k_X3_readLaw hr5) rfl rfl (Nat.le_of_ble_eq_true rfl) ?_
  obtain ⟨j10, m11, qj10, h⟩ := bd2_e h
  have hJ40_j10 : PW G (KM l G RX3 cX3_read 3 (some .boolean) wsX3_read 3 (Qi G r mF)) 40 [(0, .ref (G.1 + 2))] [.int j10] m11 := by
    refine pw_istore_n (hf := rfl) [(1, .int j10), (0, .ref (G.1 + 2))] 41 dX3_read_40 rfl (Nat.le_of_ble_eq_true rfl) rfl ?_
    refine pw_iconst (v := (0 : Int32)) (by decide) 42 dX3_read_41 rfl ?_
    refine pw_istore_n (hf := rfl) [(2, .int (0 : Int32)), (1, .int j10), (0, .ref (G.1 + 2))] 43 dX3_read_42 rfl (Nat.le_of_ble_eq_true rfl) rfl ?_
    obtain ⟨z18, m19, h20, h⟩ := bd2_e h
    have hL43_h20 : PW G (KM l G RX3 cX3_read 3 (some .boolean) wsX3_read 3 (Qi G r mF)) 75 [(0, .ref (G.1 + 2)), (1, .int z18)] [] m19 := by
      refine pw_aload_n 0 rfl rfl 76 dX3_read_75 rfl ?_
      refine pw_iconst (v := (0 : Int32)) (by decide) 77 dX3_read_76 rfl ?_
      refine pw_put (ty0 := tyX3) (ty := .int) 2 80 dX3_read_77 rfl fi_X3_read_3 tyX3_ok nmX3 lk_X3_read_22 la_2 ly_2 (by decide) rfl (by decide) rfl rfl rfl rfl rfl ?_
      obtain ⟨m21, em21, h⟩ := nmE_ h
      refine pw_mem em21 ?_
      refine pw_iload_n 1 rfl rfl 81 dX3_read_80 rfl ?_
      obtain ⟨h22, h⟩ := gd_e h
      exact pw_zret dX3_read_81 h22 (pr_inj h)
    refine pw_sub [2, 1, 0] [(0, .ref (G.1 + 2)), (1, .int j10), (2, .int (0 : Int32))] rfl ?_
    exact kl_X3_read_43 FU j10 (0 : Int32) m11 z18 m19 h20 hL43_h20
  refine pw_if_eq 39 28 dX3_read_25 (by decide) rfl (fun c6 => ?_) (fun c6 => ?_)
  · have qj10 := if_t qj10 c6
    refine pw_iconst (v := (0 : Int32)) (by decide) 40 dX3_read_39 rfl ?_
    refine pw_sub [0] [(0, .ref (G.1 + 2))] rfl ?_
    cases qj10; exact hJ40_j10
  · have qj10 := if_f qj10 c6
    refine pw_aload_n 0 rfl rfl 29 dX3_read_28 rfl ?_
    obtain ⟨r8, m7, hr8, qj10⟩ := bd2_e qj10
    refine pw_callVi 32 dX3_read_29 rfl [] 0 ⟨gX3_read_X3_readGuest, rfl, sgV_X3_readGuest, ⟨Nat.le_of_ble_eq_true rfl, Nat.le_of_ble_eq_true rfl⟩, ⟨Nat.le_refl _, Nat.le_refl _⟩⟩ ly_2 (by decide) la_2 rfl (k_X3_readGuest hr8) rfl rfl (Nat.le_of_ble_eq_true rfl) ?_
    refine pw_if_eq 39 35 dX3_read_32 (by decide) rfl (fun c9 => ?_) (fun c9 => ?_)
    · have qj10 := if_t qj10 c9
      refine pw_iconst (v := (0 : Int32)) (by decide) 40 dX3_read_39 rfl ?_
      refine pw_sub [0] [(0, .ref (G.1 + 2))] rfl ?_
      cases qj10; exact hJ40_j10
    · have qj10 := if_f qj10 c9
      refine pw_iconst (v := (1 : Int32)) (by decide) 36 dX3_read_35 rfl ?_
      refine pw_goto 40 dX3_read_36 (by decide) ?_
      refine pw_sub [0] [(0, .ref (G.1 + 2))] rfl ?_
      cases qj10; exact hJ40_j10
