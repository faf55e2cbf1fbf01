theorem fi_X7_fault_7 : ∀ w ∈ wsX70, w ∈ wsX7_fault := by decide +kernel
theorem lk_X7_fault_111 : Cond.fieldLink RX7 111 (TX7 7).1 (TX7 7).2.1 (TX7 7).2.2.1 ∈ wsX7_fault := by decide +kernel
set_option maxHeartbeats 4000000 in
set_option maxRecDepth 100000 in
theorem k_X7_fault {l : Launch} {G : Gx}  {m : Mm} {r : Int32}  (h : f_X7_fault m = r) : Cn l G 0 yX7_fault wsX7_fault [.ref (G.1 + 298)] m (Qi G r m) := by
  unfold f_X7_fault at h
  refine Cn.of (own := RX7) (lv := [(0, .ref (G.1 + 298))]) (by decide) rfl rfl (Nat.le_of_ble_eq_true rfl) rfl ?_
  refine pw_aload_n 0 rfl rfl 1 dX7_fault_0 rfl ?_
  refine pw_getI 7 4 dX7_fault_1 rfl fi_X7_fault_7 lk_X7_fault_111 la_298 ly_298 (by decide) rfl (by decide) rfl ?_
  exact pw_iret dX7_fault_4 ⟨h, rfl⟩
theorem fi_X7_isWedding_7 : ∀ w ∈ wsX70, w ∈ wsX7_isWedding := by decide +kernel
theorem lk_X7_isWedding_25 : Cond.fieldLink RX7 25 (TX7 13).1 (TX7 13).2.1 (TX7 13).2.2.1 ∈ wsX7_isWedding := by decide +kernel
set_option maxHeartbeats 4000000 in
set_option maxRecDepth 100000 in
theorem k_X7_isWedding {l : Launch} {G : Gx}  {m : Mm} {r : Int32}  (h : f_X7_isWedding m = r) : Cn l G 0 yX7_isWedding wsX7_isWedding [.ref (G.1 + 298)] m (Qi G r m) := by
  unfold f_X7_isWedding at h
  refine Cn.of (own := RX7) (lv := [(0, .ref (G.1 + 298))]) (by decide) rfl rfl (Nat.le_of_ble_eq_true rfl) rfl ?_
  refine pw_aload_n 0 rfl rfl 1 dX7_isWedding_0 rfl ?_
  refine pw_getR 13 4 dX7_isWedding_1 rfl fi_X7_isWedding_7 lk_X7_isWedding_25 la_298 ly_298 (by decide) rfl (by decide) rfl rf_298_13 ?_
  refine pw_iconst (v := (0 : Int32)) (by decide) 5 dX7_isWedding_4 rfl ?_
  refine pw_iald 6 dX7_isWedding_5 rfl la_304 ly_304 (vp_lit rfl rfl) ?_
  refine pw_if_le 13 9 dX7_isWedding_6 (by decide) rfl (fun c1 => ?_) (fun c1 => ?_)
  · have h := if_t h c1
    refine pw_iconst (v := (0 : Int32)) (by decide) 14 dX7_isWedding_13 rfl ?_
    exact pw_zret dX7_isWedding_14 (by decide) ⟨h, rfl⟩
  · have h := if_f h c1
    refine pw_iconst (v := (1 : Int32)) (by decide) 10 dX7_isWedding_9 rfl ?_
    refine pw_goto 14 dX7_isWedding_10 (by decide) ?_
    exact pw_zret dX7_isWedding_14 (by decide) ⟨h, rfl⟩
theorem fi_X7_isGuest_7 : ∀ w ∈ wsX70, w ∈ wsX7_isGuest := by decide +kernel
theorem lk_X7_isGuest_25 : Cond.fieldLink RX7 25 (TX7 13).1 (TX7 13).2.1 (TX7 13).2.2.1 ∈ wsX7_isGuest := by decide +kernel
set_option maxHeartbeats 4000000 in
set_option maxRecDepth 100000 in
theorem k_X7_isGuest {l : Launch} {G : Gx} {x1 : Int32} {m : Mm} {r : Int32}  (h : f_X7_isGuest x1 m = some r) : Cn l G 1 yX7_isGuest wsX7_isGuest [.ref (G.1 + 298), .int x1] m (Qi G r m) := by
  unfold f_X7_isGuest at h
  refine Cn.of (own := RX7) (lv := [(0, .ref (G.1 + 298)), (1, .int x1)]) (by decide) rfl rfl (Nat.le_of_ble_eq_true rfl) rfl ?_
  refine pw_iload_n 1 rfl rfl 1 dX7_isGuest_0 rfl ?_
  refine pw_iconst (v := (0 : Int32)) (by decide) 2 dX7_isGuest_1 rfl ?_
  refine pw_aload_n 0 rfl rfl 3 dX7_isGuest_2 rfl ?_
  refine pw_getR 13 6 dX7_isGuest_3 rfl fi_X7_isGuest_7 lk_X7_isGuest_25 la_298 ly_298 (by decide) rfl (by decide) rfl rf_298_13 ?_
  refine pw_iconst (v := (2 : Int32)) (by decide) 7 dX7_isGuest_6 rfl ?_
  refine pw_iald 8 dX7_isGuest_7 rfl la_304 ly_304 (vp_lit rfl rfl) ?_
  refine pw_iconst (v := (1 : Int32)) (by decide) 9 dX7_isGuest_8 rfl ?_
  refine pw_isub 10 dX7_isGuest_9 rfl ?_
  refine pw_callSi 13 dX7_isGuest_10 rfl [.int x1, .int (0 : Int32), .int ((m 304 (ix (2 : Int32))) - (1 : Int32))] 3 ⟨gX7_isGuest_X7_in, rfl, sgS_X7_in, ⟨Nat.le_of_ble_eq_true rfl, Nat.le_of_ble_eq_true rfl⟩, ⟨Nat.le_refl _, Nat.le_refl _⟩⟩ (k_X7_in rfl) rfl rfl (Nat.le_of_ble_eq_true rfl) ?_
  obtain ⟨v1, ev1, h⟩ := nmE_ h
  refine pw_top ev1 ?_
  obtain ⟨h2, h⟩ := gd_e h
  exact pw_zret dX7_isGuest_13 h2 ⟨Option.some.inj h, rfl⟩
theorem lw_X7_inSeat_c53 : Cond.constant RX7 53 (-1000000 : Int32) ∈ wsX7_inSeat := by decide +kernel
set_option maxHeartbeats 4000000 in
set_option maxRecDepth 100000 in
theorem kl_X7_inSeat_2 {l : Launch} {G : Gx} {q1 nq1 : Nat} {r : Int32}  (lq1 : q1 < 313) (yq1 : ly q1 = (8, nq1)) : ∀ (n : Nat) (y1 : Int32) (y2 : Int32) (m : Mm) (res : (Int32 ⊕ Int32)), lp_X7_inSeat_2 q1 nq1 n y1 y2 m = some res → (∀ (a0 : Int32), res = .inr a0 → PW G (KM l G RX7 cX7_inSeat 3 (some .int) wsX7_inSeat 0 (Qi G r m)) 32 [] [] m) → (∀ rt, res = .inl rt → rt = r) → PW G (KM l G RX7 cX7_inSeat 3 (some .int) wsX7_inSeat 0 (Qi G r m)) 2 [(0, .ref (G.1 + q1)), (1, .int y1), (2, .int y2)] [] m := by
  intro n
  induction n with
  | zero => intro y1 y2 m res h hk hr; cases h
  | succ n ih =>
    intro y1 y2 m res h hk hr
    have h : lb_X7_inSeat_2 (lp_X7_inSeat_2 q1 nq1 n) q1 nq1 y1 y2 m = _ := h
    unfold lb_X7_inSeat_2 at h
    refine pw_iload_n 2 rfl rfl 3 dX7_inSeat_2 rfl ?_
    refine pw_aload_n 0 rfl rfl 4 dX7_inSeat_3 rfl ?_
    refine pw_iconst (v := (2 : Int32)) (by decide) 5 dX7_inSeat_4 rfl ?_
    obtain ⟨h1, h⟩ := gd_e h
    refine pw_iald 6 dX7_inSeat_5 rfl lq1 yq1 h1 ?_
    refine pw_icmp_ge 32 9 dX7_inSeat_6 (by decide) rfl (fun c2 => ?_) (fun c2 => ?_)
    · have h := if_t h c2
      refine pw_sub [] [] rfl ?_
      exact hk _ (Option.some.inj h).symm
    · have h := if_f h c2
      refine pw_aload_n 0 rfl rfl 10 dX7_inSeat_9 rfl ?_
      refine pw_bipush (v := (6 : Int32)) (by decide) 12 dX7_inSeat_10 rfl ?_
      refine pw_bipush (v := (7 : Int32)) (by decide) 14 dX7_inSeat_12 rfl ?_
      refine pw_iload_n 2 rfl rfl 15 dX7_inSeat_14 rfl ?_
      refine pw_imul 16 dX7_inSeat_15 rfl ?_
      refine pw_iadd 17 dX7_inSeat_16 rfl ?_
      refine pw_iconst (v := (4 : Int32)) (by decide) 18 dX7_inSeat_17 rfl ?_
      refine pw_iadd 19 dX7_inSeat_18 rfl ?_
      obtain ⟨h3, h⟩ := gd_e h
      refine pw_iald 20 dX7_inSeat_19 rfl lq1 yq1 h3 ?_
      refine pw_iload_n 1 rfl rfl 21 dX7_inSeat_20 rfl ?_
      refine pw_icmp_ne 26 24 dX7_inSeat_21 (by decide) rfl (fun c4 => ?_) (fun c4 => ?_)
      · have h := if_f h c4
        obtain ⟨v5, ev5, h⟩ := nmE_ h
        refine pw_iinc 2 rfl (by rw [ev5]; rfl) [(2, .int v5), (0, .ref (G.1 + q1)), (1, .int y1)] 29 dX7_inSeat_26 rfl (Nat.le_of_ble_eq_true rfl) rfl ?_
        refine pw_goto 2 dX7_inSeat_29 (by decide) ?_
        refine pw_sub [1, 2, 0] [(0, .ref (G.1 + q1)), (1, .int y1), (2, .int v5)] rfl ?_
        exact ih y1 v5 m res h hk hr
      · have h := if_t h c4
        refine pw_iload_n 2 rfl rfl 25 dX7_inSeat_24 rfl ?_
        exact pw_iret dX7_inSeat_25 ⟨hr _ (Option.some.inj h).symm, rfl⟩
set_option maxHeartbeats 4000000 in
set_option maxRecDepth 100000 in
theorem k_X7_inSeat {l : Launch} {G : Gx} {q1 nq1 : Nat} {x1 : Int32} {m : Mm} {r : Int32} (lq1 : q1 < 313) (yq1 : ly q1 = (8, nq1)) (h : f_X7_inSeat q1 nq1 x1 m = some r) : Cn l G 0 yX7_inSeat wsX7_inSeat [.ref (G.1 + q1), .int x1] m (Qi G r m) := by
  unfold f_X7_inSeat at h
  refine Cn.of (own := RX7) (lv := [(0, .ref (G.1 + q1)), (1, .int x1)]) (by decide) rfl rfl (Nat.le_of_ble_eq_true rfl) rfl ?_
  refine pw_iconst (v := (0 : Int32)) (by decide) 1 dX7_inSeat_0 rfl ?_
  refine pw_istore_n (hf := rfl) [(2, .int (0 : Int32)), (0, .ref (G.1 + q1)), (1, .int x1)] 2 dX7_inSeat_1 rfl (Nat.le_of_ble_eq_true rfl) rfl ?_
  rcases bdS1_e h with ⟨rt, h7, h⟩ | ⟨z6, h7, h⟩
  · refine pw_sub [1, 2, 0] [(0, .ref (G.1 + q1)), (1, .int x1), (2, .int (0 : Int32))] rfl ?_
    exact kl_X7_inSeat_2 lq1 yq1 FU x1 (0 : Int32) m _ h7 (fun _ e2 => by cases e2) (fun rt2 e2 => by cases e2; exact Option.some.inj h)
  · have hL2_h7 : PW G (KM l G RX7 cX7_inSeat 3 (some .int) wsX7_inSeat 0 (Qi G r m)) 32 [] [] m := by
      refine pw_ldc 34 lw_X7_inSeat_c53 dX7_inSeat_32 rfl ?_
      exact pw_iret dX7_inSeat_34 ⟨Option.some.inj h, rfl⟩
    refine pw_sub [1, 2, 0] [(0, .ref (G.1 + q1)), (1, .int x1), (2, .int (0 : Int32))] rfl ?_
    exact kl_X7_inSeat_2 lq1 yq1 FU x1 (0 : Int32) m _ h7 (fun _ e2 => by cases e2; exact hL2_h7) (fun rt2 e2 => by cases e2)
theorem lw_X7_lastIn_c53 : Cond.constant RX7 53 (-1000000 : Int32) ∈ wsX7_lastIn := by decide +kernel
set_option maxHeartbeats 4000000 in
set_option maxRecDepth 100000 in
theorem k_X7_lastIn {l : Launch} {G : Gx} {q1 nq1 : Nat} {x1 : Int32} {m : Mm} {r : Int32} (lq1 : q1 < 313) (yq1 : ly q1 = (8, nq1)) (h : f_X7_lastIn q1 nq1 x1 m = some r) : Cn l G 1 yX7_lastIn wsX7_lastIn [.ref (G.1 + q1), .int x1] m (Qi G r m) := by
  unfold f_X7_lastIn at h
  refine Cn.of (own := RX7) (lv := [(0, .ref (G.1 + q1)), (1, .int x1)]) (by decide) rfl rfl (Nat.le_of_ble_eq_true rfl) rfl ?_
  refine pw_aload_n 0 rfl rfl 1 dX7_lastIn_0 rfl ?_
  refine pw_iload_n 1 rfl rfl 2 dX7_lastIn_1 rfl ?_
  obtain ⟨r1, hr1, h⟩ := bd1_e h
  refine pw_callSi 5 dX7_lastIn_2 rfl [.ref (G.1 + q1), .int x1] 2 ⟨gX7_lastIn_X7_inSeat, rfl, sgS_X7_inSeat, ⟨Nat.le_of_ble_eq_true rfl, Nat.le_of_ble_eq_true rfl⟩, ⟨Nat.le_refl _, Nat.le_refl _⟩⟩ (k_X7_inSeat lq1 yq1 hr1) rfl rfl (Nat.le_of_ble_eq_true rfl) ?_
  refine pw_istore_n (hf := rfl) [(2, .int r1), (0, .ref (G.1 + q1)), (1, .int x1)] 6 dX7_lastIn_5 rfl (Nat.le_of_ble_eq_true rfl) rfl ?_
  refine pw_iload_n 0 rfl rfl 7 dX7_lastIn_6 rfl ?_
  refine pw_ldc 9 lw_X7_lastIn_c53 dX7_lastIn_7 rfl ?_
  refine pw_icmp_ne 16 12 dX7_lastIn_9 (by decide) rfl (fun c2 => ?_) (fun c2 => ?_)
  · have h := if_f h c2
    refine pw_aload_n 1 rfl rfl 17 dX7_lastIn_16 rfl ?_
    refine pw_bipush (v := (6 : Int32)) (by decide) 19 dX7_lastIn_17 rfl ?_
    refine pw_bipush (v := (7 : Int32)) (by decide) 21 dX7_lastIn_19 rfl ?_
    refine pw_iload_n 0 rfl rfl 22 dX7_lastIn_21 rfl ?_
    refine pw_imul 23 dX7_lastIn_22 rfl ?_
    refine pw_iadd 24 dX7_lastIn_23 rfl ?_
    refine pw_bipush (v := (6 : Int32)) (by decide) 26 dX7_lastIn_24 rfl ?_
    refine pw_iadd 27 dX7_lastIn_26 rfl ?_
    obtain ⟨h3, h⟩ := gd_e h
    refine pw_iald 28 dX7_lastIn_27 rfl lq1 yq1 h3 ?_
    exact pw_iret dX7_lastIn_28 ⟨Option.some.inj h, rfl⟩
  · have h := if_t h c2
    refine pw_iconst (v := (0 : Int32)) (by decide) 13 dX7_lastIn_12 rfl ?_
    refine pw_goto 28 dX7_lastIn_13 (by decide) ?_
    exact pw_iret dX7_lastIn_28 ⟨Option.some.inj h, rfl⟩
set_option maxHeartbeats 4000000 in
set_option maxRecDepth 100000 in
theorem k_X7_would {l : Launch} {G : Gx} {q1 nq1 : Nat} {x1 : Int32} {m : Mm} {r : Int32} (lq1 : q1 < 313) (yq1 : ly q1 = (8, nq1)) (h : f_X7_would q1 nq1 x1 m = some r) : Cn l G 2 yX7_would wsX7_would [.ref (G.1 + q1), .int x1] m (Qi G r m) := by
  unfold f_X7_would at h
  refine Cn.of (own := RX7) (lv := [(0, .ref (G.1 + q1)), (1, .int x1)]) (by decide) rfl rfl (Nat.le_of_ble_eq_true rfl) rfl ?_
  refine pw_bipush (v := (6 : Int32)) (by decide) 2 dX7_would_0 rfl ?_
  refine pw_bipush (v := (7 : Int32)) (by decide) 4 dX7_would_2 rfl ?_
  refine pw_iload_n 1 rfl rfl 5 dX7_would_4 rfl ?_
  refine pw_imul 6 dX7_would_5 rfl ?_
  refine pw_iadd 7 dX7_would_6 rfl ?_
  obtain ⟨v1, ev1, h⟩ := nmE_ h
  refine pw_top ev1 ?_
  refine pw_istore_n (hf := rfl) [(2, .int v1), (0, .ref (G.1 + q1)), (1, .int x1)] 8 dX7_would_7 rfl (Nat.le_of_ble_eq_true rfl) rfl ?_
  refine pw_aload_n 1 rfl rfl 9 dX7_would_8 rfl ?_
  refine pw_aload_n 1 rfl rfl 10 dX7_would_9 rfl ?_
  refine pw_iload_n 0 rfl rfl 11 dX7_would_10 rfl ?_
  refine pw_iconst (v := (4 : Int32)) (by decide) 12 dX7_would_11 rfl ?_
  refine pw_iadd 13 dX7_would_12 rfl ?_
  obtain ⟨h2, h⟩ := gd_e h
  refine pw_iald 14 dX7_would_13 rfl lq1 yq1 h2 ?_
  refine pw_iconst (v := (1 : Int32)) (by decide) 15 dX7_would_14 rfl ?_
  refine pw_isub 16 dX7_would_15 rfl ?_
  obtain ⟨r3, hr3, h⟩ := bd1_e h
  refine pw_callSi 19 dX7_would_16 rfl [.ref (G.1 + q1), .int ((m q1 (ix (v1 + (4 : Int32)))) - (1 : Int32))] 2 ⟨gX7_would_X7_lastIn, rfl, sgS_X7_lastIn, ⟨Nat.le_of_ble_eq_true rfl, Nat.le_of_ble_eq_true rfl⟩, ⟨Nat.le_refl _, Nat.le_refl _⟩⟩ (k_X7_lastIn lq1 yq1 hr3) rfl rfl (Nat.le_of_ble_eq_true rfl) ?_
  refine pw_istore_n (hf := rfl) [(3, .int r3), (2, .int v1), (0, .ref (G.1 + q1)), (1, .int x1)] 20 dX7_would_19 rfl (Nat.le_of_ble_eq_true rfl) rfl ?_
  refine pw_aload_n 2 rfl rfl 21 dX7_would_20 rfl ?_
  refine pw_aload_n 2 rfl rfl 22 dX7_would_21 rfl ?_
  refine pw_iload_n 1 rfl rfl 23 dX7_would_22 rfl ?_
  refine pw_iconst (v := (4 : Int32)) (by decide) 24 dX7_would_23 rfl ?_
  refine pw_iadd 25 dX7_would_24 rfl ?_
  obtain ⟨h4, h⟩ := gd_e h
  refine pw_iald 26 dX7_would_25 rfl lq1 yq1 h4 ?_
  refine pw_iconst (v := (1 : Int32)) (by decide) 27 dX7_would_26 rfl ?_
  refine pw_iadd 28 dX7_would_27 rfl ?_
  obtain ⟨r5, hr5, h⟩ := bd1_e h
  refine pw_callSi 31 dX7_would_28 rfl [.ref (G.1 + q1), .int ((m q1 (ix (v1 + (4 : Int32)))) + (1 : Int32))] 2 ⟨gX7_would_X7_lastIn, rfl, sgS_X7_lastIn, ⟨Nat.le_of_ble_eq_true rfl, Nat.le_of_ble_eq_true rfl⟩, ⟨Nat.le_refl _, Nat.le_refl _⟩⟩ (k_X7_lastIn lq1 yq1 hr5) rfl rfl (Nat.le_of_ble_eq_true rfl) ?_
  refine pw_istore [(4, .int r5), (3, .int r3), (2, .int v1), (0, .ref (G.1 + q1)), (1, .int x1)] 33 dX7_would_31 rfl (Nat.le_of_ble_eq_true rfl) rfl ?_
  refine pw_aload_n 3 rfl rfl 34 dX7_would_33 rfl ?_
  refine pw_iload_n 2 rfl rfl 35 dX7_would_34 rfl ?_
  refine pw_iconst (v := (1 : Int32)) (by decide) 36 dX7_would_35 rfl ?_
  refine pw_iadd 37 dX7_would_36 rfl ?_
  obtain ⟨h6, h⟩ := gd_e h
  refine pw_iald 38 dX7_would_37 rfl lq1 yq1 h6 ?_
  refine pw_iload_n 1 rfl rfl 39 dX7_would_38 rfl ?_
  obtain ⟨j8, ej8, h⟩ := nmE_ h
  have hJ47_j8 : PW G (KM l G RX7 cX7_would 8 (some .int) wsX7_would 2 (Qi G r m)) 47 [(0, .ref (G.1 + q1)), (2, .int v1), (3, .int r3), (4, .int r5)] [.int j8, .int (m q1 (ix (v1 + (1 : Int32))))] m := by
    refine pw_iadd 48 dX7_would_47 rfl ?_
    refine pw_iload 3 rfl 50 dX7_would_48 rfl ?_
    obtain ⟨j10, ej10, h⟩ := nmE_ h
    have hJ58_j10 : PW G (KM l G RX7 cX7_would 8 (some .int) wsX7_would 2 (Qi G r m)) 58 [(0, .ref (G.1 + q1)), (2, .int v1), (3, .int r3), (4, .int r5)] [.int j10, .int ((m q1 (ix (v1 + (1 : Int32)))) + j8)] m := by
      refine pw_iadd 59 dX7_would_58 rfl ?_
      obtain ⟨v11, ev11, h⟩ := nmE_ h
      refine pw_top ev11 ?_
      refine pw_istore [(5, .int v11), (0, .ref (G.1 + q1)), (2, .int v1), (3, .int r3), (4, .int r5)] 61 dX7_would_59 rfl (Nat.le_of_ble_eq_true rfl) rfl ?_
      refine pw_aload_n 1 rfl rfl 62 dX7_would_61 rfl ?_
      refine pw_iconst (v := (1 : Int32)) (by decide) 63 dX7_would_62 rfl ?_
      obtain ⟨h12, h⟩ := gd_e h
      refine pw_iald 64 dX7_would_63 rfl lq1 yq1 h12 ?_
      refine pw_aload_n 1 rfl rfl 65 dX7_would_64 rfl ?_
      refine pw_iconst (v := (3 : Int32)) (by decide) 66 dX7_would_65 rfl ?_
      obtain ⟨h13, h⟩ := gd_e h
      refine pw_iald 67 dX7_would_66 rfl lq1 yq1 h13 ?_
      refine pw_iconst (v := (4 : Int32)) (by decide) 68 dX7_would_67 rfl ?_
      refine pw_irem (by decide) 69 dX7_would_68 rfl ?_
      refine pw_callSi 72 dX7_would_69 rfl [.int (m q1 (ix (1 : Int32))), .int ((m q1 (ix (3 : Int32))) - (m q1 (ix (3 : Int32))) / (4 : Int32) * (4 : Int32))] 2 ⟨gX7_would_X7_has, rfl, sgS_X7_has, ⟨Nat.le_of_ble_eq_true rfl, Nat.le_of_ble_eq_true rfl⟩, ⟨Nat.le_refl _, Nat.le_refl _⟩⟩ (k_X7_has rfl) rfl rfl (Nat.le_of_ble_eq_true rfl) ?_
      obtain ⟨j16, qj16, h⟩ := bd1_e h
      have hJ84_j16 : PW G (KM l G RX7 cX7_would 8 (some .int) wsX7_would 2 (Qi G r m)) 84 [(0, .ref (G.1 + q1)), (2, .int v1), (3, .int r3), (4, .int r5), (5, .int v11)] [.int j16] m := by
        refine pw_istore [(6, .int j16), (0, .ref (G.1 + q1)), (2, .int v1), (3, .int r3), (4, .int r5), (5, .int v11)] 86 dX7_would_84 rfl (Nat.le_of_ble_eq_true rfl) rfl ?_
        refine pw_iconst (v := (0 : Int32)) (by decide) 87 dX7_would_86 rfl ?_
        refine pw_istore [(7, .int (0 : Int32)), (6, .int j16), (0, .ref (G.1 + q1)), (2, .int v1), (3, .int r3), (4, .int r5), (5, .int v11)] 89 dX7_would_87 rfl (Nat.le_of_ble_eq_true rfl) rfl ?_
        refine pw_aload_n 2 rfl rfl 90 dX7_would_89 rfl ?_
        refine pw_iload_n 3 rfl rfl 91 dX7_would_90 rfl ?_
        obtain ⟨h17, h⟩ := gd_e h
        refine pw_iald 92 dX7_would_91 rfl lq1 yq1 h17 ?_
        obtain ⟨v18, ev18, h⟩ := nmE_ h
        refine pw_top ev18 ?_
        obtain ⟨j26, qj26, h⟩ := bd1_e h
        have hJ194_j26 : PW G (KM l G RX7 cX7_would 8 (some .int) wsX7_would 2 (Qi G r m)) 194 [(0, .ref (G.1 + q1)), (2, .int v1), (7, .int j26)] [] m := by
          refine pw_iload 2 rfl 196 dX7_would_194 rfl ?_
          refine pw_bipush (v := (9 : Int32)) (by decide) 198 dX7_would_196 rfl ?_
          refine pw_callSi 201 dX7_would_198 rfl [.int j26, .int (9 : Int32)] 2 ⟨gX7_would_X7_lesser, rfl, sgS_X7_lesser, ⟨Nat.le_of_ble_eq_true rfl, Nat.le_of_ble_eq_true rfl⟩, ⟨Nat.le_refl _, Nat.le_refl _⟩⟩ (k_X7_lesser rfl) rfl rfl (Nat.le_of_ble_eq_true rfl) ?_
          refine pw_aload_n 0 rfl rfl 202 dX7_would_201 rfl ?_
          refine pw_iload_n 1 rfl rfl 203 dX7_would_202 rfl ?_
          refine pw_iconst (v := (2 : Int32)) (by decide) 204 dX7_would_203 rfl ?_
          refine pw_iadd 205 dX7_would_204 rfl ?_
          obtain ⟨h27, h⟩ := gd_e h
          refine pw_iald 206 dX7_would_205 rfl lq1 yq1 h27 ?_
          refine pw_callSi 209 dX7_would_206 rfl [.int (f_X7_lesser j26 (9 : Int32)), .int (m q1 (ix (v1 + (2 : Int32))))] 2 ⟨gX7_would_X7_lesser, rfl, sgS_X7_lesser, ⟨Nat.le_of_ble_eq_true rfl, Nat.le_of_ble_eq_true rfl⟩, ⟨Nat.le_refl _, Nat.le_refl _⟩⟩ (k_X7_lesser rfl) rfl rfl (Nat.le_of_ble_eq_true rfl) ?_
          exact pw_iret dX7_would_209 ⟨Option.some.inj h, rfl⟩
        by_cases c25_0 : v18 = (1 : Int32)
        · have qj26 := if_t qj26 c25_0
          refine pw_tableIn 124 dX7_would_92 (by rw [c25_0]; decide) (by rw [c25_0]; decide) (by rw [c25_0]; rfl) (by decide) ?_
          refine pw_iload 6 rfl 126 dX7_would_124 rfl ?_
          refine pw_istore [(7, .int v11), (6, .int j16), (0, .ref (G.1 + q1)), (2, .int v1), (3, .int r3), (4, .int r5), (5, .int v11)] 128 dX7_would_126 rfl (Nat.le_of_ble_eq_true rfl) rfl ?_
          refine pw_goto 194 dX7_would_128 (by decide) ?_
          refine pw_sub [2, 3, 0] [(0, .ref (G.1 + q1)), (2, .int v1), (7, .int v11)] rfl ?_
          cases qj26; exact hJ194_j26
        · have qj26 := if_f qj26 c25_0
          by_cases c25_1 : v18 = (2 : Int32)
          · have qj26 := if_t qj26 c25_1
            refine pw_tableIn 131 dX7_would_92 (by rw [c25_1]; decide) (by rw [c25_1]; decide) (by rw [c25_1]; rfl) (by decide) ?_
            refine pw_iload_n 4 rfl rfl 132 dX7_would_131 rfl ?_
            refine pw_iload 5 rfl 134 dX7_would_132 rfl ?_
            refine pw_iadd 135 dX7_would_134 rfl ?_
            obtain ⟨j20, ej20, qj26⟩ := nmE_ qj26
            have hJ156_j20 : PW G (KM l G RX7 cX7_would 8 (some .int) wsX7_would 2 (Qi G r m)) 156 [(0, .ref (G.1 + q1)), (2, .int v1)] [.int j20] m := by
              refine pw_istore [(7, .int j20), (0, .ref (G.1 + q1)), (2, .int v1)] 158 dX7_would_156 rfl (Nat.le_of_ble_eq_true rfl) rfl ?_
              refine pw_goto 194 dX7_would_158 (by decide) ?_
              refine pw_sub [1, 2, 0] [(0, .ref (G.1 + q1)), (2, .int v1), (7, .int j20)] rfl ?_
              cases qj26; exact hJ194_j26
            refine pw_if_le 154 138 dX7_would_135 (by decide) rfl (fun c19 => ?_) (fun c19 => ?_)
            · have ej20 := if_tv ej20 c19
              refine pw_iload 6 rfl 156 dX7_would_154 rfl ?_
              refine pw_sub [2, 3] [(0, .ref (G.1 + q1)), (2, .int v1)] rfl ?_
              subst ej20; exact hJ156_j20
            · have ej20 := if_fv ej20 c19
              refine pw_iload 6 rfl 140 dX7_would_138 rfl ?_
              refine pw_iconst (v := (1 : Int32)) (by decide) 141 dX7_would_140 rfl ?_
              refine pw_iload_n 4 rfl rfl 142 dX7_would_141 rfl ?_
              refine pw_iload 5 rfl 144 dX7_would_142 rfl ?_
              refine pw_callSi 147 dX7_would_144 rfl [.int r3, .int r5] 2 ⟨gX7_would_X7_greater, rfl, sgS_X7_greater, ⟨Nat.le_of_ble_eq_true rfl, Nat.le_of_ble_eq_true rfl⟩, ⟨Nat.le_refl _, Nat.le_refl _⟩⟩ (k_X7_greater rfl) rfl rfl (Nat.le_of_ble_eq_true rfl) ?_
              refine pw_iadd 148 dX7_would_147 rfl ?_
              refine pw_callSi 151 dX7_would_148 rfl [.int v11, .int ((1 : Int32) + (f_X7_greater r3 r5))] 2 ⟨gX7_would_X7_greater, rfl, sgS_X7_greater, ⟨Nat.le_of_ble_eq_true rfl, Nat.le_of_ble_eq_true rfl⟩, ⟨Nat.le_refl _, Nat.le_refl _⟩⟩ (k_X7_greater rfl) rfl rfl (Nat.le_of_ble_eq_true rfl) ?_
              refine pw_goto 156 dX7_would_151 (by decide) ?_
              refine pw_sub [2, 3] [(0, .ref (G.1 + q1)), (2, .int v1)] rfl ?_
              subst ej20; exact hJ156_j20
          · have qj26 := if_f qj26 c25_1
            by_cases c25_2 : v18 = (3 : Int32)
            · have qj26 := if_t qj26 c25_2
              refine pw_tableIn 161 dX7_would_92 (by rw [c25_2]; decide) (by rw [c25_2]; decide) (by rw [c25_2]; rfl) (by decide) ?_
              refine pw_aload_n 2 rfl rfl 162 dX7_would_161 rfl ?_
              refine pw_iconst (v := (3 : Int32)) (by decide) 163 dX7_would_162 rfl ?_
              obtain ⟨h21, qj26⟩ := gd_e qj26
              refine pw_iald 164 dX7_would_163 rfl lq1 yq1 h21 ?_
              refine pw_iconst (v := (2 : Int32)) (by decide) 165 dX7_would_164 rfl ?_
              refine pw_irem (by decide) 166 dX7_would_165 rfl ?_
              refine pw_iconst (v := (1 : Int32)) (by decide) 167 dX7_would_166 rfl ?_
              obtain ⟨j23, ej23, qj26⟩ := nmE_ qj26
              have hJ176_j23 : PW G (KM l G RX7 cX7_would 8 (some .int) wsX7_would 2 (Qi G r m)) 176 [(0, .ref (G.1 + q1)), (2, .int v1)] [.int j23] m := by
                refine pw_istore [(7, .int j23), (0, .ref (G.1 + q1)), (2, .int v1)] 178 dX7_would_176 rfl (Nat.le_of_ble_eq_true rfl) rfl ?_
                refine pw_goto 194 dX7_would_178 (by decide) ?_
                refine pw_sub [1, 2, 0] [(0, .ref (G.1 + q1)), (2, .int v1), (7, .int j23)] rfl ?_
                cases qj26; exact hJ194_j26
              refine pw_icmp_ne 174 170 dX7_would_167 (by decide) rfl (fun c22 => ?_) (fun c22 => ?_)
              · have ej23 := if_fv ej23 c22
                refine pw_iload 6 rfl 176 dX7_would_174 rfl ?_
                refine pw_sub [2, 3] [(0, .ref (G.1 + q1)), (2, .int v1)] rfl ?_
                subst ej23; exact hJ176_j23
              · have ej23 := if_tv ej23 c22
                refine pw_iconst (v := (0 : Int32)) (by decide) 171 dX7_would_170 rfl ?_
                refine pw_goto 176 dX7_would_171 (by decide) ?_
                refine pw_sub [2, 3] [(0, .ref (G.1 + q1)), (2, .int v1)] rfl ?_
                subst ej23; exact hJ176_j23
            · have qj26 := if_f qj26 c25_2
              by_cases c25_3 : v18 = (4 : Int32)
              · have qj26 := if_t qj26 c25_3
                refine pw_tableIn 181 dX7_would_92 (by rw [c25_3]; decide) (by rw [c25_3]; decide) (by rw [c25_3]; rfl) (by decide) ?_
                refine pw_iload 1 rfl 183 dX7_would_181 rfl ?_
                refine pw_istore [(7, .int j16), (6, .int j16), (0, .ref (G.1 + q1)), (2, .int v1), (3, .int r3), (4, .int r5), (5, .int v11)] 185 dX7_would_183 rfl (Nat.le_of_ble_eq_true rfl) rfl ?_
                refine pw_goto 194 dX7_would_185 (by decide) ?_
                refine pw_sub [2, 3, 0] [(0, .ref (G.1 + q1)), (2, .int v1), (7, .int j16)] rfl ?_
                cases qj26; exact hJ194_j26
              · have qj26 := if_f qj26 c25_3
                have c25_0_i : ¬ v18.toInt = 1 := fun e => c25_0 (Int32.toInt_inj.mp (e.trans rfl))
                have c25_1_i : ¬ v18.toInt = 2 := fun e => c25_1 (Int32.toInt_inj.mp (e.trans rfl))
                have c25_2_i : ¬ v18.toInt = 3 := fun e => c25_2 (Int32.toInt_inj.mp (e.trans rfl))
                have c25_3_i : ¬ v18.toInt = 4 := fun e => c25_3 (Int32.toInt_inj.mp (e.trans rfl))
                refine pw_tableOut 188 dX7_would_92 (by omega) (by decide) ?_
                refine pw_iload 1 rfl 190 dX7_would_188 rfl ?_
                refine pw_iconst (v := (2 : Int32)) (by decide) 191 dX7_would_190 rfl ?_
                refine pw_iadd 192 dX7_would_191 rfl ?_
                obtain ⟨v24, ev24, qj26⟩ := nmE_ qj26
                refine pw_top ev24 ?_
                refine pw_istore [(7, .int v24), (6, .int j16), (0, .ref (G.1 + q1)), (2, .int v1), (3, .int r3), (4, .int r5), (5, .int v11)] 194 dX7_would_192 rfl (Nat.le_of_ble_eq_true rfl) rfl ?_
                refine pw_sub [2, 3, 0] [(0, .ref (G.1 + q1)), (2, .int v1), (7, .int v24)] rfl ?_
                cases qj26; exact hJ194_j26
      refine pw_if_eq 83 75 dX7_would_72 (by decide) rfl (fun c14 => ?_) (fun c14 => ?_)
      · have qj16 := if_t qj16 c14
        refine pw_iconst (v := (0 : Int32)) (by decide) 84 dX7_would_83 rfl ?_
        refine pw_sub [1, 2, 3, 4, 0] [(0, .ref (G.1 + q1)), (2, .int v1), (3, .int r3), (4, .int r5), (5, .int v11)] rfl ?_
        cases qj16; exact hJ84_j16
      · have qj16 := if_f qj16 c14
        refine pw_aload_n 1 rfl rfl 76 dX7_would_75 rfl ?_
        refine pw_iload_n 2 rfl rfl 77 dX7_would_76 rfl ?_
        refine pw_iconst (v := (1 : Int32)) (by decide) 78 dX7_would_77 rfl ?_
        refine pw_iadd 79 dX7_would_78 rfl ?_
        obtain ⟨h15, qj16⟩ := gd_e qj16
        refine pw_iald 80 dX7_would_79 rfl lq1 yq1 h15 ?_
        refine pw_goto 84 dX7_would_80 (by decide) ?_
        refine pw_sub [1, 2, 3, 4, 0] [(0, .ref (G.1 + q1)), (2, .int v1), (3, .int r3), (4, .int r5), (5, .int v11)] rfl ?_
        cases qj16; exact hJ84_j16
    refine pw_if_le 57 53 dX7_would_50 (by decide) rfl (fun c9 => ?_) (fun c9 => ?_)
    · have ej10 := if_tv ej10 c9
      refine pw_iconst (v := (0 : Int32)) (by decide) 58 dX7_would_57 rfl ?_
      refine pw_sub [0, 1, 2, 3] [(0, .ref (G.1 + q1)), (2, .int v1), (3, .int r3), (4, .int r5)] rfl ?_
      subst ej10; exact hJ58_j10
    · have ej10 := if_fv ej10 c9
      refine pw_iconst (v := (1 : Int32)) (by decide) 54 dX7_would_53 rfl ?_
      refine pw_goto 58 dX7_would_54 (by decide) ?_
      refine pw_sub [0, 1, 2, 3] [(0, .ref (G.1 + q1)), (2, .int v1), (3, .int r3), (4, .int r5)] rfl ?_
      subst ej10; exact hJ58_j10
  refine pw_if_le 46 42 dX7_would_39 (by decide) rfl (fun c7 => ?_) (fun c7 => ?_)
  · have ej8 := if_tv ej8 c7
    refine pw_iconst (v := (0 : Int32)) (by decide) 47 dX7_would_46 rfl ?_
    refine pw_sub [3, 2, 1, 0] [(0, .ref (G.1 + q1)), (2, .int v1), (3, .int r3), (4, .int r5)] rfl ?_
    subst ej8; exact hJ47_j8
  · have ej8 := if_fv ej8 c7
    refine pw_iconst (v := (1 : Int32)) (by decide) 43 dX7_would_42 rfl ?_
    refine pw_goto 47 dX7_would_43 (by decide) ?_
    refine pw_sub [3, 2, 1, 0] [(0, .ref (G.1 + q1)), (2, .int v1), (3, .int r3), (4, .int r5)] rfl ?_
    subst ej8; exact hJ47_j8
theorem fi_X7_passes_7 : ∀ w ∈ wsX70, w ∈ wsX7_passes := by decide +kernel
theorem lk_X7_passes_44 : Cond.fieldLink RX7 44 (TX7 20).1 (TX7 20).2.1 (TX7 20).2.2.1 ∈ wsX7_passes := by decide +kernel
theorem lw_X7_passes_c165 : Cond.constant RX7 165 (99999 : Int32) ∈ wsX7_passes := by decide +kernel
set_option maxHeartbeats 4000000 in
set_option maxRecDepth 100000 in
theorem kl_X7_passes_7 {l : Launch} {G : Gx} {q1 nq1 : Nat}  {mF : Mm} (lq1 : q1 < 313) (yq1 : ly q1 = (8, nq1)) : ∀ (n : Nat) (y2 : Int32) (y3 : Int32) (y4 : Int32) (m : Mm) (a0 : Mm), lp_X7_passes_7 q1 nq1 n y2 y3 y4 m = some a0 → PW G (KM l G RX7 cX7_passes 6 none wsX7_passes 3 (Qv G mF)) 54 [(0, .ref (G.1 + 298)), (1, .ref (G.1 + q1)), (2, .int y2), (3, .int y3)] [] a0 → PW G (KM l G RX7 cX7_passes 6 none wsX7_passes 3 (Qv G mF)) 7 [(0, .ref (G.1 + 298)), (1, .ref (G.1 + q1)), (2, .int y2), (3, .int y3), (4, .int y4)] [] m := by
  intro n
  induction n with
  | zero => intro y2 y3 y4 m a0 h hk; cases h
  | succ n ih =>
    intro y2 y3 y4 m a0 h hk
    have h : lb_X7_passes_7 (lp_X7_passes_7 q1 nq1 n) q1 nq1 y2 y3 y4 m = _ := h
    unfold lb_X7_passes_7 at h
    refine pw_iload 4 rfl 9 dX7_passes_7 rfl ?_
    refine pw_aload_n 1 rfl rfl 10 dX7_passes_9 rfl ?_
    refine pw_iconst (v := (2 : Int32)) (by decide) 11 dX7_passes_10 rfl ?_
    obtain ⟨h1, h⟩ := gd_e h
    refine pw_iald 12 dX7_passes_11 rfl lq1 yq1 h1 ?_
    refine pw_icmp_ge 54 15 dX7_passes_12 (by decide) rfl (fun c2 => ?_) (fun c2 => ?_)
    · have h := if_t h c2
      refine pw_sub [0, 1, 2, 3] [(0, .ref (G.1 + 298)), (1, .ref (G.1 + q1)), (2, .int y2), (3, .int y3)] rfl ?_
      cases h; exact hk
    · have h := if_f h c2
      refine pw_aload_n 0 rfl rfl 16 dX7_passes_15 rfl ?_
      refine pw_getR 20 19 dX7_passes_16 rfl fi_X7_passes_7 lk_X7_passes_44 la_298 ly_298 (by decide) rfl (by decide) rfl rf_298_20 ?_
      refine pw_iload 4 rfl 21 dX7_passes_19 rfl ?_
      refine pw_aload_n 1 rfl rfl 22 dX7_passes_21 rfl ?_
      refine pw_bipush (v := (6 : Int32)) (by decide) 24 dX7_passes_22 rfl ?_
      refine pw_bipush (v := (7 : Int32)) (by decide) 26 dX7_passes_24 rfl ?_
      refine pw_iload 4 rfl 28 dX7_passes_26 rfl ?_
      refine pw_imul 29 dX7_passes_28 rfl ?_
      refine pw_iadd 30 dX7_passes_29 rfl ?_
      refine pw_iconst (v := (5 : Int32)) (by decide) 31 dX7_passes_30 rfl ?_
      refine pw_iadd 32 dX7_passes_31 rfl ?_
      obtain ⟨h3, h⟩ := gd_e h
      refine pw_iald 33 dX7_passes_32 rfl lq1 yq1 h3 ?_
      refine pw_iconst (v := (1 : Int32)) (by decide) 34 dX7_passes_33 rfl ?_
      obtain ⟨j6, qj6, h⟩ := bd1_e h
      have hJ47_j6 : PW G (KM l G RX7 cX7_passes 6 none wsX7_passes 3 (Qv G mF)) 47 [(0, .ref (G.1 + 298)), (1, .ref (G.1 + q1)), (2, .int y2), (3, .int y3), (4, .int y4)] [.int j6, .int y4, .ref (G.1 + 310)] m := by
        obtain ⟨h9, h⟩ := gd_e h
        refine pw_iast 48 dX7_passes_47 rfl la_310 ly_310 h9 ?_
        obtain ⟨m7, em7, h⟩ := nmE_ h
        refine pw_mem em7 ?_
        obtain ⟨v8, ev8, h⟩ := nmE_ h
        refine pw_iinc 4 rfl (by rw [ev8]; rfl) [(4, .int v8), (0, .ref (G.1 + 298)), (1, .ref (G.1 + q1)), (2, .int y2), (3, .int y3)] 51 dX7_passes_48 rfl (Nat.le_of_ble_eq_true rfl) rfl ?_
        refine pw_goto 7 dX7_passes_51 (by decide) ?_
        refine pw_sub [1, 2, 3, 4, 0] [(0, .ref (G.1 + 298)), (1, .ref (G.1 + q1)), (2, .int y2), (3, .int y3), (4, .int v8)] rfl ?_
        exact ih y2 y3 v8 m7 a0 h hk
      refine pw_icmp_ne 46 37 dX7_passes_34 (by decide) rfl (fun c4 => ?_) (fun c4 => ?_)
      · have qj6 := if_f qj6 c4
        refine pw_iconst (v := (0 : Int32)) (by decide) 47 dX7_passes_46 rfl ?_
        refine pw_sub [0, 1, 2, 3, 4] [(0, .ref (G.1 + 298)), (1, .ref (G.1 + q1)), (2, .int y2), (3, .int y3), (4, .int y4)] rfl ?_
        cases qj6; exact hJ47_j6
      · have qj6 := if_t qj6 c4
        refine pw_aload_n 1 rfl rfl 38 dX7_passes_37 rfl ?_
        refine pw_iload 4 rfl 40 dX7_passes_38 rfl ?_
        obtain ⟨r5, hr5, qj6⟩ := bd1_e qj6
        refine pw_callSi 43 dX7_passes_40 rfl [.ref (G.1 + q1), .int y4] 2 ⟨gX7_passes_X7_would, rfl, sgS_X7_would, ⟨Nat.le_of_ble_eq_true rfl, Nat.le_of_ble_eq_true rfl⟩, ⟨Nat.le_refl _, Nat.le_refl _⟩⟩ (k_X7_would lq1 yq1 hr5) rfl rfl (Nat.le_of_ble_eq_true rfl) ?_
        refine pw_goto 47 dX7_passes_43 (by decide) ?_
        refine pw_sub [0, 1, 2, 3, 4] [(0, .ref (G.1 + 298)), (1, .ref (G.1 + q1)), (2, .int y2), (3, .int y3), (4, .int y4)] rfl ?_
        cases qj6; exact hJ47_j6
set_option maxHeartbeats 4000000 in
set_option maxRecDepth 100000 in
theorem kl_X7_passes_57 {l : Launch} {G : Gx} {q1 nq1 : Nat}  {mF : Mm} (lq1 : q1 < 313) (yq1 : ly q1 = (8, nq1)) : ∀ (n : Nat) (y2 : Int32) (y3 : Int32) (y4 : Int32) (m : Mm) (a0 : Int32) (a1 : Int32) (a2 : Mm), lp_X7_passes_57 q1 nq1 n y2 y3 y4 m = some (a0, a1, a2) → PW G (KM l G RX7 cX7_passes 6 none wsX7_passes 3 (Qv G mF)) 193 [(1, .ref (G.1 + q1)), (2, .int a0), (3, .int a1)] [] a2 → PW G (KM l G RX7 cX7_passes 6 none wsX7_passes 3 (Qv G mF)) 57 [(0, .ref (G.1 + 298)), (1, .ref (G.1 + q1)), (2, .int y2), (3, .int y3), (4, .int y4)] [] m := by
  intro n
  induction n with
  | zero => intro y2 y3 y4 m a0 a1 a2 h hk; cases h
  | succ n ih =>
    intro y2 y3 y4 m a0 a1 a2 h hk
    have h : lb_X7_passes_57 (lp_X7_passes_57 q1 nq1 n) q1 nq1 y2 y3 y4 m = _ := h
    unfold lb_X7_passes_57 at h
    refine pw_iload 4 rfl 59 dX7_passes_57 rfl ?_
    refine pw_aload_n 1 rfl rfl 60 dX7_passes_59 rfl ?_
    refine pw_iconst (v := (2 : Int32)) (by decide) 61 dX7_passes_60 rfl ?_
    obtain ⟨h12, h⟩ := gd_e h
    refine pw_iald 62 dX7_passes_61 rfl lq1 yq1 h12 ?_
    refine pw_icmp_ge 193 65 dX7_passes_62 (by decide) rfl (fun c13 => ?_) (fun c13 => ?_)
    · have h := if_t h c13
      refine pw_sub [1, 2, 3] [(1, .ref (G.1 + q1)), (2, .int y2), (3, .int y3)] rfl ?_
      cases h; exact hk
    · have h := if_f h c13
      refine pw_bipush (v := (6 : Int32)) (by decide) 67 dX7_passes_65 rfl ?_
      refine pw_bipush (v := (7 : Int32)) (by decide) 69 dX7_passes_67 rfl ?_
      refine pw_iload 4 rfl 71 dX7_passes_69 rfl ?_
      refine pw_imul 72 dX7_passes_71 rfl ?_
      refine pw_iadd 73 dX7_passes_72 rfl ?_
      obtain ⟨v14, ev14, h⟩ := nmE_ h
      refine pw_top ev14 ?_
      refine pw_istore [(5, .int v14), (0, .ref (G.1 + 298)), (1, .ref (G.1 + q1)), (2, .int y2), (3, .int y3), (4, .int y4)] 75 dX7_passes_73 rfl (Nat.le_of_ble_eq_true rfl) rfl ?_
      refine pw_aload_n 2 rfl rfl 76 dX7_passes_75 rfl ?_
      refine pw_iload 0 rfl 78 dX7_passes_76 rfl ?_
      refine pw_bipush (v := (6 : Int32)) (by decide) 80 dX7_passes_78 rfl ?_
      refine pw_iadd 81 dX7_passes_80 rfl ?_
      refine pw_aload_n 1 rfl rfl 82 dX7_passes_81 rfl ?_
      refine pw_getR 20 85 dX7_passes_82 rfl fi_X7_passes_7 lk_X7_passes_44 la_298 ly_298 (by decide) rfl (by decide) rfl rf_298_20 ?_
      refine pw_iload 5 rfl 87 dX7_passes_85 rfl ?_
      obtain ⟨h15, h⟩ := gd_e h
      refine pw_iald 88 dX7_passes_87 rfl la_310 ly_310 h15 ?_
      obtain ⟨v16, ev16, h⟩ := nmE_ h
      refine pw_top ev16 ?_
      obtain ⟨h44, h⟩ := gd_e h
      refine pw_iast 89 dX7_passes_88 rfl lq1 yq1 h44 ?_
      obtain ⟨m17, em17, h⟩ := nmE_ h
      refine pw_mem em17 ?_
      refine pw_aload_n 2 rfl rfl 90 dX7_passes_89 rfl ?_
      refine pw_iload 0 rfl 92 dX7_passes_90 rfl ?_
      refine pw_iconst (v := (2 : Int32)) (by decide) 93 dX7_passes_92 rfl ?_
      refine pw_iadd 94 dX7_passes_93 rfl ?_
      obtain ⟨v18, ev18, h⟩ := nmE_ h
      refine pw_top ev18 ?_
      refine pw_dup2_11 rfl rfl 95 dX7_passes_94 rfl ?_
      obtain ⟨h19, h⟩ := gd_e h
      refine pw_iald 96 dX7_passes_95 rfl lq1 yq1 h19 ?_
      refine pw_aload_n 1 rfl rfl 97 dX7_passes_96 rfl ?_
      refine pw_getR 20 100 dX7_passes_97 rfl fi_X7_passes_7 lk_X7_passes_44 la_298 ly_298 (by decide) rfl (by decide) rfl rf_298_20 ?_
      refine pw_iload 5 rfl 102 dX7_passes_100 rfl ?_
      obtain ⟨h20, h⟩ := gd_e h
      refine pw_iald 103 dX7_passes_102 rfl la_310 ly_310 h20 ?_
      refine pw_isub 104 dX7_passes_103 rfl ?_
      obtain ⟨v21, ev21, h⟩ := nmE_ h
      refine pw_top ev21 ?_
      obtain ⟨h43, h⟩ := gd_e h
      refine pw_iast 105 dX7_passes_104 rfl lq1 yq1 h43 ?_
      obtain ⟨m22, em22, h⟩ := nmE_ h
      refine pw_mem em22 ?_
      refine pw_iload_n 3 rfl rfl 106 dX7_passes_105 rfl ?_
      refine pw_aload_n 2 rfl rfl 107 dX7_passes_106 rfl ?_
      refine pw_iload 0 rfl 109 dX7_passes_107 rfl ?_
      obtain ⟨h23, h⟩ := gd_e h
      refine pw_iald 110 dX7_passes_109 rfl lq1 yq1 h23 ?_
      refine pw_iconst (v := (5 : Int32)) (by decide) 111 dX7_passes_110 rfl ?_
      obtain ⟨j26, qj26, h⟩ := bd1_e h
      have hJ125_j26 : PW G (KM l G RX7 cX7_passes 6 none wsX7_passes 3 (Qv G mF)) 125 [(0, .ref (G.1 + 298)), (1, .ref (G.1 + q1)), (3, .int y3), (4, .int y4), (5, .int v14)] [.int j26, .int y2] m22 := by
        refine pw_iadd 126 dX7_passes_125 rfl ?_
        obtain ⟨v27, ev27, h⟩ := nmE_ h
        refine pw_top ev27 ?_
        refine pw_istore_n (hf := rfl) [(2, .int v27), (0, .ref (G.1 + 298)), (1, .ref (G.1 + q1)), (3, .int y3), (4, .int y4), (5, .int v14)] 127 dX7_passes_126 rfl (Nat.le_of_ble_eq_true rfl) rfl ?_
        refine pw_iload_n 3 rfl rfl 128 dX7_passes_127 rfl ?_
        refine pw_aload_n 2 rfl rfl 129 dX7_passes_128 rfl ?_
        refine pw_iload 5 rfl 131 dX7_passes_129 rfl ?_
        obtain ⟨h28, h⟩ := gd_e h
        refine pw_iald 132 dX7_passes_131 rfl lq1 yq1 h28 ?_
        refine pw_iconst (v := (5 : Int32)) (by decide) 133 dX7_passes_132 rfl ?_
        obtain ⟨j31, qj31, h⟩ := bd1_e h
        have hJ147_j31 : PW G (KM l G RX7 cX7_passes 6 none wsX7_passes 3 (Qv G mF)) 147 [(0, .ref (G.1 + 298)), (1, .ref (G.1 + q1)), (2, .int v27), (4, .int y4), (5, .int v14)] [.int j31, .int y3] m22 := by
          refine pw_iadd 148 dX7_passes_147 rfl ?_
          obtain ⟨v32, ev32, h⟩ := nmE_ h
          refine pw_top ev32 ?_
          refine pw_istore_n (hf := rfl) [(3, .int v32), (0, .ref (G.1 + 298)), (1, .ref (G.1 + q1)), (2, .int v27), (4, .int y4), (5, .int v14)] 149 dX7_passes_148 rfl (Nat.le_of_ble_eq_true rfl) rfl ?_
          refine pw_aload_n 2 rfl rfl 150 dX7_passes_149 rfl ?_
          refine pw_iconst (v := (5 : Int32)) (by decide) 151 dX7_passes_150 rfl ?_
          refine pw_ldc 153 lw_X7_passes_c165 dX7_passes_151 rfl ?_
          refine pw_aload_n 2 rfl rfl 154 dX7_passes_153 rfl ?_
          refine pw_iconst (v := (5 : Int32)) (by decide) 155 dX7_passes_154 rfl ?_
          obtain ⟨h33, h⟩ := gd_e h
          refine pw_iald 156 dX7_passes_155 rfl lq1 yq1 h33 ?_
          refine pw_aload_n 2 rfl rfl 157 dX7_passes_156 rfl ?_
          refine pw_iload 5 rfl 159 dX7_passes_157 rfl ?_
          obtain ⟨h34, h⟩ := gd_e h
          refine pw_iald 160 dX7_passes_159 rfl lq1 yq1 h34 ?_
          refine pw_iconst (v := (5 : Int32)) (by decide) 161 dX7_passes_160 rfl ?_
          obtain ⟨j38, qj38, h⟩ := bd1_e h
          have hJ182_j38 : PW G (KM l G RX7 cX7_passes 6 none wsX7_passes 3 (Qv G mF)) 182 [(0, .ref (G.1 + 298)), (1, .ref (G.1 + q1)), (2, .int v27), (3, .int v32), (4, .int y4)] [.int j38, .int (m22 q1 (ix (5 : Int32))), .int (99999 : Int32), .int (5 : Int32), .ref (G.1 + q1)] m22 := by
            refine pw_iadd 183 dX7_passes_182 rfl ?_
            refine pw_callSi 186 dX7_passes_183 rfl [.int (99999 : Int32), .int ((m22 q1 (ix (5 : Int32))) + j38)] 2 ⟨gX7_passes_X7_lesser, rfl, sgS_X7_lesser, ⟨Nat.le_of_ble_eq_true rfl, Nat.le_of_ble_eq_true rfl⟩, ⟨Nat.le_refl _, Nat.le_refl _⟩⟩ (k_X7_lesser rfl) rfl rfl (Nat.le_of_ble_eq_true rfl) ?_
            obtain ⟨v39, ev39, h⟩ := nmE_ h
            refine pw_top ev39 ?_
            obtain ⟨h42, h⟩ := gd_e h
            refine pw_iast 187 dX7_passes_186 rfl lq1 yq1 h42 ?_
            obtain ⟨m40, em40, h⟩ := nmE_ h
            refine pw_mem em40 ?_
            obtain ⟨v41, ev41, h⟩ := nmE_ h
            refine pw_iinc 4 rfl (by rw [ev41]; rfl) [(4, .int v41), (0, .ref (G.1 + 298)), (1, .ref (G.1 + q1)), (2, .int v27), (3, .int v32)] 190 dX7_passes_187 rfl (Nat.le_of_ble_eq_true rfl) rfl ?_
            refine pw_goto 57 dX7_passes_190 (by decide) ?_
            refine pw_sub [1, 2, 3, 4, 0] [(0, .ref (G.1 + 298)), (1, .ref (G.1 + q1)), (2, .int v27), (3, .int v32), (4, .int v41)] rfl ?_
            exact ih v27 v32 v41 m40 a0 a1 a2 h hk
          refine pw_icmp_ne 168 164 dX7_passes_161 (by decide) rfl (fun c35 => ?_) (fun c35 => ?_)
          · have qj38 := if_f qj38 c35
            refine pw_aload_n 1 rfl rfl 169 dX7_passes_168 rfl ?_
            refine pw_getR 20 172 dX7_passes_169 rfl fi_X7_passes_7 lk_X7_passes_44 la_298 ly_298 (by decide) rfl (by decide) rfl rf_298_20 ?_
            refine pw_iload 4 rfl 174 dX7_passes_172 rfl ?_
            obtain ⟨h36, qj38⟩ := gd_e qj38
            refine pw_iald 175 dX7_passes_174 rfl la_310 ly_310 h36 ?_
            refine pw_aload_n 2 rfl rfl 176 dX7_passes_175 rfl ?_
            refine pw_iload 5 rfl 178 dX7_passes_176 rfl ?_
            refine pw_iconst (v := (3 : Int32)) (by decide) 179 dX7_passes_178 rfl ?_
            refine pw_iadd 180 dX7_passes_179 rfl ?_
            obtain ⟨h37, qj38⟩ := gd_e qj38
            refine pw_iald 181 dX7_passes_180 rfl lq1 yq1 h37 ?_
            refine pw_imul 182 dX7_passes_181 rfl ?_
            refine pw_sub [1, 2, 3, 0, 4] [(0, .ref (G.1 + 298)), (1, .ref (G.1 + q1)), (2, .int v27), (3, .int v32), (4, .int y4)] rfl ?_
            cases qj38; exact hJ182_j38
          · have qj38 := if_t qj38 c35
            refine pw_iconst (v := (0 : Int32)) (by decide) 165 dX7_passes_164 rfl ?_
            refine pw_goto 182 dX7_passes_165 (by decide) ?_
            refine pw_sub [1, 2, 3, 0, 4] [(0, .ref (G.1 + 298)), (1, .ref (G.1 + q1)), (2, .int v27), (3, .int v32), (4, .int y4)] rfl ?_
            cases qj38; exact hJ182_j38
        refine pw_icmp_ne 146 136 dX7_passes_133 (by decide) rfl (fun c29 => ?_) (fun c29 => ?_)
        · have qj31 := if_f qj31 c29
          refine pw_iconst (v := (0 : Int32)) (by decide) 147 dX7_passes_146 rfl ?_
          refine pw_sub [1, 2, 0, 4, 5] [(0, .ref (G.1 + 298)), (1, .ref (G.1 + q1)), (2, .int v27), (4, .int y4), (5, .int v14)] rfl ?_
          cases qj31; exact hJ147_j31
        · have qj31 := if_t qj31 c29
          refine pw_aload_n 1 rfl rfl 137 dX7_passes_136 rfl ?_
          refine pw_getR 20 140 dX7_passes_137 rfl fi_X7_passes_7 lk_X7_passes_44 la_298 ly_298 (by decide) rfl (by decide) rfl rf_298_20 ?_
          refine pw_iload 4 rfl 142 dX7_passes_140 rfl ?_
          obtain ⟨h30, qj31⟩ := gd_e qj31
          refine pw_iald 143 dX7_passes_142 rfl la_310 ly_310 h30 ?_
          refine pw_goto 147 dX7_passes_143 (by decide) ?_
          refine pw_sub [1, 2, 0, 4, 5] [(0, .ref (G.1 + 298)), (1, .ref (G.1 + q1)), (2, .int v27), (4, .int y4), (5, .int v14)] rfl ?_
          cases qj31; exact hJ147_j31
      refine pw_icmp_ne 118 114 dX7_passes_111 (by decide) rfl (fun c24 => ?_) (fun c24 => ?_)
      · have qj26 := if_f qj26 c24
        refine pw_aload_n 1 rfl rfl 119 dX7_passes_118 rfl ?_
        refine pw_getR 20 122 dX7_passes_119 rfl fi_X7_passes_7 lk_X7_passes_44 la_298 ly_298 (by decide) rfl (by decide) rfl rf_298_20 ?_
        refine pw_iload 5 rfl 124 dX7_passes_122 rfl ?_
        obtain ⟨h25, qj26⟩ := gd_e qj26
        refine pw_iald 125 dX7_passes_124 rfl la_310 ly_310 h25 ?_
        refine pw_sub [1, 2, 4, 5, 0] [(0, .ref (G.1 + 298)), (1, .ref (G.1 + q1)), (3, .int y3), (4, .int y4), (5, .int v14)] rfl ?_
        cases qj26; exact hJ125_j26
      · have qj26 := if_t qj26 c24
        refine pw_iconst (v := (0 : Int32)) (by decide) 115 dX7_passes_114 rfl ?_
        refine pw_goto 125 dX7_passes_115 (by decide) ?_
        refine pw_sub [1, 2, 4, 5, 0] [(0, .ref (G.1 + 298)), (1, .ref (G.1 + q1)), (3, .int y3), (4, .int y4), (5, .int v14)] rfl ?_
        cases qj26; exact hJ125_j26
set_option maxHeartbeats 4000000 in
set_option maxRecDepth 100000 in
theorem k_X7_passes {l : Launch} {G : Gx} {q1 nq1 : Nat} {m mF : Mm}  (lq1 : q1 < 313) (yq1 : ly q1 = (8, nq1)) (h : f_X7_passes q1 nq1 m = some mF) : Cn l G 3 yX7_passes wsX7_passes [.ref (G.1 + 298), .ref (G.1 + q1)] m (Qv G mF) := by
  unfold f_X7_passes at h
  refine Cn.of (own := RX7) (lv := [(0, .ref (G.1 + 298)), (1, .ref (G.1 + q1))]) (by decide) rfl rfl (Nat.le_of_ble_eq_true rfl) rfl ?_
  refine pw_iconst (v := (0 : Int32)) (by decide) 1 dX7_passes_0 rfl ?_
  refine pw_istore_n (hf := rfl) [(2, .int (0 : Int32)), (0, .ref (G.1 + 298)), (1, .ref (G.1 + q1))] 2 dX7_passes_1 rfl (Nat.le_of_ble_eq_true rfl) rfl ?_
  refine pw_iconst (v := (0 : Int32)) (by decide) 3 dX7_passes_2 rfl ?_
  refine pw_istore_n (hf := rfl) [(3, .int (0 : Int32)), (2, .int (0 : Int32)), (0, .ref (G.1 + 298)), (1, .ref (G.1 + q1))] 4 dX7_passes_3 rfl (Nat.le_of_ble_eq_true rfl) rfl ?_
  refine pw_iconst (v := (0 : Int32)) (by decide) 5 dX7_passes_4 rfl ?_
  refine pw_istore [(4, .int (0 : Int32)), (3, .int (0 : Int32)), (2, .int (0 : Int32)), (0, .ref (G.1 + 298)), (1, .ref (G.1 + q1))] 7 dX7_passes_5 rfl (Nat.le_of_ble_eq_true rfl) rfl ?_
  obtain ⟨m10, h11, h⟩ := bd1_e h
  have hL7_h11 : PW G (KM l G RX7 cX7_passes 6 none wsX7_passes 3 (Qv G mF)) 54 [(0, .ref (G.1 + 298)), (1, .ref (G.1 + q1)), (2, .int (0 : Int32)), (3, .int (0 : Int32))] [] m10 := by
    refine pw_iconst (v := (0 : Int32)) (by decide) 55 dX7_passes_54 rfl ?_
    refine pw_istore [(4, .int (0 : Int32)), (0, .ref (G.1 + 298)), (1, .ref (G.1 + q1)), (2, .int (0 : Int32)), (3, .int (0 : Int32))] 57 dX7_passes_55 rfl (Nat.le_of_ble_eq_true rfl) rfl ?_
    obtain ⟨z45, z46, m47, h48, h⟩ := bd3_e h
    have hL57_h48 : PW G (KM l G RX7 cX7_passes 6 none wsX7_passes 3 (Qv G mF)) 193 [(1, .ref (G.1 + q1)), (2, .int z45), (3, .int z46)] [] m47 := by
      refine pw_aload_n 0 rfl rfl 194 dX7_passes_193 rfl ?_
      refine pw_iconst (v := (4 : Int32)) (by decide) 195 dX7_passes_194 rfl ?_
      refine pw_iconst (v := (0 : Int32)) (by decide) 196 dX7_passes_195 rfl ?_
      refine pw_sipush (v := (999 : Int32)) (by decide) 199 dX7_passes_196 rfl ?_
      refine pw_aload_n 0 rfl rfl 200 dX7_passes_199 rfl ?_
      refine pw_iconst (v := (4 : Int32)) (by decide) 201 dX7_passes_200 rfl ?_
      obtain ⟨h49, h⟩ := gd_e h
      refine pw_iald 202 dX7_passes_201 rfl lq1 yq1 h49 ?_
      refine pw_iload_n 1 rfl rfl 203 dX7_passes_202 rfl ?_
      refine pw_iadd 204 dX7_passes_203 rfl ?_
      refine pw_callSi 207 dX7_passes_204 rfl [.int (999 : Int32), .int ((m47 q1 (ix (4 : Int32))) + z45)] 2 ⟨gX7_passes_X7_lesser, rfl, sgS_X7_lesser, ⟨Nat.le_of_ble_eq_true rfl, Nat.le_of_ble_eq_true rfl⟩, ⟨Nat.le_refl _, Nat.le_refl _⟩⟩ (k_X7_lesser rfl) rfl rfl (Nat.le_of_ble_eq_true rfl) ?_
      refine pw_iload_n 2 rfl rfl 208 dX7_passes_207 rfl ?_
      refine pw_isub 209 dX7_passes_208 rfl ?_
      refine pw_callSi 212 dX7_passes_209 rfl [.int (0 : Int32), .int ((f_X7_lesser (999 : Int32) ((m47 q1 (ix (4 : Int32))) + z45)) - z46)] 2 ⟨gX7_passes_X7_greater, rfl, sgS_X7_greater, ⟨Nat.le_of_ble_eq_true rfl, Nat.le_of_ble_eq_true rfl⟩, ⟨Nat.le_refl _, Nat.le_refl _⟩⟩ (k_X7_greater rfl) rfl rfl (Nat.le_of_ble_eq_true rfl) ?_
      obtain ⟨v50, ev50, h⟩ := nmE_ h
      refine pw_top ev50 ?_
      obtain ⟨h56, h⟩ := gd_e h
      refine pw_iast 213 dX7_passes_212 rfl lq1 yq1 h56 ?_
      obtain ⟨m51, em51, h⟩ := nmE_ h
      refine pw_mem em51 ?_
      refine pw_aload_n 0 rfl rfl 214 dX7_passes_213 rfl ?_
      refine pw_iconst (v := (3 : Int32)) (by decide) 215 dX7_passes_214 rfl ?_
      refine pw_dup2_11 rfl rfl 216 dX7_passes_215 rfl ?_
      obtain ⟨h52, h⟩ := gd_e h
      refine pw_iald 217 dX7_passes_216 rfl lq1 yq1 h52 ?_
      refine pw_iconst (v := (1 : Int32)) (by decide) 218 dX7_passes_217 rfl ?_
      refine pw_iadd 219 dX7_passes_218 rfl ?_
      obtain ⟨v53, ev53, h⟩ := nmE_ h
      refine pw_top ev53 ?_
      obtain ⟨h55, h⟩ := gd_e h
      refine pw_iast 220 dX7_passes_219 rfl lq1 yq1 h55 ?_
      obtain ⟨m54, em54, h⟩ := nmE_ h
      refine pw_mem em54 ?_
      exact pw_vret dX7_passes_220 (Option.some.inj h)
    refine pw_sub [1, 2, 3, 4, 0] [(0, .ref (G.1 + 298)), (1, .ref (G.1 + q1)), (2, .int (0 : Int32)), (3, .int (0 : Int32)), (4, .int (0 : Int32))] rfl ?_
    exact kl_X7_passes_57 lq1 yq1 FU (0 : Int32) (0 : Int32) (0 : Int32) m10 z45 z46 m47 h48 hL57_h48
  refine pw_sub [3, 4, 2, 1, 0] [(0, .ref (G.1 + 298)), (1, .ref (G.1 + q1)), (2, .int (0 : Int32)), (3, .int (0 : Int32)), (4, .int (0 : Int32))] rfl ?_
  exact kl_X7_passes_7 lq1 yq1 FU (0 : Int32) (0 : Int32) (0 : Int32) m m10 h11 hL7_h11
set_option maxHeartbeats 4000000 in
set_option maxRecDepth 100000 in
theorem k_X7_hires {l : Launch} {G : Gx} {q1 nq1 : Nat} {x1 : Int32} {x2 : Int32} {m mF : Mm}  (lq1 : q1 < 313) (yq1 : ly q1 = (8, nq1)) (h : f_X7_hires q1 nq1 x1 x2 m = some mF) : Cn l G 0 yX7_hires wsX7_hires [.ref (G.1 + q1), .int x1, .int x2] m (Qv G mF) := by
  unfold f_X7_hires at h
  refine Cn.of (own := RX7) (lv := [(0, .ref (G.1 + q1)), (1, .int x1), (2, .int x2)]) (by decide) rfl rfl (Nat.le_of_ble_eq_true rfl) rfl ?_
  refine pw_aload_n 0 rfl rfl 1 dX7_hires_0 rfl ?_
  refine pw_bipush (v := (6 : Int32)) (by decide) 3 dX7_hires_1 rfl ?_
  refine pw_bipush (v := (7 : Int32)) (by decide) 5 dX7_hires_3 rfl ?_
  refine pw_iload_n 1 rfl rfl 6 dX7_hires_5 rfl ?_
  refine pw_imul 7 dX7_hires_6 rfl ?_
  refine pw_iadd 8 dX7_hires_7 rfl ?_
  refine pw_iconst (v := (5 : Int32)) (by decide) 9 dX7_hires_8 rfl ?_
  refine pw_iadd 10 dX7_hires_9 rfl ?_
  obtain ⟨h1, h⟩ := gd_e h
  refine pw_iald 11 dX7_hires_10 rfl lq1 yq1 h1 ?_
  refine pw_iload_n 2 rfl rfl 12 dX7_hires_11 rfl ?_
  refine pw_icmp_eq 40 15 dX7_hires_12 (by decide) rfl (fun c2 => ?_) (fun c2 => ?_)
  · have h := if_t h c2
    exact pw_vret dX7_hires_40 (Option.some.inj h)
  · have h := if_f h c2
    refine pw_aload_n 0 rfl rfl 16 dX7_hires_15 rfl ?_
    refine pw_bipush (v := (6 : Int32)) (by decide) 18 dX7_hires_16 rfl ?_
    refine pw_bipush (v := (7 : Int32)) (by decide) 20 dX7_hires_18 rfl ?_
    refine pw_iload_n 1 rfl rfl 21 dX7_hires_20 rfl ?_
    refine pw_imul 22 dX7_hires_21 rfl ?_
    refine pw_iadd 23 dX7_hires_22 rfl ?_
    refine pw_iconst (v := (5 : Int32)) (by decide) 24 dX7_hires_23 rfl ?_
    refine pw_iadd 25 dX7_hires_24 rfl ?_
    refine pw_iload_n 2 rfl rfl 26 dX7_hires_25 rfl ?_
    obtain ⟨h6, h⟩ := gd_e h
    refine pw_iast 27 dX7_hires_26 rfl lq1 yq1 h6 ?_
    obtain ⟨m3, em3, h⟩ := nmE_ h
    refine pw_mem em3 ?_
    refine pw_aload_n 0 rfl rfl 28 dX7_hires_27 rfl ?_
    refine pw_bipush (v := (6 : Int32)) (by decide) 30 dX7_hires_28 rfl ?_
    refine pw_bipush (v := (7 : Int32)) (by decide) 32 dX7_hires_30 rfl ?_
    refine pw_iload_n 1 rfl rfl 33 dX7_hires_32 rfl ?_
    refine pw_imul 34 dX7_hires_33 rfl ?_
    refine pw_iadd 35 dX7_hires_34 rfl ?_
    refine pw_bipush (v := (6 : Int32)) (by decide) 37 dX7_hires_35 rfl ?_
    refine pw_iadd 38 dX7_hires_37 rfl ?_
    refine pw_iconst (v := (0 : Int32)) (by decide) 39 dX7_hires_38 rfl ?_
    obtain ⟨h5, h⟩ := gd_e h
    refine pw_iast 40 dX7_hires_39 rfl lq1 yq1 h5 ?_
    obtain ⟨m4, em4, h⟩ := nmE_ h
    refine pw_mem em4 ?_
    exact pw_vret dX7_hires_40 (Option.some.inj h)
set_option maxHeartbeats 4000000 in
set_option maxRecDepth 100000 in
theorem k_X7_changes {l : Launch} {G : Gx} {q1 nq1 : Nat} {x1 : Int32} {x2 : Int32} {m mF : Mm}  (lq1 : q1 < 313) (yq1 : ly q1 = (8, nq1)) (h : f_X7_changes q1 nq1 x1 x2 m = some mF) : Cn l G 0 yX7_changes wsX7_changes [.ref (G.1 + q1), .int x1, .int x2] m (Qv G mF) := by
  unfold f_X7_changes at h
  refine Cn.of (own := RX7) (lv := [(0, .ref (G.1 + q1)), (1, .int x1), (2, .int x2)]) (by decide) rfl rfl (Nat.le_of_ble_eq_true rfl) rfl ?_
  refine pw_aload_n 0 rfl rfl 1 dX7_changes_0 rfl ?_
  refine pw_bipush (v := (6 : Int32)) (by decide) 3 dX7_changes_1 rfl ?_
  refine pw_bipush (v := (7 : Int32)) (by decide) 5 dX7_changes_3 rfl ?_
  refine pw_iload_n 1 rfl rfl 6 dX7_changes_5 rfl ?_
  refine pw_imul 7 dX7_changes_6 rfl ?_
  refine pw_iadd 8 dX7_changes_7 rfl ?_
  refine pw_iconst (v := (4 : Int32)) (by decide) 9 dX7_changes_8 rfl ?_
  refine pw_iadd 10 dX7_changes_9 rfl ?_
  obtain ⟨h1, h⟩ := gd_e h
  refine pw_iald 11 dX7_changes_10 rfl lq1 yq1 h1 ?_
  obtain ⟨v2, ev2, h⟩ := nmE_ h
  refine pw_top ev2 ?_
  refine pw_istore_n (hf := rfl) [(3, .int v2), (0, .ref (G.1 + q1)), (1, .int x1), (2, .int x2)] 12 dX7_changes_11 rfl (Nat.le_of_ble_eq_true rfl) rfl ?_
  refine pw_aload_n 1 rfl rfl 13 dX7_changes_12 rfl ?_
  refine pw_bipush (v := (6 : Int32)) (by decide) 15 dX7_changes_13 rfl ?_
  refine pw_bipush (v := (7 : Int32)) (by decide) 17 dX7_changes_15 rfl ?_
  refine pw_iload_n 2 rfl rfl 18 dX7_changes_17 rfl ?_
  refine pw_imul 19 dX7_changes_18 rfl ?_
  refine pw_iadd 20 dX7_changes_19 rfl ?_
  refine pw_iconst (v := (4 : Int32)) (by decide) 21 dX7_changes_20 rfl ?_
  refine pw_iadd 22 dX7_changes_21 rfl ?_
  refine pw_aload_n 1 rfl rfl 23 dX7_changes_22 rfl ?_
  refine pw_bipush (v := (6 : Int32)) (by decide) 25 dX7_changes_23 rfl ?_
  refine pw_bipush (v := (7 : Int32)) (by decide) 27 dX7_changes_25 rfl ?_
  refine pw_iload_n 3 rfl rfl 28 dX7_changes_27 rfl ?_
  refine pw_imul 29 dX7_changes_28 rfl ?_
  refine pw_iadd 30 dX7_changes_29 rfl ?_
  refine pw_iconst (v := (4 : Int32)) (by decide) 31 dX7_changes_30 rfl ?_
  refine pw_iadd 32 dX7_changes_31 rfl ?_
  obtain ⟨h3, h⟩ := gd_e h
  refine pw_iald 33 dX7_changes_32 rfl lq1 yq1 h3 ?_
  obtain ⟨v4, ev4, h⟩ := nmE_ h
  refine pw_top ev4 ?_
  obtain ⟨h8, h⟩ := gd_e h
  refine pw_iast 34 dX7_changes_33 rfl lq1 yq1 h8 ?_
  obtain ⟨m5, em5, h⟩ := nmE_ h
  refine pw_mem em5 ?_
  refine pw_aload_n 1 rfl rfl 35 dX7_changes_34 rfl ?_
  refine pw_bipush (v := (6 : Int32)) (by decide) 37 dX7_changes_35 rfl ?_
  refine pw_bipush (v := (7 : Int32)) (by decide) 39 dX7_changes_37 rfl ?_
  refine pw_iload_n 3 rfl rfl 40 dX7_changes_39 rfl ?_
  refine pw_imul 41 dX7_changes_40 rfl ?_
  refine pw_iadd 42 dX7_changes_41 rfl ?_
  refine pw_iconst (v := (4 : Int32)) (by decide) 43 dX7_changes_42 rfl ?_
  refine pw_iadd 44 dX7_changes_43 rfl ?_
  refine pw_iload_n 0 rfl rfl 45 dX7_changes_44 rfl ?_
  obtain ⟨h7, h⟩ := gd_e h
  refine pw_iast 46 dX7_changes_45 rfl lq1 yq1 h7 ?_
  obtain ⟨m6, em6, h⟩ := nmE_ h
  refine pw_mem em6 ?_
  exact pw_vret dX7_changes_46 (Option.some.inj h)
theorem fi_X7_hired_7 : ∀ w ∈ wsX70, w ∈ wsX7_hired := by decide +kernel
theorem lk_X7_hired_25 : Cond.fieldLink RX7 25 (TX7 13).1 (TX7 13).2.1 (TX7 13).2.2.1 ∈ wsX7_hired := by decide +kernel
set_option maxHeartbeats 4000000 in
set_option maxRecDepth 100000 in
theorem kl_X7_hired_4 {l : Launch} {G : Gx}  {r : Int32}   : ∀ (n : Nat) (y1 : Int32) (y2 : Int32) (m : Mm) (a0 : Int32), lp_X7_hired_4 n y1 y2 m = some a0 → PW G (KM l G RX7 cX7_hired 3 (some .int) wsX7_hired 0 (Qi G r m)) 39 [(1, .int a0)] [] m → PW G (KM l G RX7 cX7_hired 3 (some .int) wsX7_hired 0 (Qi G r m)) 4 [(0, .ref (G.1 + 298)), (1, .int y1), (2, .int y2)] [] m := by
  intro n
  induction n with
  | zero => intro y1 y2 m a0 h hk; cases h
  | succ n ih =>
    intro y1 y2 m a0 h hk
    have h : lb_X7_hired_4 (lp_X7_hired_4 n) y1 y2 m = _ := h
    unfold lb_X7_hired_4 at h
    refine pw_iload_n 2 rfl rfl 5 dX7_hired_4 rfl ?_
    refine pw_aload_n 0 rfl rfl 6 dX7_hired_5 rfl ?_
    refine pw_getR 13 9 dX7_hired_6 rfl fi_X7_hired_7 lk_X7_hired_25 la_298 ly_298 (by decide) rfl (by decide) rfl rf_298_13 ?_
    refine pw_iconst (v := (2 : Int32)) (by decide) 10 dX7_hired_9 rfl ?_
    refine pw_iald 11 dX7_hired_10 rfl la_304 ly_304 (vp_lit rfl rfl) ?_
    refine pw_icmp_ge 39 14 dX7_hired_11 (by decide) rfl (fun c1 => ?_) (fun c1 => ?_)
    · have h := if_t h c1
      refine pw_sub [1] [(1, .int y1)] rfl ?_
      cases h; exact hk
    · have h := if_f h c1
      refine pw_iload_n 1 rfl rfl 15 dX7_hired_14 rfl ?_
      refine pw_aload_n 0 rfl rfl 16 dX7_hired_15 rfl ?_
      refine pw_getR 13 19 dX7_hired_16 rfl fi_X7_hired_7 lk_X7_hired_25 la_298 ly_298 (by decide) rfl (by decide) rfl rf_298_13 ?_
      refine pw_bipush (v := (6 : Int32)) (by decide) 21 dX7_hired_19 rfl ?_
      refine pw_bipush (v := (7 : Int32)) (by decide) 23 dX7_hired_21 rfl ?_
      refine pw_iload_n 2 rfl rfl 24 dX7_hired_23 rfl ?_
      refine pw_imul 25 dX7_hired_24 rfl ?_
      refine pw_iadd 26 dX7_hired_25 rfl ?_
      refine pw_iconst (v := (5 : Int32)) (by decide) 27 dX7_hired_26 rfl ?_
      refine pw_iadd 28 dX7_hired_27 rfl ?_
      obtain ⟨h2, h⟩ := gd_e h
      refine pw_iald 29 dX7_hired_28 rfl la_304 ly_304 h2 ?_
      refine pw_iload_n 2 rfl rfl 30 dX7_hired_29 rfl ?_
      refine pw_ishl 31 dX7_hired_30 rfl ?_
      refine pw_ior 32 dX7_hired_31 rfl ?_
      obtain ⟨v3, ev3, h⟩ := nmE_ h
      refine pw_top ev3 ?_
      refine pw_istore_n (hf := rfl) [(1, .int v3), (0, .ref (G.1 + 298)), (2, .int y2)] 33 dX7_hired_32 rfl (Nat.le_of_ble_eq_true rfl) rfl ?_
      obtain ⟨v4, ev4, h⟩ := nmE_ h
      refine pw_iinc 2 rfl (by rw [ev4]; rfl) [(2, .int v4), (1, .int v3), (0, .ref (G.1 + 298))] 36 dX7_hired_33 rfl (Nat.le_of_ble_eq_true rfl) rfl ?_
      refine pw_goto 4 dX7_hired_36 (by decide) ?_
      refine pw_sub [2, 1, 0] [(0, .ref (G.1 + 298)), (1, .int v3), (2, .int v4)] rfl ?_
      exact ih v3 v4 m a0 h hk
set_option maxHeartbeats 4000000 in
set_option maxRecDepth 100000 in
theorem k_X7_hired {l : Launch} {G : Gx}  {m : Mm} {r : Int32}  (h : f_X7_hired m = some r) : Cn l G 0 yX7_hired wsX7_hired [.ref (G.1 + 298)] m (Qi G r m) := by
  unfold f_X7_hired at h
  refine Cn.of (own := RX7) (lv := [(0, .ref (G.1 + 298))]) (by decide) rfl rfl (Nat.le_of_ble_eq_true rfl) rfl ?_
  refine pw_iconst (v := (0 : Int32)) (by decide) 1 dX7_hired_0 rfl ?_
  refine pw_istore_n (hf := rfl) [(1, .int (0 : Int32)), (0, .ref (G.1 + 298))] 2 dX7_hired_1 rfl (Nat.le_of_ble_eq_true rfl) rfl ?_
  refine pw_iconst (v := (0 : Int32)) (by decide) 3 dX7_hired_2 rfl ?_
  refine pw_istore_n (hf := rfl) [(2, .int (0 : Int32)), (1, .int (0 : Int32)), (0, .ref (G.1 + 298))] 4 dX7_hired_3 rfl (Nat.le_of_ble_eq_true rfl) rfl ?_
  obtain ⟨z5, h6, h⟩ := bd1_e h
  have hL4_h6 : PW G (KM l G RX7 cX7_hired 3 (some .int) wsX7_hired 0 (Qi G r m)) 39 [(1, .int z5)] [] m := by
    refine pw_iload_n 0 rfl rfl 40 dX7_hired_39 rfl ?_
    exact pw_iret dX7_hired_40 ⟨Option.some.inj h, rfl⟩
  refine pw_sub [2, 1, 0] [(0, .ref (G.1 + 298)), (1, .int (0 : Int32)), (2, .int (0 : Int32))] rfl ?_
  exact kl_X7_hired_4 FU (0 : Int32) (0 : Int32) m z5 h6 hL4_h6
theorem fi_X7_notes_7 : ∀ w ∈ wsX70, w ∈ wsX7_notes := by decide +kernel
theorem lk_X7_notes_142 : Cond.fieldLink RX7 142 (TX7 17).1 (TX7 17).2.1 (TX7 17).2.2.1 ∈ wsX7_notes := by decide +kernel
theorem lk_X7_notes_34 : Cond.fieldLink RX7 34 (TX7 16).1 (TX7 16).2.1 (TX7 16).2.2.1 ∈ wsX7_notes := by decide +kernel
theorem lk_X7_notes_25 : Cond.fieldLink RX7 25 (TX7 13).1 (TX7 13).2.1 (TX7 13).2.2.1 ∈ wsX7_notes := by decide +kernel
set_option maxHeartbeats 4000000 in
set_option maxRecDepth 100000 in
theorem kl_X7_notes_11 {l : Launch} {G : Gx}   {mF : Mm}  : ∀ (n : Nat) (y1 : Int32) (m : Mm) (a0 : Mm), lp_X7_notes_11 n y1 m = some a0 → PW G (KM l G RX7 cX7_notes 2 none wsX7_notes 1 (Qv G mF)) 39 [(0, .ref (G.1 + 298))] [] a0 → PW G (KM l G RX7 cX7_notes 2 none wsX7_notes 1 (Qv G mF)) 11 [(0, .ref (G.1 + 298)), (1, .int y1)] [] m := by
  intro n
  induction n with
  | zero => intro y1 m a0 h hk; cases h
  | succ n ih =>
    intro y1 m a0 h hk
    have h : lb_X7_notes_11 (lp_X7_notes_11 n) y1 m = _ := h
    unfold lb_X7_notes_11 at h
    refine pw_iload_n 1 rfl rfl 12 dX7_notes_11 rfl ?_
    refine pw_sipush (v := (1265 : Int32)) (by decide) 15 dX7_notes_12 rfl ?_
    refine pw_icmp_ge 39 18 dX7_notes_15 (by decide) rfl (fun c2 => ?_) (fun c2 => ?_)
    · have h := if_t h c2
      refine pw_sub [0] [(0, .ref (G.1 + 298))] rfl ?_
      cases h; exact hk
    · have h := if_f h c2
      refine pw_aload_n 0 rfl rfl 19 dX7_notes_18 rfl ?_
      refine pw_getR 16 22 dX7_notes_19 rfl fi_X7_notes_7 lk_X7_notes_34 la_298 ly_298 (by decide) rfl (by decide) rfl rf_298_16 ?_
      refine pw_iload_n 1 rfl rfl 23 dX7_notes_22 rfl ?_
      refine pw_aload_n 0 rfl rfl 24 dX7_notes_23 rfl ?_
      refine pw_getR 16 27 dX7_notes_24 rfl fi_X7_notes_7 lk_X7_notes_34 la_298 ly_298 (by decide) rfl (by decide) rfl rf_298_16 ?_
      refine pw_iload_n 1 rfl rfl 28 dX7_notes_27 rfl ?_
      refine pw_bipush (v := (55 : Int32)) (by decide) 30 dX7_notes_28 rfl ?_
      refine pw_iadd 31 dX7_notes_30 rfl ?_
      obtain ⟨h3, h⟩ := gd_e h
      refine pw_iald 32 dX7_notes_31 rfl la_307 ly_307 h3 ?_
      obtain ⟨v4, ev4, h⟩ := nmE_ h
      refine pw_top ev4 ?_
      obtain ⟨h7, h⟩ := gd_e h
      refine pw_iast 33 dX7_notes_32 rfl la_307 ly_307 h7 ?_
      obtain ⟨m5, em5, h⟩ := nmE_ h
      refine pw_mem em5 ?_
      obtain ⟨v6, ev6, h⟩ := nmE_ h
      refine pw_iinc 1 rfl (by rw [ev6]; rfl) [(1, .int v6), (0, .ref (G.1 + 298))] 36 dX7_notes_33 rfl (Nat.le_of_ble_eq_true rfl) rfl ?_
      refine pw_goto 11 dX7_notes_36 (by decide) ?_
      refine pw_sub [1, 0] [(0, .ref (G.1 + 298)), (1, .int v6)] rfl ?_
      exact ih v6 m5 a0 h hk
set_option maxHeartbeats 4000000 in
set_option maxRecDepth 100000 in
theorem k_X7_notes {l : Launch} {G : Gx}  {m mF : Mm}   (h : f_X7_notes m = some mF) : Cn l G 1 yX7_notes wsX7_notes [.ref (G.1 + 298)] m (Qv G mF) := by
  unfold f_X7_notes at h
  refine Cn.of (own := RX7) (lv := [(0, .ref (G.1 + 298))]) (by decide) rfl rfl (Nat.le_of_ble_eq_true rfl) rfl ?_
  refine pw_aload_n 0 rfl rfl 1 dX7_notes_0 rfl ?_
  refine pw_getI 17 4 dX7_notes_1 rfl fi_X7_notes_7 lk_X7_notes_142 la_298 ly_298 (by decide) rfl (by decide) rfl ?_
  refine pw_bipush (v := (24 : Int32)) (by decide) 6 dX7_notes_4 rfl ?_
  obtain ⟨m12, qm12, h⟩ := bd1_e h
  have hJ49_m12 : PW G (KM l G RX7 cX7_notes 2 none wsX7_notes 1 (Qv G mF)) 49 [(0, .ref (G.1 + 298))] [] m12 := by
    refine pw_aload_n 0 rfl rfl 50 dX7_notes_49 rfl ?_
    refine pw_getR 13 53 dX7_notes_50 rfl fi_X7_notes_7 lk_X7_notes_25 la_298 ly_298 (by decide) rfl (by decide) rfl rf_298_13 ?_
    refine pw_iconst (v := (0 : Int32)) (by decide) 54 dX7_notes_53 rfl ?_
    refine pw_aload_n 0 rfl rfl 55 dX7_notes_54 rfl ?_
    refine pw_getR 16 58 dX7_notes_55 rfl fi_X7_notes_7 lk_X7_notes_34 la_298 ly_298 (by decide) rfl (by decide) rfl rf_298_16 ?_
    refine pw_bipush (v := (55 : Int32)) (by decide) 60 dX7_notes_58 rfl ?_
    refine pw_aload_n 0 rfl rfl 61 dX7_notes_60 rfl ?_
    refine pw_getI 17 64 dX7_notes_61 rfl fi_X7_notes_7 lk_X7_notes_142 la_298 ly_298 (by decide) rfl (by decide) rfl ?_
    refine pw_imul 65 dX7_notes_64 rfl ?_
    obtain ⟨m13, hm13, h⟩ := bd1_e h
    refine pw_callSv 68 dX7_notes_65 rfl [.ref (G.1 + 304), .int (0 : Int32), .ref (G.1 + 307), .int ((55 : Int32) * (m12 298 17))] 4 ⟨gX7_notes_X7_copies, rfl, sgS_X7_copies, ⟨Nat.le_of_ble_eq_true rfl, Nat.le_of_ble_eq_true rfl⟩, ⟨Nat.le_refl _, Nat.le_refl _⟩⟩ (k_X7_copies la_304 ly_304 la_307 ly_307 hm13) rfl rfl (Nat.le_of_ble_eq_true rfl) ?_
    refine pw_aload_n 0 rfl rfl 69 dX7_notes_68 rfl ?_
    refine pw_dup rfl 70 dX7_notes_69 rfl ?_
    refine pw_getI 17 73 dX7_notes_70 rfl fi_X7_notes_7 lk_X7_notes_142 la_298 ly_298 (by decide) rfl (by decide) rfl ?_
    refine pw_iconst (v := (1 : Int32)) (by decide) 74 dX7_notes_73 rfl ?_
    refine pw_iadd 75 dX7_notes_74 rfl ?_
    obtain ⟨v14, ev14, h⟩ := nmE_ h
    refine pw_top ev14 ?_
    refine pw_put (ty0 := tyX7) (ty := .int) 17 78 dX7_notes_75 rfl fi_X7_notes_7 tyX7_ok nmX7 lk_X7_notes_142 la_298 ly_298 (by decide) rfl (by decide) rfl rfl rfl rfl rfl ?_
    obtain ⟨m15, em15, h⟩ := nmE_ h
    refine pw_mem em15 ?_
    exact pw_vret dX7_notes_78 (Option.some.inj h)
  refine pw_icmp_ne 49 9 dX7_notes_6 (by decide) rfl (fun c1 => ?_) (fun c1 => ?_)
  · have qm12 := if_f qm12 c1
    refine pw_sub [0] [(0, .ref (G.1 + 298))] rfl ?_
    cases qm12; exact hJ49_m12
  · have qm12 := if_t qm12 c1
    refine pw_iconst (v := (0 : Int32)) (by decide) 10 dX7_notes_9 rfl ?_
    refine pw_istore_n (hf := rfl) [(1, .int (0 : Int32)), (0, .ref (G.1 + 298))] 11 dX7_notes_10 rfl (Nat.le_of_ble_eq_true rfl) rfl ?_
    obtain ⟨m8, h9, qm12⟩ := bd1_e qm12
    have hL11_h9 : PW G (KM l G RX7 cX7_notes 2 none wsX7_notes 1 (Qv G mF)) 39 [(0, .ref (G.1 + 298))] [] m8 := by
      refine pw_aload_n 0 rfl rfl 40 dX7_notes_39 rfl ?_
      refine pw_dup rfl 41 dX7_notes_40 rfl ?_
      refine pw_getI 17 44 dX7_notes_41 rfl fi_X7_notes_7 lk_X7_notes_142 la_298 ly_298 (by decide) rfl (by decide) rfl ?_
      refine pw_iconst (v := (1 : Int32)) (by decide) 45 dX7_notes_44 rfl ?_
      refine pw_isub 46 dX7_notes_45 rfl ?_
      obtain ⟨v10, ev10, qm12⟩ := nmE_ qm12
      refine pw_top ev10 ?_
      refine pw_put (ty0 := tyX7) (ty := .int) 17 49 dX7_notes_46 rfl fi_X7_notes_7 tyX7_ok nmX7 lk_X7_notes_142 la_298 ly_298 (by decide) rfl (by decide) rfl rfl rfl rfl rfl ?_
      obtain ⟨m11, em11, qm12⟩ := nmE_ qm12
      refine pw_mem em11 ?_
      refine pw_sub [0] [(0, .ref (G.1 + 298))] rfl ?_
      cases qm12; exact hJ49_m12
    refine pw_sub [1, 0] [(0, .ref (G.1 + 298)), (1, .int (0 : Int32))] rfl ?_
    exact kl_X7_notes_11 FU (0 : Int32) m m8 h9 hL11_h9
theorem fi_X7_minutes_7 : ∀ w ∈ wsX70, w ∈ wsX7_minutes := by decide +kernel
theorem lk_X7_minutes_25 : Cond.fieldLink RX7 25 (TX7 13).1 (TX7 13).2.1 (TX7 13).2.2.1 ∈ wsX7_minutes := by decide +kernel
theorem lw_X7_minutes_c88 : Cond.constant RX7 88 (-1000003 : Int32) ∈ wsX7_minutes := by decide +kernel
theorem lw_X7_minutes_c67 : Cond.constant RX7 67 (-1000001 : Int32) ∈ wsX7_minutes := by decide +kernel
theorem lw_X7_minutes_c169 : Cond.constant RX7 169 (-1000002 : Int32) ∈ wsX7_minutes := by decide +kernel
set_option maxHeartbeats 4000000 in
set_option maxRecDepth 100000 in
theorem kl_X7_minutes_42 {l : Launch} {G : Gx}  {r : Int32} {mF : Mm}  : ∀ (n : Nat) (y1 : Int32) (y2 : Int32) (m : Mm) (a0 : Mm), lp_X7_minutes_42 n y1 y2 m = some a0 → PW G (KM l G RX7 cX7_minutes 3 (some .int) wsX7_minutes 4 (Qi G r mF)) 65 [(0, .ref (G.1 + 298))] [] a0 → PW G (KM l G RX7 cX7_minutes 3 (some .int) wsX7_minutes 4 (Qi G r mF)) 42 [(0, .ref (G.1 + 298)), (1, .int y1), (2, .int y2)] [] m := by
  intro n
  induction n with
  | zero => intro y1 y2 m a0 h hk; cases h
  | succ n ih =>
    intro y1 y2 m a0 h hk
    have h : lb_X7_minutes_42 (lp_X7_minutes_42 n) y1 y2 m = _ := h
    unfold lb_X7_minutes_42 at h
    refine pw_iload_n 2 rfl rfl 43 dX7_minutes_42 rfl ?_
    refine pw_iload_n 1 rfl rfl 44 dX7_minutes_43 rfl ?_
    refine pw_icmp_ge 65 47 dX7_minutes_44 (by decide) rfl (fun c4 => ?_) (fun c4 => ?_)
    · have h := if_t h c4
      refine pw_sub [0] [(0, .ref (G.1 + 298))] rfl ?_
      cases h; exact hk
    · have h := if_f h c4
      refine pw_aload_n 0 rfl rfl 48 dX7_minutes_47 rfl ?_
      obtain ⟨m5, hm5, h⟩ := bd1_e h
      refine pw_callVv 51 dX7_minutes_48 rfl [] 0 ⟨gX7_minutes_X7_notes, rfl, sgV_X7_notes, ⟨Nat.le_of_ble_eq_true rfl, Nat.le_of_ble_eq_true rfl⟩, ⟨Nat.le_refl _, Nat.le_refl _⟩⟩ ly_298 (by decide) la_298 rfl (k_X7_notes hm5) rfl rfl (Nat.le_of_ble_eq_true rfl) ?_
      refine pw_aload_n 0 rfl rfl 52 dX7_minutes_51 rfl ?_
      refine pw_aload_n 0 rfl rfl 53 dX7_minutes_52 rfl ?_
      refine pw_getR 13 56 dX7_minutes_53 rfl fi_X7_minutes_7 lk_X7_minutes_25 la_298 ly_298 (by decide) rfl (by decide) rfl rf_298_13 ?_
      obtain ⟨m6, hm6, h⟩ := bd1_e h
      refine pw_callVv 59 dX7_minutes_56 rfl [.ref (G.1 + 304)] 1 ⟨gX7_minutes_X7_passes, rfl, sgV_X7_passes, ⟨Nat.le_of_ble_eq_true rfl, Nat.le_of_ble_eq_true rfl⟩, ⟨Nat.le_refl _, Nat.le_refl _⟩⟩ ly_298 (by decide) la_298 rfl (k_X7_passes la_304 ly_304 hm6) rfl rfl (Nat.le_of_ble_eq_true rfl) ?_
      obtain ⟨v7, ev7, h⟩ := nmE_ h
      refine pw_iinc 2 rfl (by rw [ev7]; rfl) [(2, .int v7), (0, .ref (G.1 + 298)), (1, .int y1)] 62 dX7_minutes_59 rfl (Nat.le_of_ble_eq_true rfl) rfl ?_
      refine pw_goto 42 dX7_minutes_62 (by decide) ?_
      refine pw_sub [1, 2, 0] [(0, .ref (G.1 + 298)), (1, .int y1), (2, .int v7)] rfl ?_
      exact ih y1 v7 m6 a0 h hk
set_option maxHeartbeats 4000000 in
set_option maxRecDepth 100000 in
theorem k_X7_minutes {l : Launch} {G : Gx} {x1 : Int32} {m mF : Mm} {r : Int32}  (h : f_X7_minutes x1 m = some (r, mF)) : Cn l G 4 yX7_minutes wsX7_minutes [.ref (G.1 + 298), .int x1] m (Qi G r mF) := by
  unfold f_X7_minutes at h
  refine Cn.of (own := RX7) (lv := [(0, .ref (G.1 + 298)), (1, .int x1)]) (by decide) rfl rfl (Nat.le_of_ble_eq_true rfl) rfl ?_
  refine pw_aload_n 0 rfl rfl 1 dX7_minutes_0 rfl ?_
  refine pw_callVi 4 dX7_minutes_1 rfl [] 0 ⟨gX7_minutes_X7_isWedding, rfl, sgV_X7_isWedding, ⟨Nat.le_of_ble_eq_true rfl, Nat.le_of_ble_eq_true rfl⟩, ⟨Nat.le_refl _, Nat.le_refl _⟩⟩ ly_298 (by decide) la_298 rfl (k_X7_isWedding rfl) rfl rfl (Nat.le_of_ble_eq_true rfl) ?_
  refine pw_if_ne 10 7 dX7_minutes_4 (by decide) rfl (fun c1 => ?_) (fun c1 => ?_)
  · have h := if_f h c1
    refine pw_iload_n 1 rfl rfl 11 dX7_minutes_10 rfl ?_
    refine pw_iconst (v := (1 : Int32)) (by decide) 12 dX7_minutes_11 rfl ?_
    refine pw_bipush (v := (24 : Int32)) (by decide) 14 dX7_minutes_12 rfl ?_
    refine pw_callSi 17 dX7_minutes_14 rfl [.int x1, .int (1 : Int32), .int (24 : Int32)] 3 ⟨gX7_minutes_X7_in, rfl, sgS_X7_in, ⟨Nat.le_of_ble_eq_true rfl, Nat.le_of_ble_eq_true rfl⟩, ⟨Nat.le_refl _, Nat.le_refl _⟩⟩ (k_X7_in rfl) rfl rfl (Nat.le_of_ble_eq_true rfl) ?_
    refine pw_if_ne 23 20 dX7_minutes_17 (by decide) rfl (fun c2 => ?_) (fun c2 => ?_)
    · have h := if_f h c2
      refine pw_aload_n 0 rfl rfl 24 dX7_minutes_23 rfl ?_
      refine pw_getR 13 27 dX7_minutes_24 rfl fi_X7_minutes_7 lk_X7_minutes_25 la_298 ly_298 (by decide) rfl (by decide) rfl rf_298_13 ?_
      refine pw_iconst (v := (3 : Int32)) (by decide) 28 dX7_minutes_27 rfl ?_
      refine pw_iald 29 dX7_minutes_28 rfl la_304 ly_304 (vp_lit rfl rfl) ?_
      refine pw_iload_n 1 rfl rfl 30 dX7_minutes_29 rfl ?_
      refine pw_iadd 31 dX7_minutes_30 rfl ?_
      refine pw_sipush (v := (9999 : Int32)) (by decide) 34 dX7_minutes_31 rfl ?_
      refine pw_icmp_le 40 37 dX7_minutes_34 (by decide) rfl (fun c3 => ?_) (fun c3 => ?_)
      · have h := if_t h c3
        refine pw_iconst (v := (0 : Int32)) (by decide) 41 dX7_minutes_40 rfl ?_
        refine pw_istore_n (hf := rfl) [(2, .int (0 : Int32)), (0, .ref (G.1 + 298)), (1, .int x1)] 42 dX7_minutes_41 rfl (Nat.le_of_ble_eq_true rfl) rfl ?_
        obtain ⟨m8, h9, h⟩ := bd1_e h
        have hL42_h9 : PW G (KM l G RX7 cX7_minutes 3 (some .int) wsX7_minutes 4 (Qi G r mF)) 65 [(0, .ref (G.1 + 298))] [] m8 := by
          refine pw_aload_n 0 rfl rfl 66 dX7_minutes_65 rfl ?_
          refine pw_getR 13 69 dX7_minutes_66 rfl fi_X7_minutes_7 lk_X7_minutes_25 la_298 ly_298 (by decide) rfl (by decide) rfl rf_298_13 ?_
          refine pw_iconst (v := (4 : Int32)) (by decide) 70 dX7_minutes_69 rfl ?_
          refine pw_iald 71 dX7_minutes_70 rfl la_304 ly_304 (vp_lit rfl rfl) ?_
          exact pw_iret dX7_minutes_71 (pr_inj h)
        refine pw_sub [1, 2, 0] [(0, .ref (G.1 + 298)), (1, .int x1), (2, .int (0 : Int32))] rfl ?_
        exact kl_X7_minutes_42 FU x1 (0 : Int32) m m8 h9 hL42_h9
      · have h := if_f h c3
        refine pw_ldc 39 lw_X7_minutes_c88 dX7_minutes_37 rfl ?_
        exact pw_iret dX7_minutes_39 (pr_inj h)
    · have h := if_t h c2
      refine pw_ldc 22 lw_X7_minutes_c67 dX7_minutes_20 rfl ?_
      exact pw_iret dX7_minutes_22 (pr_inj h)
  · have h := if_t h c1
    refine pw_ldc 9 lw_X7_minutes_c169 dX7_minutes_7 rfl ?_
    exact pw_iret dX7_minutes_9 (pr_inj h)
theorem lw_X7_hire_c67 : Cond.constant RX7 67 (-1000001 : Int32) ∈ wsX7_hire := by decide +kernel
theorem fi_X7_hire_7 : ∀ w ∈ wsX70, w ∈ wsX7_hire := by decide +kernel
theorem lk_X7_hire_25 : Cond.fieldLink RX7 25 (TX7 13).1 (TX7 13).2.1 (TX7 13).2.2.1 ∈ wsX7_hire := by decide +kernel
theorem lw_X7_hire_c169 : Cond.constant RX7 169 (-1000002 : Int32) ∈ wsX7_hire := by decide +kernel
set_option maxHeartbeats 4000000 in
set_option maxRecDepth 100000 in
theorem k_X7_hire {l : Launch} {G : Gx} {x1 : Int32} {x2 : Int32} {m mF : Mm} {r : Int32}  (h : f_X7_hire x1 x2 m = some (r, mF)) : Cn l G 2 yX7_hire wsX7_hire [.ref (G.1 + 298), .int x1, .int x2] m (Qi G r mF) := by
  unfold f_X7_hire at h
  refine Cn.of (own := RX7) (lv := [(0, .ref (G.1 + 298)), (1, .int x1), (2, .int x2)]) (by decide) rfl rfl (Nat.le_of_ble_eq_true rfl) rfl ?_
  refine pw_aload_n 0 rfl rfl 1 dX7_hire_0 rfl ?_
  refine pw_iload_n 1 rfl rfl 2 dX7_hire_1 rfl ?_
  obtain ⟨r1, hr1, h⟩ := bd1_e h
  refine pw_callVi 5 dX7_hire_2 rfl [.int x1] 1 ⟨gX7_hire_X7_isGuest, rfl, sgV_X7_isGuest, ⟨Nat.le_of_ble_eq_true rfl, Nat.le_of_ble_eq_true rfl⟩, ⟨Nat.le_refl _, Nat.le_refl _⟩⟩ ly_298 (by decide) la_298 rfl (k_X7_isGuest hr1) rfl rfl (Nat.le_of_ble_eq_true rfl) ?_
  refine pw_if_eq 17 8 dX7_hire_5 (by decide) rfl (fun c2 => ?_) (fun c2 => ?_)
  · have h := if_t h c2
    refine pw_ldc 19 lw_X7_hire_c67 dX7_hire_17 rfl ?_
    exact pw_iret dX7_hire_19 (pr_inj h)
  · have h := if_f h c2
    refine pw_iload_n 2 rfl rfl 9 dX7_hire_8 rfl ?_
    refine pw_iconst (v := (0 : Int32)) (by decide) 10 dX7_hire_9 rfl ?_
    refine pw_iconst (v := (1 : Int32)) (by decide) 11 dX7_hire_10 rfl ?_
    refine pw_callSi 14 dX7_hire_11 rfl [.int x2, .int (0 : Int32), .int (1 : Int32)] 3 ⟨gX7_hire_X7_in, rfl, sgS_X7_in, ⟨Nat.le_of_ble_eq_true rfl, Nat.le_of_ble_eq_true rfl⟩, ⟨Nat.le_refl _, Nat.le_refl _⟩⟩ (k_X7_in rfl) rfl rfl (Nat.le_of_ble_eq_true rfl) ?_
    refine pw_if_ne 20 17 dX7_hire_14 (by decide) rfl (fun c3 => ?_) (fun c3 => ?_)
    · have h := if_f h c3
      refine pw_aload_n 0 rfl rfl 21 dX7_hire_20 rfl ?_
      refine pw_getR 13 24 dX7_hire_21 rfl fi_X7_hire_7 lk_X7_hire_25 la_298 ly_298 (by decide) rfl (by decide) rfl rf_298_13 ?_
      refine pw_bipush (v := (6 : Int32)) (by decide) 26 dX7_hire_24 rfl ?_
      refine pw_bipush (v := (7 : Int32)) (by decide) 28 dX7_hire_26 rfl ?_
      refine pw_iload_n 1 rfl rfl 29 dX7_hire_28 rfl ?_
      refine pw_imul 30 dX7_hire_29 rfl ?_
      refine pw_iadd 31 dX7_hire_30 rfl ?_
      refine pw_iconst (v := (5 : Int32)) (by decide) 32 dX7_hire_31 rfl ?_
      refine pw_iadd 33 dX7_hire_32 rfl ?_
      obtain ⟨h4, h⟩ := gd_e h
      refine pw_iald 34 dX7_hire_33 rfl la_304 ly_304 h4 ?_
      refine pw_iload_n 2 rfl rfl 35 dX7_hire_34 rfl ?_
      refine pw_icmp_ne 41 38 dX7_hire_35 (by decide) rfl (fun c5 => ?_) (fun c5 => ?_)
      · have h := if_f h c5
        refine pw_aload_n 0 rfl rfl 42 dX7_hire_41 rfl ?_
        obtain ⟨m6, hm6, h⟩ := bd1_e h
        refine pw_callVv 45 dX7_hire_42 rfl [] 0 ⟨gX7_hire_X7_notes, rfl, sgV_X7_notes, ⟨Nat.le_of_ble_eq_true rfl, Nat.le_of_ble_eq_true rfl⟩, ⟨Nat.le_refl _, Nat.le_refl _⟩⟩ ly_298 (by decide) la_298 rfl (k_X7_notes hm6) rfl rfl (Nat.le_of_ble_eq_true rfl) ?_
        refine pw_aload_n 0 rfl rfl 46 dX7_hire_45 rfl ?_
        refine pw_getR 13 49 dX7_hire_46 rfl fi_X7_hire_7 lk_X7_hire_25 la_298 ly_298 (by decide) rfl (by decide) rfl rf_298_13 ?_
        refine pw_iload_n 1 rfl rfl 50 dX7_hire_49 rfl ?_
        refine pw_iload_n 2 rfl rfl 51 dX7_hire_50 rfl ?_
        obtain ⟨m7, hm7, h⟩ := bd1_e h
        refine pw_callSv 54 dX7_hire_51 rfl [.ref (G.1 + 304), .int x1, .int x2] 3 ⟨gX7_hire_X7_hires, rfl, sgS_X7_hires, ⟨Nat.le_of_ble_eq_true rfl, Nat.le_of_ble_eq_true rfl⟩, ⟨Nat.le_refl _, Nat.le_refl _⟩⟩ (k_X7_hires la_304 ly_304 hm7) rfl rfl (Nat.le_of_ble_eq_true rfl) ?_
        refine pw_aload_n 0 rfl rfl 55 dX7_hire_54 rfl ?_
        obtain ⟨r8, hr8, h⟩ := bd1_e h
        refine pw_callVi 58 dX7_hire_55 rfl [] 0 ⟨gX7_hire_X7_hired, rfl, sgV_X7_hired, ⟨Nat.le_of_ble_eq_true rfl, Nat.le_of_ble_eq_true rfl⟩, ⟨Nat.le_refl _, Nat.le_refl _⟩⟩ ly_298 (by decide) la_298 rfl (k_X7_hired hr8) rfl rfl (Nat.le_of_ble_eq_true rfl) ?_
        exact pw_iret dX7_hire_58 (pr_inj h)
      · have h := if_t h c5
        refine pw_ldc 40 lw_X7_hire_c169 dX7_hire_38 rfl ?_
        exact pw_iret dX7_hire_40 (pr_inj h)
    · have h := if_t h c3
      refine pw_ldc 19 lw_X7_hire_c67 dX7_hire_17 rfl ?_
      exact pw_iret dX7_hire_19 (pr_inj h)
theorem lw_X7_swap_c67 : Cond.constant RX7 67 (-1000001 : Int32) ∈ wsX7_swap := by decide +kernel
theorem fi_X7_swap_7 : ∀ w ∈ wsX70, w ∈ wsX7_swap := by decide +kernel
theorem lk_X7_swap_25 : Cond.fieldLink RX7 25 (TX7 13).1 (TX7 13).2.1 (TX7 13).2.2.1 ∈ wsX7_swap := by decide +kernel
set_option maxHeartbeats 4000000 in
set_option maxRecDepth 100000 in
theorem k_X7_swap {l : Launch} {G : Gx} {x1 : Int32} {x2 : Int32} {m mF : Mm} {r : Int32}  (h : f_X7_swap x1 x2 m = some (r, mF)) : Cn l G 2 yX7_swap wsX7_swap [.ref (G.1 + 298), .int x1, .int x2] m (Qi G r mF) := by
  unfold f_X7_swap at h
  refine Cn.of (own := RX7) (lv := [(0, .ref (G.1 + 298)), (1, .int x1), (2, .int x2)]) (by decide) rfl rfl (Nat.le_of_ble_eq_true rfl) rfl ?_
  refine pw_aload_n 0 rfl rfl 1 dX7_swap_0 rfl ?_
  refine pw_iload_n 1 rfl rfl 2 dX7_swap_1 rfl ?_
  obtain ⟨r1, hr1, h⟩ := bd1_e h
  refine pw_callVi 5 dX7_swap_2 rfl [.int x1] 1 ⟨gX7_swap_X7_isGuest, rfl, sgV_X7_isGuest, ⟨Nat.le_of_ble_eq_true rfl, Nat.le_of_ble_eq_true rfl⟩, ⟨Nat.le_refl _, Nat.le_refl _⟩⟩ ly_298 (by decide) la_298 rfl (k_X7_isGuest hr1) rfl rfl (Nat.le_of_ble_eq_true rfl) ?_
  refine pw_if_eq 21 8 dX7_swap_5 (by decide) rfl (fun c2 => ?_) (fun c2 => ?_)
  · have h := if_t h c2
    refine pw_ldc 23 lw_X7_swap_c67 dX7_swap_21 rfl ?_
    exact pw_iret dX7_swap_23 (pr_inj h)
  · have h := if_f h c2
    refine pw_aload_n 0 rfl rfl 9 dX7_swap_8 rfl ?_
    refine pw_iload_n 2 rfl rfl 10 dX7_swap_9 rfl ?_
    obtain ⟨r3, hr3, h⟩ := bd1_e h
    refine pw_callVi 13 dX7_swap_10 rfl [.int x2] 1 ⟨gX7_swap_X7_isGuest, rfl, sgV_X7_isGuest, ⟨Nat.le_of_ble_eq_true rfl, Nat.le_of_ble_eq_true rfl⟩, ⟨Nat.le_refl _, Nat.le_refl _⟩⟩ ly_298 (by decide) la_298 rfl (k_X7_isGuest hr3) rfl rfl (Nat.le_of_ble_eq_true rfl) ?_
    refine pw_if_eq 21 16 dX7_swap_13 (by decide) rfl (fun c4 => ?_) (fun c4 => ?_)
    · have h := if_t h c4
      refine pw_ldc 23 lw_X7_swap_c67 dX7_swap_21 rfl ?_
      exact pw_iret dX7_swap_23 (pr_inj h)
    · have h := if_f h c4
      refine pw_iload_n 1 rfl rfl 17 dX7_swap_16 rfl ?_
      refine pw_iload_n 2 rfl rfl 18 dX7_swap_17 rfl ?_
      refine pw_icmp_ne 24 21 dX7_swap_18 (by decide) rfl (fun c5 => ?_) (fun c5 => ?_)
      · have h := if_f h c5
        refine pw_aload_n 0 rfl rfl 25 dX7_swap_24 rfl ?_
        obtain ⟨m6, hm6, h⟩ := bd1_e h
        refine pw_callVv 28 dX7_swap_25 rfl [] 0 ⟨gX7_swap_X7_notes, rfl, sgV_X7_notes, ⟨Nat.le_of_ble_eq_true rfl, Nat.le_of_ble_eq_true rfl⟩, ⟨Nat.le_refl _, Nat.le_refl _⟩⟩ ly_298 (by decide) la_298 rfl (k_X7_notes hm6) rfl rfl (Nat.le_of_ble_eq_true rfl) ?_
        refine pw_aload_n 0 rfl rfl 29 dX7_swap_28 rfl ?_
        refine pw_getR 13 32 dX7_swap_29 rfl fi_X7_swap_7 lk_X7_swap_25 la_298 ly_298 (by decide) rfl (by decide) rfl rf_298_13 ?_
        refine pw_iload_n 1 rfl rfl 33 dX7_swap_32 rfl ?_
        refine pw_iload_n 2 rfl rfl 34 dX7_swap_33 rfl ?_
        obtain ⟨m7, hm7, h⟩ := bd1_e h
        refine pw_callSv 37 dX7_swap_34 rfl [.ref (G.1 + 304), .int x1, .int x2] 3 ⟨gX7_swap_X7_changes, rfl, sgS_X7_changes, ⟨Nat.le_of_ble_eq_true rfl, Nat.le_of_ble_eq_true rfl⟩, ⟨Nat.le_refl _, Nat.le_refl _⟩⟩ (k_X7_changes la_304 ly_304 hm7) rfl rfl (Nat.le_of_ble_eq_true rfl) ?_
        refine pw_aload_n 0 rfl rfl 38 dX7_swap_37 rfl ?_
        refine pw_getR 13 41 dX7_swap_38 rfl fi_X7_swap_7 lk_X7_swap_25 la_298 ly_298 (by decide) rfl (by decide) rfl rf_298_13 ?_
        refine pw_bipush (v := (6 : Int32)) (by decide) 43 dX7_swap_41 rfl ?_
        refine pw_bipush (v := (7 : Int32)) (by decide) 45 dX7_swap_43 rfl ?_
        refine pw_iload_n 1 rfl rfl 46 dX7_swap_45 rfl ?_
        refine pw_imul 47 dX7_swap_46 rfl ?_
        refine pw_iadd 48 dX7_swap_47 rfl ?_
        refine pw_iconst (v := (4 : Int32)) (by decide) 49 dX7_swap_48 rfl ?_
        refine pw_iadd 50 dX7_swap_49 rfl ?_
        obtain ⟨h8, h⟩ := gd_e h
        refine pw_iald 51 dX7_swap_50 rfl la_304 ly_304 h8 ?_
        exact pw_iret dX7_swap_51 (pr_inj h)
      · have h := if_t h c5
        refine pw_ldc 23 lw_X7_swap_c67 dX7_swap_21 rfl ?_
        exact pw_iret dX7_swap_23 (pr_inj h)
theorem fi_X7_hymns_7 : ∀ w ∈ wsX70, w ∈ wsX7_hymns := by decide +kernel
theorem lk_X7_hymns_25 : Cond.fieldLink RX7 25 (TX7 13).1 (TX7 13).2.1 (TX7 13).2.2.1 ∈ wsX7_hymns := by decide +kernel
theorem lw_X7_hymns_c67 : Cond.constant RX7 67 (-1000001 : Int32) ∈ wsX7_hymns := by decide +kernel
theorem lw_X7_hymns_c169 : Cond.constant RX7 169 (-1000002 : Int32) ∈ wsX7_hymns := by decide +kernel
set_option maxHeartbeats 4000000 in
set_option maxRecDepth 100000 in
theorem k_X7_hymns {l : Launch} {G : Gx} {x1 : Int32} {m mF : Mm} {r : Int32}  (h : f_X7_hymns x1 m = some (r, mF)) : Cn l G 2 yX7_hymns wsX7_hymns [.ref (G.1 + 298), .int x1] m (Qi G r mF) := by
  unfold f_X7_hymns at h
  refine Cn.of (own := RX7) (lv := [(0, .ref (G.1 + 298)), (1, .int x1)]) (by decide) rfl rfl (Nat.le_of_ble_eq_true rfl) rfl ?_
  refine pw_aload_n 0 rfl rfl 1 dX7_hymns_0 rfl ?_
  refine pw_callVi 4 dX7_hymns_1 rfl [] 0 ⟨gX7_hymns_X7_isWedding, rfl, sgV_X7_isWedding, ⟨Nat.le_of_ble_eq_true rfl, Nat.le_of_ble_eq_true rfl⟩, ⟨Nat.le_refl _, Nat.le_refl _⟩⟩ ly_298 (by decide) la_298 rfl (k_X7_isWedding rfl) rfl rfl (Nat.le_of_ble_eq_true rfl) ?_
  refine pw_if_ne 10 7 dX7_hymns_4 (by decide) rfl (fun c1 => ?_) (fun c1 => ?_)
  · have h := if_f h c1
    refine pw_iload_n 1 rfl rfl 11 dX7_hymns_10 rfl ?_
    refine pw_iconst (v := (0 : Int32)) (by decide) 12 dX7_hymns_11 rfl ?_
    refine pw_bipush (v := (15 : Int32)) (by decide) 14 dX7_hymns_12 rfl ?_
    refine pw_callSi 17 dX7_hymns_14 rfl [.int x1, .int (0 : Int32), .int (15 : Int32)] 3 ⟨gX7_hymns_X7_in, rfl, sgS_X7_in, ⟨Nat.le_of_ble_eq_true rfl, Nat.le_of_ble_eq_true rfl⟩, ⟨Nat.le_refl _, Nat.le_refl _⟩⟩ (k_X7_in rfl) rfl rfl (Nat.le_of_ble_eq_true rfl) ?_
    refine pw_if_ne 23 20 dX7_hymns_17 (by decide) rfl (fun c2 => ?_) (fun c2 => ?_)
    · have h := if_f h c2
      refine pw_aload_n 0 rfl rfl 24 dX7_hymns_23 rfl ?_
      obtain ⟨m3, hm3, h⟩ := bd1_e h
      refine pw_callVv 27 dX7_hymns_24 rfl [] 0 ⟨gX7_hymns_X7_notes, rfl, sgV_X7_notes, ⟨Nat.le_of_ble_eq_true rfl, Nat.le_of_ble_eq_true rfl⟩, ⟨Nat.le_refl _, Nat.le_refl _⟩⟩ ly_298 (by decide) la_298 rfl (k_X7_notes hm3) rfl rfl (Nat.le_of_ble_eq_true rfl) ?_
      refine pw_aload_n 0 rfl rfl 28 dX7_hymns_27 rfl ?_
      refine pw_getR 13 31 dX7_hymns_28 rfl fi_X7_hymns_7 lk_X7_hymns_25 la_298 ly_298 (by decide) rfl (by decide) rfl rf_298_13 ?_
      refine pw_iconst (v := (1 : Int32)) (by decide) 32 dX7_hymns_31 rfl ?_
      refine pw_iald 33 dX7_hymns_32 rfl la_304 ly_304 (vp_lit rfl rfl) ?_
      obtain ⟨v4, ev4, h⟩ := nmE_ h
      refine pw_top ev4 ?_
      refine pw_istore_n (hf := rfl) [(2, .int v4), (0, .ref (G.1 + 298)), (1, .int x1)] 34 dX7_hymns_33 rfl (Nat.le_of_ble_eq_true rfl) rfl ?_
      refine pw_aload_n 1 rfl rfl 35 dX7_hymns_34 rfl ?_
      refine pw_getR 13 38 dX7_hymns_35 rfl fi_X7_hymns_7 lk_X7_hymns_25 la_298 ly_298 (by decide) rfl (by decide) rfl rf_298_13 ?_
      refine pw_iconst (v := (1 : Int32)) (by decide) 39 dX7_hymns_38 rfl ?_
      refine pw_iload_n 2 rfl rfl 40 dX7_hymns_39 rfl ?_
      refine pw_iast 41 dX7_hymns_40 rfl la_304 ly_304 (vp_lit rfl rfl) ?_
      obtain ⟨m5, em5, h⟩ := nmE_ h
      refine pw_mem em5 ?_
      refine pw_iload_n 0 rfl rfl 42 dX7_hymns_41 rfl ?_
      exact pw_iret dX7_hymns_42 (pr_inj h)
    · have h := if_t h c2
      refine pw_ldc 22 lw_X7_hymns_c67 dX7_hymns_20 rfl ?_
      exact pw_iret dX7_hymns_22 (pr_inj h)
  · have h := if_t h c1
    refine pw_ldc 9 lw_X7_hymns_c169 dX7_hymns_7 rfl ?_
    exact pw_iret dX7_hymns_9 (pr_inj h)
theorem fi_X7_undo_7 : ∀ w ∈ wsX70, w ∈ wsX7_undo := by decide +kernel
theorem lk_X7_undo_142 : Cond.fieldLink RX7 142 (TX7 17).1 (TX7 17).2.1 (TX7 17).2.2.1 ∈ wsX7_undo := by decide +kernel
theorem lk_X7_undo_34 : Cond.fieldLink RX7 34 (TX7 16).1 (TX7 16).2.1 (TX7 16).2.2.1 ∈ wsX7_undo := by decide +kernel
theorem lk_X7_undo_25 : Cond.fieldLink RX7 25 (TX7 13).1 (TX7 13).2.1 (TX7 13).2.2.1 ∈ wsX7_undo := by decide +kernel
theorem lw_X7_undo_c169 : Cond.constant RX7 169 (-1000002 : Int32) ∈ wsX7_undo := by decide +kernel
set_option maxHeartbeats 4000000 in
set_option maxRecDepth 100000 in
theorem k_X7_undo {l : Launch} {G : Gx}  {m mF : Mm} {r : Int32}  (h : f_X7_undo m = some (r, mF)) : Cn l G 1 yX7_undo wsX7_undo [.ref (G.1 + 298)] m (Qi G r mF) := by
  unfold f_X7_undo at h
  refine Cn.of (own := RX7) (lv := [(0, .ref (G.1 + 298))]) (by decide) rfl rfl (Nat.le_of_ble_eq_true rfl) rfl ?_
  refine pw_aload_n 0 rfl rfl 1 dX7_undo_0 rfl ?_
  refine pw_getI 17 4 dX7_undo_1 rfl fi_X7_undo_7 lk_X7_undo_142 la_298 ly_298 (by decide) rfl (by decide) rfl ?_
  refine pw_if_ne 10 7 dX7_undo_4 (by decide) rfl (fun c1 => ?_) (fun c1 => ?_)
  · have h := if_f h c1
    refine pw_aload_n 0 rfl rfl 11 dX7_undo_10 rfl ?_
    refine pw_dup rfl 12 dX7_undo_11 rfl ?_
    refine pw_getI 17 15 dX7_undo_12 rfl fi_X7_undo_7 lk_X7_undo_142 la_298 ly_298 (by decide) rfl (by decide) rfl ?_
    refine pw_iconst (v := (1 : Int32)) (by decide) 16 dX7_undo_15 rfl ?_
    refine pw_isub 17 dX7_undo_16 rfl ?_
    obtain ⟨v2, ev2, h⟩ := nmE_ h
    refine pw_top ev2 ?_
    refine pw_put (ty0 := tyX7) (ty := .int) 17 20 dX7_undo_17 rfl fi_X7_undo_7 tyX7_ok nmX7 lk_X7_undo_142 la_298 ly_298 (by decide) rfl (by decide) rfl rfl rfl rfl rfl ?_
    obtain ⟨m3, em3, h⟩ := nmE_ h
    refine pw_mem em3 ?_
    refine pw_aload_n 0 rfl rfl 21 dX7_undo_20 rfl ?_
    refine pw_getR 16 24 dX7_undo_21 rfl fi_X7_undo_7 lk_X7_undo_34 la_298 ly_298 (by decide) rfl (by decide) rfl rf_298_16 ?_
    refine pw_bipush (v := (55 : Int32)) (by decide) 26 dX7_undo_24 rfl ?_
    refine pw_aload_n 0 rfl rfl 27 dX7_undo_26 rfl ?_
    refine pw_getI 17 30 dX7_undo_27 rfl fi_X7_undo_7 lk_X7_undo_142 la_298 ly_298 (by decide) rfl (by decide) rfl ?_
    refine pw_imul 31 dX7_undo_30 rfl ?_
    refine pw_aload_n 0 rfl rfl 32 dX7_undo_31 rfl ?_
    refine pw_getR 13 35 dX7_undo_32 rfl fi_X7_undo_7 lk_X7_undo_25 la_298 ly_298 (by decide) rfl (by decide) rfl rf_298_13 ?_
    refine pw_iconst (v := (0 : Int32)) (by decide) 36 dX7_undo_35 rfl ?_
    obtain ⟨m4, hm4, h⟩ := bd1_e h
    refine pw_callSv 39 dX7_undo_36 rfl [.ref (G.1 + 307), .int ((55 : Int32) * (m3 298 17)), .ref (G.1 + 304), .int (0 : Int32)] 4 ⟨gX7_undo_X7_copies, rfl, sgS_X7_copies, ⟨Nat.le_of_ble_eq_true rfl, Nat.le_of_ble_eq_true rfl⟩, ⟨Nat.le_refl _, Nat.le_refl _⟩⟩ (k_X7_copies la_307 ly_307 la_304 ly_304 hm4) rfl rfl (Nat.le_of_ble_eq_true rfl) ?_
    refine pw_aload_n 0 rfl rfl 40 dX7_undo_39 rfl ?_
    refine pw_getI 17 43 dX7_undo_40 rfl fi_X7_undo_7 lk_X7_undo_142 la_298 ly_298 (by decide) rfl (by decide) rfl ?_
    exact pw_iret dX7_undo_43 (pr_inj h)
  · have h := if_t h c1
    refine pw_ldc 9 lw_X7_undo_c169 dX7_undo_7 rfl ?_
    exact pw_iret dX7_undo_9 (pr_inj h)
theorem lw_X7_guest_c67 : Cond.constant RX7 67 (-1000001 : Int32) ∈ wsX7_guest := by decide +kernel
theorem fi_X7_guest_7 : ∀ w ∈ wsX70, w ∈ wsX7_guest := by decide +kernel
theorem lk_X7_guest_25 : Cond.fieldLink RX7 25 (TX7 13).1 (TX7 13).2.1 (TX7 13).2.2.1 ∈ wsX7_guest := by decide +kernel
set_option maxHeartbeats 4000000 in
set_option maxRecDepth 100000 in
theorem k_X7_guest {l : Launch} {G : Gx} {x1 : Int32} {x2 : Int32} {m : Mm} {r : Int32}  (h : f_X7_guest x1 x2 m = some r) : Cn l G 3 yX7_guest wsX7_guest [.ref (G.1 + 298), .int x1, .int x2] m (Qi G r m) := by
  unfold f_X7_guest at h
  refine Cn.of (own := RX7) (lv := [(0, .ref (G.1 + 298)), (1, .int x1), (2, .int x2)]) (by decide) rfl rfl (Nat.le_of_ble_eq_true rfl) rfl ?_
  refine pw_aload_n 0 rfl rfl 1 dX7_guest_0 rfl ?_
  refine pw_iload_n 1 rfl rfl 2 dX7_guest_1 rfl ?_
  obtain ⟨r1, hr1, h⟩ := bd1_e h
  refine pw_callVi 5 dX7_guest_2 rfl [.int x1] 1 ⟨gX7_guest_X7_isGuest, rfl, sgV_X7_isGuest, ⟨Nat.le_of_ble_eq_true rfl, Nat.le_of_ble_eq_true rfl⟩, ⟨Nat.le_refl _, Nat.le_refl _⟩⟩ ly_298 (by decide) la_298 rfl (k_X7_isGuest hr1) rfl rfl (Nat.le_of_ble_eq_true rfl) ?_
  refine pw_if_eq 18 8 dX7_guest_5 (by decide) rfl (fun c2 => ?_) (fun c2 => ?_)
  · have h := if_t h c2
    refine pw_ldc 20 lw_X7_guest_c67 dX7_guest_18 rfl ?_
    exact pw_iret dX7_guest_20 ⟨Option.some.inj h, rfl⟩
  · have h := if_f h c2
    refine pw_iload_n 2 rfl rfl 9 dX7_guest_8 rfl ?_
    refine pw_iconst (v := (0 : Int32)) (by decide) 10 dX7_guest_9 rfl ?_
    refine pw_bipush (v := (6 : Int32)) (by decide) 12 dX7_guest_10 rfl ?_
    refine pw_callSi 15 dX7_guest_12 rfl [.int x2, .int (0 : Int32), .int (6 : Int32)] 3 ⟨gX7_guest_X7_in, rfl, sgS_X7_in, ⟨Nat.le_of_ble_eq_true rfl, Nat.le_of_ble_eq_true rfl⟩, ⟨Nat.le_refl _, Nat.le_refl _⟩⟩ (k_X7_in rfl) rfl rfl (Nat.le_of_ble_eq_true rfl) ?_
    refine pw_if_ne 21 18 dX7_guest_15 (by decide) rfl (fun c3 => ?_) (fun c3 => ?_)
    · have h := if_f h c3
      refine pw_iload_n 2 rfl rfl 22 dX7_guest_21 rfl ?_
      refine pw_bipush (v := (6 : Int32)) (by decide) 24 dX7_guest_22 rfl ?_
      refine pw_icmp_ne 38 27 dX7_guest_24 (by decide) rfl (fun c4 => ?_) (fun c4 => ?_)
      · have h := if_f h c4
        refine pw_aload_n 0 rfl rfl 39 dX7_guest_38 rfl ?_
        refine pw_getR 13 42 dX7_guest_39 rfl fi_X7_guest_7 lk_X7_guest_25 la_298 ly_298 (by decide) rfl (by decide) rfl rf_298_13 ?_
        refine pw_bipush (v := (6 : Int32)) (by decide) 44 dX7_guest_42 rfl ?_
        refine pw_bipush (v := (7 : Int32)) (by decide) 46 dX7_guest_44 rfl ?_
        refine pw_iload_n 1 rfl rfl 47 dX7_guest_46 rfl ?_
        refine pw_imul 48 dX7_guest_47 rfl ?_
        refine pw_iadd 49 dX7_guest_48 rfl ?_
        refine pw_iconst (v := (1 : Int32)) (by decide) 50 dX7_guest_49 rfl ?_
        refine pw_iadd 51 dX7_guest_50 rfl ?_
        refine pw_iload_n 2 rfl rfl 52 dX7_guest_51 rfl ?_
        refine pw_iadd 53 dX7_guest_52 rfl ?_
        obtain ⟨h5, h⟩ := gd_e h
        refine pw_iald 54 dX7_guest_53 rfl la_304 ly_304 h5 ?_
        exact pw_iret dX7_guest_54 ⟨Option.some.inj h, rfl⟩
      · have h := if_t h c4
        refine pw_aload_n 0 rfl rfl 28 dX7_guest_27 rfl ?_
        refine pw_getR 13 31 dX7_guest_28 rfl fi_X7_guest_7 lk_X7_guest_25 la_298 ly_298 (by decide) rfl (by decide) rfl rf_298_13 ?_
        refine pw_iload_n 1 rfl rfl 32 dX7_guest_31 rfl ?_
        obtain ⟨r6, hr6, h⟩ := bd1_e h
        refine pw_callSi 35 dX7_guest_32 rfl [.ref (G.1 + 304), .int x1] 2 ⟨gX7_guest_X7_would, rfl, sgS_X7_would, ⟨Nat.le_of_ble_eq_true rfl, Nat.le_of_ble_eq_true rfl⟩, ⟨Nat.le_refl _, Nat.le_refl _⟩⟩ (k_X7_would la_304 ly_304 hr6) rfl rfl (Nat.le_of_ble_eq_true rfl) ?_
        refine pw_goto 54 dX7_guest_35 (by decide) ?_
        exact pw_iret dX7_guest_54 ⟨Option.some.inj h, rfl⟩
    · have h := if_t h c3
      refine pw_ldc 20 lw_X7_guest_c67 dX7_guest_18 rfl ?_
      exact pw_iret dX7_guest_20 ⟨Option.some.inj h, rfl⟩
theorem lw_X7_seat_c67 : Cond.constant RX7 67 (-1000001 : Int32) ∈ wsX7_seat := by decide +kernel
theorem fi_X7_seat_7 : ∀ w ∈ wsX70, w ∈ wsX7_seat := by decide +kernel
theorem lk_X7_seat_25 : Cond.fieldLink RX7 25 (TX7 13).1 (TX7 13).2.1 (TX7 13).2.2.1 ∈ wsX7_seat := by decide +kernel
set_option maxHeartbeats 4000000 in
set_option maxRecDepth 100000 in
theorem k_X7_seat {l : Launch} {G : Gx} {x1 : Int32} {m : Mm} {r : Int32}  (h : f_X7_seat x1 m = some r) : Cn l G 2 yX7_seat wsX7_seat [.ref (G.1 + 298), .int x1] m (Qi G r m) := by
  unfold f_X7_seat at h
  refine Cn.of (own := RX7) (lv := [(0, .ref (G.1 + 298)), (1, .int x1)]) (by decide) rfl rfl (Nat.le_of_ble_eq_true rfl) rfl ?_
  refine pw_aload_n 0 rfl rfl 1 dX7_seat_0 rfl ?_
  refine pw_iload_n 1 rfl rfl 2 dX7_seat_1 rfl ?_
  obtain ⟨r1, hr1, h⟩ := bd1_e h
  refine pw_callVi 5 dX7_seat_2 rfl [.int x1] 1 ⟨gX7_seat_X7_isGuest, rfl, sgV_X7_isGuest, ⟨Nat.le_of_ble_eq_true rfl, Nat.le_of_ble_eq_true rfl⟩, ⟨Nat.le_refl _, Nat.le_refl _⟩⟩ ly_298 (by decide) la_298 rfl (k_X7_isGuest hr1) rfl rfl (Nat.le_of_ble_eq_true rfl) ?_
  refine pw_if_eq 19 8 dX7_seat_5 (by decide) rfl (fun c2 => ?_) (fun c2 => ?_)
  · have h := if_t h c2
    refine pw_ldc 21 lw_X7_seat_c67 dX7_seat_19 rfl ?_
    exact pw_iret dX7_seat_21 ⟨Option.some.inj h, rfl⟩
  · have h := if_f h c2
    refine pw_aload_n 0 rfl rfl 9 dX7_seat_8 rfl ?_
    refine pw_getR 13 12 dX7_seat_9 rfl fi_X7_seat_7 lk_X7_seat_25 la_298 ly_298 (by decide) rfl (by decide) rfl rf_298_13 ?_
    refine pw_iload_n 1 rfl rfl 13 dX7_seat_12 rfl ?_
    obtain ⟨r3, hr3, h⟩ := bd1_e h
    refine pw_callSi 16 dX7_seat_13 rfl [.ref (G.1 + 304), .int x1] 2 ⟨gX7_seat_X7_inSeat, rfl, sgS_X7_inSeat, ⟨Nat.le_of_ble_eq_true rfl, Nat.le_of_ble_eq_true rfl⟩, ⟨Nat.le_refl _, Nat.le_refl _⟩⟩ (k_X7_inSeat la_304 ly_304 hr3) rfl rfl (Nat.le_of_ble_eq_true rfl) ?_
    refine pw_goto 21 dX7_seat_16 (by decide) ?_
    exact pw_iret dX7_seat_21 ⟨Option.some.inj h, rfl⟩
theorem fi_X7_goesOn_7 : ∀ w ∈ wsX70, w ∈ wsX7_goesOn := by decide +kernel
theorem lk_X7_goesOn_31 : Cond.fieldLink RX7 31 (TX7 15).1 (TX7 15).2.1 (TX7 15).2.2.1 ∈ wsX7_goesOn := by decide +kernel
set_option maxHeartbeats 4000000 in
set_option maxRecDepth 100000 in
theorem kl_X7_goesOn_2 {l : Launch} {G : Gx}   {mF : Mm}  : ∀ (n : Nat) (y1 : Int32) (y2 : Int32) (m : Mm) (a0 : Mm), lp_X7_goesOn_2 n y1 y2 m = some a0 → PW G (KM l G RX7 cX7_goesOn 3 none wsX7_goesOn 4 (Qv G mF)) 21 [] [] a0 → PW G (KM l G RX7 cX7_goesOn 3 none wsX7_goesOn 4 (Qv G mF)) 2 [(0, .ref (G.1 + 298)), (1, .int y1), (2, .int y2)] [] m := by
  intro n
  induction n with
  | zero => intro y1 y2 m a0 h hk; cases h
  | succ n ih =>
    intro y1 y2 m a0 h hk
    have h : lb_X7_goesOn_2 (lp_X7_goesOn_2 n) y1 y2 m = _ := h
    unfold lb_X7_goesOn_2 at h
    refine pw_iload_n 2 rfl rfl 3 dX7_goesOn_2 rfl ?_
    refine pw_iload_n 1 rfl rfl 4 dX7_goesOn_3 rfl ?_
    refine pw_icmp_ge 21 7 dX7_goesOn_4 (by decide) rfl (fun c1 => ?_) (fun c1 => ?_)
    · have h := if_t h c1
      refine pw_sub [] [] rfl ?_
      cases h; exact hk
    · have h := if_f h c1
      refine pw_aload_n 0 rfl rfl 8 dX7_goesOn_7 rfl ?_
      refine pw_aload_n 0 rfl rfl 9 dX7_goesOn_8 rfl ?_
      refine pw_getR 15 12 dX7_goesOn_9 rfl fi_X7_goesOn_7 lk_X7_goesOn_31 la_298 ly_298 (by decide) rfl (by decide) rfl rf_298_15 ?_
      obtain ⟨m2, hm2, h⟩ := bd1_e h
      refine pw_callVv 15 dX7_goesOn_12 rfl [.ref (G.1 + 306)] 1 ⟨gX7_goesOn_X7_passes, rfl, sgV_X7_passes, ⟨Nat.le_of_ble_eq_true rfl, Nat.le_of_ble_eq_true rfl⟩, ⟨Nat.le_refl _, Nat.le_refl _⟩⟩ ly_298 (by decide) la_298 rfl (k_X7_passes la_306 ly_306 hm2) rfl rfl (Nat.le_of_ble_eq_true rfl) ?_
      obtain ⟨v3, ev3, h⟩ := nmE_ h
      refine pw_iinc 2 rfl (by rw [ev3]; rfl) [(2, .int v3), (0, .ref (G.1 + 298)), (1, .int y1)] 18 dX7_goesOn_15 rfl (Nat.le_of_ble_eq_true rfl) rfl ?_
      refine pw_goto 2 dX7_goesOn_18 (by decide) ?_
      refine pw_sub [1, 2, 0] [(0, .ref (G.1 + 298)), (1, .int y1), (2, .int v3)] rfl ?_
      exact ih y1 v3 m2 a0 h hk
set_option maxHeartbeats 4000000 in
set_option maxRecDepth 100000 in
theorem k_X7_goesOn {l : Launch} {G : Gx} {x1 : Int32} {m mF : Mm}   (h : f_X7_goesOn x1 m = some mF) : Cn l G 4 yX7_goesOn wsX7_goesOn [.ref (G.1 + 298), .int x1] m (Qv G mF) := by
  unfold f_X7_goesOn at h
  refine Cn.of (own := RX7) (lv := [(0, .ref (G.1 + 298)), (1, .int x1)]) (by decide) rfl rfl (Nat.le_of_ble_eq_true rfl) rfl ?_
  refine pw_iconst (v := (0 : Int32)) (by decide) 1 dX7_goesOn_0 rfl ?_
  refine pw_istore_n (hf := rfl) [(2, .int (0 : Int32)), (0, .ref (G.1 + 298)), (1, .int x1)] 2 dX7_goesOn_1 rfl (Nat.le_of_ble_eq_true rfl) rfl ?_
  obtain ⟨m4, h5, h⟩ := bd1_e h
  have hL2_h5 : PW G (KM l G RX7 cX7_goesOn 3 none wsX7_goesOn 4 (Qv G mF)) 21 [] [] m4 := by
    exact pw_vret dX7_goesOn_21 (Option.some.inj h)
  refine pw_sub [1, 2, 0] [(0, .ref (G.1 + 298)), (1, .int x1), (2, .int (0 : Int32))] rfl ?_
  exact kl_X7_goesOn_2 FU x1 (0 : Int32) m m4 h5 hL2_h5
theorem lw_X7_ahead_c67 : Cond.constant RX7 67 (-1000001 : Int32) ∈ wsX7_ahead := by decide +kernel
theorem fi_X7_ahead_7 : ∀ w ∈ wsX70, w ∈ wsX7_ahead := by decide +kernel
theorem lk_X7_ahead_25 : Cond.fieldLink RX7 25 (TX7 13).1 (TX7 13).2.1 (TX7 13).2.2.1 ∈ wsX7_ahead := by decide +kernel
theorem lk_X7_ahead_31 : Cond.fieldLink RX7 31 (TX7 15).1 (TX7 15).2.1 (TX7 15).2.2.1 ∈ wsX7_ahead := by decide +kernel
set_option maxHeartbeats 4000000 in
set_option maxRecDepth 100000 in
theorem k_X7_ahead {l : Launch} {G : Gx} {x1 : Int32} {x2 : Int32} {x3 : Int32} {m mF : Mm} {r : Int32}  (h : f_X7_ahead x1 x2 x3 m = some (r, mF)) : Cn l G 5 yX7_ahead wsX7_ahead [.ref (G.1 + 298), .int x1, .int x2, .int x3] m (Qi G r mF) := by
  unfold f_X7_ahead at h
  refine Cn.of (own := RX7) (lv := [(0, .ref (G.1 + 298)), (1, .int x1), (2, .int x2), (3, .int x3)]) (by decide) rfl rfl (Nat.le_of_ble_eq_true rfl) rfl ?_
  refine pw_aload_n 0 rfl rfl 1 dX7_ahead_0 rfl ?_
  refine pw_iload_n 1 rfl rfl 2 dX7_ahead_1 rfl ?_
  obtain ⟨r1, hr1, h⟩ := bd1_e h
  refine pw_callVi 5 dX7_ahead_2 rfl [.int x1] 1 ⟨gX7_ahead_X7_isGuest, rfl, sgV_X7_isGuest, ⟨Nat.le_of_ble_eq_true rfl, Nat.le_of_ble_eq_true rfl⟩, ⟨Nat.le_refl _, Nat.le_refl _⟩⟩ ly_298 (by decide) la_298 rfl (k_X7_isGuest hr1) rfl rfl (Nat.le_of_ble_eq_true rfl) ?_
  refine pw_if_eq 27 8 dX7_ahead_5 (by decide) rfl (fun c2 => ?_) (fun c2 => ?_)
  · have h := if_t h c2
    refine pw_ldc 29 lw_X7_ahead_c67 dX7_ahead_27 rfl ?_
    exact pw_iret dX7_ahead_29 (pr_inj h)
  · have h := if_f h c2
    refine pw_iload_n 2 rfl rfl 9 dX7_ahead_8 rfl ?_
    refine pw_iconst (v := (0 : Int32)) (by decide) 10 dX7_ahead_9 rfl ?_
    refine pw_bipush (v := (60 : Int32)) (by decide) 12 dX7_ahead_10 rfl ?_
    refine pw_callSi 15 dX7_ahead_12 rfl [.int x2, .int (0 : Int32), .int (60 : Int32)] 3 ⟨gX7_ahead_X7_in, rfl, sgS_X7_in, ⟨Nat.le_of_ble_eq_true rfl, Nat.le_of_ble_eq_true rfl⟩, ⟨Nat.le_refl _, Nat.le_refl _⟩⟩ (k_X7_in rfl) rfl rfl (Nat.le_of_ble_eq_true rfl) ?_
    refine pw_if_eq 27 18 dX7_ahead_15 (by decide) rfl (fun c3 => ?_) (fun c3 => ?_)
    · have h := if_t h c3
      refine pw_ldc 29 lw_X7_ahead_c67 dX7_ahead_27 rfl ?_
      exact pw_iret dX7_ahead_29 (pr_inj h)
    · have h := if_f h c3
      refine pw_iload_n 3 rfl rfl 19 dX7_ahead_18 rfl ?_
      refine pw_iconst (v := (0 : Int32)) (by decide) 20 dX7_ahead_19 rfl ?_
      refine pw_iconst (v := (1 : Int32)) (by decide) 21 dX7_ahead_20 rfl ?_
      refine pw_callSi 24 dX7_ahead_21 rfl [.int x3, .int (0 : Int32), .int (1 : Int32)] 3 ⟨gX7_ahead_X7_in, rfl, sgS_X7_in, ⟨Nat.le_of_ble_eq_true rfl, Nat.le_of_ble_eq_true rfl⟩, ⟨Nat.le_refl _, Nat.le_refl _⟩⟩ (k_X7_in rfl) rfl rfl (Nat.le_of_ble_eq_true rfl) ?_
      refine pw_if_ne 30 27 dX7_ahead_24 (by decide) rfl (fun c4 => ?_) (fun c4 => ?_)
      · have h := if_f h c4
        refine pw_aload_n 0 rfl rfl 31 dX7_ahead_30 rfl ?_
        refine pw_getR 13 34 dX7_ahead_31 rfl fi_X7_ahead_7 lk_X7_ahead_25 la_298 ly_298 (by decide) rfl (by decide) rfl rf_298_13 ?_
        refine pw_iconst (v := (0 : Int32)) (by decide) 35 dX7_ahead_34 rfl ?_
        refine pw_aload_n 0 rfl rfl 36 dX7_ahead_35 rfl ?_
        refine pw_getR 15 39 dX7_ahead_36 rfl fi_X7_ahead_7 lk_X7_ahead_31 la_298 ly_298 (by decide) rfl (by decide) rfl rf_298_15 ?_
        refine pw_iconst (v := (0 : Int32)) (by decide) 40 dX7_ahead_39 rfl ?_
        obtain ⟨m5, hm5, h⟩ := bd1_e h
        refine pw_callSv 43 dX7_ahead_40 rfl [.ref (G.1 + 304), .int (0 : Int32), .ref (G.1 + 306), .int (0 : Int32)] 4 ⟨gX7_ahead_X7_copies, rfl, sgS_X7_copies, ⟨Nat.le_of_ble_eq_true rfl, Nat.le_of_ble_eq_true rfl⟩, ⟨Nat.le_refl _, Nat.le_refl _⟩⟩ (k_X7_copies la_304 ly_304 la_306 ly_306 hm5) rfl rfl (Nat.le_of_ble_eq_true rfl) ?_
        refine pw_aload_n 0 rfl rfl 44 dX7_ahead_43 rfl ?_
        refine pw_iload_n 2 rfl rfl 45 dX7_ahead_44 rfl ?_
        obtain ⟨m6, hm6, h⟩ := bd1_e h
        refine pw_callVv 48 dX7_ahead_45 rfl [.int x2] 1 ⟨gX7_ahead_X7_goesOn, rfl, sgV_X7_goesOn, ⟨Nat.le_of_ble_eq_true rfl, Nat.le_of_ble_eq_true rfl⟩, ⟨Nat.le_refl _, Nat.le_refl _⟩⟩ ly_298 (by decide) la_298 rfl (k_X7_goesOn hm6) rfl rfl (Nat.le_of_ble_eq_true rfl) ?_
        refine pw_aload_n 0 rfl rfl 49 dX7_ahead_48 rfl ?_
        refine pw_getR 15 52 dX7_ahead_49 rfl fi_X7_ahead_7 lk_X7_ahead_31 la_298 ly_298 (by decide) rfl (by decide) rfl rf_298_15 ?_
        refine pw_bipush (v := (6 : Int32)) (by decide) 54 dX7_ahead_52 rfl ?_
        refine pw_bipush (v := (7 : Int32)) (by decide) 56 dX7_ahead_54 rfl ?_
        refine pw_iload_n 1 rfl rfl 57 dX7_ahead_56 rfl ?_
        refine pw_imul 58 dX7_ahead_57 rfl ?_
        refine pw_iadd 59 dX7_ahead_58 rfl ?_
        refine pw_iload_n 3 rfl rfl 60 dX7_ahead_59 rfl ?_
        obtain ⟨j8, ej8, h⟩ := nmE_ h
        have hJ69_j8 : PW G (KM l G RX7 cX7_ahead 4 (some .int) wsX7_ahead 5 (Qi G r mF)) 69 [] [.int j8, .int ((6 : Int32) + ((7 : Int32) * x1)), .ref (G.1 + 306)] m6 := by
          refine pw_iadd 70 dX7_ahead_69 rfl ?_
          obtain ⟨h9, h⟩ := gd_e h
          refine pw_iald 71 dX7_ahead_70 rfl la_306 ly_306 h9 ?_
          exact pw_iret dX7_ahead_71 (pr_inj h)
        refine pw_if_ne 68 63 dX7_ahead_60 (by decide) rfl (fun c7 => ?_) (fun c7 => ?_)
        · have ej8 := if_fv ej8 c7
          refine pw_iconst (v := (2 : Int32)) (by decide) 69 dX7_ahead_68 rfl ?_
          refine pw_sub [] [] rfl ?_
          subst ej8; exact hJ69_j8
        · have ej8 := if_tv ej8 c7
          refine pw_bipush (v := (6 : Int32)) (by decide) 65 dX7_ahead_63 rfl ?_
          refine pw_goto 69 dX7_ahead_65 (by decide) ?_
          refine pw_sub [] [] rfl ?_
          subst ej8; exact hJ69_j8
      · have h := if_t h c4
        refine pw_ldc 29 lw_X7_ahead_c67 dX7_ahead_27 rfl ?_
        exact pw_iret dX7_ahead_29 (pr_inj h)
theorem lw_X7_bottle_c67 : Cond.constant RX7 67 (-1000001 : Int32) ∈ wsX7_bottle := by decide +kernel
theorem fi_X7_bottle_7 : ∀ w ∈ wsX70, w ∈ wsX7_bottle := by decide +kernel
theorem lk_X7_bottle_25 : Cond.fieldLink RX7 25 (TX7 13).1 (TX7 13).2.1 (TX7 13).2.2.1 ∈ wsX7_bottle := by decide +kernel
theorem lk_X7_bottle_31 : Cond.fieldLink RX7 31 (TX7 15).1 (TX7 15).2.1 (TX7 15).2.2.1 ∈ wsX7_bottle := by decide +kernel
theorem lw_X7_bottle_c169 : Cond.constant RX7 169 (-1000002 : Int32) ∈ wsX7_bottle := by decide +kernel
set_option maxHeartbeats 4000000 in
set_option maxRecDepth 100000 in
theorem k_X7_bottle {l : Launch} {G : Gx} {x1 : Int32} {x2 : Int32} {m mF : Mm} {r : Int32}  (h : f_X7_bottle x1 x2 m = some (r, mF)) : Cn l G 5 yX7_bottle wsX7_bottle [.ref (G.1 + 298), .int x1, .int x2] m (Qi G r mF) := by
  unfold f_X7_bottle at h
  refine Cn.of (own := RX7) (lv := [(0, .ref (G.1 + 298)), (1, .int x1), (2, .int x2)]) (by decide) rfl rfl (Nat.le_of_ble_eq_true rfl) rfl ?_
  refine pw_aload_n 0 rfl rfl 1 dX7_bottle_0 rfl ?_
  refine pw_callVi 4 dX7_bottle_1 rfl [] 0 ⟨gX7_bottle_X7_isWedding, rfl, sgV_X7_isWedding, ⟨Nat.le_of_ble_eq_true rfl, Nat.le_of_ble_eq_true rfl⟩, ⟨Nat.le_refl _, Nat.le_refl _⟩⟩ ly_298 (by decide) la_298 rfl (k_X7_isWedding rfl) rfl rfl (Nat.le_of_ble_eq_true rfl) ?_
  refine pw_if_ne 10 7 dX7_bottle_4 (by decide) rfl (fun c1 => ?_) (fun c1 => ?_)
  · have h := if_f h c1
    refine pw_iload_n 1 rfl rfl 11 dX7_bottle_10 rfl ?_
    refine pw_iconst (v := (0 : Int32)) (by decide) 12 dX7_bottle_11 rfl ?_
    refine pw_bipush (v := (60 : Int32)) (by decide) 14 dX7_bottle_12 rfl ?_
    refine pw_callSi 17 dX7_bottle_14 rfl [.int x1, .int (0 : Int32), .int (60 : Int32)] 3 ⟨gX7_bottle_X7_in, rfl, sgS_X7_in, ⟨Nat.le_of_ble_eq_true rfl, Nat.le_of_ble_eq_true rfl⟩, ⟨Nat.le_refl _, Nat.le_refl _⟩⟩ (k_X7_in rfl) rfl rfl (Nat.le_of_ble_eq_true rfl) ?_
    refine pw_if_eq 29 20 dX7_bottle_17 (by decide) rfl (fun c2 => ?_) (fun c2 => ?_)
    · have h := if_t h c2
      refine pw_ldc 31 lw_X7_bottle_c67 dX7_bottle_29 rfl ?_
      exact pw_iret dX7_bottle_31 (pr_inj h)
    · have h := if_f h c2
      refine pw_iload_n 2 rfl rfl 21 dX7_bottle_20 rfl ?_
      refine pw_iconst (v := (0 : Int32)) (by decide) 22 dX7_bottle_21 rfl ?_
      refine pw_iconst (v := (1 : Int32)) (by decide) 23 dX7_bottle_22 rfl ?_
      refine pw_callSi 26 dX7_bottle_23 rfl [.int x2, .int (0 : Int32), .int (1 : Int32)] 3 ⟨gX7_bottle_X7_in, rfl, sgS_X7_in, ⟨Nat.le_of_ble_eq_true rfl, Nat.le_of_ble_eq_true rfl⟩, ⟨Nat.le_refl _, Nat.le_refl _⟩⟩ (k_X7_in rfl) rfl rfl (Nat.le_of_ble_eq_true rfl) ?_
      refine pw_if_ne 32 29 dX7_bottle_26 (by decide) rfl (fun c3 => ?_) (fun c3 => ?_)
      · have h := if_f h c3
        refine pw_aload_n 0 rfl rfl 33 dX7_bottle_32 rfl ?_
        refine pw_getR 13 36 dX7_bottle_33 rfl fi_X7_bottle_7 lk_X7_bottle_25 la_298 ly_298 (by decide) rfl (by decide) rfl rf_298_13 ?_
        refine pw_iconst (v := (0 : Int32)) (by decide) 37 dX7_bottle_36 rfl ?_
        refine pw_aload_n 0 rfl rfl 38 dX7_bottle_37 rfl ?_
        refine pw_getR 15 41 dX7_bottle_38 rfl fi_X7_bottle_7 lk_X7_bottle_31 la_298 ly_298 (by decide) rfl (by decide) rfl rf_298_15 ?_
        refine pw_iconst (v := (0 : Int32)) (by decide) 42 dX7_bottle_41 rfl ?_
        obtain ⟨m4, hm4, h⟩ := bd1_e h
        refine pw_callSv 45 dX7_bottle_42 rfl [.ref (G.1 + 304), .int (0 : Int32), .ref (G.1 + 306), .int (0 : Int32)] 4 ⟨gX7_bottle_X7_copies, rfl, sgS_X7_copies, ⟨Nat.le_of_ble_eq_true rfl, Nat.le_of_ble_eq_true rfl⟩, ⟨Nat.le_refl _, Nat.le_refl _⟩⟩ (k_X7_copies la_304 ly_304 la_306 ly_306 hm4) rfl rfl (Nat.le_of_ble_eq_true rfl) ?_
        refine pw_aload_n 0 rfl rfl 46 dX7_bottle_45 rfl ?_
        refine pw_iload_n 1 rfl rfl 47 dX7_bottle_46 rfl ?_
        obtain ⟨m5, hm5, h⟩ := bd1_e h
        refine pw_callVv 50 dX7_bottle_47 rfl [.int x1] 1 ⟨gX7_bottle_X7_goesOn, rfl, sgV_X7_goesOn, ⟨Nat.le_of_ble_eq_true rfl, Nat.le_of_ble_eq_true rfl⟩, ⟨Nat.le_refl _, Nat.le_refl _⟩⟩ ly_298 (by decide) la_298 rfl (k_X7_goesOn hm5) rfl rfl (Nat.le_of_ble_eq_true rfl) ?_
        refine pw_aload_n 0 rfl rfl 51 dX7_bottle_50 rfl ?_
        refine pw_getR 15 54 dX7_bottle_51 rfl fi_X7_bottle_7 lk_X7_bottle_31 la_298 ly_298 (by decide) rfl (by decide) rfl rf_298_15 ?_
        refine pw_iload_n 2 rfl rfl 55 dX7_bottle_54 rfl ?_
        obtain ⟨j7, ej7, h⟩ := nmE_ h
        have hJ63_j7 : PW G (KM l G RX7 cX7_bottle 3 (some .int) wsX7_bottle 5 (Qi G r mF)) 63 [] [.int j7, .ref (G.1 + 306)] m5 := by
          obtain ⟨h8, h⟩ := gd_e h
          refine pw_iald 64 dX7_bottle_63 rfl la_306 ly_306 h8 ?_
          exact pw_iret dX7_bottle_64 (pr_inj h)
        refine pw_if_ne 62 58 dX7_bottle_55 (by decide) rfl (fun c6 => ?_) (fun c6 => ?_)
        · have ej7 := if_fv ej7 c6
          refine pw_iconst (v := (5 : Int32)) (by decide) 63 dX7_bottle_62 rfl ?_
          refine pw_sub [] [] rfl ?_
          subst ej7; exact hJ63_j7
        · have ej7 := if_tv ej7 c6
          refine pw_iconst (v := (4 : Int32)) (by decide) 59 dX7_bottle_58 rfl ?_
          refine pw_goto 63 dX7_bottle_59 (by decide) ?_
          refine pw_sub [] [] rfl ?_
          subst ej7; exact hJ63_j7
      · have h := if_t h c3
        refine pw_ldc 31 lw_X7_bottle_c67 dX7_bottle_29 rfl ?_
        exact pw_iret dX7_bottle_31 (pr_inj h)
  · have h := if_t h c1
    refine pw_ldc 9 lw_X7_bottle_c169 dX7_bottle_7 rfl ?_
    exact pw_iret dX7_bottle_9 (pr_inj h)
