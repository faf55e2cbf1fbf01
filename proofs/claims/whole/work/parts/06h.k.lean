theorem fi_X7_filled_7 : ∀ w ∈ wsX70, w ∈ wsX7_filled := by decide +kernel
theorem lk_X7_filled_25 : Cond.fieldLink RX7 25 (TX7 13).1 (TX7 13).2.1 (TX7 13).2.2.1 ∈ wsX7_filled := by decide +kernel
theorem lk_X7_filled_31 : Cond.fieldLink RX7 31 (TX7 15).1 (TX7 15).2.1 (TX7 15).2.2.1 ∈ wsX7_filled := by decide +kernel
theorem lw_X7_filled_c53 : Cond.constant RX7 53 (-1000000 : Int32) ∈ wsX7_filled := by decide +kernel
theorem lw_X7_filled_c169 : Cond.constant RX7 169 (-1000002 : Int32) ∈ wsX7_filled := by decide +kernel
set_option maxHeartbeats 4000000 in
set_option maxRecDepth 100000 in
theorem kl_X7_filled_25 {l : Launch} {G : Gx}  {r : Int32} {mF : Mm}  : ∀ (n : Nat) (y1 : Int32) (m : Mm) (res : ((Int32 × Mm) ⊕ Mm)), lp_X7_filled_25 n y1 m = some res → (∀ (a0 : Mm), res = .inr a0 → PW G (KM l G RX7 cX7_filled 2 (some .int) wsX7_filled 4 (Qi G r mF)) 62 [] [] a0) → (∀ rt, res = .inl rt → (rt.1 = r ∧ rt.2 = mF)) → PW G (KM l G RX7 cX7_filled 2 (some .int) wsX7_filled 4 (Qi G r mF)) 25 [(0, .ref (G.1 + 298)), (1, .int y1)] [] m := by
  intro n
  induction n with
  | zero => intro y1 m res h hk hr; cases h
  | succ n ih =>
    intro y1 m res h hk hr
    have h : lb_X7_filled_25 (lp_X7_filled_25 n) y1 m = _ := h
    unfold lb_X7_filled_25 at h
    refine pw_iload_n 1 rfl rfl 26 dX7_filled_25 rfl ?_
    refine pw_bipush (v := (61 : Int32)) (by decide) 28 dX7_filled_26 rfl ?_
    refine pw_icmp_ge 62 31 dX7_filled_28 (by decide) rfl (fun c3 => ?_) (fun c3 => ?_)
    · have h := if_t h c3
      refine pw_sub [] [] rfl ?_
      exact hk _ (Option.some.inj h).symm
    · have h := if_f h c3
      refine pw_aload_n 0 rfl rfl 32 dX7_filled_31 rfl ?_
      refine pw_getR 15 35 dX7_filled_32 rfl fi_X7_filled_7 lk_X7_filled_31 la_298 ly_298 (by decide) rfl (by decide) rfl rf_298_15 ?_
      refine pw_iconst (v := (4 : Int32)) (by decide) 36 dX7_filled_35 rfl ?_
      refine pw_iald 37 dX7_filled_36 rfl la_306 ly_306 (vp_lit rfl rfl) ?_
      refine pw_aload_n 0 rfl rfl 38 dX7_filled_37 rfl ?_
      refine pw_getR 15 41 dX7_filled_38 rfl fi_X7_filled_7 lk_X7_filled_31 la_298 ly_298 (by decide) rfl (by decide) rfl rf_298_15 ?_
      refine pw_iconst (v := (0 : Int32)) (by decide) 42 dX7_filled_41 rfl ?_
      refine pw_iald 43 dX7_filled_42 rfl la_306 ly_306 (vp_lit rfl rfl) ?_
      refine pw_icmp_lt 48 46 dX7_filled_43 (by decide) rfl (fun c4 => ?_) (fun c4 => ?_)
      · have h := if_t h c4
        refine pw_aload_n 0 rfl rfl 49 dX7_filled_48 rfl ?_
        refine pw_aload_n 0 rfl rfl 50 dX7_filled_49 rfl ?_
        refine pw_getR 15 53 dX7_filled_50 rfl fi_X7_filled_7 lk_X7_filled_31 la_298 ly_298 (by decide) rfl (by decide) rfl rf_298_15 ?_
        obtain ⟨m5, hm5, h⟩ := bd1_e h
        refine pw_callVv 56 dX7_filled_53 rfl [.ref (G.1 + 306)] 1 ⟨gX7_filled_X7_passes, rfl, sgV_X7_passes, ⟨Nat.le_of_ble_eq_true rfl, Nat.le_of_ble_eq_true rfl⟩, ⟨Nat.le_refl _, Nat.le_refl _⟩⟩ ly_298 (by decide) la_298 rfl (k_X7_passes la_306 ly_306 hm5) rfl rfl (Nat.le_of_ble_eq_true rfl) ?_
        obtain ⟨v6, ev6, h⟩ := nmE_ h
        refine pw_iinc 1 rfl (by rw [ev6]; rfl) [(1, .int v6), (0, .ref (G.1 + 298))] 59 dX7_filled_56 rfl (Nat.le_of_ble_eq_true rfl) rfl ?_
        refine pw_goto 25 dX7_filled_59 (by decide) ?_
        refine pw_sub [1, 0] [(0, .ref (G.1 + 298)), (1, .int v6)] rfl ?_
        exact ih v6 m5 res h hk hr
      · have h := if_f h c4
        refine pw_iload_n 1 rfl rfl 47 dX7_filled_46 rfl ?_
        exact pw_iret dX7_filled_47 (hr _ (Option.some.inj h).symm)
set_option maxHeartbeats 4000000 in
set_option maxRecDepth 100000 in
theorem k_X7_filled {l : Launch} {G : Gx}  {m mF : Mm} {r : Int32}  (h : f_X7_filled m = some (r, mF)) : Cn l G 4 yX7_filled wsX7_filled [.ref (G.1 + 298)] m (Qi G r mF) := by
  unfold f_X7_filled at h
  refine Cn.of (own := RX7) (lv := [(0, .ref (G.1 + 298))]) (by decide) rfl rfl (Nat.le_of_ble_eq_true rfl) rfl ?_
  refine pw_aload_n 0 rfl rfl 1 dX7_filled_0 rfl ?_
  refine pw_callVi 4 dX7_filled_1 rfl [] 0 ⟨gX7_filled_X7_isWedding, rfl, sgV_X7_isWedding, ⟨Nat.le_of_ble_eq_true rfl, Nat.le_of_ble_eq_true rfl⟩, ⟨Nat.le_refl _, Nat.le_refl _⟩⟩ ly_298 (by decide) la_298 rfl (k_X7_isWedding rfl) rfl rfl (Nat.le_of_ble_eq_true rfl) ?_
  refine pw_if_ne 10 7 dX7_filled_4 (by decide) rfl (fun c1 => ?_) (fun c1 => ?_)
  · have h := if_f h c1
    refine pw_aload_n 0 rfl rfl 11 dX7_filled_10 rfl ?_
    refine pw_getR 13 14 dX7_filled_11 rfl fi_X7_filled_7 lk_X7_filled_25 la_298 ly_298 (by decide) rfl (by decide) rfl rf_298_13 ?_
    refine pw_iconst (v := (0 : Int32)) (by decide) 15 dX7_filled_14 rfl ?_
    refine pw_aload_n 0 rfl rfl 16 dX7_filled_15 rfl ?_
    refine pw_getR 15 19 dX7_filled_16 rfl fi_X7_filled_7 lk_X7_filled_31 la_298 ly_298 (by decide) rfl (by decide) rfl rf_298_15 ?_
    refine pw_iconst (v := (0 : Int32)) (by decide) 20 dX7_filled_19 rfl ?_
    obtain ⟨m2, hm2, h⟩ := bd1_e h
    refine pw_callSv 23 dX7_filled_20 rfl [.ref (G.1 + 304), .int (0 : Int32), .ref (G.1 + 306), .int (0 : Int32)] 4 ⟨gX7_filled_X7_copies, rfl, sgS_X7_copies, ⟨Nat.le_of_ble_eq_true rfl, Nat.le_of_ble_eq_true rfl⟩, ⟨Nat.le_refl _, Nat.le_refl _⟩⟩ (k_X7_copies la_304 ly_304 la_306 ly_306 hm2) rfl rfl (Nat.le_of_ble_eq_true rfl) ?_
    refine pw_iconst (v := (0 : Int32)) (by decide) 24 dX7_filled_23 rfl ?_
    refine pw_istore_n (hf := rfl) [(1, .int (0 : Int32)), (0, .ref (G.1 + 298))] 25 dX7_filled_24 rfl (Nat.le_of_ble_eq_true rfl) rfl ?_
    rcases bdS1_e h with ⟨rt, h8, h⟩ | ⟨m7, h8, h⟩
    · refine pw_sub [1, 0] [(0, .ref (G.1 + 298)), (1, .int (0 : Int32))] rfl ?_
      exact kl_X7_filled_25 FU (0 : Int32) m2 _ h8 (fun _ e2 => by cases e2) (fun rt2 e2 => by cases e2; exact by cases h; exact ⟨rfl, rfl⟩)
    · have hL25_h8 : PW G (KM l G RX7 cX7_filled 2 (some .int) wsX7_filled 4 (Qi G r mF)) 62 [] [] m7 := by
        refine pw_ldc 64 lw_X7_filled_c53 dX7_filled_62 rfl ?_
        exact pw_iret dX7_filled_64 (pr_inj h)
      refine pw_sub [1, 0] [(0, .ref (G.1 + 298)), (1, .int (0 : Int32))] rfl ?_
      exact kl_X7_filled_25 FU (0 : Int32) m2 _ h8 (fun _ e2 => by cases e2; exact hL25_h8) (fun rt2 e2 => by cases e2)
  · have h := if_t h c1
    refine pw_ldc 9 lw_X7_filled_c169 dX7_filled_7 rfl ?_
    exact pw_iret dX7_filled_9 (pr_inj h)
theorem fi_X7_dry_7 : ∀ w ∈ wsX70, w ∈ wsX7_dry := by decide +kernel
theorem lk_X7_dry_25 : Cond.fieldLink RX7 25 (TX7 13).1 (TX7 13).2.1 (TX7 13).2.2.1 ∈ wsX7_dry := by decide +kernel
theorem lk_X7_dry_31 : Cond.fieldLink RX7 31 (TX7 15).1 (TX7 15).2.1 (TX7 15).2.2.1 ∈ wsX7_dry := by decide +kernel
theorem lw_X7_dry_c53 : Cond.constant RX7 53 (-1000000 : Int32) ∈ wsX7_dry := by decide +kernel
theorem lw_X7_dry_c67 : Cond.constant RX7 67 (-1000001 : Int32) ∈ wsX7_dry := by decide +kernel
theorem lw_X7_dry_c169 : Cond.constant RX7 169 (-1000002 : Int32) ∈ wsX7_dry := by decide +kernel
set_option maxHeartbeats 4000000 in
set_option maxRecDepth 100000 in
theorem kl_X7_dry_45 {l : Launch} {G : Gx}  {r : Int32} {mF : Mm}  : ∀ (n : Nat) (y1 : Int32) (y2 : Int32) (y3 : Int32) (m : Mm) (res : ((Int32 × Mm) ⊕ Int32)), lp_X7_dry_45 n y1 y2 y3 m = some res → (∀ (a0 : Int32), res = .inr a0 → PW G (KM l G RX7 cX7_dry 4 (some .int) wsX7_dry 4 (Qi G r mF)) 106 [(0, .ref (G.1 + 298)), (1, .int y1), (2, .int y2)] [] m) → (∀ rt, res = .inl rt → (rt.1 = r ∧ rt.2 = mF)) → PW G (KM l G RX7 cX7_dry 4 (some .int) wsX7_dry 4 (Qi G r mF)) 45 [(0, .ref (G.1 + 298)), (1, .int y1), (2, .int y2), (3, .int y3)] [] m := by
  intro n
  induction n with
  | zero => intro y1 y2 y3 m res h hk hr; cases h
  | succ n ih =>
    intro y1 y2 y3 m res h hk hr
    have h : lb_X7_dry_45 (lp_X7_dry_45 n) y1 y2 y3 m = _ := h
    unfold lb_X7_dry_45 at h
    refine pw_iload_n 3 rfl rfl 46 dX7_dry_45 rfl ?_
    refine pw_aload_n 0 rfl rfl 47 dX7_dry_46 rfl ?_
    refine pw_getR 13 50 dX7_dry_47 rfl fi_X7_dry_7 lk_X7_dry_25 la_298 ly_298 (by decide) rfl (by decide) rfl rf_298_13 ?_
    refine pw_iconst (v := (2 : Int32)) (by decide) 51 dX7_dry_50 rfl ?_
    refine pw_iald 52 dX7_dry_51 rfl la_304 ly_304 (vp_lit rfl rfl) ?_
    refine pw_icmp_ge 106 55 dX7_dry_52 (by decide) rfl (fun c5 => ?_) (fun c5 => ?_)
    · have h := if_t h c5
      refine pw_sub [0, 1, 2] [(0, .ref (G.1 + 298)), (1, .int y1), (2, .int y2)] rfl ?_
      exact hk _ (Option.some.inj h).symm
    · have h := if_f h c5
      refine pw_aload_n 0 rfl rfl 56 dX7_dry_55 rfl ?_
      refine pw_getR 15 59 dX7_dry_56 rfl fi_X7_dry_7 lk_X7_dry_31 la_298 ly_298 (by decide) rfl (by decide) rfl rf_298_15 ?_
      refine pw_bipush (v := (6 : Int32)) (by decide) 61 dX7_dry_59 rfl ?_
      refine pw_bipush (v := (7 : Int32)) (by decide) 63 dX7_dry_61 rfl ?_
      refine pw_iload_n 3 rfl rfl 64 dX7_dry_63 rfl ?_
      refine pw_imul 65 dX7_dry_64 rfl ?_
      refine pw_iadd 66 dX7_dry_65 rfl ?_
      refine pw_iconst (v := (5 : Int32)) (by decide) 67 dX7_dry_66 rfl ?_
      refine pw_iadd 68 dX7_dry_67 rfl ?_
      obtain ⟨h6, h⟩ := gd_e h
      refine pw_iald 69 dX7_dry_68 rfl la_306 ly_306 h6 ?_
      refine pw_iconst (v := (1 : Int32)) (by decide) 70 dX7_dry_69 rfl ?_
      refine pw_icmp_ne 100 73 dX7_dry_70 (by decide) rfl (fun c7 => ?_) (fun c7 => ?_)
      · have h := if_f h c7
        obtain ⟨v8, ev8, h⟩ := nmE_ h
        refine pw_iinc 3 rfl (by rw [ev8]; rfl) [(3, .int v8), (0, .ref (G.1 + 298)), (1, .int y1), (2, .int y2)] 103 dX7_dry_100 rfl (Nat.le_of_ble_eq_true rfl) rfl ?_
        refine pw_goto 45 dX7_dry_103 (by decide) ?_
        refine pw_sub [1, 2, 3, 0] [(0, .ref (G.1 + 298)), (1, .int y1), (2, .int y2), (3, .int v8)] rfl ?_
        exact ih y1 y2 v8 m res h hk hr
      · have h := if_t h c7
        refine pw_aload_n 0 rfl rfl 74 dX7_dry_73 rfl ?_
        refine pw_getR 15 77 dX7_dry_74 rfl fi_X7_dry_7 lk_X7_dry_31 la_298 ly_298 (by decide) rfl (by decide) rfl rf_298_15 ?_
        refine pw_bipush (v := (6 : Int32)) (by decide) 79 dX7_dry_77 rfl ?_
        refine pw_bipush (v := (7 : Int32)) (by decide) 81 dX7_dry_79 rfl ?_
        refine pw_iload_n 3 rfl rfl 82 dX7_dry_81 rfl ?_
        refine pw_imul 83 dX7_dry_82 rfl ?_
        refine pw_iadd 84 dX7_dry_83 rfl ?_
        refine pw_iconst (v := (2 : Int32)) (by decide) 85 dX7_dry_84 rfl ?_
        refine pw_iadd 86 dX7_dry_85 rfl ?_
        obtain ⟨h9, h⟩ := gd_e h
        refine pw_iald 87 dX7_dry_86 rfl la_306 ly_306 h9 ?_
        refine pw_if_ne 100 90 dX7_dry_87 (by decide) rfl (fun c10 => ?_) (fun c10 => ?_)
        · have h := if_f h c10
          obtain ⟨v11, ev11, h⟩ := nmE_ h
          refine pw_iinc 3 rfl (by rw [ev11]; rfl) [(3, .int v11), (0, .ref (G.1 + 298)), (1, .int y1), (2, .int y2)] 103 dX7_dry_100 rfl (Nat.le_of_ble_eq_true rfl) rfl ?_
          refine pw_goto 45 dX7_dry_103 (by decide) ?_
          refine pw_sub [1, 2, 3, 0] [(0, .ref (G.1 + 298)), (1, .int y1), (2, .int y2), (3, .int v11)] rfl ?_
          exact ih y1 y2 v11 m res h hk hr
        · have h := if_t h c10
          refine pw_iload_n 1 rfl rfl 91 dX7_dry_90 rfl ?_
          refine pw_if_ne 98 94 dX7_dry_91 (by decide) rfl (fun c12 => ?_) (fun c12 => ?_)
          · have h := if_f h c12
            refine pw_iload_n 2 rfl rfl 99 dX7_dry_98 rfl ?_
            exact pw_iret dX7_dry_99 (hr _ (Option.some.inj h).symm)
          · have h := if_t h c12
            refine pw_iload_n 3 rfl rfl 95 dX7_dry_94 rfl ?_
            refine pw_goto 99 dX7_dry_95 (by decide) ?_
            exact pw_iret dX7_dry_99 (hr _ (Option.some.inj h).symm)
set_option maxHeartbeats 4000000 in
set_option maxRecDepth 100000 in
theorem kl_X7_dry_37 {l : Launch} {G : Gx}  {r : Int32} {mF : Mm}  : ∀ (n : Nat) (y1 : Int32) (y2 : Int32) (m : Mm) (res : ((Int32 × Mm) ⊕ Mm)), lp_X7_dry_37 n y1 y2 m = some res → (∀ (a0 : Mm), res = .inr a0 → PW G (KM l G RX7 cX7_dry 4 (some .int) wsX7_dry 4 (Qi G r mF)) 120 [] [] a0) → (∀ rt, res = .inl rt → (rt.1 = r ∧ rt.2 = mF)) → PW G (KM l G RX7 cX7_dry 4 (some .int) wsX7_dry 4 (Qi G r mF)) 37 [(0, .ref (G.1 + 298)), (1, .int y1), (2, .int y2)] [] m := by
  intro n
  induction n with
  | zero => intro y1 y2 m res h hk hr; cases h
  | succ n ih =>
    intro y1 y2 m res h hk hr
    have h : lb_X7_dry_37 (lp_X7_dry_37 n) y1 y2 m = _ := h
    unfold lb_X7_dry_37 at h
    refine pw_iload_n 2 rfl rfl 38 dX7_dry_37 rfl ?_
    refine pw_bipush (v := (61 : Int32)) (by decide) 40 dX7_dry_38 rfl ?_
    refine pw_icmp_ge 120 43 dX7_dry_40 (by decide) rfl (fun c4 => ?_) (fun c4 => ?_)
    · have h := if_t h c4
      refine pw_sub [] [] rfl ?_
      exact hk _ (Option.some.inj h).symm
    · have h := if_f h c4
      refine pw_iconst (v := (0 : Int32)) (by decide) 44 dX7_dry_43 rfl ?_
      refine pw_istore_n (hf := rfl) [(3, .int (0 : Int32)), (0, .ref (G.1 + 298)), (1, .int y1), (2, .int y2)] 45 dX7_dry_44 rfl (Nat.le_of_ble_eq_true rfl) rfl ?_
      rcases bdT1_e h with ⟨rt, h14, h⟩ | ⟨z13, h14, h⟩
      · refine pw_sub [1, 2, 3, 0] [(0, .ref (G.1 + 298)), (1, .int y1), (2, .int y2), (3, .int (0 : Int32))] rfl ?_
        exact kl_X7_dry_45 FU y1 y2 (0 : Int32) m _ h14 (fun _ e2 => by cases e2) (fun rt2 e2 => by cases e2; exact hr _ (Option.some.inj h).symm)
      · have hL45_h14 : PW G (KM l G RX7 cX7_dry 4 (some .int) wsX7_dry 4 (Qi G r mF)) 106 [(0, .ref (G.1 + 298)), (1, .int y1), (2, .int y2)] [] m := by
          refine pw_aload_n 0 rfl rfl 107 dX7_dry_106 rfl ?_
          refine pw_aload_n 0 rfl rfl 108 dX7_dry_107 rfl ?_
          refine pw_getR 15 111 dX7_dry_108 rfl fi_X7_dry_7 lk_X7_dry_31 la_298 ly_298 (by decide) rfl (by decide) rfl rf_298_15 ?_
          obtain ⟨m15, hm15, h⟩ := bd1_e h
          refine pw_callVv 114 dX7_dry_111 rfl [.ref (G.1 + 306)] 1 ⟨gX7_dry_X7_passes, rfl, sgV_X7_passes, ⟨Nat.le_of_ble_eq_true rfl, Nat.le_of_ble_eq_true rfl⟩, ⟨Nat.le_refl _, Nat.le_refl _⟩⟩ ly_298 (by decide) la_298 rfl (k_X7_passes la_306 ly_306 hm15) rfl rfl (Nat.le_of_ble_eq_true rfl) ?_
          obtain ⟨v16, ev16, h⟩ := nmE_ h
          refine pw_iinc 2 rfl (by rw [ev16]; rfl) [(2, .int v16), (0, .ref (G.1 + 298)), (1, .int y1)] 117 dX7_dry_114 rfl (Nat.le_of_ble_eq_true rfl) rfl ?_
          refine pw_goto 37 dX7_dry_117 (by decide) ?_
          refine pw_sub [1, 2, 0] [(0, .ref (G.1 + 298)), (1, .int y1), (2, .int v16)] rfl ?_
          exact ih y1 v16 m15 res h hk hr
        refine pw_sub [1, 2, 3, 0] [(0, .ref (G.1 + 298)), (1, .int y1), (2, .int y2), (3, .int (0 : Int32))] rfl ?_
        exact kl_X7_dry_45 FU y1 y2 (0 : Int32) m _ h14 (fun _ e2 => by cases e2; exact hL45_h14) (fun rt2 e2 => by cases e2)
set_option maxHeartbeats 4000000 in
set_option maxRecDepth 100000 in
theorem k_X7_dry {l : Launch} {G : Gx} {x1 : Int32} {m mF : Mm} {r : Int32}  (h : f_X7_dry x1 m = some (r, mF)) : Cn l G 4 yX7_dry wsX7_dry [.ref (G.1 + 298), .int x1] m (Qi G r mF) := by
  unfold f_X7_dry at h
  refine Cn.of (own := RX7) (lv := [(0, .ref (G.1 + 298)), (1, .int x1)]) (by decide) rfl rfl (Nat.le_of_ble_eq_true rfl) rfl ?_
  refine pw_aload_n 0 rfl rfl 1 dX7_dry_0 rfl ?_
  refine pw_callVi 4 dX7_dry_1 rfl [] 0 ⟨gX7_dry_X7_isWedding, rfl, sgV_X7_isWedding, ⟨Nat.le_of_ble_eq_true rfl, Nat.le_of_ble_eq_true rfl⟩, ⟨Nat.le_refl _, Nat.le_refl _⟩⟩ ly_298 (by decide) la_298 rfl (k_X7_isWedding rfl) rfl rfl (Nat.le_of_ble_eq_true rfl) ?_
  refine pw_if_ne 10 7 dX7_dry_4 (by decide) rfl (fun c1 => ?_) (fun c1 => ?_)
  · have h := if_f h c1
    refine pw_iload_n 1 rfl rfl 11 dX7_dry_10 rfl ?_
    refine pw_iconst (v := (0 : Int32)) (by decide) 12 dX7_dry_11 rfl ?_
    refine pw_iconst (v := (1 : Int32)) (by decide) 13 dX7_dry_12 rfl ?_
    refine pw_callSi 16 dX7_dry_13 rfl [.int x1, .int (0 : Int32), .int (1 : Int32)] 3 ⟨gX7_dry_X7_in, rfl, sgS_X7_in, ⟨Nat.le_of_ble_eq_true rfl, Nat.le_of_ble_eq_true rfl⟩, ⟨Nat.le_refl _, Nat.le_refl _⟩⟩ (k_X7_in rfl) rfl rfl (Nat.le_of_ble_eq_true rfl) ?_
    refine pw_if_ne 22 19 dX7_dry_16 (by decide) rfl (fun c2 => ?_) (fun c2 => ?_)
    · have h := if_f h c2
      refine pw_aload_n 0 rfl rfl 23 dX7_dry_22 rfl ?_
      refine pw_getR 13 26 dX7_dry_23 rfl fi_X7_dry_7 lk_X7_dry_25 la_298 ly_298 (by decide) rfl (by decide) rfl rf_298_13 ?_
      refine pw_iconst (v := (0 : Int32)) (by decide) 27 dX7_dry_26 rfl ?_
      refine pw_aload_n 0 rfl rfl 28 dX7_dry_27 rfl ?_
      refine pw_getR 15 31 dX7_dry_28 rfl fi_X7_dry_7 lk_X7_dry_31 la_298 ly_298 (by decide) rfl (by decide) rfl rf_298_15 ?_
      refine pw_iconst (v := (0 : Int32)) (by decide) 32 dX7_dry_31 rfl ?_
      obtain ⟨m3, hm3, h⟩ := bd1_e h
      refine pw_callSv 35 dX7_dry_32 rfl [.ref (G.1 + 304), .int (0 : Int32), .ref (G.1 + 306), .int (0 : Int32)] 4 ⟨gX7_dry_X7_copies, rfl, sgS_X7_copies, ⟨Nat.le_of_ble_eq_true rfl, Nat.le_of_ble_eq_true rfl⟩, ⟨Nat.le_refl _, Nat.le_refl _⟩⟩ (k_X7_copies la_304 ly_304 la_306 ly_306 hm3) rfl rfl (Nat.le_of_ble_eq_true rfl) ?_
      refine pw_iconst (v := (0 : Int32)) (by decide) 36 dX7_dry_35 rfl ?_
      refine pw_istore_n (hf := rfl) [(2, .int (0 : Int32)), (0, .ref (G.1 + 298)), (1, .int x1)] 37 dX7_dry_36 rfl (Nat.le_of_ble_eq_true rfl) rfl ?_
      rcases bdS1_e h with ⟨rt, h18, h⟩ | ⟨m17, h18, h⟩
      · refine pw_sub [1, 2, 0] [(0, .ref (G.1 + 298)), (1, .int x1), (2, .int (0 : Int32))] rfl ?_
        exact kl_X7_dry_37 FU x1 (0 : Int32) m3 _ h18 (fun _ e2 => by cases e2) (fun rt2 e2 => by cases e2; exact by cases h; exact ⟨rfl, rfl⟩)
      · have hL37_h18 : PW G (KM l G RX7 cX7_dry 4 (some .int) wsX7_dry 4 (Qi G r mF)) 120 [] [] m17 := by
          refine pw_ldc 122 lw_X7_dry_c53 dX7_dry_120 rfl ?_
          exact pw_iret dX7_dry_122 (pr_inj h)
        refine pw_sub [1, 2, 0] [(0, .ref (G.1 + 298)), (1, .int x1), (2, .int (0 : Int32))] rfl ?_
        exact kl_X7_dry_37 FU x1 (0 : Int32) m3 _ h18 (fun _ e2 => by cases e2; exact hL37_h18) (fun rt2 e2 => by cases e2)
    · have h := if_t h c2
      refine pw_ldc 21 lw_X7_dry_c67 dX7_dry_19 rfl ?_
      exact pw_iret dX7_dry_21 (pr_inj h)
  · have h := if_t h c1
    refine pw_ldc 9 lw_X7_dry_c169 dX7_dry_7 rfl ?_
    exact pw_iret dX7_dry_9 (pr_inj h)
theorem fi_X7_triesBy_7 : ∀ w ∈ wsX70, w ∈ wsX7_triesBy := by decide +kernel
theorem lk_X7_triesBy_25 : Cond.fieldLink RX7 25 (TX7 13).1 (TX7 13).2.1 (TX7 13).2.2.1 ∈ wsX7_triesBy := by decide +kernel
theorem lk_X7_triesBy_31 : Cond.fieldLink RX7 31 (TX7 15).1 (TX7 15).2.1 (TX7 15).2.2.1 ∈ wsX7_triesBy := by decide +kernel
set_option maxHeartbeats 4000000 in
set_option maxRecDepth 100000 in
theorem kl_X7_triesBy_15 {l : Launch} {G : Gx}   {mF : Mm}  : ∀ (n : Nat) (y1 : Int32) (y2 : Int32) (m : Mm) (a0 : Mm), lp_X7_triesBy_15 n y1 y2 m = some a0 → PW G (KM l G RX7 cX7_triesBy 3 none wsX7_triesBy 1 (Qv G mF)) 44 [] [] a0 → PW G (KM l G RX7 cX7_triesBy 3 none wsX7_triesBy 1 (Qv G mF)) 15 [(0, .ref (G.1 + 298)), (1, .int y1), (2, .int y2)] [] m := by
  intro n
  induction n with
  | zero => intro y1 y2 m a0 h hk; cases h
  | succ n ih =>
    intro y1 y2 m a0 h hk
    have h : lb_X7_triesBy_15 (lp_X7_triesBy_15 n) y1 y2 m = _ := h
    unfold lb_X7_triesBy_15 at h
    refine pw_iload_n 2 rfl rfl 16 dX7_triesBy_15 rfl ?_
    refine pw_aload_n 0 rfl rfl 17 dX7_triesBy_16 rfl ?_
    refine pw_getR 13 20 dX7_triesBy_17 rfl fi_X7_triesBy_7 lk_X7_triesBy_25 la_298 ly_298 (by decide) rfl (by decide) rfl rf_298_13 ?_
    refine pw_iconst (v := (2 : Int32)) (by decide) 21 dX7_triesBy_20 rfl ?_
    refine pw_iald 22 dX7_triesBy_21 rfl la_304 ly_304 (vp_lit rfl rfl) ?_
    refine pw_icmp_ge 44 25 dX7_triesBy_22 (by decide) rfl (fun c2 => ?_) (fun c2 => ?_)
    · have h := if_t h c2
      refine pw_sub [] [] rfl ?_
      cases h; exact hk
    · have h := if_f h c2
      refine pw_aload_n 0 rfl rfl 26 dX7_triesBy_25 rfl ?_
      refine pw_getR 15 29 dX7_triesBy_26 rfl fi_X7_triesBy_7 lk_X7_triesBy_31 la_298 ly_298 (by decide) rfl (by decide) rfl rf_298_15 ?_
      refine pw_iload_n 2 rfl rfl 30 dX7_triesBy_29 rfl ?_
      refine pw_iload_n 1 rfl rfl 31 dX7_triesBy_30 rfl ?_
      refine pw_iload_n 2 rfl rfl 32 dX7_triesBy_31 rfl ?_
      refine pw_ishr 33 dX7_triesBy_32 rfl ?_
      refine pw_iconst (v := (1 : Int32)) (by decide) 34 dX7_triesBy_33 rfl ?_
      refine pw_iand 35 dX7_triesBy_34 rfl ?_
      obtain ⟨m3, hm3, h⟩ := bd1_e h
      refine pw_callSv 38 dX7_triesBy_35 rfl [.ref (G.1 + 306), .int y2, .int ((y1 >>> (y2 &&& 31)) &&& (1 : Int32))] 3 ⟨gX7_triesBy_X7_hires, rfl, sgS_X7_hires, ⟨Nat.le_of_ble_eq_true rfl, Nat.le_of_ble_eq_true rfl⟩, ⟨Nat.le_refl _, Nat.le_refl _⟩⟩ (k_X7_hires la_306 ly_306 hm3) rfl rfl (Nat.le_of_ble_eq_true rfl) ?_
      obtain ⟨v4, ev4, h⟩ := nmE_ h
      refine pw_iinc 2 rfl (by rw [ev4]; rfl) [(2, .int v4), (0, .ref (G.1 + 298)), (1, .int y1)] 41 dX7_triesBy_38 rfl (Nat.le_of_ble_eq_true rfl) rfl ?_
      refine pw_goto 15 dX7_triesBy_41 (by decide) ?_
      refine pw_sub [1, 2, 0] [(0, .ref (G.1 + 298)), (1, .int y1), (2, .int v4)] rfl ?_
      exact ih y1 v4 m3 a0 h hk
set_option maxHeartbeats 4000000 in
set_option maxRecDepth 100000 in
theorem k_X7_triesBy {l : Launch} {G : Gx} {x1 : Int32} {m mF : Mm}   (h : f_X7_triesBy x1 m = some mF) : Cn l G 1 yX7_triesBy wsX7_triesBy [.ref (G.1 + 298), .int x1] m (Qv G mF) := by
  unfold f_X7_triesBy at h
  refine Cn.of (own := RX7) (lv := [(0, .ref (G.1 + 298)), (1, .int x1)]) (by decide) rfl rfl (Nat.le_of_ble_eq_true rfl) rfl ?_
  refine pw_aload_n 0 rfl rfl 1 dX7_triesBy_0 rfl ?_
  refine pw_getR 13 4 dX7_triesBy_1 rfl fi_X7_triesBy_7 lk_X7_triesBy_25 la_298 ly_298 (by decide) rfl (by decide) rfl rf_298_13 ?_
  refine pw_iconst (v := (0 : Int32)) (by decide) 5 dX7_triesBy_4 rfl ?_
  refine pw_aload_n 0 rfl rfl 6 dX7_triesBy_5 rfl ?_
  refine pw_getR 15 9 dX7_triesBy_6 rfl fi_X7_triesBy_7 lk_X7_triesBy_31 la_298 ly_298 (by decide) rfl (by decide) rfl rf_298_15 ?_
  refine pw_iconst (v := (0 : Int32)) (by decide) 10 dX7_triesBy_9 rfl ?_
  obtain ⟨m1, hm1, h⟩ := bd1_e h
  refine pw_callSv 13 dX7_triesBy_10 rfl [.ref (G.1 + 304), .int (0 : Int32), .ref (G.1 + 306), .int (0 : Int32)] 4 ⟨gX7_triesBy_X7_copies, rfl, sgS_X7_copies, ⟨Nat.le_of_ble_eq_true rfl, Nat.le_of_ble_eq_true rfl⟩, ⟨Nat.le_refl _, Nat.le_refl _⟩⟩ (k_X7_copies la_304 ly_304 la_306 ly_306 hm1) rfl rfl (Nat.le_of_ble_eq_true rfl) ?_
  refine pw_iconst (v := (0 : Int32)) (by decide) 14 dX7_triesBy_13 rfl ?_
  refine pw_istore_n (hf := rfl) [(2, .int (0 : Int32)), (0, .ref (G.1 + 298)), (1, .int x1)] 15 dX7_triesBy_14 rfl (Nat.le_of_ble_eq_true rfl) rfl ?_
  obtain ⟨m5, h6, h⟩ := bd1_e h
  have hL15_h6 : PW G (KM l G RX7 cX7_triesBy 3 none wsX7_triesBy 1 (Qv G mF)) 44 [] [] m5 := by
    exact pw_vret dX7_triesBy_44 (Option.some.inj h)
  refine pw_sub [1, 2, 0] [(0, .ref (G.1 + 298)), (1, .int x1), (2, .int (0 : Int32))] rfl ?_
  exact kl_X7_triesBy_15 FU x1 (0 : Int32) m1 m5 h6 hL15_h6
theorem lw_X7_hiring_c67 : Cond.constant RX7 67 (-1000001 : Int32) ∈ wsX7_hiring := by decide +kernel
theorem lw_X7_hiring_c53 : Cond.constant RX7 53 (-1000000 : Int32) ∈ wsX7_hiring := by decide +kernel
theorem fi_X7_hiring_7 : ∀ w ∈ wsX70, w ∈ wsX7_hiring := by decide +kernel
theorem lk_X7_hiring_25 : Cond.fieldLink RX7 25 (TX7 13).1 (TX7 13).2.1 (TX7 13).2.2.1 ∈ wsX7_hiring := by decide +kernel
theorem lk_X7_hiring_31 : Cond.fieldLink RX7 31 (TX7 15).1 (TX7 15).2.1 (TX7 15).2.2.1 ∈ wsX7_hiring := by decide +kernel
theorem lw_X7_hiring_c169 : Cond.constant RX7 169 (-1000002 : Int32) ∈ wsX7_hiring := by decide +kernel
set_option maxHeartbeats 4000000 in
set_option maxRecDepth 100000 in
theorem kl_X7_hiring_41 {l : Launch} {G : Gx}  {r : Int32} {mF : Mm}  : ∀ (n : Nat) (y1 : Int32) (y2 : Int32) (y3 : Int32) (y4 : Int32) (y5 : Int32) (m : Mm) (a0 : Int32) (a1 : Int32) (a2 : Mm), lp_X7_hiring_41 n y1 y2 y3 y4 y5 m = some (a0, a1, a2) → PW G (KM l G RX7 cX7_hiring 7 (some .int) wsX7_hiring 5 (Qi G r mF)) 149 [(2, .int y2), (3, .int a0), (4, .int a1)] [] a2 → PW G (KM l G RX7 cX7_hiring 7 (some .int) wsX7_hiring 5 (Qi G r mF)) 41 [(0, .ref (G.1 + 298)), (1, .int y1), (2, .int y2), (3, .int y3), (4, .int y4), (5, .int y5)] [] m := by
  intro n
  induction n with
  | zero => intro y1 y2 y3 y4 y5 m a0 a1 a2 h hk; cases h
  | succ n ih =>
    intro y1 y2 y3 y4 y5 m a0 a1 a2 h hk
    have h : lb_X7_hiring_41 (lp_X7_hiring_41 n) y1 y2 y3 y4 y5 m = _ := h
    unfold lb_X7_hiring_41 at h
    refine pw_iload 5 rfl 43 dX7_hiring_41 rfl ?_
    refine pw_iconst (v := (1 : Int32)) (by decide) 44 dX7_hiring_43 rfl ?_
    refine pw_aload_n 0 rfl rfl 45 dX7_hiring_44 rfl ?_
    refine pw_getR 13 48 dX7_hiring_45 rfl fi_X7_hiring_7 lk_X7_hiring_25 la_298 ly_298 (by decide) rfl (by decide) rfl rf_298_13 ?_
    refine pw_iconst (v := (2 : Int32)) (by decide) 49 dX7_hiring_48 rfl ?_
    refine pw_iald 50 dX7_hiring_49 rfl la_304 ly_304 (vp_lit rfl rfl) ?_
    refine pw_ishl 51 dX7_hiring_50 rfl ?_
    refine pw_icmp_ge 149 54 dX7_hiring_51 (by decide) rfl (fun c4 => ?_) (fun c4 => ?_)
    · have h := if_t h c4
      refine pw_sub [2, 3, 4] [(2, .int y2), (3, .int y3), (4, .int y4)] rfl ?_
      cases h; exact hk
    · have h := if_f h c4
      refine pw_aload_n 0 rfl rfl 55 dX7_hiring_54 rfl ?_
      refine pw_iload 5 rfl 57 dX7_hiring_55 rfl ?_
      obtain ⟨m5, hm5, h⟩ := bd1_e h
      refine pw_callVv 60 dX7_hiring_57 rfl [.int y5] 1 ⟨gX7_hiring_X7_triesBy, rfl, sgV_X7_triesBy, ⟨Nat.le_of_ble_eq_true rfl, Nat.le_of_ble_eq_true rfl⟩, ⟨Nat.le_refl _, Nat.le_refl _⟩⟩ ly_298 (by decide) la_298 rfl (k_X7_triesBy hm5) rfl rfl (Nat.le_of_ble_eq_true rfl) ?_
      refine pw_aload_n 0 rfl rfl 61 dX7_hiring_60 rfl ?_
      refine pw_iload_n 1 rfl rfl 62 dX7_hiring_61 rfl ?_
      obtain ⟨m6, hm6, h⟩ := bd1_e h
      refine pw_callVv 65 dX7_hiring_62 rfl [.int y1] 1 ⟨gX7_hiring_X7_goesOn, rfl, sgV_X7_goesOn, ⟨Nat.le_of_ble_eq_true rfl, Nat.le_of_ble_eq_true rfl⟩, ⟨Nat.le_refl _, Nat.le_refl _⟩⟩ ly_298 (by decide) la_298 rfl (k_X7_goesOn hm6) rfl rfl (Nat.le_of_ble_eq_true rfl) ?_
      refine pw_iload_n 3 rfl rfl 66 dX7_hiring_65 rfl ?_
      refine pw_ldc 68 lw_X7_hiring_c53 dX7_hiring_66 rfl ?_
      obtain ⟨j13, qj13, h⟩ := bd1_e h
      have hJ110_j13 : PW G (KM l G RX7 cX7_hiring 7 (some .int) wsX7_hiring 5 (Qi G r mF)) 110 [(0, .ref (G.1 + 298)), (1, .int y1), (2, .int y2), (3, .int y3), (4, .int y4), (5, .int y5)] [.int j13] m6 := by
        refine pw_istore [(6, .int j13), (0, .ref (G.1 + 298)), (1, .int y1), (2, .int y2), (3, .int y3), (4, .int y4), (5, .int y5)] 112 dX7_hiring_110 rfl (Nat.le_of_ble_eq_true rfl) rfl ?_
        refine pw_aload_n 1 rfl rfl 113 dX7_hiring_112 rfl ?_
        refine pw_getR 15 116 dX7_hiring_113 rfl fi_X7_hiring_7 lk_X7_hiring_31 la_298 ly_298 (by decide) rfl (by decide) rfl rf_298_15 ?_
        refine pw_iconst (v := (4 : Int32)) (by decide) 117 dX7_hiring_116 rfl ?_
        refine pw_iald 118 dX7_hiring_117 rfl la_306 ly_306 (vp_lit rfl rfl) ?_
        refine pw_aload_n 1 rfl rfl 119 dX7_hiring_118 rfl ?_
        refine pw_getR 15 122 dX7_hiring_119 rfl fi_X7_hiring_7 lk_X7_hiring_31 la_298 ly_298 (by decide) rfl (by decide) rfl rf_298_15 ?_
        refine pw_iconst (v := (0 : Int32)) (by decide) 123 dX7_hiring_122 rfl ?_
        refine pw_iald 124 dX7_hiring_123 rfl la_306 ly_306 (vp_lit rfl rfl) ?_
        obtain ⟨j17, j18, qj17, h⟩ := bd2_e h
        have hJ143_j17 : PW G (KM l G RX7 cX7_hiring 7 (some .int) wsX7_hiring 5 (Qi G r mF)) 143 [(0, .ref (G.1 + 298)), (1, .int y1), (2, .int y2), (3, .int j17), (4, .int j18), (5, .int y5)] [] m6 := by
          obtain ⟨v19, ev19, h⟩ := nmE_ h
          refine pw_iinc 5 rfl (by rw [ev19]; rfl) [(5, .int v19), (0, .ref (G.1 + 298)), (1, .int y1), (2, .int y2), (3, .int j17), (4, .int j18)] 146 dX7_hiring_143 rfl (Nat.le_of_ble_eq_true rfl) rfl ?_
          refine pw_goto 41 dX7_hiring_146 (by decide) ?_
          refine pw_sub [1, 2, 3, 4, 5, 0] [(0, .ref (G.1 + 298)), (1, .int y1), (2, .int y2), (3, .int j17), (4, .int j18), (5, .int v19)] rfl ?_
          exact ih y1 y2 j17 j18 v19 m6 a0 a1 a2 h hk
        refine pw_icmp_lt 143 127 dX7_hiring_124 (by decide) rfl (fun c14 => ?_) (fun c14 => ?_)
        · have qj17 := if_t qj17 c14
          refine pw_sub [1, 2, 3, 4, 5, 6] [(0, .ref (G.1 + 298)), (1, .int y1), (2, .int y2), (3, .int y3), (4, .int y4), (5, .int y5)] rfl ?_
          cases qj17; exact hJ143_j17
        · have qj17 := if_f qj17 c14
          refine pw_iload 0 rfl 129 dX7_hiring_127 rfl ?_
          refine pw_if_eq 143 132 dX7_hiring_129 (by decide) rfl (fun c15 => ?_) (fun c15 => ?_)
          · have qj17 := if_t qj17 c15
            refine pw_sub [1, 2, 3, 4, 5, 6] [(0, .ref (G.1 + 298)), (1, .int y1), (2, .int y2), (3, .int y3), (4, .int y4), (5, .int y5)] rfl ?_
            cases qj17; exact hJ143_j17
          · have qj17 := if_f qj17 c15
            refine pw_iload 6 rfl 134 dX7_hiring_132 rfl ?_
            refine pw_istore_n (hf := rfl) [(3, .int y5), (6, .int j13), (0, .ref (G.1 + 298)), (1, .int y1), (2, .int y2), (4, .int y4), (5, .int y5)] 135 dX7_hiring_134 rfl (Nat.le_of_ble_eq_true rfl) rfl ?_
            refine pw_aload_n 2 rfl rfl 136 dX7_hiring_135 rfl ?_
            refine pw_getR 15 139 dX7_hiring_136 rfl fi_X7_hiring_7 lk_X7_hiring_31 la_298 ly_298 (by decide) rfl (by decide) rfl rf_298_15 ?_
            refine pw_iconst (v := (5 : Int32)) (by decide) 140 dX7_hiring_139 rfl ?_
            refine pw_iald 141 dX7_hiring_140 rfl la_306 ly_306 (vp_lit rfl rfl) ?_
            obtain ⟨v16, ev16, qj17⟩ := nmE_ qj17
            refine pw_top ev16 ?_
            refine pw_istore [(4, .int v16), (3, .int y5), (6, .int j13), (0, .ref (G.1 + 298)), (1, .int y1), (2, .int y2), (5, .int y5)] 143 dX7_hiring_141 rfl (Nat.le_of_ble_eq_true rfl) rfl ?_
            refine pw_sub [3, 4, 5, 1, 0, 6] [(0, .ref (G.1 + 298)), (1, .int y1), (2, .int y2), (3, .int y5), (4, .int v16), (5, .int y5)] rfl ?_
            cases qj17; exact hJ143_j17
      refine pw_icmp_eq 105 71 dX7_hiring_68 (by decide) rfl (fun c7 => ?_) (fun c7 => ?_)
      · have qj13 := if_t qj13 c7
        refine pw_iconst (v := (1 : Int32)) (by decide) 106 dX7_hiring_105 rfl ?_
        refine pw_goto 110 dX7_hiring_106 (by decide) ?_
        refine pw_sub [0, 1, 2, 3, 4, 5] [(0, .ref (G.1 + 298)), (1, .int y1), (2, .int y2), (3, .int y3), (4, .int y4), (5, .int y5)] rfl ?_
        cases qj13; exact hJ110_j13
      · have qj13 := if_f qj13 c7
        refine pw_aload_n 0 rfl rfl 72 dX7_hiring_71 rfl ?_
        refine pw_getR 15 75 dX7_hiring_72 rfl fi_X7_hiring_7 lk_X7_hiring_31 la_298 ly_298 (by decide) rfl (by decide) rfl rf_298_15 ?_
        refine pw_iconst (v := (5 : Int32)) (by decide) 76 dX7_hiring_75 rfl ?_
        refine pw_iald 77 dX7_hiring_76 rfl la_306 ly_306 (vp_lit rfl rfl) ?_
        refine pw_iload 4 rfl 79 dX7_hiring_77 rfl ?_
        refine pw_icmp_lt 105 82 dX7_hiring_79 (by decide) rfl (fun c8 => ?_) (fun c8 => ?_)
        · have qj13 := if_t qj13 c8
          refine pw_iconst (v := (1 : Int32)) (by decide) 106 dX7_hiring_105 rfl ?_
          refine pw_goto 110 dX7_hiring_106 (by decide) ?_
          refine pw_sub [0, 1, 2, 3, 4, 5] [(0, .ref (G.1 + 298)), (1, .int y1), (2, .int y2), (3, .int y3), (4, .int y4), (5, .int y5)] rfl ?_
          cases qj13; exact hJ110_j13
        · have qj13 := if_f qj13 c8
          refine pw_aload_n 0 rfl rfl 83 dX7_hiring_82 rfl ?_
          refine pw_getR 15 86 dX7_hiring_83 rfl fi_X7_hiring_7 lk_X7_hiring_31 la_298 ly_298 (by decide) rfl (by decide) rfl rf_298_15 ?_
          refine pw_iconst (v := (5 : Int32)) (by decide) 87 dX7_hiring_86 rfl ?_
          refine pw_iald 88 dX7_hiring_87 rfl la_306 ly_306 (vp_lit rfl rfl) ?_
          refine pw_iload 4 rfl 90 dX7_hiring_88 rfl ?_
          refine pw_icmp_ne 109 93 dX7_hiring_90 (by decide) rfl (fun c9 => ?_) (fun c9 => ?_)
          · have qj13 := if_f qj13 c9
            refine pw_iconst (v := (0 : Int32)) (by decide) 110 dX7_hiring_109 rfl ?_
            refine pw_sub [0, 1, 2, 3, 4, 5] [(0, .ref (G.1 + 298)), (1, .int y1), (2, .int y2), (3, .int y3), (4, .int y4), (5, .int y5)] rfl ?_
            cases qj13; exact hJ110_j13
          · have qj13 := if_t qj13 c9
            refine pw_iload 5 rfl 95 dX7_hiring_93 rfl ?_
            obtain ⟨r10, hr10, qj13⟩ := bd1_e qj13
            refine pw_callSi 98 dX7_hiring_95 rfl [.int y5] 1 ⟨gX7_hiring_X7_ones, rfl, sgS_X7_ones, ⟨Nat.le_of_ble_eq_true rfl, Nat.le_of_ble_eq_true rfl⟩, ⟨Nat.le_refl _, Nat.le_refl _⟩⟩ (k_X7_ones hr10) rfl rfl (Nat.le_of_ble_eq_true rfl) ?_
            refine pw_iload_n 3 rfl rfl 99 dX7_hiring_98 rfl ?_
            obtain ⟨r11, hr11, qj13⟩ := bd1_e qj13
            refine pw_callSi 102 dX7_hiring_99 rfl [.int y3] 1 ⟨gX7_hiring_X7_ones, rfl, sgS_X7_ones, ⟨Nat.le_of_ble_eq_true rfl, Nat.le_of_ble_eq_true rfl⟩, ⟨Nat.le_refl _, Nat.le_refl _⟩⟩ (k_X7_ones hr11) rfl rfl (Nat.le_of_ble_eq_true rfl) ?_
            refine pw_icmp_ge 109 105 dX7_hiring_102 (by decide) rfl (fun c12 => ?_) (fun c12 => ?_)
            · have qj13 := if_t qj13 c12
              refine pw_iconst (v := (0 : Int32)) (by decide) 110 dX7_hiring_109 rfl ?_
              refine pw_sub [0, 1, 2, 3, 4, 5] [(0, .ref (G.1 + 298)), (1, .int y1), (2, .int y2), (3, .int y3), (4, .int y4), (5, .int y5)] rfl ?_
              cases qj13; exact hJ110_j13
            · have qj13 := if_f qj13 c12
              refine pw_iconst (v := (1 : Int32)) (by decide) 106 dX7_hiring_105 rfl ?_
              refine pw_goto 110 dX7_hiring_106 (by decide) ?_
              refine pw_sub [0, 1, 2, 3, 4, 5] [(0, .ref (G.1 + 298)), (1, .int y1), (2, .int y2), (3, .int y3), (4, .int y4), (5, .int y5)] rfl ?_
              cases qj13; exact hJ110_j13
set_option maxHeartbeats 4000000 in
set_option maxRecDepth 100000 in
theorem k_X7_hiring {l : Launch} {G : Gx} {x1 : Int32} {x2 : Int32} {m mF : Mm} {r : Int32}  (h : f_X7_hiring x1 x2 m = some (r, mF)) : Cn l G 5 yX7_hiring wsX7_hiring [.ref (G.1 + 298), .int x1, .int x2] m (Qi G r mF) := by
  unfold f_X7_hiring at h
  refine Cn.of (own := RX7) (lv := [(0, .ref (G.1 + 298)), (1, .int x1), (2, .int x2)]) (by decide) rfl rfl (Nat.le_of_ble_eq_true rfl) rfl ?_
  refine pw_aload_n 0 rfl rfl 1 dX7_hiring_0 rfl ?_
  refine pw_callVi 4 dX7_hiring_1 rfl [] 0 ⟨gX7_hiring_X7_isWedding, rfl, sgV_X7_isWedding, ⟨Nat.le_of_ble_eq_true rfl, Nat.le_of_ble_eq_true rfl⟩, ⟨Nat.le_refl _, Nat.le_refl _⟩⟩ ly_298 (by decide) la_298 rfl (k_X7_isWedding rfl) rfl rfl (Nat.le_of_ble_eq_true rfl) ?_
  refine pw_if_ne 10 7 dX7_hiring_4 (by decide) rfl (fun c1 => ?_) (fun c1 => ?_)
  · have h := if_f h c1
    refine pw_iload_n 1 rfl rfl 11 dX7_hiring_10 rfl ?_
    refine pw_iconst (v := (1 : Int32)) (by decide) 12 dX7_hiring_11 rfl ?_
    refine pw_bipush (v := (30 : Int32)) (by decide) 14 dX7_hiring_12 rfl ?_
    refine pw_callSi 17 dX7_hiring_14 rfl [.int x1, .int (1 : Int32), .int (30 : Int32)] 3 ⟨gX7_hiring_X7_in, rfl, sgS_X7_in, ⟨Nat.le_of_ble_eq_true rfl, Nat.le_of_ble_eq_true rfl⟩, ⟨Nat.le_refl _, Nat.le_refl _⟩⟩ (k_X7_in rfl) rfl rfl (Nat.le_of_ble_eq_true rfl) ?_
    refine pw_if_eq 29 20 dX7_hiring_17 (by decide) rfl (fun c2 => ?_) (fun c2 => ?_)
    · have h := if_t h c2
      refine pw_ldc 31 lw_X7_hiring_c67 dX7_hiring_29 rfl ?_
      exact pw_iret dX7_hiring_31 (pr_inj h)
    · have h := if_f h c2
      refine pw_iload_n 2 rfl rfl 21 dX7_hiring_20 rfl ?_
      refine pw_iconst (v := (0 : Int32)) (by decide) 22 dX7_hiring_21 rfl ?_
      refine pw_iconst (v := (1 : Int32)) (by decide) 23 dX7_hiring_22 rfl ?_
      refine pw_callSi 26 dX7_hiring_23 rfl [.int x2, .int (0 : Int32), .int (1 : Int32)] 3 ⟨gX7_hiring_X7_in, rfl, sgS_X7_in, ⟨Nat.le_of_ble_eq_true rfl, Nat.le_of_ble_eq_true rfl⟩, ⟨Nat.le_refl _, Nat.le_refl _⟩⟩ (k_X7_in rfl) rfl rfl (Nat.le_of_ble_eq_true rfl) ?_
      refine pw_if_ne 32 29 dX7_hiring_26 (by decide) rfl (fun c3 => ?_) (fun c3 => ?_)
      · have h := if_f h c3
        refine pw_ldc 34 lw_X7_hiring_c53 dX7_hiring_32 rfl ?_
        refine pw_istore_n (hf := rfl) [(3, .int (-1000000 : Int32)), (0, .ref (G.1 + 298)), (1, .int x1), (2, .int x2)] 35 dX7_hiring_34 rfl (Nat.le_of_ble_eq_true rfl) rfl ?_
        refine pw_iconst (v := (0 : Int32)) (by decide) 36 dX7_hiring_35 rfl ?_
        refine pw_istore [(4, .int (0 : Int32)), (3, .int (-1000000 : Int32)), (0, .ref (G.1 + 298)), (1, .int x1), (2, .int x2)] 38 dX7_hiring_36 rfl (Nat.le_of_ble_eq_true rfl) rfl ?_
        refine pw_iconst (v := (0 : Int32)) (by decide) 39 dX7_hiring_38 rfl ?_
        refine pw_istore [(5, .int (0 : Int32)), (4, .int (0 : Int32)), (3, .int (-1000000 : Int32)), (0, .ref (G.1 + 298)), (1, .int x1), (2, .int x2)] 41 dX7_hiring_39 rfl (Nat.le_of_ble_eq_true rfl) rfl ?_
        obtain ⟨z20, z21, m22, h23, h⟩ := bd3_e h
        have hL41_h23 : PW G (KM l G RX7 cX7_hiring 7 (some .int) wsX7_hiring 5 (Qi G r mF)) 149 [(2, .int x2), (3, .int z20), (4, .int z21)] [] m22 := by
          refine pw_iload_n 1 rfl rfl 150 dX7_hiring_149 rfl ?_
          refine pw_ldc 152 lw_X7_hiring_c53 dX7_hiring_150 rfl ?_
          refine pw_icmp_eq 159 155 dX7_hiring_152 (by decide) rfl (fun c24 => ?_) (fun c24 => ?_)
          · have h := if_t h c24
            refine pw_iload_n 1 rfl rfl 160 dX7_hiring_159 rfl ?_
            refine pw_goto 165 dX7_hiring_160 (by decide) ?_
            exact pw_iret dX7_hiring_165 (pr_inj h)
          · have h := if_f h c24
            refine pw_iload_n 0 rfl rfl 156 dX7_hiring_155 rfl ?_
            refine pw_if_ne 163 159 dX7_hiring_156 (by decide) rfl (fun c25 => ?_) (fun c25 => ?_)
            · have h := if_f h c25
              refine pw_iload 2 rfl 165 dX7_hiring_163 rfl ?_
              exact pw_iret dX7_hiring_165 (pr_inj h)
            · have h := if_t h c25
              refine pw_iload_n 1 rfl rfl 160 dX7_hiring_159 rfl ?_
              refine pw_goto 165 dX7_hiring_160 (by decide) ?_
              exact pw_iret dX7_hiring_165 (pr_inj h)
        refine pw_sub [3, 4, 5, 2, 1, 0] [(0, .ref (G.1 + 298)), (1, .int x1), (2, .int x2), (3, .int (-1000000 : Int32)), (4, .int (0 : Int32)), (5, .int (0 : Int32))] rfl ?_
        exact kl_X7_hiring_41 FU x1 x2 (-1000000 : Int32) (0 : Int32) (0 : Int32) m z20 z21 m22 h23 hL41_h23
      · have h := if_t h c3
        refine pw_ldc 31 lw_X7_hiring_c67 dX7_hiring_29 rfl ?_
        exact pw_iret dX7_hiring_31 (pr_inj h)
  · have h := if_t h c1
    refine pw_ldc 9 lw_X7_hiring_c169 dX7_hiring_7 rfl ?_
    exact pw_iret dX7_hiring_9 (pr_inj h)
theorem fi_X7_trades_7 : ∀ w ∈ wsX70, w ∈ wsX7_trades := by decide +kernel
theorem lk_X7_trades_47 : Cond.fieldLink RX7 47 (TX7 21).1 (TX7 21).2.1 (TX7 21).2.2.1 ∈ wsX7_trades := by decide +kernel
set_option maxHeartbeats 4000000 in
set_option maxRecDepth 100000 in
theorem k_X7_trades {l : Launch} {G : Gx} {x1 : Int32} {x2 : Int32} {m mF : Mm}   (h : f_X7_trades x1 x2 m = some mF) : Cn l G 0 yX7_trades wsX7_trades [.ref (G.1 + 298), .int x1, .int x2] m (Qv G mF) := by
  unfold f_X7_trades at h
  refine Cn.of (own := RX7) (lv := [(0, .ref (G.1 + 298)), (1, .int x1), (2, .int x2)]) (by decide) rfl rfl (Nat.le_of_ble_eq_true rfl) rfl ?_
  refine pw_aload_n 0 rfl rfl 1 dX7_trades_0 rfl ?_
  refine pw_getR 21 4 dX7_trades_1 rfl fi_X7_trades_7 lk_X7_trades_47 la_298 ly_298 (by decide) rfl (by decide) rfl rf_298_21 ?_
  refine pw_iload_n 1 rfl rfl 5 dX7_trades_4 rfl ?_
  obtain ⟨h1, h⟩ := gd_e h
  refine pw_iald 6 dX7_trades_5 rfl la_311 ly_311 h1 ?_
  obtain ⟨v2, ev2, h⟩ := nmE_ h
  refine pw_top ev2 ?_
  refine pw_istore_n (hf := rfl) [(3, .int v2), (0, .ref (G.1 + 298)), (1, .int x1), (2, .int x2)] 7 dX7_trades_6 rfl (Nat.le_of_ble_eq_true rfl) rfl ?_
  refine pw_aload_n 1 rfl rfl 8 dX7_trades_7 rfl ?_
  refine pw_getR 21 11 dX7_trades_8 rfl fi_X7_trades_7 lk_X7_trades_47 la_298 ly_298 (by decide) rfl (by decide) rfl rf_298_21 ?_
  refine pw_iload_n 2 rfl rfl 12 dX7_trades_11 rfl ?_
  refine pw_aload_n 1 rfl rfl 13 dX7_trades_12 rfl ?_
  refine pw_getR 21 16 dX7_trades_13 rfl fi_X7_trades_7 lk_X7_trades_47 la_298 ly_298 (by decide) rfl (by decide) rfl rf_298_21 ?_
  refine pw_iload_n 3 rfl rfl 17 dX7_trades_16 rfl ?_
  obtain ⟨h3, h⟩ := gd_e h
  refine pw_iald 18 dX7_trades_17 rfl la_311 ly_311 h3 ?_
  obtain ⟨v4, ev4, h⟩ := nmE_ h
  refine pw_top ev4 ?_
  obtain ⟨h8, h⟩ := gd_e h
  refine pw_iast 19 dX7_trades_18 rfl la_311 ly_311 h8 ?_
  obtain ⟨m5, em5, h⟩ := nmE_ h
  refine pw_mem em5 ?_
  refine pw_aload_n 1 rfl rfl 20 dX7_trades_19 rfl ?_
  refine pw_getR 21 23 dX7_trades_20 rfl fi_X7_trades_7 lk_X7_trades_47 la_298 ly_298 (by decide) rfl (by decide) rfl rf_298_21 ?_
  refine pw_iload_n 3 rfl rfl 24 dX7_trades_23 rfl ?_
  refine pw_iload_n 0 rfl rfl 25 dX7_trades_24 rfl ?_
  obtain ⟨h7, h⟩ := gd_e h
  refine pw_iast 26 dX7_trades_25 rfl la_311 ly_311 h7 ?_
  obtain ⟨m6, em6, h⟩ := nmE_ h
  refine pw_mem em6 ?_
  exact pw_vret dX7_trades_26 (Option.some.inj h)
theorem fi_X7_orders_7 : ∀ w ∈ wsX70, w ∈ wsX7_orders := by decide +kernel
theorem lk_X7_orders_25 : Cond.fieldLink RX7 25 (TX7 13).1 (TX7 13).2.1 (TX7 13).2.2.1 ∈ wsX7_orders := by decide +kernel
theorem lk_X7_orders_47 : Cond.fieldLink RX7 47 (TX7 21).1 (TX7 21).2.1 (TX7 21).2.2.1 ∈ wsX7_orders := by decide +kernel
set_option maxHeartbeats 4000000 in
set_option maxRecDepth 100000 in
theorem kl_X7_orders_9 {l : Launch} {G : Gx}  {r : Int32} {mF : Mm}  : ∀ (n : Nat) (y1 : Int32) (m : Mm) (a0 : Int32), lp_X7_orders_9 n y1 m = some a0 → PW G (KM l G RX7 cX7_orders 5 (some .boolean) wsX7_orders 1 (Qi G r mF)) 36 [(0, .ref (G.1 + 298)), (1, .int a0)] [] m → PW G (KM l G RX7 cX7_orders 5 (some .boolean) wsX7_orders 1 (Qi G r mF)) 9 [(0, .ref (G.1 + 298)), (1, .int y1)] [] m := by
  intro n
  induction n with
  | zero => intro y1 m a0 h hk; cases h
  | succ n ih =>
    intro y1 m a0 h hk
    have h : lb_X7_orders_9 (lp_X7_orders_9 n) y1 m = _ := h
    unfold lb_X7_orders_9 at h
    refine pw_iload_n 1 rfl rfl 10 dX7_orders_9 rfl ?_
    refine pw_if_lt 36 13 dX7_orders_10 (by decide) rfl (fun c2 => ?_) (fun c2 => ?_)
    · have h := if_t h c2
      refine pw_sub [0, 1] [(0, .ref (G.1 + 298)), (1, .int y1)] rfl ?_
      cases h; exact hk
    · have h := if_f h c2
      refine pw_aload_n 0 rfl rfl 14 dX7_orders_13 rfl ?_
      refine pw_getR 21 17 dX7_orders_14 rfl fi_X7_orders_7 lk_X7_orders_47 la_298 ly_298 (by decide) rfl (by decide) rfl rf_298_21 ?_
      refine pw_iload_n 1 rfl rfl 18 dX7_orders_17 rfl ?_
      obtain ⟨h3, h⟩ := gd_e h
      refine pw_iald 19 dX7_orders_18 rfl la_311 ly_311 h3 ?_
      refine pw_aload_n 0 rfl rfl 20 dX7_orders_19 rfl ?_
      refine pw_getR 21 23 dX7_orders_20 rfl fi_X7_orders_7 lk_X7_orders_47 la_298 ly_298 (by decide) rfl (by decide) rfl rf_298_21 ?_
      refine pw_iload_n 1 rfl rfl 24 dX7_orders_23 rfl ?_
      refine pw_iconst (v := (1 : Int32)) (by decide) 25 dX7_orders_24 rfl ?_
      refine pw_iadd 26 dX7_orders_25 rfl ?_
      obtain ⟨h4, h⟩ := gd_e h
      refine pw_iald 27 dX7_orders_26 rfl la_311 ly_311 h4 ?_
      refine pw_icmp_le 36 30 dX7_orders_27 (by decide) rfl (fun c5 => ?_) (fun c5 => ?_)
      · have h := if_t h c5
        refine pw_sub [0, 1] [(0, .ref (G.1 + 298)), (1, .int y1)] rfl ?_
        cases h; exact hk
      · have h := if_f h c5
        obtain ⟨v6, ev6, h⟩ := nmE_ h
        refine pw_iinc 1 rfl (by rw [ev6]; rfl) [(1, .int v6), (0, .ref (G.1 + 298))] 33 dX7_orders_30 rfl (Nat.le_of_ble_eq_true rfl) rfl ?_
        refine pw_goto 9 dX7_orders_33 (by decide) ?_
        refine pw_sub [1, 0] [(0, .ref (G.1 + 298)), (1, .int v6)] rfl ?_
        exact ih v6 m a0 h hk
set_option maxHeartbeats 4000000 in
set_option maxRecDepth 100000 in
theorem kl_X7_orders_51 {l : Launch} {G : Gx}  {r : Int32} {mF : Mm}  : ∀ (n : Nat) (y1 : Int32) (y2 : Int32) (m : Mm) (a0 : Int32), lp_X7_orders_51 n y1 y2 m = some a0 → PW G (KM l G RX7 cX7_orders 5 (some .boolean) wsX7_orders 1 (Qi G r mF)) 72 [(0, .ref (G.1 + 298)), (1, .int y1), (2, .int a0)] [] m → PW G (KM l G RX7 cX7_orders 5 (some .boolean) wsX7_orders 1 (Qi G r mF)) 51 [(0, .ref (G.1 + 298)), (1, .int y1), (2, .int y2)] [] m := by
  intro n
  induction n with
  | zero => intro y1 y2 m a0 h hk; cases h
  | succ n ih =>
    intro y1 y2 m a0 h hk
    have h : lb_X7_orders_51 (lp_X7_orders_51 n) y1 y2 m = _ := h
    unfold lb_X7_orders_51 at h
    refine pw_aload_n 0 rfl rfl 52 dX7_orders_51 rfl ?_
    refine pw_getR 21 55 dX7_orders_52 rfl fi_X7_orders_7 lk_X7_orders_47 la_298 ly_298 (by decide) rfl (by decide) rfl rf_298_21 ?_
    refine pw_iload_n 2 rfl rfl 56 dX7_orders_55 rfl ?_
    obtain ⟨h11, h⟩ := gd_e h
    refine pw_iald 57 dX7_orders_56 rfl la_311 ly_311 h11 ?_
    refine pw_aload_n 0 rfl rfl 58 dX7_orders_57 rfl ?_
    refine pw_getR 21 61 dX7_orders_58 rfl fi_X7_orders_7 lk_X7_orders_47 la_298 ly_298 (by decide) rfl (by decide) rfl rf_298_21 ?_
    refine pw_iload_n 1 rfl rfl 62 dX7_orders_61 rfl ?_
    obtain ⟨h12, h⟩ := gd_e h
    refine pw_iald 63 dX7_orders_62 rfl la_311 ly_311 h12 ?_
    refine pw_icmp_ge 72 66 dX7_orders_63 (by decide) rfl (fun c13 => ?_) (fun c13 => ?_)
    · have h := if_t h c13
      refine pw_sub [0, 1, 2] [(0, .ref (G.1 + 298)), (1, .int y1), (2, .int y2)] rfl ?_
      cases h; exact hk
    · have h := if_f h c13
      obtain ⟨v14, ev14, h⟩ := nmE_ h
      refine pw_iinc 2 rfl (by rw [ev14]; rfl) [(2, .int v14), (0, .ref (G.1 + 298)), (1, .int y1)] 69 dX7_orders_66 rfl (Nat.le_of_ble_eq_true rfl) rfl ?_
      refine pw_goto 51 dX7_orders_69 (by decide) ?_
      refine pw_sub [1, 2, 0] [(0, .ref (G.1 + 298)), (1, .int y1), (2, .int v14)] rfl ?_
      exact ih y1 v14 m a0 h hk
set_option maxHeartbeats 4000000 in
set_option maxRecDepth 100000 in
theorem kl_X7_orders_92 {l : Launch} {G : Gx}  {r : Int32} {mF : Mm}  : ∀ (n : Nat) (y3 : Int32) (y4 : Int32) (m : Mm) (a0 : Mm), lp_X7_orders_92 n y3 y4 m = some a0 → PW G (KM l G RX7 cX7_orders 5 (some .boolean) wsX7_orders 1 (Qi G r mF)) 114 [] [] a0 → PW G (KM l G RX7 cX7_orders 5 (some .boolean) wsX7_orders 1 (Qi G r mF)) 92 [(0, .ref (G.1 + 298)), (3, .int y3), (4, .int y4)] [] m := by
  intro n
  induction n with
  | zero => intro y3 y4 m a0 h hk; cases h
  | succ n ih =>
    intro y3 y4 m a0 h hk
    have h : lb_X7_orders_92 (lp_X7_orders_92 n) y3 y4 m = _ := h
    unfold lb_X7_orders_92 at h
    refine pw_iload_n 1 rfl rfl 93 dX7_orders_92 rfl ?_
    refine pw_iload 2 rfl 95 dX7_orders_93 rfl ?_
    refine pw_icmp_ge 114 98 dX7_orders_95 (by decide) rfl (fun c20 => ?_) (fun c20 => ?_)
    · have h := if_t h c20
      refine pw_sub [] [] rfl ?_
      cases h; exact hk
    · have h := if_f h c20
      refine pw_aload_n 0 rfl rfl 99 dX7_orders_98 rfl ?_
      refine pw_iload_n 1 rfl rfl 100 dX7_orders_99 rfl ?_
      refine pw_iload 2 rfl 102 dX7_orders_100 rfl ?_
      obtain ⟨m21, hm21, h⟩ := bd1_e h
      refine pw_callVv 105 dX7_orders_102 rfl [.int y3, .int y4] 2 ⟨gX7_orders_X7_trades, rfl, sgV_X7_trades, ⟨Nat.le_of_ble_eq_true rfl, Nat.le_of_ble_eq_true rfl⟩, ⟨Nat.le_refl _, Nat.le_refl _⟩⟩ ly_298 (by decide) la_298 rfl (k_X7_trades hm21) rfl rfl (Nat.le_of_ble_eq_true rfl) ?_
      obtain ⟨v22, ev22, h⟩ := nmE_ h
      refine pw_iinc 1 rfl (by rw [ev22]; rfl) [(3, .int v22), (0, .ref (G.1 + 298)), (4, .int y4)] 108 dX7_orders_105 rfl (Nat.le_of_ble_eq_true rfl) rfl ?_
      obtain ⟨v23, ev23, h⟩ := nmE_ h
      refine pw_iinc 2 rfl (by rw [ev23]; rfl) [(4, .int v23), (3, .int v22), (0, .ref (G.1 + 298))] 111 dX7_orders_108 rfl (Nat.le_of_ble_eq_true rfl) rfl ?_
      refine pw_goto 92 dX7_orders_111 (by decide) ?_
      refine pw_sub [2, 1, 0] [(0, .ref (G.1 + 298)), (3, .int v22), (4, .int v23)] rfl ?_
      exact ih v22 v23 m21 a0 h hk
set_option maxHeartbeats 4000000 in
set_option maxRecDepth 100000 in
theorem k_X7_orders {l : Launch} {G : Gx}  {m mF : Mm} {r : Int32}  (h : f_X7_orders m = some (r, mF)) : Cn l G 1 yX7_orders wsX7_orders [.ref (G.1 + 298)] m (Qi G r mF) := by
  unfold f_X7_orders at h
  refine Cn.of (own := RX7) (lv := [(0, .ref (G.1 + 298))]) (by decide) rfl rfl (Nat.le_of_ble_eq_true rfl) rfl ?_
  refine pw_aload_n 0 rfl rfl 1 dX7_orders_0 rfl ?_
  refine pw_getR 13 4 dX7_orders_1 rfl fi_X7_orders_7 lk_X7_orders_25 la_298 ly_298 (by decide) rfl (by decide) rfl rf_298_13 ?_
  refine pw_iconst (v := (2 : Int32)) (by decide) 5 dX7_orders_4 rfl ?_
  refine pw_iald 6 dX7_orders_5 rfl la_304 ly_304 (vp_lit rfl rfl) ?_
  refine pw_iconst (v := (2 : Int32)) (by decide) 7 dX7_orders_6 rfl ?_
  refine pw_isub 8 dX7_orders_7 rfl ?_
  obtain ⟨v1, ev1, h⟩ := nmE_ h
  refine pw_top ev1 ?_
  refine pw_istore_n (hf := rfl) [(1, .int v1), (0, .ref (G.1 + 298))] 9 dX7_orders_8 rfl (Nat.le_of_ble_eq_true rfl) rfl ?_
  obtain ⟨z7, h8, h⟩ := bd1_e h
  have hL9_h8 : PW G (KM l G RX7 cX7_orders 5 (some .boolean) wsX7_orders 1 (Qi G r mF)) 36 [(0, .ref (G.1 + 298)), (1, .int z7)] [] m := by
    refine pw_iload_n 1 rfl rfl 37 dX7_orders_36 rfl ?_
    refine pw_if_ge 42 40 dX7_orders_37 (by decide) rfl (fun c9 => ?_) (fun c9 => ?_)
    · have h := if_t h c9
      refine pw_aload_n 0 rfl rfl 43 dX7_orders_42 rfl ?_
      refine pw_getR 13 46 dX7_orders_43 rfl fi_X7_orders_7 lk_X7_orders_25 la_298 ly_298 (by decide) rfl (by decide) rfl rf_298_13 ?_
      refine pw_iconst (v := (2 : Int32)) (by decide) 47 dX7_orders_46 rfl ?_
      refine pw_iald 48 dX7_orders_47 rfl la_304 ly_304 (vp_lit rfl rfl) ?_
      refine pw_iconst (v := (1 : Int32)) (by decide) 49 dX7_orders_48 rfl ?_
      refine pw_isub 50 dX7_orders_49 rfl ?_
      obtain ⟨v10, ev10, h⟩ := nmE_ h
      refine pw_top ev10 ?_
      refine pw_istore_n (hf := rfl) [(2, .int v10), (0, .ref (G.1 + 298)), (1, .int z7)] 51 dX7_orders_50 rfl (Nat.le_of_ble_eq_true rfl) rfl ?_
      obtain ⟨z15, h16, h⟩ := bd1_e h
      have hL51_h16 : PW G (KM l G RX7 cX7_orders 5 (some .boolean) wsX7_orders 1 (Qi G r mF)) 72 [(0, .ref (G.1 + 298)), (1, .int z7), (2, .int z15)] [] m := by
        refine pw_aload_n 0 rfl rfl 73 dX7_orders_72 rfl ?_
        refine pw_iload_n 1 rfl rfl 74 dX7_orders_73 rfl ?_
        refine pw_iload_n 2 rfl rfl 75 dX7_orders_74 rfl ?_
        obtain ⟨m17, hm17, h⟩ := bd1_e h
        refine pw_callVv 78 dX7_orders_75 rfl [.int z7, .int z15] 2 ⟨gX7_orders_X7_trades, rfl, sgV_X7_trades, ⟨Nat.le_of_ble_eq_true rfl, Nat.le_of_ble_eq_true rfl⟩, ⟨Nat.le_refl _, Nat.le_refl _⟩⟩ ly_298 (by decide) la_298 rfl (k_X7_trades hm17) rfl rfl (Nat.le_of_ble_eq_true rfl) ?_
        refine pw_iload_n 1 rfl rfl 79 dX7_orders_78 rfl ?_
        refine pw_iconst (v := (1 : Int32)) (by decide) 80 dX7_orders_79 rfl ?_
        refine pw_iadd 81 dX7_orders_80 rfl ?_
        obtain ⟨v18, ev18, h⟩ := nmE_ h
        refine pw_top ev18 ?_
        refine pw_istore_n (hf := rfl) [(3, .int v18), (0, .ref (G.1 + 298)), (1, .int z7), (2, .int z15)] 82 dX7_orders_81 rfl (Nat.le_of_ble_eq_true rfl) rfl ?_
        refine pw_aload_n 1 rfl rfl 83 dX7_orders_82 rfl ?_
        refine pw_getR 13 86 dX7_orders_83 rfl fi_X7_orders_7 lk_X7_orders_25 la_298 ly_298 (by decide) rfl (by decide) rfl rf_298_13 ?_
        refine pw_iconst (v := (2 : Int32)) (by decide) 87 dX7_orders_86 rfl ?_
        refine pw_iald 88 dX7_orders_87 rfl la_304 ly_304 (vp_lit rfl rfl) ?_
        refine pw_iconst (v := (1 : Int32)) (by decide) 89 dX7_orders_88 rfl ?_
        refine pw_isub 90 dX7_orders_89 rfl ?_
        obtain ⟨v19, ev19, h⟩ := nmE_ h
        refine pw_top ev19 ?_
        refine pw_istore [(4, .int v19), (3, .int v18), (0, .ref (G.1 + 298)), (1, .int z7), (2, .int z15)] 92 dX7_orders_90 rfl (Nat.le_of_ble_eq_true rfl) rfl ?_
        obtain ⟨m24, h25, h⟩ := bd1_e h
        have hL92_h25 : PW G (KM l G RX7 cX7_orders 5 (some .boolean) wsX7_orders 1 (Qi G r mF)) 114 [] [] m24 := by
          refine pw_iconst (v := (1 : Int32)) (by decide) 115 dX7_orders_114 rfl ?_
          exact pw_zret dX7_orders_115 (by decide) (pr_inj h)
        refine pw_sub [2, 1, 0] [(0, .ref (G.1 + 298)), (3, .int v18), (4, .int v19)] rfl ?_
        exact kl_X7_orders_92 FU v18 v19 m17 m24 h25 hL92_h25
      refine pw_sub [1, 2, 0] [(0, .ref (G.1 + 298)), (1, .int z7), (2, .int v10)] rfl ?_
      exact kl_X7_orders_51 FU z7 v10 m z15 h16 hL51_h16
    · have h := if_f h c9
      refine pw_iconst (v := (0 : Int32)) (by decide) 41 dX7_orders_40 rfl ?_
      exact pw_zret dX7_orders_41 (by decide) (pr_inj h)
  refine pw_sub [1, 0] [(0, .ref (G.1 + 298)), (1, .int v1)] rfl ?_
  exact kl_X7_orders_9 FU v1 m z7 h8 hL9_h8
theorem lw_X7_order_c67 : Cond.constant RX7 67 (-1000001 : Int32) ∈ wsX7_order := by decide +kernel
theorem fi_X7_order_7 : ∀ w ∈ wsX70, w ∈ wsX7_order := by decide +kernel
theorem lk_X7_order_47 : Cond.fieldLink RX7 47 (TX7 21).1 (TX7 21).2.1 (TX7 21).2.2.1 ∈ wsX7_order := by decide +kernel
theorem lk_X7_order_25 : Cond.fieldLink RX7 25 (TX7 13).1 (TX7 13).2.1 (TX7 13).2.2.1 ∈ wsX7_order := by decide +kernel
theorem lk_X7_order_31 : Cond.fieldLink RX7 31 (TX7 15).1 (TX7 15).2.1 (TX7 15).2.2.1 ∈ wsX7_order := by decide +kernel
theorem lw_X7_order_c169 : Cond.constant RX7 169 (-1000002 : Int32) ∈ wsX7_order := by decide +kernel
set_option maxHeartbeats 4000000 in
set_option maxRecDepth 100000 in
theorem kl_X7_order_34 {l : Launch} {G : Gx}  {r : Int32} {mF : Mm}  : ∀ (n : Nat) (y1 : Int32) (y2 : Int32) (y3 : Int32) (m : Mm) (a0 : Mm), lp_X7_order_34 n y1 y2 y3 m = some a0 → PW G (KM l G RX7 cX7_order 8 (some .int) wsX7_order 5 (Qi G r mF)) 53 [(0, .ref (G.1 + 298)), (1, .int y1), (2, .int y2)] [] a0 → PW G (KM l G RX7 cX7_order 8 (some .int) wsX7_order 5 (Qi G r mF)) 34 [(0, .ref (G.1 + 298)), (1, .int y1), (2, .int y2), (3, .int y3)] [] m := by
  intro n
  induction n with
  | zero => intro y1 y2 y3 m a0 h hk; cases h
  | succ n ih =>
    intro y1 y2 y3 m a0 h hk
    have h : lb_X7_order_34 (lp_X7_order_34 n) y1 y2 y3 m = _ := h
    unfold lb_X7_order_34 at h
    refine pw_iload_n 3 rfl rfl 35 dX7_order_34 rfl ?_
    refine pw_bipush (v := (7 : Int32)) (by decide) 37 dX7_order_35 rfl ?_
    refine pw_icmp_ge 53 40 dX7_order_37 (by decide) rfl (fun c4 => ?_) (fun c4 => ?_)
    · have h := if_t h c4
      refine pw_sub [0, 1, 2] [(0, .ref (G.1 + 298)), (1, .int y1), (2, .int y2)] rfl ?_
      cases h; exact hk
    · have h := if_f h c4
      refine pw_aload_n 0 rfl rfl 41 dX7_order_40 rfl ?_
      refine pw_getR 21 44 dX7_order_41 rfl fi_X7_order_7 lk_X7_order_47 la_298 ly_298 (by decide) rfl (by decide) rfl rf_298_21 ?_
      refine pw_iload_n 3 rfl rfl 45 dX7_order_44 rfl ?_
      refine pw_iload_n 3 rfl rfl 46 dX7_order_45 rfl ?_
      obtain ⟨h7, h⟩ := gd_e h
      refine pw_iast 47 dX7_order_46 rfl la_311 ly_311 h7 ?_
      obtain ⟨m5, em5, h⟩ := nmE_ h
      refine pw_mem em5 ?_
      obtain ⟨v6, ev6, h⟩ := nmE_ h
      refine pw_iinc 3 rfl (by rw [ev6]; rfl) [(3, .int v6), (0, .ref (G.1 + 298)), (1, .int y1), (2, .int y2)] 50 dX7_order_47 rfl (Nat.le_of_ble_eq_true rfl) rfl ?_
      refine pw_goto 34 dX7_order_50 (by decide) ?_
      refine pw_sub [1, 2, 3, 0] [(0, .ref (G.1 + 298)), (1, .int y1), (2, .int y2), (3, .int v6)] rfl ?_
      exact ih y1 y2 v6 m5 a0 h hk
set_option maxHeartbeats 4000000 in
set_option maxRecDepth 100000 in
theorem kl_X7_order_85 {l : Launch} {G : Gx}  {r : Int32} {mF : Mm}  : ∀ (n : Nat) (y1 : Int32) (y2 : Int32) (y3 : Int32) (y4 : Int32) (y6 : Int32) (y7 : Int32) (m : Mm) (a0 : Int32) (a1 : Mm), lp_X7_order_85 n y1 y2 y3 y4 y6 y7 m = some (a0, a1) → PW G (KM l G RX7 cX7_order 8 (some .int) wsX7_order 5 (Qi G r mF)) 139 [(0, .ref (G.1 + 298)), (1, .int y1), (2, .int y2), (3, .int y3), (4, .int y4), (6, .int a0)] [] a1 → PW G (KM l G RX7 cX7_order 8 (some .int) wsX7_order 5 (Qi G r mF)) 85 [(0, .ref (G.1 + 298)), (1, .int y1), (2, .int y2), (3, .int y3), (4, .int y4), (6, .int y6), (7, .int y7)] [] m := by
  intro n
  induction n with
  | zero => intro y1 y2 y3 y4 y6 y7 m a0 a1 h hk; cases h
  | succ n ih =>
    intro y1 y2 y3 y4 y6 y7 m a0 a1 h hk
    have h : lb_X7_order_85 (lp_X7_order_85 n) y1 y2 y3 y4 y6 y7 m = _ := h
    unfold lb_X7_order_85 at h
    refine pw_iload 6 rfl 87 dX7_order_85 rfl ?_
    refine pw_aload_n 0 rfl rfl 88 dX7_order_87 rfl ?_
    refine pw_getR 13 91 dX7_order_88 rfl fi_X7_order_7 lk_X7_order_25 la_298 ly_298 (by decide) rfl (by decide) rfl rf_298_13 ?_
    refine pw_iconst (v := (2 : Int32)) (by decide) 92 dX7_order_91 rfl ?_
    refine pw_iald 93 dX7_order_92 rfl la_304 ly_304 (vp_lit rfl rfl) ?_
    refine pw_icmp_ge 139 96 dX7_order_93 (by decide) rfl (fun c12 => ?_) (fun c12 => ?_)
    · have h := if_t h c12
      refine pw_sub [0, 1, 2, 3, 4, 5] [(0, .ref (G.1 + 298)), (1, .int y1), (2, .int y2), (3, .int y3), (4, .int y4), (6, .int y6)] rfl ?_
      cases h; exact hk
    · have h := if_f h c12
      refine pw_aload_n 0 rfl rfl 97 dX7_order_96 rfl ?_
      refine pw_getR 15 100 dX7_order_97 rfl fi_X7_order_7 lk_X7_order_31 la_298 ly_298 (by decide) rfl (by decide) rfl rf_298_15 ?_
      refine pw_bipush (v := (6 : Int32)) (by decide) 102 dX7_order_100 rfl ?_
      refine pw_bipush (v := (7 : Int32)) (by decide) 104 dX7_order_102 rfl ?_
      refine pw_aload_n 0 rfl rfl 105 dX7_order_104 rfl ?_
      refine pw_getR 21 108 dX7_order_105 rfl fi_X7_order_7 lk_X7_order_47 la_298 ly_298 (by decide) rfl (by decide) rfl rf_298_21 ?_
      refine pw_iload 6 rfl 110 dX7_order_108 rfl ?_
      obtain ⟨h13, h⟩ := gd_e h
      refine pw_iald 111 dX7_order_110 rfl la_311 ly_311 h13 ?_
      refine pw_imul 112 dX7_order_111 rfl ?_
      refine pw_iadd 113 dX7_order_112 rfl ?_
      refine pw_iconst (v := (4 : Int32)) (by decide) 114 dX7_order_113 rfl ?_
      refine pw_iadd 115 dX7_order_114 rfl ?_
      refine pw_iload 6 rfl 117 dX7_order_115 rfl ?_
      obtain ⟨h18, h⟩ := gd_e h
      refine pw_iast 118 dX7_order_117 rfl la_306 ly_306 h18 ?_
      obtain ⟨m14, em14, h⟩ := nmE_ h
      refine pw_mem em14 ?_
      refine pw_bipush (v := (10 : Int32)) (by decide) 120 dX7_order_118 rfl ?_
      refine pw_iload 5 rfl 122 dX7_order_120 rfl ?_
      refine pw_imul 123 dX7_order_122 rfl ?_
      refine pw_aload_n 0 rfl rfl 124 dX7_order_123 rfl ?_
      refine pw_getR 21 127 dX7_order_124 rfl fi_X7_order_7 lk_X7_order_47 la_298 ly_298 (by decide) rfl (by decide) rfl rf_298_21 ?_
      refine pw_iload 6 rfl 129 dX7_order_127 rfl ?_
      obtain ⟨h15, h⟩ := gd_e h
      refine pw_iald 130 dX7_order_129 rfl la_311 ly_311 h15 ?_
      refine pw_iadd 131 dX7_order_130 rfl ?_
      obtain ⟨v16, ev16, h⟩ := nmE_ h
      refine pw_top ev16 ?_
      refine pw_istore [(6, .int v16), (0, .ref (G.1 + 298)), (1, .int y1), (2, .int y2), (3, .int y3), (4, .int y4), (7, .int y7)] 133 dX7_order_131 rfl (Nat.le_of_ble_eq_true rfl) rfl ?_
      obtain ⟨v17, ev17, h⟩ := nmE_ h
      refine pw_iinc 6 rfl (by rw [ev17]; rfl) [(7, .int v17), (6, .int v16), (0, .ref (G.1 + 298)), (1, .int y1), (2, .int y2), (3, .int y3), (4, .int y4)] 136 dX7_order_133 rfl (Nat.le_of_ble_eq_true rfl) rfl ?_
      refine pw_goto 85 dX7_order_136 (by decide) ?_
      refine pw_sub [2, 3, 4, 5, 6, 1, 0] [(0, .ref (G.1 + 298)), (1, .int y1), (2, .int y2), (3, .int y3), (4, .int y4), (6, .int v16), (7, .int v17)] rfl ?_
      exact ih y1 y2 y3 y4 v16 v17 m14 a0 a1 h hk
set_option maxHeartbeats 4000000 in
set_option maxRecDepth 100000 in
theorem kl_X7_order_61 {l : Launch} {G : Gx}  {r : Int32} {mF : Mm}  : ∀ (n : Nat) (y1 : Int32) (y2 : Int32) (y3 : Int32) (y4 : Int32) (y5 : Int32) (m : Mm) (a0 : Int32) (a1 : Int32) (a2 : Mm), lp_X7_order_61 n y1 y2 y3 y4 y5 m = some (a0, a1, a2) → PW G (KM l G RX7 cX7_order 8 (some .int) wsX7_order 5 (Qi G r mF)) 184 [(2, .int y2), (3, .int a0), (4, .int a1)] [] a2 → PW G (KM l G RX7 cX7_order 8 (some .int) wsX7_order 5 (Qi G r mF)) 61 [(0, .ref (G.1 + 298)), (1, .int y1), (2, .int y2), (3, .int y3), (4, .int y4), (5, .int y5)] [] m := by
  intro n
  induction n with
  | zero => intro y1 y2 y3 y4 y5 m a0 a1 a2 h hk; cases h
  | succ n ih =>
    intro y1 y2 y3 y4 y5 m a0 a1 a2 h hk
    have h : lb_X7_order_61 (lp_X7_order_61 n) y1 y2 y3 y4 y5 m = _ := h
    unfold lb_X7_order_61 at h
    refine pw_iload 5 rfl 63 dX7_order_61 rfl ?_
    refine pw_if_eq 184 66 dX7_order_63 (by decide) rfl (fun c10 => ?_) (fun c10 => ?_)
    · have h := if_t h c10
      refine pw_sub [2, 3, 4] [(2, .int y2), (3, .int y3), (4, .int y4)] rfl ?_
      cases h; exact hk
    · have h := if_f h c10
      refine pw_iconst (v := (0 : Int32)) (by decide) 67 dX7_order_66 rfl ?_
      refine pw_istore [(6, .int (0 : Int32)), (0, .ref (G.1 + 298)), (1, .int y1), (2, .int y2), (3, .int y3), (4, .int y4), (5, .int y5)] 69 dX7_order_67 rfl (Nat.le_of_ble_eq_true rfl) rfl ?_
      refine pw_aload_n 1 rfl rfl 70 dX7_order_69 rfl ?_
      refine pw_getR 13 73 dX7_order_70 rfl fi_X7_order_7 lk_X7_order_25 la_298 ly_298 (by decide) rfl (by decide) rfl rf_298_13 ?_
      refine pw_iconst (v := (0 : Int32)) (by decide) 74 dX7_order_73 rfl ?_
      refine pw_aload_n 1 rfl rfl 75 dX7_order_74 rfl ?_
      refine pw_getR 15 78 dX7_order_75 rfl fi_X7_order_7 lk_X7_order_31 la_298 ly_298 (by decide) rfl (by decide) rfl rf_298_15 ?_
      refine pw_iconst (v := (0 : Int32)) (by decide) 79 dX7_order_78 rfl ?_
      obtain ⟨m11, hm11, h⟩ := bd1_e h
      refine pw_callSv 82 dX7_order_79 rfl [.ref (G.1 + 304), .int (0 : Int32), .ref (G.1 + 306), .int (0 : Int32)] 4 ⟨gX7_order_X7_copies, rfl, sgS_X7_copies, ⟨Nat.le_of_ble_eq_true rfl, Nat.le_of_ble_eq_true rfl⟩, ⟨Nat.le_refl _, Nat.le_refl _⟩⟩ (k_X7_copies la_304 ly_304 la_306 ly_306 hm11) rfl rfl (Nat.le_of_ble_eq_true rfl) ?_
      refine pw_iconst (v := (0 : Int32)) (by decide) 83 dX7_order_82 rfl ?_
      refine pw_istore [(7, .int (0 : Int32)), (6, .int (0 : Int32)), (0, .ref (G.1 + 298)), (1, .int y1), (2, .int y2), (3, .int y3), (4, .int y4), (5, .int y5)] 85 dX7_order_83 rfl (Nat.le_of_ble_eq_true rfl) rfl ?_
      obtain ⟨z19, m20, h21, h⟩ := bd2_e h
      have hL85_h21 : PW G (KM l G RX7 cX7_order 8 (some .int) wsX7_order 5 (Qi G r mF)) 139 [(0, .ref (G.1 + 298)), (1, .int y1), (2, .int y2), (3, .int y3), (4, .int y4), (6, .int z19)] [] m20 := by
        refine pw_aload_n 0 rfl rfl 140 dX7_order_139 rfl ?_
        refine pw_iload_n 1 rfl rfl 141 dX7_order_140 rfl ?_
        obtain ⟨m22, hm22, h⟩ := bd1_e h
        refine pw_callVv 144 dX7_order_141 rfl [.int y1] 1 ⟨gX7_order_X7_goesOn, rfl, sgV_X7_goesOn, ⟨Nat.le_of_ble_eq_true rfl, Nat.le_of_ble_eq_true rfl⟩, ⟨Nat.le_refl _, Nat.le_refl _⟩⟩ ly_298 (by decide) la_298 rfl (k_X7_goesOn hm22) rfl rfl (Nat.le_of_ble_eq_true rfl) ?_
        refine pw_aload_n 0 rfl rfl 145 dX7_order_144 rfl ?_
        refine pw_getR 15 148 dX7_order_145 rfl fi_X7_order_7 lk_X7_order_31 la_298 ly_298 (by decide) rfl (by decide) rfl rf_298_15 ?_
        refine pw_iconst (v := (4 : Int32)) (by decide) 149 dX7_order_148 rfl ?_
        refine pw_iald 150 dX7_order_149 rfl la_306 ly_306 (vp_lit rfl rfl) ?_
        refine pw_iload 4 rfl 152 dX7_order_150 rfl ?_
        obtain ⟨j24, ej24, h⟩ := nmE_ h
        have hJ161_j24 : PW G (KM l G RX7 cX7_order 8 (some .int) wsX7_order 5 (Qi G r mF)) 161 [(0, .ref (G.1 + 298)), (1, .int y1), (2, .int y2), (4, .int y4)] [.int j24] m22 := by
          refine pw_istore_n (hf := rfl) [(3, .int j24), (0, .ref (G.1 + 298)), (1, .int y1), (2, .int y2), (4, .int y4)] 162 dX7_order_161 rfl (Nat.le_of_ble_eq_true rfl) rfl ?_
          refine pw_aload_n 1 rfl rfl 163 dX7_order_162 rfl ?_
          refine pw_getR 15 166 dX7_order_163 rfl fi_X7_order_7 lk_X7_order_31 la_298 ly_298 (by decide) rfl (by decide) rfl rf_298_15 ?_
          refine pw_iconst (v := (4 : Int32)) (by decide) 167 dX7_order_166 rfl ?_
          refine pw_iald 168 dX7_order_167 rfl la_306 ly_306 (vp_lit rfl rfl) ?_
          refine pw_iload 4 rfl 170 dX7_order_168 rfl ?_
          refine pw_callSi 173 dX7_order_170 rfl [.int (m22 306 (ix (4 : Int32))), .int y4] 2 ⟨gX7_order_X7_greater, rfl, sgS_X7_greater, ⟨Nat.le_of_ble_eq_true rfl, Nat.le_of_ble_eq_true rfl⟩, ⟨Nat.le_refl _, Nat.le_refl _⟩⟩ (k_X7_greater rfl) rfl rfl (Nat.le_of_ble_eq_true rfl) ?_
          obtain ⟨v25, ev25, h⟩ := nmE_ h
          refine pw_top ev25 ?_
          refine pw_istore [(4, .int v25), (3, .int j24), (0, .ref (G.1 + 298)), (1, .int y1), (2, .int y2)] 175 dX7_order_173 rfl (Nat.le_of_ble_eq_true rfl) rfl ?_
          refine pw_aload_n 2 rfl rfl 176 dX7_order_175 rfl ?_
          obtain ⟨r27, m26, hr27, h⟩ := bd2_e h
          refine pw_callVi 179 dX7_order_176 rfl [] 0 ⟨gX7_order_X7_orders, rfl, sgV_X7_orders, ⟨Nat.le_of_ble_eq_true rfl, Nat.le_of_ble_eq_true rfl⟩, ⟨Nat.le_refl _, Nat.le_refl _⟩⟩ ly_298 (by decide) la_298 rfl (k_X7_orders hr27) rfl rfl (Nat.le_of_ble_eq_true rfl) ?_
          refine pw_istore [(5, .int r27), (4, .int v25), (3, .int j24), (0, .ref (G.1 + 298)), (1, .int y1), (2, .int y2)] 181 dX7_order_179 rfl (Nat.le_of_ble_eq_true rfl) rfl ?_
          refine pw_goto 61 dX7_order_181 (by decide) ?_
          refine pw_sub [3, 4, 5, 2, 1, 0] [(0, .ref (G.1 + 298)), (1, .int y1), (2, .int y2), (3, .int j24), (4, .int v25), (5, .int r27)] rfl ?_
          exact ih y1 y2 j24 v25 r27 m26 a0 a1 a2 h hk
        refine pw_icmp_le 160 155 dX7_order_152 (by decide) rfl (fun c23 => ?_) (fun c23 => ?_)
        · have ej24 := if_tv ej24 c23
          refine pw_iload_n 3 rfl rfl 161 dX7_order_160 rfl ?_
          refine pw_sub [0, 1, 2, 4] [(0, .ref (G.1 + 298)), (1, .int y1), (2, .int y2), (4, .int y4)] rfl ?_
          subst ej24; exact hJ161_j24
        · have ej24 := if_fv ej24 c23
          refine pw_iload 5 rfl 157 dX7_order_155 rfl ?_
          refine pw_goto 161 dX7_order_157 (by decide) ?_
          refine pw_sub [0, 1, 2, 4] [(0, .ref (G.1 + 298)), (1, .int y1), (2, .int y2), (4, .int y4)] rfl ?_
          subst ej24; exact hJ161_j24
      refine pw_sub [2, 3, 4, 5, 6, 1, 0] [(0, .ref (G.1 + 298)), (1, .int y1), (2, .int y2), (3, .int y3), (4, .int y4), (6, .int (0 : Int32)), (7, .int (0 : Int32))] rfl ?_
      exact kl_X7_order_85 FU y1 y2 y3 y4 (0 : Int32) (0 : Int32) m11 z19 m20 h21 hL85_h21
set_option maxHeartbeats 4000000 in
set_option maxRecDepth 100000 in
theorem k_X7_order {l : Launch} {G : Gx} {x1 : Int32} {x2 : Int32} {m mF : Mm} {r : Int32}  (h : f_X7_order x1 x2 m = some (r, mF)) : Cn l G 5 yX7_order wsX7_order [.ref (G.1 + 298), .int x1, .int x2] m (Qi G r mF) := by
  unfold f_X7_order at h
  refine Cn.of (own := RX7) (lv := [(0, .ref (G.1 + 298)), (1, .int x1), (2, .int x2)]) (by decide) rfl rfl (Nat.le_of_ble_eq_true rfl) rfl ?_
  refine pw_aload_n 0 rfl rfl 1 dX7_order_0 rfl ?_
  refine pw_callVi 4 dX7_order_1 rfl [] 0 ⟨gX7_order_X7_isWedding, rfl, sgV_X7_isWedding, ⟨Nat.le_of_ble_eq_true rfl, Nat.le_of_ble_eq_true rfl⟩, ⟨Nat.le_refl _, Nat.le_refl _⟩⟩ ly_298 (by decide) la_298 rfl (k_X7_isWedding rfl) rfl rfl (Nat.le_of_ble_eq_true rfl) ?_
  refine pw_if_ne 10 7 dX7_order_4 (by decide) rfl (fun c1 => ?_) (fun c1 => ?_)
  · have h := if_f h c1
    refine pw_iload_n 1 rfl rfl 11 dX7_order_10 rfl ?_
    refine pw_iconst (v := (1 : Int32)) (by decide) 12 dX7_order_11 rfl ?_
    refine pw_bipush (v := (10 : Int32)) (by decide) 14 dX7_order_12 rfl ?_
    refine pw_callSi 17 dX7_order_14 rfl [.int x1, .int (1 : Int32), .int (10 : Int32)] 3 ⟨gX7_order_X7_in, rfl, sgS_X7_in, ⟨Nat.le_of_ble_eq_true rfl, Nat.le_of_ble_eq_true rfl⟩, ⟨Nat.le_refl _, Nat.le_refl _⟩⟩ (k_X7_in rfl) rfl rfl (Nat.le_of_ble_eq_true rfl) ?_
    refine pw_if_eq 29 20 dX7_order_17 (by decide) rfl (fun c2 => ?_) (fun c2 => ?_)
    · have h := if_t h c2
      refine pw_ldc 31 lw_X7_order_c67 dX7_order_29 rfl ?_
      exact pw_iret dX7_order_31 (pr_inj h)
    · have h := if_f h c2
      refine pw_iload_n 2 rfl rfl 21 dX7_order_20 rfl ?_
      refine pw_iconst (v := (0 : Int32)) (by decide) 22 dX7_order_21 rfl ?_
      refine pw_iconst (v := (1 : Int32)) (by decide) 23 dX7_order_22 rfl ?_
      refine pw_callSi 26 dX7_order_23 rfl [.int x2, .int (0 : Int32), .int (1 : Int32)] 3 ⟨gX7_order_X7_in, rfl, sgS_X7_in, ⟨Nat.le_of_ble_eq_true rfl, Nat.le_of_ble_eq_true rfl⟩, ⟨Nat.le_refl _, Nat.le_refl _⟩⟩ (k_X7_in rfl) rfl rfl (Nat.le_of_ble_eq_true rfl) ?_
      refine pw_if_ne 32 29 dX7_order_26 (by decide) rfl (fun c3 => ?_) (fun c3 => ?_)
      · have h := if_f h c3
        refine pw_iconst (v := (0 : Int32)) (by decide) 33 dX7_order_32 rfl ?_
        refine pw_istore_n (hf := rfl) [(3, .int (0 : Int32)), (0, .ref (G.1 + 298)), (1, .int x1), (2, .int x2)] 34 dX7_order_33 rfl (Nat.le_of_ble_eq_true rfl) rfl ?_
        obtain ⟨m8, h9, h⟩ := bd1_e h
        have hL34_h9 : PW G (KM l G RX7 cX7_order 8 (some .int) wsX7_order 5 (Qi G r mF)) 53 [(0, .ref (G.1 + 298)), (1, .int x1), (2, .int x2)] [] m8 := by
          refine pw_iconst (v := (0 : Int32)) (by decide) 54 dX7_order_53 rfl ?_
          refine pw_istore_n (hf := rfl) [(3, .int (0 : Int32)), (0, .ref (G.1 + 298)), (1, .int x1), (2, .int x2)] 55 dX7_order_54 rfl (Nat.le_of_ble_eq_true rfl) rfl ?_
          refine pw_iconst (v := (-1 : Int32)) (by decide) 56 dX7_order_55 rfl ?_
          refine pw_istore [(4, .int (-1 : Int32)), (3, .int (0 : Int32)), (0, .ref (G.1 + 298)), (1, .int x1), (2, .int x2)] 58 dX7_order_56 rfl (Nat.le_of_ble_eq_true rfl) rfl ?_
          refine pw_iconst (v := (1 : Int32)) (by decide) 59 dX7_order_58 rfl ?_
          refine pw_istore [(5, .int (1 : Int32)), (4, .int (-1 : Int32)), (3, .int (0 : Int32)), (0, .ref (G.1 + 298)), (1, .int x1), (2, .int x2)] 61 dX7_order_59 rfl (Nat.le_of_ble_eq_true rfl) rfl ?_
          obtain ⟨z28, z29, m30, h31, h⟩ := bd3_e h
          have hL61_h31 : PW G (KM l G RX7 cX7_order 8 (some .int) wsX7_order 5 (Qi G r mF)) 184 [(2, .int x2), (3, .int z28), (4, .int z29)] [] m30 := by
            refine pw_iload_n 0 rfl rfl 185 dX7_order_184 rfl ?_
            refine pw_if_ne 192 188 dX7_order_185 (by decide) rfl (fun c32 => ?_) (fun c32 => ?_)
            · have h := if_f h c32
              refine pw_iload 2 rfl 194 dX7_order_192 rfl ?_
              exact pw_iret dX7_order_194 (pr_inj h)
            · have h := if_t h c32
              refine pw_iload_n 1 rfl rfl 189 dX7_order_188 rfl ?_
              refine pw_goto 194 dX7_order_189 (by decide) ?_
              exact pw_iret dX7_order_194 (pr_inj h)
          refine pw_sub [3, 4, 5, 2, 1, 0] [(0, .ref (G.1 + 298)), (1, .int x1), (2, .int x2), (3, .int (0 : Int32)), (4, .int (-1 : Int32)), (5, .int (1 : Int32))] rfl ?_
          exact kl_X7_order_61 FU x1 x2 (0 : Int32) (-1 : Int32) (1 : Int32) m8 z28 z29 m30 h31 hL61_h31
        refine pw_sub [1, 2, 3, 0] [(0, .ref (G.1 + 298)), (1, .int x1), (2, .int x2), (3, .int (0 : Int32))] rfl ?_
        exact kl_X7_order_34 FU x1 x2 (0 : Int32) m m8 h9 hL34_h9
      · have h := if_t h c3
        refine pw_ldc 31 lw_X7_order_c67 dX7_order_29 rfl ?_
        exact pw_iret dX7_order_31 (pr_inj h)
  · have h := if_t h c1
    refine pw_ldc 9 lw_X7_order_c169 dX7_order_7 rfl ?_
    exact pw_iret dX7_order_9 (pr_inj h)
theorem lw_X7_change_c67 : Cond.constant RX7 67 (-1000001 : Int32) ∈ wsX7_change := by decide +kernel
theorem lw_X7_change_c53 : Cond.constant RX7 53 (-1000000 : Int32) ∈ wsX7_change := by decide +kernel
theorem fi_X7_change_7 : ∀ w ∈ wsX70, w ∈ wsX7_change := by decide +kernel
theorem lk_X7_change_25 : Cond.fieldLink RX7 25 (TX7 13).1 (TX7 13).2.1 (TX7 13).2.2.1 ∈ wsX7_change := by decide +kernel
theorem lk_X7_change_31 : Cond.fieldLink RX7 31 (TX7 15).1 (TX7 15).2.1 (TX7 15).2.2.1 ∈ wsX7_change := by decide +kernel
theorem lw_X7_change_c169 : Cond.constant RX7 169 (-1000002 : Int32) ∈ wsX7_change := by decide +kernel
set_option maxHeartbeats 4000000 in
set_option maxRecDepth 100000 in
theorem kl_X7_change_59 {l : Launch} {G : Gx}  {r : Int32} {mF : Mm}  : ∀ (n : Nat) (y1 : Int32) (y2 : Int32) (y3 : Int32) (y4 : Int32) (y5 : Int32) (y6 : Int32) (m : Mm) (a0 : Int32) (a1 : Int32) (a2 : Mm), lp_X7_change_59 n y1 y2 y3 y4 y5 y6 m = some (a0, a1, a2) → PW G (KM l G RX7 cX7_change 7 (some .int) wsX7_change 5 (Qi G r mF)) 142 [(0, .ref (G.1 + 298)), (1, .int y1), (2, .int y2), (3, .int a0), (4, .int a1), (5, .int y5)] [] a2 → PW G (KM l G RX7 cX7_change 7 (some .int) wsX7_change 5 (Qi G r mF)) 59 [(0, .ref (G.1 + 298)), (1, .int y1), (2, .int y2), (3, .int y3), (4, .int y4), (5, .int y5), (6, .int y6)] [] m := by
  intro n
  induction n with
  | zero => intro y1 y2 y3 y4 y5 y6 m a0 a1 a2 h hk; cases h
  | succ n ih =>
    intro y1 y2 y3 y4 y5 y6 m a0 a1 a2 h hk
    have h : lb_X7_change_59 (lp_X7_change_59 n) y1 y2 y3 y4 y5 y6 m = _ := h
    unfold lb_X7_change_59 at h
    refine pw_iload 6 rfl 61 dX7_change_59 rfl ?_
    refine pw_aload_n 0 rfl rfl 62 dX7_change_61 rfl ?_
    refine pw_getR 13 65 dX7_change_62 rfl fi_X7_change_7 lk_X7_change_25 la_298 ly_298 (by decide) rfl (by decide) rfl rf_298_13 ?_
    refine pw_iconst (v := (2 : Int32)) (by decide) 66 dX7_change_65 rfl ?_
    refine pw_iald 67 dX7_change_66 rfl la_304 ly_304 (vp_lit rfl rfl) ?_
    refine pw_icmp_ge 142 70 dX7_change_67 (by decide) rfl (fun c6 => ?_) (fun c6 => ?_)
    · have h := if_t h c6
      refine pw_sub [0, 1, 2, 3, 4, 5] [(0, .ref (G.1 + 298)), (1, .int y1), (2, .int y2), (3, .int y3), (4, .int y4), (5, .int y5)] rfl ?_
      cases h; exact hk
    · have h := if_f h c6
      refine pw_aload_n 0 rfl rfl 71 dX7_change_70 rfl ?_
      refine pw_getR 13 74 dX7_change_71 rfl fi_X7_change_7 lk_X7_change_25 la_298 ly_298 (by decide) rfl (by decide) rfl rf_298_13 ?_
      refine pw_iconst (v := (0 : Int32)) (by decide) 75 dX7_change_74 rfl ?_
      refine pw_aload_n 0 rfl rfl 76 dX7_change_75 rfl ?_
      refine pw_getR 15 79 dX7_change_76 rfl fi_X7_change_7 lk_X7_change_31 la_298 ly_298 (by decide) rfl (by decide) rfl rf_298_15 ?_
      refine pw_iconst (v := (0 : Int32)) (by decide) 80 dX7_change_79 rfl ?_
      obtain ⟨m7, hm7, h⟩ := bd1_e h
      refine pw_callSv 83 dX7_change_80 rfl [.ref (G.1 + 304), .int (0 : Int32), .ref (G.1 + 306), .int (0 : Int32)] 4 ⟨gX7_change_X7_copies, rfl, sgS_X7_copies, ⟨Nat.le_of_ble_eq_true rfl, Nat.le_of_ble_eq_true rfl⟩, ⟨Nat.le_refl _, Nat.le_refl _⟩⟩ (k_X7_copies la_304 ly_304 la_306 ly_306 hm7) rfl rfl (Nat.le_of_ble_eq_true rfl) ?_
      refine pw_aload_n 0 rfl rfl 84 dX7_change_83 rfl ?_
      refine pw_getR 15 87 dX7_change_84 rfl fi_X7_change_7 lk_X7_change_31 la_298 ly_298 (by decide) rfl (by decide) rfl rf_298_15 ?_
      refine pw_iload 5 rfl 89 dX7_change_87 rfl ?_
      refine pw_iload 6 rfl 91 dX7_change_89 rfl ?_
      obtain ⟨m8, hm8, h⟩ := bd1_e h
      refine pw_callSv 94 dX7_change_91 rfl [.ref (G.1 + 306), .int y5, .int y6] 3 ⟨gX7_change_X7_changes, rfl, sgS_X7_changes, ⟨Nat.le_of_ble_eq_true rfl, Nat.le_of_ble_eq_true rfl⟩, ⟨Nat.le_refl _, Nat.le_refl _⟩⟩ (k_X7_changes la_306 ly_306 hm8) rfl rfl (Nat.le_of_ble_eq_true rfl) ?_
      refine pw_aload_n 0 rfl rfl 95 dX7_change_94 rfl ?_
      refine pw_iload_n 1 rfl rfl 96 dX7_change_95 rfl ?_
      obtain ⟨m9, hm9, h⟩ := bd1_e h
      refine pw_callVv 99 dX7_change_96 rfl [.int y1] 1 ⟨gX7_change_X7_goesOn, rfl, sgV_X7_goesOn, ⟨Nat.le_of_ble_eq_true rfl, Nat.le_of_ble_eq_true rfl⟩, ⟨Nat.le_refl _, Nat.le_refl _⟩⟩ ly_298 (by decide) la_298 rfl (k_X7_goesOn hm9) rfl rfl (Nat.le_of_ble_eq_true rfl) ?_
      refine pw_aload_n 0 rfl rfl 100 dX7_change_99 rfl ?_
      refine pw_getR 15 103 dX7_change_100 rfl fi_X7_change_7 lk_X7_change_31 la_298 ly_298 (by decide) rfl (by decide) rfl rf_298_15 ?_
      refine pw_iconst (v := (4 : Int32)) (by decide) 104 dX7_change_103 rfl ?_
      refine pw_iald 105 dX7_change_104 rfl la_306 ly_306 (vp_lit rfl rfl) ?_
      refine pw_iload 4 rfl 107 dX7_change_105 rfl ?_
      obtain ⟨j11, ej11, h⟩ := nmE_ h
      have hJ122_j11 : PW G (KM l G RX7 cX7_change 7 (some .int) wsX7_change 5 (Qi G r mF)) 122 [(0, .ref (G.1 + 298)), (1, .int y1), (2, .int y2), (4, .int y4), (5, .int y5), (6, .int y6)] [.int j11] m9 := by
        refine pw_istore_n (hf := rfl) [(3, .int j11), (0, .ref (G.1 + 298)), (1, .int y1), (2, .int y2), (4, .int y4), (5, .int y5), (6, .int y6)] 123 dX7_change_122 rfl (Nat.le_of_ble_eq_true rfl) rfl ?_
        refine pw_aload_n 1 rfl rfl 124 dX7_change_123 rfl ?_
        refine pw_getR 15 127 dX7_change_124 rfl fi_X7_change_7 lk_X7_change_31 la_298 ly_298 (by decide) rfl (by decide) rfl rf_298_15 ?_
        refine pw_iconst (v := (4 : Int32)) (by decide) 128 dX7_change_127 rfl ?_
        refine pw_iald 129 dX7_change_128 rfl la_306 ly_306 (vp_lit rfl rfl) ?_
        refine pw_iload 4 rfl 131 dX7_change_129 rfl ?_
        refine pw_callSi 134 dX7_change_131 rfl [.int (m9 306 (ix (4 : Int32))), .int y4] 2 ⟨gX7_change_X7_greater, rfl, sgS_X7_greater, ⟨Nat.le_of_ble_eq_true rfl, Nat.le_of_ble_eq_true rfl⟩, ⟨Nat.le_refl _, Nat.le_refl _⟩⟩ (k_X7_greater rfl) rfl rfl (Nat.le_of_ble_eq_true rfl) ?_
        obtain ⟨v12, ev12, h⟩ := nmE_ h
        refine pw_top ev12 ?_
        refine pw_istore [(4, .int v12), (3, .int j11), (0, .ref (G.1 + 298)), (1, .int y1), (2, .int y2), (5, .int y5), (6, .int y6)] 136 dX7_change_134 rfl (Nat.le_of_ble_eq_true rfl) rfl ?_
        obtain ⟨v13, ev13, h⟩ := nmE_ h
        refine pw_iinc 6 rfl (by rw [ev13]; rfl) [(6, .int v13), (4, .int v12), (3, .int j11), (0, .ref (G.1 + 298)), (1, .int y1), (2, .int y2), (5, .int y5)] 139 dX7_change_136 rfl (Nat.le_of_ble_eq_true rfl) rfl ?_
        refine pw_goto 59 dX7_change_139 (by decide) ?_
        refine pw_sub [3, 4, 5, 2, 1, 6, 0] [(0, .ref (G.1 + 298)), (1, .int y1), (2, .int y2), (3, .int j11), (4, .int v12), (5, .int y5), (6, .int v13)] rfl ?_
        exact ih y1 y2 j11 v12 y5 v13 m9 a0 a1 a2 h hk
      refine pw_icmp_le 121 110 dX7_change_107 (by decide) rfl (fun c10 => ?_) (fun c10 => ?_)
      · have ej11 := if_tv ej11 c10
        refine pw_iload_n 3 rfl rfl 122 dX7_change_121 rfl ?_
        refine pw_sub [0, 1, 2, 4, 5, 6] [(0, .ref (G.1 + 298)), (1, .int y1), (2, .int y2), (4, .int y4), (5, .int y5), (6, .int y6)] rfl ?_
        subst ej11; exact hJ122_j11
      · have ej11 := if_fv ej11 c10
        refine pw_bipush (v := (10 : Int32)) (by decide) 112 dX7_change_110 rfl ?_
        refine pw_iload 5 rfl 114 dX7_change_112 rfl ?_
        refine pw_imul 115 dX7_change_114 rfl ?_
        refine pw_iload 6 rfl 117 dX7_change_115 rfl ?_
        refine pw_iadd 118 dX7_change_117 rfl ?_
        refine pw_goto 122 dX7_change_118 (by decide) ?_
        refine pw_sub [0, 1, 2, 4, 5, 6] [(0, .ref (G.1 + 298)), (1, .int y1), (2, .int y2), (4, .int y4), (5, .int y5), (6, .int y6)] rfl ?_
        subst ej11; exact hJ122_j11
set_option maxHeartbeats 4000000 in
set_option maxRecDepth 100000 in
theorem kl_X7_change_42 {l : Launch} {G : Gx}  {r : Int32} {mF : Mm}  : ∀ (n : Nat) (y1 : Int32) (y2 : Int32) (y3 : Int32) (y4 : Int32) (y5 : Int32) (m : Mm) (a0 : Int32) (a1 : Int32) (a2 : Mm), lp_X7_change_42 n y1 y2 y3 y4 y5 m = some (a0, a1, a2) → PW G (KM l G RX7 cX7_change 7 (some .int) wsX7_change 5 (Qi G r mF)) 148 [(2, .int y2), (3, .int a0), (4, .int a1)] [] a2 → PW G (KM l G RX7 cX7_change 7 (some .int) wsX7_change 5 (Qi G r mF)) 42 [(0, .ref (G.1 + 298)), (1, .int y1), (2, .int y2), (3, .int y3), (4, .int y4), (5, .int y5)] [] m := by
  intro n
  induction n with
  | zero => intro y1 y2 y3 y4 y5 m a0 a1 a2 h hk; cases h
  | succ n ih =>
    intro y1 y2 y3 y4 y5 m a0 a1 a2 h hk
    have h : lb_X7_change_42 (lp_X7_change_42 n) y1 y2 y3 y4 y5 m = _ := h
    unfold lb_X7_change_42 at h
    refine pw_iload 5 rfl 44 dX7_change_42 rfl ?_
    refine pw_aload_n 0 rfl rfl 45 dX7_change_44 rfl ?_
    refine pw_getR 13 48 dX7_change_45 rfl fi_X7_change_7 lk_X7_change_25 la_298 ly_298 (by decide) rfl (by decide) rfl rf_298_13 ?_
    refine pw_iconst (v := (2 : Int32)) (by decide) 49 dX7_change_48 rfl ?_
    refine pw_iald 50 dX7_change_49 rfl la_304 ly_304 (vp_lit rfl rfl) ?_
    refine pw_icmp_ge 148 53 dX7_change_50 (by decide) rfl (fun c4 => ?_) (fun c4 => ?_)
    · have h := if_t h c4
      refine pw_sub [2, 3, 4] [(2, .int y2), (3, .int y3), (4, .int y4)] rfl ?_
      cases h; exact hk
    · have h := if_f h c4
      refine pw_iload 5 rfl 55 dX7_change_53 rfl ?_
      refine pw_iconst (v := (1 : Int32)) (by decide) 56 dX7_change_55 rfl ?_
      refine pw_iadd 57 dX7_change_56 rfl ?_
      obtain ⟨v5, ev5, h⟩ := nmE_ h
      refine pw_top ev5 ?_
      refine pw_istore [(6, .int v5), (0, .ref (G.1 + 298)), (1, .int y1), (2, .int y2), (3, .int y3), (4, .int y4), (5, .int y5)] 59 dX7_change_57 rfl (Nat.le_of_ble_eq_true rfl) rfl ?_
      obtain ⟨z14, z15, m16, h17, h⟩ := bd3_e h
      have hL59_h17 : PW G (KM l G RX7 cX7_change 7 (some .int) wsX7_change 5 (Qi G r mF)) 142 [(0, .ref (G.1 + 298)), (1, .int y1), (2, .int y2), (3, .int z14), (4, .int z15), (5, .int y5)] [] m16 := by
        obtain ⟨v18, ev18, h⟩ := nmE_ h
        refine pw_iinc 5 rfl (by rw [ev18]; rfl) [(5, .int v18), (0, .ref (G.1 + 298)), (1, .int y1), (2, .int y2), (3, .int z14), (4, .int z15)] 145 dX7_change_142 rfl (Nat.le_of_ble_eq_true rfl) rfl ?_
        refine pw_goto 42 dX7_change_145 (by decide) ?_
        refine pw_sub [1, 2, 3, 4, 5, 0] [(0, .ref (G.1 + 298)), (1, .int y1), (2, .int y2), (3, .int z14), (4, .int z15), (5, .int v18)] rfl ?_
        exact ih y1 y2 z14 z15 v18 m16 a0 a1 a2 h hk
      refine pw_sub [1, 2, 3, 4, 5, 6, 0] [(0, .ref (G.1 + 298)), (1, .int y1), (2, .int y2), (3, .int y3), (4, .int y4), (5, .int y5), (6, .int v5)] rfl ?_
      exact kl_X7_change_59 FU y1 y2 y3 y4 y5 v5 m z14 z15 m16 h17 hL59_h17
set_option maxHeartbeats 4000000 in
set_option maxRecDepth 100000 in
theorem k_X7_change {l : Launch} {G : Gx} {x1 : Int32} {x2 : Int32} {m mF : Mm} {r : Int32}  (h : f_X7_change x1 x2 m = some (r, mF)) : Cn l G 5 yX7_change wsX7_change [.ref (G.1 + 298), .int x1, .int x2] m (Qi G r mF) := by
  unfold f_X7_change at h
  refine Cn.of (own := RX7) (lv := [(0, .ref (G.1 + 298)), (1, .int x1), (2, .int x2)]) (by decide) rfl rfl (Nat.le_of_ble_eq_true rfl) rfl ?_
  refine pw_aload_n 0 rfl rfl 1 dX7_change_0 rfl ?_
  refine pw_callVi 4 dX7_change_1 rfl [] 0 ⟨gX7_change_X7_isWedding, rfl, sgV_X7_isWedding, ⟨Nat.le_of_ble_eq_true rfl, Nat.le_of_ble_eq_true rfl⟩, ⟨Nat.le_refl _, Nat.le_refl _⟩⟩ ly_298 (by decide) la_298 rfl (k_X7_isWedding rfl) rfl rfl (Nat.le_of_ble_eq_true rfl) ?_
  refine pw_if_ne 10 7 dX7_change_4 (by decide) rfl (fun c1 => ?_) (fun c1 => ?_)
  · have h := if_f h c1
    refine pw_iload_n 1 rfl rfl 11 dX7_change_10 rfl ?_
    refine pw_iconst (v := (1 : Int32)) (by decide) 12 dX7_change_11 rfl ?_
    refine pw_bipush (v := (30 : Int32)) (by decide) 14 dX7_change_12 rfl ?_
    refine pw_callSi 17 dX7_change_14 rfl [.int x1, .int (1 : Int32), .int (30 : Int32)] 3 ⟨gX7_change_X7_in, rfl, sgS_X7_in, ⟨Nat.le_of_ble_eq_true rfl, Nat.le_of_ble_eq_true rfl⟩, ⟨Nat.le_refl _, Nat.le_refl _⟩⟩ (k_X7_in rfl) rfl rfl (Nat.le_of_ble_eq_true rfl) ?_
    refine pw_if_eq 29 20 dX7_change_17 (by decide) rfl (fun c2 => ?_) (fun c2 => ?_)
    · have h := if_t h c2
      refine pw_ldc 31 lw_X7_change_c67 dX7_change_29 rfl ?_
      exact pw_iret dX7_change_31 (pr_inj h)
    · have h := if_f h c2
      refine pw_iload_n 2 rfl rfl 21 dX7_change_20 rfl ?_
      refine pw_iconst (v := (0 : Int32)) (by decide) 22 dX7_change_21 rfl ?_
      refine pw_iconst (v := (1 : Int32)) (by decide) 23 dX7_change_22 rfl ?_
      refine pw_callSi 26 dX7_change_23 rfl [.int x2, .int (0 : Int32), .int (1 : Int32)] 3 ⟨gX7_change_X7_in, rfl, sgS_X7_in, ⟨Nat.le_of_ble_eq_true rfl, Nat.le_of_ble_eq_true rfl⟩, ⟨Nat.le_refl _, Nat.le_refl _⟩⟩ (k_X7_in rfl) rfl rfl (Nat.le_of_ble_eq_true rfl) ?_
      refine pw_if_ne 32 29 dX7_change_26 (by decide) rfl (fun c3 => ?_) (fun c3 => ?_)
      · have h := if_f h c3
        refine pw_ldc 34 lw_X7_change_c53 dX7_change_32 rfl ?_
        refine pw_istore_n (hf := rfl) [(3, .int (-1000000 : Int32)), (0, .ref (G.1 + 298)), (1, .int x1), (2, .int x2)] 35 dX7_change_34 rfl (Nat.le_of_ble_eq_true rfl) rfl ?_
        refine pw_ldc 37 lw_X7_change_c53 dX7_change_35 rfl ?_
        refine pw_istore [(4, .int (-1000000 : Int32)), (3, .int (-1000000 : Int32)), (0, .ref (G.1 + 298)), (1, .int x1), (2, .int x2)] 39 dX7_change_37 rfl (Nat.le_of_ble_eq_true rfl) rfl ?_
        refine pw_iconst (v := (0 : Int32)) (by decide) 40 dX7_change_39 rfl ?_
        refine pw_istore [(5, .int (0 : Int32)), (4, .int (-1000000 : Int32)), (3, .int (-1000000 : Int32)), (0, .ref (G.1 + 298)), (1, .int x1), (2, .int x2)] 42 dX7_change_40 rfl (Nat.le_of_ble_eq_true rfl) rfl ?_
        obtain ⟨z19, z20, m21, h22, h⟩ := bd3_e h
        have hL42_h22 : PW G (KM l G RX7 cX7_change 7 (some .int) wsX7_change 5 (Qi G r mF)) 148 [(2, .int x2), (3, .int z19), (4, .int z20)] [] m21 := by
          refine pw_iload_n 0 rfl rfl 149 dX7_change_148 rfl ?_
          refine pw_if_ne 156 152 dX7_change_149 (by decide) rfl (fun c23 => ?_) (fun c23 => ?_)
          · have h := if_f h c23
            refine pw_iload 2 rfl 158 dX7_change_156 rfl ?_
            exact pw_iret dX7_change_158 (pr_inj h)
          · have h := if_t h c23
            refine pw_iload_n 1 rfl rfl 153 dX7_change_152 rfl ?_
            refine pw_goto 158 dX7_change_153 (by decide) ?_
            exact pw_iret dX7_change_158 (pr_inj h)
        refine pw_sub [3, 4, 5, 2, 1, 0] [(0, .ref (G.1 + 298)), (1, .int x1), (2, .int x2), (3, .int (-1000000 : Int32)), (4, .int (-1000000 : Int32)), (5, .int (0 : Int32))] rfl ?_
        exact kl_X7_change_42 FU x1 x2 (-1000000 : Int32) (-1000000 : Int32) (0 : Int32) m z19 z20 m21 h22 hL42_h22
      · have h := if_t h c3
        refine pw_ldc 31 lw_X7_change_c67 dX7_change_29 rfl ?_
        exact pw_iret dX7_change_31 (pr_inj h)
  · have h := if_t h c1
    refine pw_ldc 9 lw_X7_change_c169 dX7_change_7 rfl ?_
    exact pw_iret dX7_change_9 (pr_inj h)
theorem fi_X7_shedsSo_7 : ∀ w ∈ wsX70, w ∈ wsX7_shedsSo := by decide +kernel
theorem lk_X7_shedsSo_25 : Cond.fieldLink RX7 25 (TX7 13).1 (TX7 13).2.1 (TX7 13).2.2.1 ∈ wsX7_shedsSo := by decide +kernel
theorem lk_X7_shedsSo_31 : Cond.fieldLink RX7 31 (TX7 15).1 (TX7 15).2.1 (TX7 15).2.2.1 ∈ wsX7_shedsSo := by decide +kernel
theorem lk_X7_shedsSo_16 : Cond.fieldLink RX7 16 (TX7 2).1 (TX7 2).2.1 (TX7 2).2.2.1 ∈ wsX7_shedsSo := by decide +kernel
set_option maxHeartbeats 4000000 in
set_option maxRecDepth 100000 in
theorem kl_X7_shedsSo_28 {l : Launch} {G : Gx}  {r : Int32} {mF : Mm}  : ∀ (n : Nat) (y1 : Int32) (y2 : Int32) (y3 : Int32) (y6 : Int32) (y7 : Int32) (m : Mm) (a0 : Int32) (a1 : Mm), lp_X7_shedsSo_28 n y1 y2 y3 y6 y7 m = some (a0, a1) → PW G (KM l G RX7 cX7_shedsSo 8 (some .boolean) wsX7_shedsSo 4 (Qi G r mF)) 87 [(6, .int a0)] [] a1 → PW G (KM l G RX7 cX7_shedsSo 8 (some .boolean) wsX7_shedsSo 4 (Qi G r mF)) 28 [(0, .ref (G.1 + 298)), (1, .int y1), (2, .int y2), (3, .int y3), (6, .int y6), (7, .int y7)] [] m := by
  intro n
  induction n with
  | zero => intro y1 y2 y3 y6 y7 m a0 a1 h hk; cases h
  | succ n ih =>
    intro y1 y2 y3 y6 y7 m a0 a1 h hk
    have h : lb_X7_shedsSo_28 (lp_X7_shedsSo_28 n) y1 y2 y3 y6 y7 m = _ := h
    unfold lb_X7_shedsSo_28 at h
    refine pw_iload 5 rfl 30 dX7_shedsSo_28 rfl ?_
    refine pw_iload_n 3 rfl rfl 31 dX7_shedsSo_30 rfl ?_
    refine pw_icmp_ge 87 34 dX7_shedsSo_31 (by decide) rfl (fun c3 => ?_) (fun c3 => ?_)
    · have h := if_t h c3
      refine pw_sub [4] [(6, .int y6)] rfl ?_
      cases h; exact hk
    · have h := if_f h c3
      refine pw_aload_n 0 rfl rfl 35 dX7_shedsSo_34 rfl ?_
      refine pw_aload_n 0 rfl rfl 36 dX7_shedsSo_35 rfl ?_
      refine pw_getR 15 39 dX7_shedsSo_36 rfl fi_X7_shedsSo_7 lk_X7_shedsSo_31 la_298 ly_298 (by decide) rfl (by decide) rfl rf_298_15 ?_
      obtain ⟨m4, hm4, h⟩ := bd1_e h
      refine pw_callVv 42 dX7_shedsSo_39 rfl [.ref (G.1 + 306)] 1 ⟨gX7_shedsSo_X7_passes, rfl, sgV_X7_passes, ⟨Nat.le_of_ble_eq_true rfl, Nat.le_of_ble_eq_true rfl⟩, ⟨Nat.le_refl _, Nat.le_refl _⟩⟩ ly_298 (by decide) la_298 rfl (k_X7_passes la_306 ly_306 hm4) rfl rfl (Nat.le_of_ble_eq_true rfl) ?_
      refine pw_iload 4 rfl 44 dX7_shedsSo_42 rfl ?_
      obtain ⟨j9, qj9, h⟩ := bd1_e h
      have hJ79_j9 : PW G (KM l G RX7 cX7_shedsSo 8 (some .boolean) wsX7_shedsSo 4 (Qi G r mF)) 79 [(0, .ref (G.1 + 298)), (1, .int y1), (2, .int y2), (3, .int y3), (7, .int y7)] [.int j9] m4 := by
        refine pw_istore [(6, .int j9), (0, .ref (G.1 + 298)), (1, .int y1), (2, .int y2), (3, .int y3), (7, .int y7)] 81 dX7_shedsSo_79 rfl (Nat.le_of_ble_eq_true rfl) rfl ?_
        obtain ⟨v10, ev10, h⟩ := nmE_ h
        refine pw_iinc 5 rfl (by rw [ev10]; rfl) [(7, .int v10), (6, .int j9), (0, .ref (G.1 + 298)), (1, .int y1), (2, .int y2), (3, .int y3)] 84 dX7_shedsSo_81 rfl (Nat.le_of_ble_eq_true rfl) rfl ?_
        refine pw_goto 28 dX7_shedsSo_84 (by decide) ?_
        refine pw_sub [2, 3, 4, 5, 1, 0] [(0, .ref (G.1 + 298)), (1, .int y1), (2, .int y2), (3, .int y3), (6, .int j9), (7, .int v10)] rfl ?_
        exact ih y1 y2 y3 j9 v10 m4 a0 a1 h hk
      refine pw_if_eq 78 47 dX7_shedsSo_44 (by decide) rfl (fun c5 => ?_) (fun c5 => ?_)
      · have qj9 := if_t qj9 c5
        refine pw_iconst (v := (0 : Int32)) (by decide) 79 dX7_shedsSo_78 rfl ?_
        refine pw_sub [0, 1, 2, 3, 5] [(0, .ref (G.1 + 298)), (1, .int y1), (2, .int y2), (3, .int y3), (7, .int y7)] rfl ?_
        cases qj9; exact hJ79_j9
      · have qj9 := if_f qj9 c5
        refine pw_aload_n 0 rfl rfl 48 dX7_shedsSo_47 rfl ?_
        refine pw_getR 15 51 dX7_shedsSo_48 rfl fi_X7_shedsSo_7 lk_X7_shedsSo_31 la_298 ly_298 (by decide) rfl (by decide) rfl rf_298_15 ?_
        refine pw_bipush (v := (6 : Int32)) (by decide) 53 dX7_shedsSo_51 rfl ?_
        refine pw_bipush (v := (7 : Int32)) (by decide) 55 dX7_shedsSo_53 rfl ?_
        refine pw_iload_n 1 rfl rfl 56 dX7_shedsSo_55 rfl ?_
        refine pw_imul 57 dX7_shedsSo_56 rfl ?_
        refine pw_iadd 58 dX7_shedsSo_57 rfl ?_
        refine pw_bipush (v := (6 : Int32)) (by decide) 60 dX7_shedsSo_58 rfl ?_
        refine pw_iadd 61 dX7_shedsSo_60 rfl ?_
        obtain ⟨h6, qj9⟩ := gd_e qj9
        refine pw_iald 62 dX7_shedsSo_61 rfl la_306 ly_306 h6 ?_
        refine pw_aload_n 0 rfl rfl 63 dX7_shedsSo_62 rfl ?_
        refine pw_getR 2 66 dX7_shedsSo_63 rfl fi_X7_shedsSo_7 lk_X7_shedsSo_16 la_298 ly_298 (by decide) rfl (by decide) rfl rf_298_2 ?_
        refine pw_iload_n 2 rfl rfl 67 dX7_shedsSo_66 rfl ?_
        refine pw_iload 5 rfl 69 dX7_shedsSo_67 rfl ?_
        refine pw_iadd 70 dX7_shedsSo_69 rfl ?_
        obtain ⟨h7, qj9⟩ := gd_e qj9
        refine pw_iald 71 dX7_shedsSo_70 rfl la_301 ly_301 h7 ?_
        refine pw_icmp_ne 78 74 dX7_shedsSo_71 (by decide) rfl (fun c8 => ?_) (fun c8 => ?_)
        · have qj9 := if_f qj9 c8
          refine pw_iconst (v := (0 : Int32)) (by decide) 79 dX7_shedsSo_78 rfl ?_
          refine pw_sub [0, 1, 2, 3, 5] [(0, .ref (G.1 + 298)), (1, .int y1), (2, .int y2), (3, .int y3), (7, .int y7)] rfl ?_
          cases qj9; exact hJ79_j9
        · have qj9 := if_t qj9 c8
          refine pw_iconst (v := (1 : Int32)) (by decide) 75 dX7_shedsSo_74 rfl ?_
          refine pw_goto 79 dX7_shedsSo_75 (by decide) ?_
          refine pw_sub [0, 1, 2, 3, 5] [(0, .ref (G.1 + 298)), (1, .int y1), (2, .int y2), (3, .int y3), (7, .int y7)] rfl ?_
          cases qj9; exact hJ79_j9
set_option maxHeartbeats 4000000 in
set_option maxRecDepth 100000 in
theorem k_X7_shedsSo {l : Launch} {G : Gx} {x1 : Int32} {x2 : Int32} {x3 : Int32} {x4 : Int32} {x5 : Int32} {m mF : Mm} {r : Int32}  (h : f_X7_shedsSo x1 x2 x3 x4 x5 m = some (r, mF)) : Cn l G 4 yX7_shedsSo wsX7_shedsSo [.ref (G.1 + 298), .int x1, .int x2, .int x3, .int x4, .int x5] m (Qi G r mF) := by
  unfold f_X7_shedsSo at h
  refine Cn.of (own := RX7) (lv := [(0, .ref (G.1 + 298)), (1, .int x1), (2, .int x2), (3, .int x3), (4, .int x4), (5, .int x5)]) (by decide) rfl rfl (Nat.le_of_ble_eq_true rfl) rfl ?_
  refine pw_aload_n 0 rfl rfl 1 dX7_shedsSo_0 rfl ?_
  refine pw_getR 13 4 dX7_shedsSo_1 rfl fi_X7_shedsSo_7 lk_X7_shedsSo_25 la_298 ly_298 (by decide) rfl (by decide) rfl rf_298_13 ?_
  refine pw_iconst (v := (0 : Int32)) (by decide) 5 dX7_shedsSo_4 rfl ?_
  refine pw_aload_n 0 rfl rfl 6 dX7_shedsSo_5 rfl ?_
  refine pw_getR 15 9 dX7_shedsSo_6 rfl fi_X7_shedsSo_7 lk_X7_shedsSo_31 la_298 ly_298 (by decide) rfl (by decide) rfl rf_298_15 ?_
  refine pw_iconst (v := (0 : Int32)) (by decide) 10 dX7_shedsSo_9 rfl ?_
  obtain ⟨m1, hm1, h⟩ := bd1_e h
  refine pw_callSv 13 dX7_shedsSo_10 rfl [.ref (G.1 + 304), .int (0 : Int32), .ref (G.1 + 306), .int (0 : Int32)] 4 ⟨gX7_shedsSo_X7_copies, rfl, sgS_X7_copies, ⟨Nat.le_of_ble_eq_true rfl, Nat.le_of_ble_eq_true rfl⟩, ⟨Nat.le_refl _, Nat.le_refl _⟩⟩ (k_X7_copies la_304 ly_304 la_306 ly_306 hm1) rfl rfl (Nat.le_of_ble_eq_true rfl) ?_
  refine pw_aload_n 0 rfl rfl 14 dX7_shedsSo_13 rfl ?_
  refine pw_getR 15 17 dX7_shedsSo_14 rfl fi_X7_shedsSo_7 lk_X7_shedsSo_31 la_298 ly_298 (by decide) rfl (by decide) rfl rf_298_15 ?_
  refine pw_iload 4 rfl 19 dX7_shedsSo_17 rfl ?_
  refine pw_iload 5 rfl 21 dX7_shedsSo_19 rfl ?_
  obtain ⟨h15, h⟩ := gd_e h
  refine pw_iast 22 dX7_shedsSo_21 rfl la_306 ly_306 h15 ?_
  obtain ⟨m2, em2, h⟩ := nmE_ h
  refine pw_mem em2 ?_
  refine pw_iconst (v := (1 : Int32)) (by decide) 23 dX7_shedsSo_22 rfl ?_
  refine pw_istore [(6, .int (1 : Int32)), (0, .ref (G.1 + 298)), (1, .int x1), (2, .int x2), (3, .int x3), (4, .int x4), (5, .int x5)] 25 dX7_shedsSo_23 rfl (Nat.le_of_ble_eq_true rfl) rfl ?_
  refine pw_iconst (v := (0 : Int32)) (by decide) 26 dX7_shedsSo_25 rfl ?_
  refine pw_istore [(7, .int (0 : Int32)), (6, .int (1 : Int32)), (0, .ref (G.1 + 298)), (1, .int x1), (2, .int x2), (3, .int x3), (4, .int x4), (5, .int x5)] 28 dX7_shedsSo_26 rfl (Nat.le_of_ble_eq_true rfl) rfl ?_
  obtain ⟨z11, m12, h13, h⟩ := bd2_e h
  have hL28_h13 : PW G (KM l G RX7 cX7_shedsSo 8 (some .boolean) wsX7_shedsSo 4 (Qi G r mF)) 87 [(6, .int z11)] [] m12 := by
    refine pw_iload 0 rfl 89 dX7_shedsSo_87 rfl ?_
    obtain ⟨h14, h⟩ := gd_e h
    exact pw_zret dX7_shedsSo_89 h14 (pr_inj h)
  refine pw_sub [2, 3, 4, 5, 1, 0] [(0, .ref (G.1 + 298)), (1, .int x1), (2, .int x2), (3, .int x3), (6, .int (1 : Int32)), (7, .int (0 : Int32))] rfl ?_
  exact kl_X7_shedsSo_28 FU x1 x2 x3 (1 : Int32) (0 : Int32) m2 z11 m12 h13 hL28_h13
