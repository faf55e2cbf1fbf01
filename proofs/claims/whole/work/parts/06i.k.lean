theorem lw_X7_fits_c67 : Cond.constant RX7 67 (-1000001 : Int32) ∈ wsX7_fits := by decide +kernel
theorem lw_X7_fits_c53 : Cond.constant RX7 53 (-1000000 : Int32) ∈ wsX7_fits := by decide +kernel
set_option maxHeartbeats 4000000 in
set_option maxRecDepth 100000 in
theorem kl_X7_fits_205 {l : Launch} {G : Gx}  {r : Int32} {mF : Mm}  : ∀ (n : Nat) (y1 : Int32) (y4 : Int32) (y5 : Int32) (y6 : Int32) (y7 : Int32) (y9 : Int32) (y10 : Int32) (y11 : Int32) (m : Mm) (a0 : Int32) (a1 : Int32) (a2 : Mm), lp_X7_fits_205 n y1 y4 y5 y6 y7 y9 y10 y11 m = some (a0, a1, a2) → PW G (KM l G RX7 cX7_fits 13 (some .int) wsX7_fits 5 (Qi G r mF)) 262 [(0, .ref (G.1 + 298)), (5, .int y5), (9, .int a0), (10, .int a1)] [] a2 → PW G (KM l G RX7 cX7_fits 13 (some .int) wsX7_fits 5 (Qi G r mF)) 205 [(0, .ref (G.1 + 298)), (1, .int y1), (4, .int y4), (5, .int y5), (6, .int y6), (7, .int y7), (9, .int y9), (10, .int y10), (11, .int y11)] [] m := by
  intro n
  induction n with
  | zero => intro y1 y4 y5 y6 y7 y9 y10 y11 m a0 a1 a2 h hk; cases h
  | succ n ih =>
    intro y1 y4 y5 y6 y7 y9 y10 y11 m a0 a1 a2 h hk
    have h : lb_X7_fits_205 (lp_X7_fits_205 n) y1 y4 y5 y6 y7 y9 y10 y11 m = _ := h
    unfold lb_X7_fits_205 at h
    refine pw_iload 8 rfl 207 dX7_fits_205 rfl ?_
    refine pw_if_lt 262 210 dX7_fits_207 (by decide) rfl (fun c14 => ?_) (fun c14 => ?_)
    · have h := if_t h c14
      refine pw_sub [0, 3, 6, 7] [(0, .ref (G.1 + 298)), (5, .int y5), (9, .int y9), (10, .int y10)] rfl ?_
      cases h; exact hk
    · have h := if_f h c14
      refine pw_aload_n 0 rfl rfl 211 dX7_fits_210 rfl ?_
      refine pw_iload_n 1 rfl rfl 212 dX7_fits_211 rfl ?_
      refine pw_iload 4 rfl 214 dX7_fits_212 rfl ?_
      refine pw_iload 2 rfl 216 dX7_fits_214 rfl ?_
      refine pw_iload 5 rfl 218 dX7_fits_216 rfl ?_
      refine pw_iconst (v := (2 : Int32)) (by decide) 219 dX7_fits_218 rfl ?_
      refine pw_iadd 220 dX7_fits_219 rfl ?_
      refine pw_iload 8 rfl 222 dX7_fits_220 rfl ?_
      obtain ⟨r16, m15, hr16, h⟩ := bd2_e h
      refine pw_callVi 225 dX7_fits_222 rfl [.int y1, .int y6, .int y4, .int (y7 + (2 : Int32)), .int y11] 5 ⟨gX7_fits_X7_shedsSo, rfl, sgV_X7_shedsSo, ⟨Nat.le_of_ble_eq_true rfl, Nat.le_of_ble_eq_true rfl⟩, ⟨Nat.le_refl _, Nat.le_refl _⟩⟩ ly_298 (by decide) la_298 rfl (k_X7_shedsSo hr16) rfl rfl (Nat.le_of_ble_eq_true rfl) ?_
      refine pw_istore [(12, .int r16), (0, .ref (G.1 + 298)), (1, .int y1), (4, .int y4), (5, .int y5), (6, .int y6), (7, .int y7), (9, .int y9), (10, .int y10), (11, .int y11)] 227 dX7_fits_225 rfl (Nat.le_of_ble_eq_true rfl) rfl ?_
      refine pw_iload 7 rfl 229 dX7_fits_227 rfl ?_
      refine pw_iload 0 rfl 231 dX7_fits_229 rfl ?_
      obtain ⟨j18, ej18, h⟩ := nmE_ h
      have hJ239_j18 : PW G (KM l G RX7 cX7_fits 13 (some .int) wsX7_fits 5 (Qi G r mF)) 239 [(0, .ref (G.1 + 298)), (1, .int y1), (4, .int y4), (5, .int y5), (6, .int y6), (7, .int y7), (10, .int y10), (11, .int y11), (12, .int r16)] [.int j18, .int y9] m15 := by
        refine pw_iadd 240 dX7_fits_239 rfl ?_
        obtain ⟨v19, ev19, h⟩ := nmE_ h
        refine pw_top ev19 ?_
        refine pw_istore [(9, .int v19), (0, .ref (G.1 + 298)), (1, .int y1), (4, .int y4), (5, .int y5), (6, .int y6), (7, .int y7), (10, .int y10), (11, .int y11), (12, .int r16)] 242 dX7_fits_240 rfl (Nat.le_of_ble_eq_true rfl) rfl ?_
        refine pw_iload 9 rfl 244 dX7_fits_242 rfl ?_
        obtain ⟨j21, ej21, h⟩ := nmE_ h
        have hJ254_j21 : PW G (KM l G RX7 cX7_fits 13 (some .int) wsX7_fits 5 (Qi G r mF)) 254 [(0, .ref (G.1 + 298)), (1, .int y1), (4, .int y4), (5, .int y5), (6, .int y6), (7, .int y7), (9, .int v19), (11, .int y11)] [.int j21] m15 := by
          refine pw_istore [(10, .int j21), (0, .ref (G.1 + 298)), (1, .int y1), (4, .int y4), (5, .int y5), (6, .int y6), (7, .int y7), (9, .int v19), (11, .int y11)] 256 dX7_fits_254 rfl (Nat.le_of_ble_eq_true rfl) rfl ?_
          obtain ⟨v22, ev22, h⟩ := nmE_ h
          refine pw_iinc 8 rfl (by rw [ev22]; rfl) [(11, .int v22), (10, .int j21), (0, .ref (G.1 + 298)), (1, .int y1), (4, .int y4), (5, .int y5), (6, .int y6), (7, .int y7), (9, .int v19)] 259 dX7_fits_256 rfl (Nat.le_of_ble_eq_true rfl) rfl ?_
          refine pw_goto 205 dX7_fits_259 (by decide) ?_
          refine pw_sub [2, 3, 4, 5, 6, 7, 8, 1, 0] [(0, .ref (G.1 + 298)), (1, .int y1), (4, .int y4), (5, .int y5), (6, .int y6), (7, .int y7), (9, .int v19), (10, .int j21), (11, .int v22)] rfl ?_
          exact ih y1 y4 y5 y6 y7 v19 j21 v22 m15 a0 a1 a2 h hk
        refine pw_if_eq 252 247 dX7_fits_244 (by decide) rfl (fun c20 => ?_) (fun c20 => ?_)
        · have ej21 := if_tv ej21 c20
          refine pw_iload 7 rfl 254 dX7_fits_252 rfl ?_
          refine pw_sub [1, 2, 3, 4, 5, 6, 0, 8] [(0, .ref (G.1 + 298)), (1, .int y1), (4, .int y4), (5, .int y5), (6, .int y6), (7, .int y7), (9, .int v19), (11, .int y11)] rfl ?_
          subst ej21; exact hJ254_j21
        · have ej21 := if_fv ej21 c20
          refine pw_iload 8 rfl 249 dX7_fits_247 rfl ?_
          refine pw_goto 254 dX7_fits_249 (by decide) ?_
          refine pw_sub [1, 2, 3, 4, 5, 6, 0, 8] [(0, .ref (G.1 + 298)), (1, .int y1), (4, .int y4), (5, .int y5), (6, .int y6), (7, .int y7), (9, .int v19), (11, .int y11)] rfl ?_
          subst ej21; exact hJ254_j21
      refine pw_if_eq 238 234 dX7_fits_231 (by decide) rfl (fun c17 => ?_) (fun c17 => ?_)
      · have ej18 := if_tv ej18 c17
        refine pw_iconst (v := (0 : Int32)) (by decide) 239 dX7_fits_238 rfl ?_
        refine pw_sub [1, 2, 3, 4, 5, 6, 8, 9, 0] [(0, .ref (G.1 + 298)), (1, .int y1), (4, .int y4), (5, .int y5), (6, .int y6), (7, .int y7), (10, .int y10), (11, .int y11), (12, .int r16)] rfl ?_
        subst ej18; exact hJ239_j18
      · have ej18 := if_fv ej18 c17
        refine pw_iconst (v := (1 : Int32)) (by decide) 235 dX7_fits_234 rfl ?_
        refine pw_goto 239 dX7_fits_235 (by decide) ?_
        refine pw_sub [1, 2, 3, 4, 5, 6, 8, 9, 0] [(0, .ref (G.1 + 298)), (1, .int y1), (4, .int y4), (5, .int y5), (6, .int y6), (7, .int y7), (10, .int y10), (11, .int y11), (12, .int r16)] rfl ?_
        subst ej18; exact hJ239_j18
set_option maxHeartbeats 4000000 in
set_option maxRecDepth 100000 in
theorem kl_X7_fits_139 {l : Launch} {G : Gx}  {r : Int32} {mF : Mm}  : ∀ (n : Nat) (y1 : Int32) (y4 : Int32) (y5 : Int32) (y6 : Int32) (y7 : Int32) (y8 : Int32) (y11 : Int32) (y12 : Int32) (m : Mm) (a0 : Int32) (a1 : Mm), lp_X7_fits_139 n y1 y4 y5 y6 y7 y8 y11 y12 m = some (a0, a1) → PW G (KM l G RX7 cX7_fits 13 (some .int) wsX7_fits 5 (Qi G r mF)) 194 [(0, .ref (G.1 + 298)), (8, .int a0)] [] a1 → PW G (KM l G RX7 cX7_fits 13 (some .int) wsX7_fits 5 (Qi G r mF)) 139 [(0, .ref (G.1 + 298)), (1, .int y1), (4, .int y4), (5, .int y5), (6, .int y6), (7, .int y7), (8, .int y8), (11, .int y11), (12, .int y12)] [] m := by
  intro n
  induction n with
  | zero => intro y1 y4 y5 y6 y7 y8 y11 y12 m a0 a1 h hk; cases h
  | succ n ih =>
    intro y1 y4 y5 y6 y7 y8 y11 y12 m a0 a1 h hk
    have h : lb_X7_fits_139 (lp_X7_fits_139 n) y1 y4 y5 y6 y7 y8 y11 y12 m = _ := h
    unfold lb_X7_fits_139 at h
    refine pw_iload 8 rfl 141 dX7_fits_139 rfl ?_
    refine pw_iload 7 rfl 143 dX7_fits_141 rfl ?_
    refine pw_icmp_gt 194 146 dX7_fits_143 (by decide) rfl (fun c36 => ?_) (fun c36 => ?_)
    · have h := if_t h c36
      refine pw_sub [0, 6] [(0, .ref (G.1 + 298)), (8, .int y8)] rfl ?_
      cases h; exact hk
    · have h := if_f h c36
      refine pw_iload 6 rfl 148 dX7_fits_146 rfl ?_
      refine pw_aload_n 0 rfl rfl 149 dX7_fits_148 rfl ?_
      refine pw_iload_n 1 rfl rfl 150 dX7_fits_149 rfl ?_
      refine pw_iload 4 rfl 152 dX7_fits_150 rfl ?_
      refine pw_iload 2 rfl 154 dX7_fits_152 rfl ?_
      refine pw_iload 3 rfl 156 dX7_fits_154 rfl ?_
      refine pw_iconst (v := (2 : Int32)) (by decide) 157 dX7_fits_156 rfl ?_
      obtain ⟨j38, ej38, h⟩ := nmE_ h
      have hJ169_j38 : PW G (KM l G RX7 cX7_fits 13 (some .int) wsX7_fits 5 (Qi G r mF)) 169 [(0, .ref (G.1 + 298)), (1, .int y1), (4, .int y4), (5, .int y5), (6, .int y6), (7, .int y7), (11, .int y11), (12, .int y12)] [.int j38, .int y4, .int y6, .int y1, .ref (G.1 + 298), .int y8] m := by
        refine pw_iload 7 rfl 171 dX7_fits_169 rfl ?_
        obtain ⟨r40, m39, hr40, h⟩ := bd2_e h
        refine pw_callVi 174 dX7_fits_171 rfl [.int y1, .int y6, .int y4, .int j38, .int y12] 5 ⟨gX7_fits_X7_shedsSo, rfl, sgV_X7_shedsSo, ⟨Nat.le_of_ble_eq_true rfl, Nat.le_of_ble_eq_true rfl⟩, ⟨Nat.le_refl _, Nat.le_refl _⟩⟩ ly_298 (by decide) la_298 rfl (k_X7_shedsSo hr40) rfl rfl (Nat.le_of_ble_eq_true rfl) ?_
        obtain ⟨j42, ej42, h⟩ := nmE_ h
        have hJ185_j42 : PW G (KM l G RX7 cX7_fits 13 (some .int) wsX7_fits 5 (Qi G r mF)) 185 [(0, .ref (G.1 + 298)), (1, .int y1), (4, .int y4), (5, .int y5), (6, .int y6), (7, .int y7), (11, .int y11), (12, .int y12)] [.int j42, .int y8] m39 := by
          refine pw_ior 186 dX7_fits_185 rfl ?_
          obtain ⟨v43, ev43, h⟩ := nmE_ h
          refine pw_top ev43 ?_
          refine pw_istore [(8, .int v43), (0, .ref (G.1 + 298)), (1, .int y1), (4, .int y4), (5, .int y5), (6, .int y6), (7, .int y7), (11, .int y11), (12, .int y12)] 188 dX7_fits_186 rfl (Nat.le_of_ble_eq_true rfl) rfl ?_
          obtain ⟨v44, ev44, h⟩ := nmE_ h
          refine pw_iinc 8 rfl (by rw [ev44]; rfl) [(12, .int v44), (8, .int v43), (0, .ref (G.1 + 298)), (1, .int y1), (4, .int y4), (5, .int y5), (6, .int y6), (7, .int y7), (11, .int y11)] 191 dX7_fits_188 rfl (Nat.le_of_ble_eq_true rfl) rfl ?_
          refine pw_goto 139 dX7_fits_191 (by decide) ?_
          refine pw_sub [2, 3, 4, 5, 6, 7, 1, 8, 0] [(0, .ref (G.1 + 298)), (1, .int y1), (4, .int y4), (5, .int y5), (6, .int y6), (7, .int y7), (8, .int v43), (11, .int y11), (12, .int v44)] rfl ?_
          exact ih y1 y4 y5 y6 y7 v43 y11 v44 m39 a0 a1 h hk
        refine pw_if_eq 184 177 dX7_fits_174 (by decide) rfl (fun c41 => ?_) (fun c41 => ?_)
        · have ej42 := if_tv ej42 c41
          refine pw_iconst (v := (0 : Int32)) (by decide) 185 dX7_fits_184 rfl ?_
          refine pw_sub [0, 1, 2, 3, 4, 5, 6, 7] [(0, .ref (G.1 + 298)), (1, .int y1), (4, .int y4), (5, .int y5), (6, .int y6), (7, .int y7), (11, .int y11), (12, .int y12)] rfl ?_
          subst ej42; exact hJ185_j42
        · have ej42 := if_fv ej42 c41
          refine pw_iconst (v := (1 : Int32)) (by decide) 178 dX7_fits_177 rfl ?_
          refine pw_iload 7 rfl 180 dX7_fits_178 rfl ?_
          refine pw_ishl 181 dX7_fits_180 rfl ?_
          refine pw_goto 185 dX7_fits_181 (by decide) ?_
          refine pw_sub [0, 1, 2, 3, 4, 5, 6, 7] [(0, .ref (G.1 + 298)), (1, .int y1), (4, .int y4), (5, .int y5), (6, .int y6), (7, .int y7), (11, .int y11), (12, .int y12)] rfl ?_
          subst ej42; exact hJ185_j42
      refine pw_icmp_ne 164 160 dX7_fits_157 (by decide) rfl (fun c37 => ?_) (fun c37 => ?_)
      · have ej38 := if_fv ej38 c37
        refine pw_iload 5 rfl 166 dX7_fits_164 rfl ?_
        refine pw_iload 3 rfl 168 dX7_fits_166 rfl ?_
        refine pw_iadd 169 dX7_fits_168 rfl ?_
        refine pw_sub [0, 1, 2, 3, 4, 5, 7, 8] [(0, .ref (G.1 + 298)), (1, .int y1), (4, .int y4), (5, .int y5), (6, .int y6), (7, .int y7), (11, .int y11), (12, .int y12)] rfl ?_
        subst ej38; exact hJ169_j38
      · have ej38 := if_tv ej38 c37
        refine pw_iconst (v := (1 : Int32)) (by decide) 161 dX7_fits_160 rfl ?_
        refine pw_goto 169 dX7_fits_161 (by decide) ?_
        refine pw_sub [0, 1, 2, 3, 4, 5, 7, 8] [(0, .ref (G.1 + 298)), (1, .int y1), (4, .int y4), (5, .int y5), (6, .int y6), (7, .int y7), (11, .int y11), (12, .int y12)] rfl ?_
        subst ej38; exact hJ169_j38
set_option maxHeartbeats 4000000 in
set_option maxRecDepth 100000 in
theorem k_X7_fits {l : Launch} {G : Gx} {x1 : Int32} {x2 : Int32} {x3 : Int32} {x4 : Int32} {x5 : Int32} {m mF : Mm} {r : Int32}  (h : f_X7_fits x1 x2 x3 x4 x5 m = some (r, mF)) : Cn l G 5 yX7_fits wsX7_fits [.ref (G.1 + 298), .int x1, .int x2, .int x3, .int x4, .int x5] m (Qi G r mF) := by
  unfold f_X7_fits at h
  refine Cn.of (own := RX7) (lv := [(0, .ref (G.1 + 298)), (1, .int x1), (2, .int x2), (3, .int x3), (4, .int x4), (5, .int x5)]) (by decide) rfl rfl (Nat.le_of_ble_eq_true rfl) rfl ?_
  refine pw_aload_n 0 rfl rfl 1 dX7_fits_0 rfl ?_
  refine pw_iload_n 1 rfl rfl 2 dX7_fits_1 rfl ?_
  obtain ⟨r1, hr1, h⟩ := bd1_e h
  refine pw_callVi 5 dX7_fits_2 rfl [.int x1] 1 ⟨gX7_fits_X7_isGuest, rfl, sgV_X7_isGuest, ⟨Nat.le_of_ble_eq_true rfl, Nat.le_of_ble_eq_true rfl⟩, ⟨Nat.le_refl _, Nat.le_refl _⟩⟩ ly_298 (by decide) la_298 rfl (k_X7_isGuest hr1) rfl rfl (Nat.le_of_ble_eq_true rfl) ?_
  refine pw_if_eq 36 8 dX7_fits_5 (by decide) rfl (fun c2 => ?_) (fun c2 => ?_)
  · have h := if_t h c2
    refine pw_ldc 38 lw_X7_fits_c67 dX7_fits_36 rfl ?_
    exact pw_iret dX7_fits_38 (pr_inj h)
  · have h := if_f h c2
    refine pw_iload_n 2 rfl rfl 9 dX7_fits_8 rfl ?_
    obtain ⟨r3, hr3, h⟩ := bd1_e h
    refine pw_callSi 12 dX7_fits_9 rfl [.int x2] 1 ⟨gX7_fits_X7_isRow, rfl, sgS_X7_isRow, ⟨Nat.le_of_ble_eq_true rfl, Nat.le_of_ble_eq_true rfl⟩, ⟨Nat.le_refl _, Nat.le_refl _⟩⟩ (k_X7_isRow hr3) rfl rfl (Nat.le_of_ble_eq_true rfl) ?_
    refine pw_if_eq 36 15 dX7_fits_12 (by decide) rfl (fun c4 => ?_) (fun c4 => ?_)
    · have h := if_t h c4
      refine pw_ldc 38 lw_X7_fits_c67 dX7_fits_36 rfl ?_
      exact pw_iret dX7_fits_38 (pr_inj h)
    · have h := if_f h c4
      refine pw_iload 4 rfl 17 dX7_fits_15 rfl ?_
      refine pw_iconst (v := (1 : Int32)) (by decide) 18 dX7_fits_17 rfl ?_
      refine pw_bipush (v := (12 : Int32)) (by decide) 20 dX7_fits_18 rfl ?_
      refine pw_callSi 23 dX7_fits_20 rfl [.int x4, .int (1 : Int32), .int (12 : Int32)] 3 ⟨gX7_fits_X7_in, rfl, sgS_X7_in, ⟨Nat.le_of_ble_eq_true rfl, Nat.le_of_ble_eq_true rfl⟩, ⟨Nat.le_refl _, Nat.le_refl _⟩⟩ (k_X7_in rfl) rfl rfl (Nat.le_of_ble_eq_true rfl) ?_
      refine pw_if_eq 36 26 dX7_fits_23 (by decide) rfl (fun c5 => ?_) (fun c5 => ?_)
      · have h := if_t h c5
        refine pw_ldc 38 lw_X7_fits_c67 dX7_fits_36 rfl ?_
        exact pw_iret dX7_fits_38 (pr_inj h)
      · have h := if_f h c5
        refine pw_iload 5 rfl 28 dX7_fits_26 rfl ?_
        refine pw_iconst (v := (0 : Int32)) (by decide) 29 dX7_fits_28 rfl ?_
        refine pw_iconst (v := (4 : Int32)) (by decide) 30 dX7_fits_29 rfl ?_
        refine pw_callSi 33 dX7_fits_30 rfl [.int x5, .int (0 : Int32), .int (4 : Int32)] 3 ⟨gX7_fits_X7_in, rfl, sgS_X7_in, ⟨Nat.le_of_ble_eq_true rfl, Nat.le_of_ble_eq_true rfl⟩, ⟨Nat.le_refl _, Nat.le_refl _⟩⟩ (k_X7_in rfl) rfl rfl (Nat.le_of_ble_eq_true rfl) ?_
        refine pw_if_ne 39 36 dX7_fits_33 (by decide) rfl (fun c6 => ?_) (fun c6 => ?_)
        · have h := if_f h c6
          refine pw_aload_n 0 rfl rfl 40 dX7_fits_39 rfl ?_
          refine pw_iload_n 2 rfl rfl 41 dX7_fits_40 rfl ?_
          obtain ⟨r7, hr7, h⟩ := bd1_e h
          refine pw_callVi 44 dX7_fits_41 rfl [.int x2] 1 ⟨gX7_fits_X7_isMissing, rfl, sgV_X7_isMissing, ⟨Nat.le_of_ble_eq_true rfl, Nat.le_of_ble_eq_true rfl⟩, ⟨Nat.le_refl _, Nat.le_refl _⟩⟩ ly_298 (by decide) la_298 rfl (k_X7_isMissing hr7) rfl rfl (Nat.le_of_ble_eq_true rfl) ?_
          refine pw_if_eq 53 47 dX7_fits_44 (by decide) rfl (fun c8 => ?_) (fun c8 => ?_)
          · have h := if_t h c8
            refine pw_aload_n 0 rfl rfl 54 dX7_fits_53 rfl ?_
            refine pw_iload_n 2 rfl rfl 55 dX7_fits_54 rfl ?_
            refine pw_iload_n 3 rfl rfl 56 dX7_fits_55 rfl ?_
            refine pw_iload 4 rfl 58 dX7_fits_56 rfl ?_
            obtain ⟨r9, hr9, h⟩ := bd1_e h
            refine pw_callVi 61 dX7_fits_58 rfl [.int x2, .int x3, .int x4] 3 ⟨gX7_fits_X7_isPart, rfl, sgV_X7_isPart, ⟨Nat.le_of_ble_eq_true rfl, Nat.le_of_ble_eq_true rfl⟩, ⟨Nat.le_refl _, Nat.le_refl _⟩⟩ ly_298 (by decide) la_298 rfl (k_X7_isPart hr9) rfl rfl (Nat.le_of_ble_eq_true rfl) ?_
            refine pw_if_ne 70 64 dX7_fits_61 (by decide) rfl (fun c10 => ?_) (fun c10 => ?_)
            · have h := if_f h c10
              refine pw_bipush (v := (40 : Int32)) (by decide) 72 dX7_fits_70 rfl ?_
              refine pw_iload_n 2 rfl rfl 73 dX7_fits_72 rfl ?_
              refine pw_imul 74 dX7_fits_73 rfl ?_
              refine pw_iload_n 3 rfl rfl 75 dX7_fits_74 rfl ?_
              refine pw_iadd 76 dX7_fits_75 rfl ?_
              obtain ⟨v11, ev11, h⟩ := nmE_ h
              refine pw_top ev11 ?_
              refine pw_istore [(6, .int v11), (0, .ref (G.1 + 298)), (1, .int x1), (2, .int x2), (3, .int x3), (4, .int x4), (5, .int x5)] 78 dX7_fits_76 rfl (Nat.le_of_ble_eq_true rfl) rfl ?_
              refine pw_bipush (v := (6 : Int32)) (by decide) 80 dX7_fits_78 rfl ?_
              refine pw_bipush (v := (7 : Int32)) (by decide) 82 dX7_fits_80 rfl ?_
              refine pw_iload_n 2 rfl rfl 83 dX7_fits_82 rfl ?_
              refine pw_imul 84 dX7_fits_83 rfl ?_
              refine pw_iadd 85 dX7_fits_84 rfl ?_
              obtain ⟨v12, ev12, h⟩ := nmE_ h
              refine pw_top ev12 ?_
              refine pw_istore [(7, .int v12), (6, .int v11), (0, .ref (G.1 + 298)), (1, .int x1), (2, .int x2), (3, .int x3), (4, .int x4), (5, .int x5)] 87 dX7_fits_85 rfl (Nat.le_of_ble_eq_true rfl) rfl ?_
              refine pw_iconst (v := (0 : Int32)) (by decide) 88 dX7_fits_87 rfl ?_
              refine pw_istore [(8, .int (0 : Int32)), (7, .int v12), (6, .int v11), (0, .ref (G.1 + 298)), (1, .int x1), (2, .int x2), (3, .int x3), (4, .int x4), (5, .int x5)] 90 dX7_fits_88 rfl (Nat.le_of_ble_eq_true rfl) rfl ?_
              refine pw_iconst (v := (0 : Int32)) (by decide) 91 dX7_fits_90 rfl ?_
              refine pw_istore [(9, .int (0 : Int32)), (8, .int (0 : Int32)), (7, .int v12), (6, .int v11), (0, .ref (G.1 + 298)), (1, .int x1), (2, .int x2), (3, .int x3), (4, .int x4), (5, .int x5)] 93 dX7_fits_91 rfl (Nat.le_of_ble_eq_true rfl) rfl ?_
              refine pw_ldc 95 lw_X7_fits_c53 dX7_fits_93 rfl ?_
              refine pw_istore [(10, .int (-1000000 : Int32)), (9, .int (0 : Int32)), (8, .int (0 : Int32)), (7, .int v12), (6, .int v11), (0, .ref (G.1 + 298)), (1, .int x1), (2, .int x2), (3, .int x3), (4, .int x4), (5, .int x5)] 97 dX7_fits_95 rfl (Nat.le_of_ble_eq_true rfl) rfl ?_
              refine pw_iload 10 rfl 99 dX7_fits_97 rfl ?_
              refine pw_iconst (v := (3 : Int32)) (by decide) 100 dX7_fits_99 rfl ?_
              refine pw_icmp_ge 201 103 dX7_fits_100 (by decide) rfl (fun c13 => ?_) (fun c13 => ?_)
              · have h := if_t h c13
                refine pw_bipush (v := (99 : Int32)) (by decide) 203 dX7_fits_201 rfl ?_
                refine pw_istore [(11, .int (99 : Int32)), (10, .int (-1000000 : Int32)), (9, .int (0 : Int32)), (8, .int (0 : Int32)), (7, .int v12), (6, .int v11), (0, .ref (G.1 + 298)), (1, .int x1), (2, .int x2), (3, .int x3), (4, .int x4), (5, .int x5)] 205 dX7_fits_203 rfl (Nat.le_of_ble_eq_true rfl) rfl ?_
                obtain ⟨z23, z24, m25, h26, h⟩ := bd3_e h
                have hL205_h26 : PW G (KM l G RX7 cX7_fits 13 (some .int) wsX7_fits 5 (Qi G r mF)) 262 [(0, .ref (G.1 + 298)), (5, .int x5), (9, .int z23), (10, .int z24)] [] m25 := by
                  refine pw_aload_n 0 rfl rfl 263 dX7_fits_262 rfl ?_
                  refine pw_iload 1 rfl 265 dX7_fits_263 rfl ?_
                  refine pw_iconst (v := (3 : Int32)) (by decide) 266 dX7_fits_265 rfl ?_
                  obtain ⟨j28, ej28, h⟩ := nmE_ h
                  have hJ276_j28 : PW G (KM l G RX7 cX7_fits 13 (some .int) wsX7_fits 5 (Qi G r mF)) 276 [] [.int j28, .ref (G.1 + 298)] m25 := by
                    obtain ⟨r30, m29, hr30, h⟩ := bd2_e h
                    refine pw_callVi 279 dX7_fits_276 rfl [.int j28] 1 ⟨gX7_fits_X7_well, rfl, sgV_X7_well, ⟨Nat.le_of_ble_eq_true rfl, Nat.le_of_ble_eq_true rfl⟩, ⟨Nat.le_refl _, Nat.le_refl _⟩⟩ ly_298 (by decide) la_298 rfl (k_X7_well hr30) rfl rfl (Nat.le_of_ble_eq_true rfl) ?_
                    exact pw_iret dX7_fits_279 (pr_inj h)
                  refine pw_icmp_ne 274 269 dX7_fits_266 (by decide) rfl (fun c27 => ?_) (fun c27 => ?_)
                  · have ej28 := if_fv ej28 c27
                    refine pw_iload 3 rfl 276 dX7_fits_274 rfl ?_
                    refine pw_sub [] [] rfl ?_
                    subst ej28; exact hJ276_j28
                  · have ej28 := if_tv ej28 c27
                    refine pw_iload 2 rfl 271 dX7_fits_269 rfl ?_
                    refine pw_goto 276 dX7_fits_271 (by decide) ?_
                    refine pw_sub [] [] rfl ?_
                    subst ej28; exact hJ276_j28
                refine pw_sub [6, 7, 10, 11, 5, 4, 2, 1, 0] [(0, .ref (G.1 + 298)), (1, .int x1), (4, .int x4), (5, .int x5), (6, .int v11), (7, .int v12), (9, .int (0 : Int32)), (10, .int (-1000000 : Int32)), (11, .int (99 : Int32))] rfl ?_
                exact kl_X7_fits_205 FU x1 x4 x5 v11 v12 (0 : Int32) (-1000000 : Int32) (99 : Int32) m z23 z24 m25 h26 hL205_h26
              · have h := if_f h c13
                refine pw_iload 10 rfl 105 dX7_fits_103 rfl ?_
                obtain ⟨j33, ej33, h⟩ := nmE_ h
                have hJ125_j33 : PW G (KM l G RX7 cX7_fits 13 (some .int) wsX7_fits 5 (Qi G r mF)) 125 [(0, .ref (G.1 + 298)), (1, .int x1), (4, .int x4), (5, .int x5), (6, .int v11), (7, .int v12), (8, .int (0 : Int32))] [.int j33] m := by
                  refine pw_istore [(11, .int j33), (0, .ref (G.1 + 298)), (1, .int x1), (4, .int x4), (5, .int x5), (6, .int v11), (7, .int v12), (8, .int (0 : Int32))] 127 dX7_fits_125 rfl (Nat.le_of_ble_eq_true rfl) rfl ?_
                  refine pw_iload 4 rfl 129 dX7_fits_127 rfl ?_
                  obtain ⟨j35, ej35, h⟩ := nmE_ h
                  have hJ137_j35 : PW G (KM l G RX7 cX7_fits 13 (some .int) wsX7_fits 5 (Qi G r mF)) 137 [(0, .ref (G.1 + 298)), (1, .int x1), (4, .int x4), (5, .int x5), (6, .int v11), (7, .int v12), (8, .int (0 : Int32)), (11, .int j33)] [.int j35] m := by
                    refine pw_istore [(12, .int j35), (0, .ref (G.1 + 298)), (1, .int x1), (4, .int x4), (5, .int x5), (6, .int v11), (7, .int v12), (8, .int (0 : Int32)), (11, .int j33)] 139 dX7_fits_137 rfl (Nat.le_of_ble_eq_true rfl) rfl ?_
                    obtain ⟨z45, m46, h47, h⟩ := bd2_e h
                    have hL139_h47 : PW G (KM l G RX7 cX7_fits 13 (some .int) wsX7_fits 5 (Qi G r mF)) 194 [(0, .ref (G.1 + 298)), (8, .int z45)] [] m46 := by
                      refine pw_aload_n 0 rfl rfl 195 dX7_fits_194 rfl ?_
                      refine pw_iload 1 rfl 197 dX7_fits_195 rfl ?_
                      obtain ⟨r49, m48, hr49, h⟩ := bd2_e h
                      refine pw_callVi 200 dX7_fits_197 rfl [.int z45] 1 ⟨gX7_fits_X7_well, rfl, sgV_X7_well, ⟨Nat.le_of_ble_eq_true rfl, Nat.le_of_ble_eq_true rfl⟩, ⟨Nat.le_refl _, Nat.le_refl _⟩⟩ ly_298 (by decide) la_298 rfl (k_X7_well hr49) rfl rfl (Nat.le_of_ble_eq_true rfl) ?_
                      exact pw_iret dX7_fits_200 (pr_inj h)
                    refine pw_sub [1, 2, 3, 4, 5, 6, 7, 8, 0] [(0, .ref (G.1 + 298)), (1, .int x1), (4, .int x4), (5, .int x5), (6, .int v11), (7, .int v12), (8, .int (0 : Int32)), (11, .int j33), (12, .int j35)] rfl ?_
                    exact kl_X7_fits_139 FU x1 x4 x5 v11 v12 (0 : Int32) j33 j35 m z45 m46 h47 hL139_h47
                  refine pw_if_ne 136 132 dX7_fits_129 (by decide) rfl (fun c34 => ?_) (fun c34 => ?_)
                  · have ej35 := if_fv ej35 c34
                    refine pw_iconst (v := (0 : Int32)) (by decide) 137 dX7_fits_136 rfl ?_
                    refine pw_sub [1, 2, 3, 4, 5, 6, 7, 0] [(0, .ref (G.1 + 298)), (1, .int x1), (4, .int x4), (5, .int x5), (6, .int v11), (7, .int v12), (8, .int (0 : Int32)), (11, .int j33)] rfl ?_
                    subst ej35; exact hJ137_j35
                  · have ej35 := if_tv ej35 c34
                    refine pw_iconst (v := (1 : Int32)) (by decide) 133 dX7_fits_132 rfl ?_
                    refine pw_goto 137 dX7_fits_133 (by decide) ?_
                    refine pw_sub [1, 2, 3, 4, 5, 6, 7, 0] [(0, .ref (G.1 + 298)), (1, .int x1), (4, .int x4), (5, .int x5), (6, .int v11), (7, .int v12), (8, .int (0 : Int32)), (11, .int j33)] rfl ?_
                    subst ej35; exact hJ137_j35
                refine pw_if_ne 112 108 dX7_fits_105 (by decide) rfl (fun c31 => ?_) (fun c31 => ?_)
                · have ej33 := if_fv ej33 c31
                  refine pw_iload 10 rfl 114 dX7_fits_112 rfl ?_
                  refine pw_iconst (v := (1 : Int32)) (by decide) 115 dX7_fits_114 rfl ?_
                  refine pw_icmp_ne 123 118 dX7_fits_115 (by decide) rfl (fun c32 => ?_) (fun c32 => ?_)
                  · have ej33 := if_fv ej33 c32
                    refine pw_bipush (v := (15 : Int32)) (by decide) 125 dX7_fits_123 rfl ?_
                    refine pw_sub [5, 6, 9, 10, 4, 3, 2] [(0, .ref (G.1 + 298)), (1, .int x1), (4, .int x4), (5, .int x5), (6, .int v11), (7, .int v12), (8, .int (0 : Int32))] rfl ?_
                    subst ej33; exact hJ125_j33
                  · have ej33 := if_tv ej33 c32
                    refine pw_bipush (v := (9 : Int32)) (by decide) 120 dX7_fits_118 rfl ?_
                    refine pw_goto 125 dX7_fits_120 (by decide) ?_
                    refine pw_sub [5, 6, 9, 10, 4, 3, 2] [(0, .ref (G.1 + 298)), (1, .int x1), (4, .int x4), (5, .int x5), (6, .int v11), (7, .int v12), (8, .int (0 : Int32))] rfl ?_
                    subst ej33; exact hJ125_j33
                · have ej33 := if_tv ej33 c31
                  refine pw_iconst (v := (5 : Int32)) (by decide) 109 dX7_fits_108 rfl ?_
                  refine pw_goto 125 dX7_fits_109 (by decide) ?_
                  refine pw_sub [5, 6, 9, 10, 4, 3, 2] [(0, .ref (G.1 + 298)), (1, .int x1), (4, .int x4), (5, .int x5), (6, .int v11), (7, .int v12), (8, .int (0 : Int32))] rfl ?_
                  subst ej33; exact hJ125_j33
            · have h := if_t h c10
              refine pw_aload_n 0 rfl rfl 65 dX7_fits_64 rfl ?_
              refine pw_iconst (v := (2 : Int32)) (by decide) 66 dX7_fits_65 rfl ?_
              obtain ⟨r51, m50, hr51, h⟩ := bd2_e h
              refine pw_callVi 69 dX7_fits_66 rfl [.int (2 : Int32)] 1 ⟨gX7_fits_X7_found, rfl, sgV_X7_found, ⟨Nat.le_of_ble_eq_true rfl, Nat.le_of_ble_eq_true rfl⟩, ⟨Nat.le_refl _, Nat.le_refl _⟩⟩ ly_298 (by decide) la_298 rfl (k_X7_found hr51) rfl rfl (Nat.le_of_ble_eq_true rfl) ?_
              exact pw_iret dX7_fits_69 (pr_inj h)
          · have h := if_f h c8
            refine pw_aload_n 0 rfl rfl 48 dX7_fits_47 rfl ?_
            refine pw_iconst (v := (1 : Int32)) (by decide) 49 dX7_fits_48 rfl ?_
            obtain ⟨r53, m52, hr53, h⟩ := bd2_e h
            refine pw_callVi 52 dX7_fits_49 rfl [.int (1 : Int32)] 1 ⟨gX7_fits_X7_found, rfl, sgV_X7_found, ⟨Nat.le_of_ble_eq_true rfl, Nat.le_of_ble_eq_true rfl⟩, ⟨Nat.le_refl _, Nat.le_refl _⟩⟩ ly_298 (by decide) la_298 rfl (k_X7_found hr53) rfl rfl (Nat.le_of_ble_eq_true rfl) ?_
            exact pw_iret dX7_fits_52 (pr_inj h)
        · have h := if_t h c6
          refine pw_ldc 38 lw_X7_fits_c67 dX7_fits_36 rfl ?_
          exact pw_iret dX7_fits_38 (pr_inj h)
theorem lw_X7_away_c67 : Cond.constant RX7 67 (-1000001 : Int32) ∈ wsX7_away := by decide +kernel
theorem fi_X7_away_7 : ∀ w ∈ wsX70, w ∈ wsX7_away := by decide +kernel
theorem lk_X7_away_25 : Cond.fieldLink RX7 25 (TX7 13).1 (TX7 13).2.1 (TX7 13).2.2.1 ∈ wsX7_away := by decide +kernel
theorem lk_X7_away_31 : Cond.fieldLink RX7 31 (TX7 15).1 (TX7 15).2.1 (TX7 15).2.2.1 ∈ wsX7_away := by decide +kernel
theorem lw_X7_away_c169 : Cond.constant RX7 169 (-1000002 : Int32) ∈ wsX7_away := by decide +kernel
set_option maxHeartbeats 4000000 in
set_option maxRecDepth 100000 in
theorem kl_X7_away_57 {l : Launch} {G : Gx}  {r : Int32} {mF : Mm}  : ∀ (n : Nat) (y1 : Int32) (y2 : Int32) (y3 : Int32) (y4 : Int32) (y5 : Int32) (y6 : Int32) (y7 : Int32) (m : Mm) (a0 : Int32), lp_X7_away_57 n y1 y2 y3 y4 y5 y6 y7 m = some a0 → PW G (KM l G RX7 cX7_away 10 (some .int) wsX7_away 5 (Qi G r mF)) 80 [(0, .ref (G.1 + 298)), (1, .int y1), (2, .int y2), (3, .int y3), (4, .int y4), (5, .int y5), (6, .int a0)] [] m → PW G (KM l G RX7 cX7_away 10 (some .int) wsX7_away 5 (Qi G r mF)) 57 [(0, .ref (G.1 + 298)), (1, .int y1), (2, .int y2), (3, .int y3), (4, .int y4), (5, .int y5), (6, .int y6), (7, .int y7)] [] m := by
  intro n
  induction n with
  | zero => intro y1 y2 y3 y4 y5 y6 y7 m a0 h hk; cases h
  | succ n ih =>
    intro y1 y2 y3 y4 y5 y6 y7 m a0 h hk
    have h : lb_X7_away_57 (lp_X7_away_57 n) y1 y2 y3 y4 y5 y6 y7 m = _ := h
    unfold lb_X7_away_57 at h
    refine pw_iload 7 rfl 59 dX7_away_57 rfl ?_
    refine pw_iload 4 rfl 61 dX7_away_59 rfl ?_
    obtain ⟨r6, hr6, h⟩ := bd1_e h
    refine pw_callSi 64 dX7_away_61 rfl [.int y4] 1 ⟨gX7_away_X7_ones, rfl, sgS_X7_ones, ⟨Nat.le_of_ble_eq_true rfl, Nat.le_of_ble_eq_true rfl⟩, ⟨Nat.le_refl _, Nat.le_refl _⟩⟩ (k_X7_ones hr6) rfl rfl (Nat.le_of_ble_eq_true rfl) ?_
    refine pw_icmp_ge 80 67 dX7_away_64 (by decide) rfl (fun c7 => ?_) (fun c7 => ?_)
    · have h := if_t h c7
      refine pw_sub [0, 1, 2, 3, 4, 5, 6] [(0, .ref (G.1 + 298)), (1, .int y1), (2, .int y2), (3, .int y3), (4, .int y4), (5, .int y5), (6, .int y6)] rfl ?_
      cases h; exact hk
    · have h := if_f h c7
      refine pw_iload 6 rfl 69 dX7_away_67 rfl ?_
      refine pw_bipush (v := (10 : Int32)) (by decide) 71 dX7_away_69 rfl ?_
      refine pw_imul 72 dX7_away_71 rfl ?_
      obtain ⟨v8, ev8, h⟩ := nmE_ h
      refine pw_top ev8 ?_
      refine pw_istore [(6, .int v8), (0, .ref (G.1 + 298)), (1, .int y1), (2, .int y2), (3, .int y3), (4, .int y4), (5, .int y5), (7, .int y7)] 74 dX7_away_72 rfl (Nat.le_of_ble_eq_true rfl) rfl ?_
      obtain ⟨v9, ev9, h⟩ := nmE_ h
      refine pw_iinc 7 rfl (by rw [ev9]; rfl) [(7, .int v9), (6, .int v8), (0, .ref (G.1 + 298)), (1, .int y1), (2, .int y2), (3, .int y3), (4, .int y4), (5, .int y5)] 77 dX7_away_74 rfl (Nat.le_of_ble_eq_true rfl) rfl ?_
      refine pw_goto 57 dX7_away_77 (by decide) ?_
      refine pw_sub [2, 3, 4, 5, 6, 7, 1, 0] [(0, .ref (G.1 + 298)), (1, .int y1), (2, .int y2), (3, .int y3), (4, .int y4), (5, .int y5), (6, .int v8), (7, .int v9)] rfl ?_
      exact ih y1 y2 y3 y4 y5 v8 v9 m a0 h hk
set_option maxHeartbeats 4000000 in
set_option maxRecDepth 100000 in
theorem kl_X7_away_106 {l : Launch} {G : Gx}  {r : Int32} {mF : Mm}  : ∀ (n : Nat) (y1 : Int32) (y2 : Int32) (y3 : Int32) (y4 : Int32) (y5 : Int32) (y6 : Int32) (y7 : Int32) (y8 : Int32) (y9 : Int32) (m : Mm) (a0 : Int32), lp_X7_away_106 n y1 y2 y3 y4 y5 y6 y7 y8 y9 m = some a0 → PW G (KM l G RX7 cX7_away 10 (some .int) wsX7_away 5 (Qi G r mF)) 160 [(0, .ref (G.1 + 298)), (1, .int y1), (2, .int y2), (3, .int y3), (4, .int y4), (5, .int y5), (6, .int y6), (7, .int y7), (8, .int a0)] [] m → PW G (KM l G RX7 cX7_away 10 (some .int) wsX7_away 5 (Qi G r mF)) 106 [(0, .ref (G.1 + 298)), (1, .int y1), (2, .int y2), (3, .int y3), (4, .int y4), (5, .int y5), (6, .int y6), (7, .int y7), (8, .int y8), (9, .int y9)] [] m := by
  intro n
  induction n with
  | zero => intro y1 y2 y3 y4 y5 y6 y7 y8 y9 m a0 h hk; cases h
  | succ n ih =>
    intro y1 y2 y3 y4 y5 y6 y7 y8 y9 m a0 h hk
    have h : lb_X7_away_106 (lp_X7_away_106 n) y1 y2 y3 y4 y5 y6 y7 y8 y9 m = _ := h
    unfold lb_X7_away_106 at h
    refine pw_iload 9 rfl 108 dX7_away_106 rfl ?_
    refine pw_aload_n 0 rfl rfl 109 dX7_away_108 rfl ?_
    refine pw_getR 13 112 dX7_away_109 rfl fi_X7_away_7 lk_X7_away_25 la_298 ly_298 (by decide) rfl (by decide) rfl rf_298_13 ?_
    refine pw_iconst (v := (2 : Int32)) (by decide) 113 dX7_away_112 rfl ?_
    refine pw_iald 114 dX7_away_113 rfl la_304 ly_304 (vp_lit rfl rfl) ?_
    refine pw_icmp_ge 160 117 dX7_away_114 (by decide) rfl (fun c14 => ?_) (fun c14 => ?_)
    · have h := if_t h c14
      refine pw_sub [0, 1, 2, 3, 4, 5, 6, 7, 8] [(0, .ref (G.1 + 298)), (1, .int y1), (2, .int y2), (3, .int y3), (4, .int y4), (5, .int y5), (6, .int y6), (7, .int y7), (8, .int y8)] rfl ?_
      cases h; exact hk
    · have h := if_f h c14
      refine pw_iload 8 rfl 119 dX7_away_117 rfl ?_
      refine pw_iload 4 rfl 121 dX7_away_119 rfl ?_
      refine pw_iload 9 rfl 123 dX7_away_121 rfl ?_
      refine pw_callSi 126 dX7_away_123 rfl [.int y4, .int y9] 2 ⟨gX7_away_X7_has, rfl, sgS_X7_has, ⟨Nat.le_of_ble_eq_true rfl, Nat.le_of_ble_eq_true rfl⟩, ⟨Nat.le_refl _, Nat.le_refl _⟩⟩ (k_X7_has rfl) rfl rfl (Nat.le_of_ble_eq_true rfl) ?_
      obtain ⟨j17, ej17, h⟩ := nmE_ h
      have hJ151_j17 : PW G (KM l G RX7 cX7_away 10 (some .int) wsX7_away 5 (Qi G r mF)) 151 [(0, .ref (G.1 + 298)), (1, .int y1), (2, .int y2), (3, .int y3), (4, .int y4), (5, .int y5), (6, .int y6), (7, .int y7), (9, .int y9)] [.int j17, .int y8] m := by
        refine pw_imul 152 dX7_away_151 rfl ?_
        obtain ⟨v18, ev18, h⟩ := nmE_ h
        refine pw_top ev18 ?_
        refine pw_istore [(8, .int v18), (0, .ref (G.1 + 298)), (1, .int y1), (2, .int y2), (3, .int y3), (4, .int y4), (5, .int y5), (6, .int y6), (7, .int y7), (9, .int y9)] 154 dX7_away_152 rfl (Nat.le_of_ble_eq_true rfl) rfl ?_
        obtain ⟨v19, ev19, h⟩ := nmE_ h
        refine pw_iinc 9 rfl (by rw [ev19]; rfl) [(9, .int v19), (8, .int v18), (0, .ref (G.1 + 298)), (1, .int y1), (2, .int y2), (3, .int y3), (4, .int y4), (5, .int y5), (6, .int y6), (7, .int y7)] 157 dX7_away_154 rfl (Nat.le_of_ble_eq_true rfl) rfl ?_
        refine pw_goto 106 dX7_away_157 (by decide) ?_
        refine pw_sub [2, 3, 4, 5, 6, 7, 8, 9, 1, 0] [(0, .ref (G.1 + 298)), (1, .int y1), (2, .int y2), (3, .int y3), (4, .int y4), (5, .int y5), (6, .int y6), (7, .int y7), (8, .int v18), (9, .int v19)] rfl ?_
        exact ih y1 y2 y3 y4 y5 y6 y7 v18 v19 m a0 h hk
      refine pw_if_ne 133 129 dX7_away_126 (by decide) rfl (fun c15 => ?_) (fun c15 => ?_)
      · have ej17 := if_fv ej17 c15
        refine pw_iload 7 rfl 135 dX7_away_133 rfl ?_
        refine pw_iload 9 rfl 137 dX7_away_135 rfl ?_
        refine pw_callSi 140 dX7_away_137 rfl [.int y7, .int y9] 2 ⟨gX7_away_X7_has, rfl, sgS_X7_has, ⟨Nat.le_of_ble_eq_true rfl, Nat.le_of_ble_eq_true rfl⟩, ⟨Nat.le_refl _, Nat.le_refl _⟩⟩ (k_X7_has rfl) rfl rfl (Nat.le_of_ble_eq_true rfl) ?_
        refine pw_if_eq 147 143 dX7_away_140 (by decide) rfl (fun c16 => ?_) (fun c16 => ?_)
        · have ej17 := if_tv ej17 c16
          refine pw_bipush (v := (10 : Int32)) (by decide) 149 dX7_away_147 rfl ?_
          refine pw_iload_n 2 rfl rfl 150 dX7_away_149 rfl ?_
          refine pw_isub 151 dX7_away_150 rfl ?_
          refine pw_sub [0, 1, 2, 3, 4, 5, 6, 7, 9] [(0, .ref (G.1 + 298)), (1, .int y1), (2, .int y2), (3, .int y3), (4, .int y4), (5, .int y5), (6, .int y6), (7, .int y7), (9, .int y9)] rfl ?_
          subst ej17; exact hJ151_j17
        · have ej17 := if_fv ej17 c16
          refine pw_iload_n 2 rfl rfl 144 dX7_away_143 rfl ?_
          refine pw_goto 151 dX7_away_144 (by decide) ?_
          refine pw_sub [0, 1, 2, 3, 4, 5, 6, 7, 9] [(0, .ref (G.1 + 298)), (1, .int y1), (2, .int y2), (3, .int y3), (4, .int y4), (5, .int y5), (6, .int y6), (7, .int y7), (9, .int y9)] rfl ?_
          subst ej17; exact hJ151_j17
      · have ej17 := if_tv ej17 c15
        refine pw_iconst (v := (1 : Int32)) (by decide) 130 dX7_away_129 rfl ?_
        refine pw_goto 151 dX7_away_130 (by decide) ?_
        refine pw_sub [0, 1, 2, 3, 4, 5, 6, 7, 9] [(0, .ref (G.1 + 298)), (1, .int y1), (2, .int y2), (3, .int y3), (4, .int y4), (5, .int y5), (6, .int y6), (7, .int y7), (9, .int y9)] rfl ?_
        subst ej17; exact hJ151_j17
set_option maxHeartbeats 4000000 in
set_option maxRecDepth 100000 in
theorem kl_X7_away_83 {l : Launch} {G : Gx}  {r : Int32} {mF : Mm}  : ∀ (n : Nat) (y1 : Int32) (y2 : Int32) (y3 : Int32) (y4 : Int32) (y5 : Int32) (y6 : Int32) (y7 : Int32) (m : Mm) (a0 : Int32) (a1 : Mm), lp_X7_away_83 n y1 y2 y3 y4 y5 y6 y7 m = some (a0, a1) → PW G (KM l G RX7 cX7_away 10 (some .int) wsX7_away 5 (Qi G r mF)) 208 [(3, .int y3), (5, .int a0), (6, .int y6)] [] a1 → PW G (KM l G RX7 cX7_away 10 (some .int) wsX7_away 5 (Qi G r mF)) 83 [(0, .ref (G.1 + 298)), (1, .int y1), (2, .int y2), (3, .int y3), (4, .int y4), (5, .int y5), (6, .int y6), (7, .int y7)] [] m := by
  intro n
  induction n with
  | zero => intro y1 y2 y3 y4 y5 y6 y7 m a0 a1 h hk; cases h
  | succ n ih =>
    intro y1 y2 y3 y4 y5 y6 y7 m a0 a1 h hk
    have h : lb_X7_away_83 (lp_X7_away_83 n) y1 y2 y3 y4 y5 y6 y7 m = _ := h
    unfold lb_X7_away_83 at h
    refine pw_iload 7 rfl 85 dX7_away_83 rfl ?_
    refine pw_iload 4 rfl 87 dX7_away_85 rfl ?_
    refine pw_icmp_gt 208 90 dX7_away_87 (by decide) rfl (fun c12 => ?_) (fun c12 => ?_)
    · have h := if_t h c12
      refine pw_sub [3, 5, 6] [(3, .int y3), (5, .int y5), (6, .int y6)] rfl ?_
      cases h; exact hk
    · have h := if_f h c12
      refine pw_iload 7 rfl 92 dX7_away_90 rfl ?_
      refine pw_iload 4 rfl 94 dX7_away_92 rfl ?_
      refine pw_iconst (v := (-1 : Int32)) (by decide) 95 dX7_away_94 rfl ?_
      refine pw_ixor 96 dX7_away_95 rfl ?_
      refine pw_iand 97 dX7_away_96 rfl ?_
      obtain ⟨j27, m28, qj27, h⟩ := bd2_e h
      have hJ202_j27 : PW G (KM l G RX7 cX7_away 10 (some .int) wsX7_away 5 (Qi G r mF)) 202 [(0, .ref (G.1 + 298)), (1, .int y1), (2, .int y2), (3, .int y3), (4, .int y4), (5, .int j27), (6, .int y6), (7, .int y7)] [] m28 := by
        obtain ⟨v29, ev29, h⟩ := nmE_ h
        refine pw_iinc 7 rfl (by rw [ev29]; rfl) [(7, .int v29), (0, .ref (G.1 + 298)), (1, .int y1), (2, .int y2), (3, .int y3), (4, .int y4), (5, .int j27), (6, .int y6)] 205 dX7_away_202 rfl (Nat.le_of_ble_eq_true rfl) rfl ?_
        refine pw_goto 83 dX7_away_205 (by decide) ?_
        refine pw_sub [1, 2, 3, 4, 5, 6, 7, 0] [(0, .ref (G.1 + 298)), (1, .int y1), (2, .int y2), (3, .int y3), (4, .int y4), (5, .int j27), (6, .int y6), (7, .int v29)] rfl ?_
        exact ih y1 y2 y3 y4 j27 y6 v29 m28 a0 a1 h hk
      refine pw_if_ne 202 100 dX7_away_97 (by decide) rfl (fun c13 => ?_) (fun c13 => ?_)
      · have qj27 := if_f qj27 c13
        refine pw_sub [0, 1, 2, 3, 4, 5, 6, 7] [(0, .ref (G.1 + 298)), (1, .int y1), (2, .int y2), (3, .int y3), (4, .int y4), (5, .int y5), (6, .int y6), (7, .int y7)] rfl ?_
        cases qj27; exact hJ202_j27
      · have qj27 := if_t qj27 c13
        refine pw_iconst (v := (1 : Int32)) (by decide) 101 dX7_away_100 rfl ?_
        refine pw_istore [(8, .int (1 : Int32)), (0, .ref (G.1 + 298)), (1, .int y1), (2, .int y2), (3, .int y3), (4, .int y4), (5, .int y5), (6, .int y6), (7, .int y7)] 103 dX7_away_101 rfl (Nat.le_of_ble_eq_true rfl) rfl ?_
        refine pw_iconst (v := (0 : Int32)) (by decide) 104 dX7_away_103 rfl ?_
        refine pw_istore [(9, .int (0 : Int32)), (8, .int (1 : Int32)), (0, .ref (G.1 + 298)), (1, .int y1), (2, .int y2), (3, .int y3), (4, .int y4), (5, .int y5), (6, .int y6), (7, .int y7)] 106 dX7_away_104 rfl (Nat.le_of_ble_eq_true rfl) rfl ?_
        obtain ⟨z20, h21, qj27⟩ := bd1_e qj27
        have hL106_h21 : PW G (KM l G RX7 cX7_away 10 (some .int) wsX7_away 5 (Qi G r mF)) 160 [(0, .ref (G.1 + 298)), (1, .int y1), (2, .int y2), (3, .int y3), (4, .int y4), (5, .int y5), (6, .int y6), (7, .int y7), (8, .int z20)] [] m := by
          refine pw_aload_n 0 rfl rfl 161 dX7_away_160 rfl ?_
          refine pw_iload 4 rfl 163 dX7_away_161 rfl ?_
          refine pw_iload 7 rfl 165 dX7_away_163 rfl ?_
          refine pw_iconst (v := (-1 : Int32)) (by decide) 166 dX7_away_165 rfl ?_
          refine pw_ixor 167 dX7_away_166 rfl ?_
          refine pw_iand 168 dX7_away_167 rfl ?_
          obtain ⟨m22, hm22, qj27⟩ := bd1_e qj27
          refine pw_callVv 171 dX7_away_168 rfl [.int (y4 &&& (y7 ^^^ (-1 : Int32)))] 1 ⟨gX7_away_X7_triesBy, rfl, sgV_X7_triesBy, ⟨Nat.le_of_ble_eq_true rfl, Nat.le_of_ble_eq_true rfl⟩, ⟨Nat.le_refl _, Nat.le_refl _⟩⟩ ly_298 (by decide) la_298 rfl (k_X7_triesBy hm22) rfl rfl (Nat.le_of_ble_eq_true rfl) ?_
          refine pw_aload_n 0 rfl rfl 172 dX7_away_171 rfl ?_
          refine pw_iload_n 1 rfl rfl 173 dX7_away_172 rfl ?_
          obtain ⟨m23, hm23, qj27⟩ := bd1_e qj27
          refine pw_callVv 176 dX7_away_173 rfl [.int y1] 1 ⟨gX7_away_X7_goesOn, rfl, sgV_X7_goesOn, ⟨Nat.le_of_ble_eq_true rfl, Nat.le_of_ble_eq_true rfl⟩, ⟨Nat.le_refl _, Nat.le_refl _⟩⟩ ly_298 (by decide) la_298 rfl (k_X7_goesOn hm23) rfl rfl (Nat.le_of_ble_eq_true rfl) ?_
          refine pw_iload 5 rfl 178 dX7_away_176 rfl ?_
          refine pw_aload_n 0 rfl rfl 179 dX7_away_178 rfl ?_
          refine pw_getR 15 182 dX7_away_179 rfl fi_X7_away_7 lk_X7_away_31 la_298 ly_298 (by decide) rfl (by decide) rfl rf_298_15 ?_
          refine pw_iconst (v := (4 : Int32)) (by decide) 183 dX7_away_182 rfl ?_
          refine pw_iald 184 dX7_away_183 rfl la_306 ly_306 (vp_lit rfl rfl) ?_
          refine pw_aload_n 0 rfl rfl 185 dX7_away_184 rfl ?_
          refine pw_getR 15 188 dX7_away_185 rfl fi_X7_away_7 lk_X7_away_31 la_298 ly_298 (by decide) rfl (by decide) rfl rf_298_15 ?_
          refine pw_iconst (v := (0 : Int32)) (by decide) 189 dX7_away_188 rfl ?_
          refine pw_iald 190 dX7_away_189 rfl la_306 ly_306 (vp_lit rfl rfl) ?_
          obtain ⟨j25, ej25, qj27⟩ := nmE_ qj27
          have hJ199_j25 : PW G (KM l G RX7 cX7_away 10 (some .int) wsX7_away 5 (Qi G r mF)) 199 [(0, .ref (G.1 + 298)), (1, .int y1), (2, .int y2), (3, .int y3), (4, .int y4), (6, .int y6), (7, .int y7)] [.int j25, .int y5] m23 := by
            refine pw_iadd 200 dX7_away_199 rfl ?_
            obtain ⟨v26, ev26, qj27⟩ := nmE_ qj27
            refine pw_top ev26 ?_
            refine pw_istore [(5, .int v26), (0, .ref (G.1 + 298)), (1, .int y1), (2, .int y2), (3, .int y3), (4, .int y4), (6, .int y6), (7, .int y7)] 202 dX7_away_200 rfl (Nat.le_of_ble_eq_true rfl) rfl ?_
            refine pw_sub [1, 2, 3, 4, 5, 0, 6, 7] [(0, .ref (G.1 + 298)), (1, .int y1), (2, .int y2), (3, .int y3), (4, .int y4), (5, .int v26), (6, .int y6), (7, .int y7)] rfl ?_
            cases qj27; exact hJ202_j27
          refine pw_icmp_lt 198 193 dX7_away_190 (by decide) rfl (fun c24 => ?_) (fun c24 => ?_)
          · have ej25 := if_tv ej25 c24
            refine pw_iconst (v := (0 : Int32)) (by decide) 199 dX7_away_198 rfl ?_
            refine pw_sub [0, 1, 2, 3, 4, 6, 7] [(0, .ref (G.1 + 298)), (1, .int y1), (2, .int y2), (3, .int y3), (4, .int y4), (6, .int y6), (7, .int y7)] rfl ?_
            subst ej25; exact hJ199_j25
          · have ej25 := if_fv ej25 c24
            refine pw_iload 8 rfl 195 dX7_away_193 rfl ?_
            refine pw_goto 199 dX7_away_195 (by decide) ?_
            refine pw_sub [0, 1, 2, 3, 4, 6, 7] [(0, .ref (G.1 + 298)), (1, .int y1), (2, .int y2), (3, .int y3), (4, .int y4), (6, .int y6), (7, .int y7)] rfl ?_
            subst ej25; exact hJ199_j25
        refine pw_sub [2, 3, 4, 5, 6, 7, 8, 9, 1, 0] [(0, .ref (G.1 + 298)), (1, .int y1), (2, .int y2), (3, .int y3), (4, .int y4), (5, .int y5), (6, .int y6), (7, .int y7), (8, .int (1 : Int32)), (9, .int (0 : Int32))] rfl ?_
        exact kl_X7_away_106 FU y1 y2 y3 y4 y5 y6 y7 (1 : Int32) (0 : Int32) m z20 h21 hL106_h21
set_option maxHeartbeats 4000000 in
set_option maxRecDepth 100000 in
theorem kl_X7_away_216 {l : Launch} {G : Gx}  {r : Int32} {mF : Mm}  : ∀ (n : Nat) (y3 : Int32) (y5 : Int32) (y6 : Int32) (y7 : Int32) (y8 : Int32) (m : Mm) (a0 : Int32), lp_X7_away_216 n y3 y5 y6 y7 y8 m = some a0 → PW G (KM l G RX7 cX7_away 10 (some .int) wsX7_away 5 (Qi G r mF)) 239 [(3, .int y3), (5, .int y5), (6, .int y6), (7, .int a0)] [] m → PW G (KM l G RX7 cX7_away 10 (some .int) wsX7_away 5 (Qi G r mF)) 216 [(3, .int y3), (5, .int y5), (6, .int y6), (7, .int y7), (8, .int y8)] [] m := by
  intro n
  induction n with
  | zero => intro y3 y5 y6 y7 y8 m a0 h hk; cases h
  | succ n ih =>
    intro y3 y5 y6 y7 y8 m a0 h hk
    have h : lb_X7_away_216 (lp_X7_away_216 n) y3 y5 y6 y7 y8 m = _ := h
    unfold lb_X7_away_216 at h
    refine pw_iload 4 rfl 218 dX7_away_216 rfl ?_
    refine pw_if_eq 239 221 dX7_away_218 (by decide) rfl (fun c33 => ?_) (fun c33 => ?_)
    · have h := if_t h c33
      refine pw_sub [0, 1, 2, 3] [(3, .int y3), (5, .int y5), (6, .int y6), (7, .int y7)] rfl ?_
      cases h; exact hk
    · have h := if_f h c33
      refine pw_iload 3 rfl 223 dX7_away_221 rfl ?_
      refine pw_iload 4 rfl 225 dX7_away_223 rfl ?_
      obtain ⟨h34, h⟩ := gd_e h
      refine pw_irem h34 226 dX7_away_225 rfl ?_
      obtain ⟨v35, ev35, h⟩ := nmE_ h
      refine pw_top ev35 ?_
      refine pw_istore [(9, .int v35), (3, .int y3), (5, .int y5), (6, .int y6), (7, .int y7), (8, .int y8)] 228 dX7_away_226 rfl (Nat.le_of_ble_eq_true rfl) rfl ?_
      refine pw_iload 5 rfl 230 dX7_away_228 rfl ?_
      refine pw_istore [(7, .int y8), (9, .int v35), (3, .int y3), (5, .int y5), (6, .int y6), (8, .int y8)] 232 dX7_away_230 rfl (Nat.le_of_ble_eq_true rfl) rfl ?_
      refine pw_iload 1 rfl 234 dX7_away_232 rfl ?_
      refine pw_istore [(8, .int v35), (7, .int y8), (9, .int v35), (3, .int y3), (5, .int y5), (6, .int y6)] 236 dX7_away_234 rfl (Nat.le_of_ble_eq_true rfl) rfl ?_
      refine pw_goto 216 dX7_away_236 (by decide) ?_
      refine pw_sub [3, 4, 5, 1, 0] [(3, .int y3), (5, .int y5), (6, .int y6), (7, .int y8), (8, .int v35)] rfl ?_
      exact ih y3 y5 y6 y8 v35 m a0 h hk
set_option maxHeartbeats 4000000 in
set_option maxRecDepth 100000 in
theorem k_X7_away {l : Launch} {G : Gx} {x1 : Int32} {x2 : Int32} {x3 : Int32} {m mF : Mm} {r : Int32}  (h : f_X7_away x1 x2 x3 m = some (r, mF)) : Cn l G 5 yX7_away wsX7_away [.ref (G.1 + 298), .int x1, .int x2, .int x3] m (Qi G r mF) := by
  unfold f_X7_away at h
  refine Cn.of (own := RX7) (lv := [(0, .ref (G.1 + 298)), (1, .int x1), (2, .int x2), (3, .int x3)]) (by decide) rfl rfl (Nat.le_of_ble_eq_true rfl) rfl ?_
  refine pw_aload_n 0 rfl rfl 1 dX7_away_0 rfl ?_
  refine pw_callVi 4 dX7_away_1 rfl [] 0 ⟨gX7_away_X7_isWedding, rfl, sgV_X7_isWedding, ⟨Nat.le_of_ble_eq_true rfl, Nat.le_of_ble_eq_true rfl⟩, ⟨Nat.le_refl _, Nat.le_refl _⟩⟩ ly_298 (by decide) la_298 rfl (k_X7_isWedding rfl) rfl rfl (Nat.le_of_ble_eq_true rfl) ?_
  refine pw_if_ne 10 7 dX7_away_4 (by decide) rfl (fun c1 => ?_) (fun c1 => ?_)
  · have h := if_f h c1
    refine pw_iload_n 1 rfl rfl 11 dX7_away_10 rfl ?_
    refine pw_iconst (v := (0 : Int32)) (by decide) 12 dX7_away_11 rfl ?_
    refine pw_bipush (v := (30 : Int32)) (by decide) 14 dX7_away_12 rfl ?_
    refine pw_callSi 17 dX7_away_14 rfl [.int x1, .int (0 : Int32), .int (30 : Int32)] 3 ⟨gX7_away_X7_in, rfl, sgS_X7_in, ⟨Nat.le_of_ble_eq_true rfl, Nat.le_of_ble_eq_true rfl⟩, ⟨Nat.le_refl _, Nat.le_refl _⟩⟩ (k_X7_in rfl) rfl rfl (Nat.le_of_ble_eq_true rfl) ?_
    refine pw_if_eq 39 20 dX7_away_17 (by decide) rfl (fun c2 => ?_) (fun c2 => ?_)
    · have h := if_t h c2
      refine pw_ldc 41 lw_X7_away_c67 dX7_away_39 rfl ?_
      exact pw_iret dX7_away_41 (pr_inj h)
    · have h := if_f h c2
      refine pw_iload_n 2 rfl rfl 21 dX7_away_20 rfl ?_
      refine pw_iconst (v := (0 : Int32)) (by decide) 22 dX7_away_21 rfl ?_
      refine pw_bipush (v := (10 : Int32)) (by decide) 24 dX7_away_22 rfl ?_
      refine pw_callSi 27 dX7_away_24 rfl [.int x2, .int (0 : Int32), .int (10 : Int32)] 3 ⟨gX7_away_X7_in, rfl, sgS_X7_in, ⟨Nat.le_of_ble_eq_true rfl, Nat.le_of_ble_eq_true rfl⟩, ⟨Nat.le_refl _, Nat.le_refl _⟩⟩ (k_X7_in rfl) rfl rfl (Nat.le_of_ble_eq_true rfl) ?_
      refine pw_if_eq 39 30 dX7_away_27 (by decide) rfl (fun c3 => ?_) (fun c3 => ?_)
      · have h := if_t h c3
        refine pw_ldc 41 lw_X7_away_c67 dX7_away_39 rfl ?_
        exact pw_iret dX7_away_41 (pr_inj h)
      · have h := if_f h c3
        refine pw_iload_n 3 rfl rfl 31 dX7_away_30 rfl ?_
        refine pw_iconst (v := (0 : Int32)) (by decide) 32 dX7_away_31 rfl ?_
        refine pw_iconst (v := (1 : Int32)) (by decide) 33 dX7_away_32 rfl ?_
        refine pw_callSi 36 dX7_away_33 rfl [.int x3, .int (0 : Int32), .int (1 : Int32)] 3 ⟨gX7_away_X7_in, rfl, sgS_X7_in, ⟨Nat.le_of_ble_eq_true rfl, Nat.le_of_ble_eq_true rfl⟩, ⟨Nat.le_refl _, Nat.le_refl _⟩⟩ (k_X7_in rfl) rfl rfl (Nat.le_of_ble_eq_true rfl) ?_
        refine pw_if_ne 42 39 dX7_away_36 (by decide) rfl (fun c4 => ?_) (fun c4 => ?_)
        · have h := if_f h c4
          refine pw_aload_n 0 rfl rfl 43 dX7_away_42 rfl ?_
          obtain ⟨r5, hr5, h⟩ := bd1_e h
          refine pw_callVi 46 dX7_away_43 rfl [] 0 ⟨gX7_away_X7_hired, rfl, sgV_X7_hired, ⟨Nat.le_of_ble_eq_true rfl, Nat.le_of_ble_eq_true rfl⟩, ⟨Nat.le_refl _, Nat.le_refl _⟩⟩ ly_298 (by decide) la_298 rfl (k_X7_hired hr5) rfl rfl (Nat.le_of_ble_eq_true rfl) ?_
          refine pw_istore [(4, .int r5), (0, .ref (G.1 + 298)), (1, .int x1), (2, .int x2), (3, .int x3)] 48 dX7_away_46 rfl (Nat.le_of_ble_eq_true rfl) rfl ?_
          refine pw_iconst (v := (0 : Int32)) (by decide) 49 dX7_away_48 rfl ?_
          refine pw_istore [(5, .int (0 : Int32)), (4, .int r5), (0, .ref (G.1 + 298)), (1, .int x1), (2, .int x2), (3, .int x3)] 51 dX7_away_49 rfl (Nat.le_of_ble_eq_true rfl) rfl ?_
          refine pw_iconst (v := (1 : Int32)) (by decide) 52 dX7_away_51 rfl ?_
          refine pw_istore [(6, .int (1 : Int32)), (5, .int (0 : Int32)), (4, .int r5), (0, .ref (G.1 + 298)), (1, .int x1), (2, .int x2), (3, .int x3)] 54 dX7_away_52 rfl (Nat.le_of_ble_eq_true rfl) rfl ?_
          refine pw_iconst (v := (0 : Int32)) (by decide) 55 dX7_away_54 rfl ?_
          refine pw_istore [(7, .int (0 : Int32)), (6, .int (1 : Int32)), (5, .int (0 : Int32)), (4, .int r5), (0, .ref (G.1 + 298)), (1, .int x1), (2, .int x2), (3, .int x3)] 57 dX7_away_55 rfl (Nat.le_of_ble_eq_true rfl) rfl ?_
          obtain ⟨z10, h11, h⟩ := bd1_e h
          have hL57_h11 : PW G (KM l G RX7 cX7_away 10 (some .int) wsX7_away 5 (Qi G r mF)) 80 [(0, .ref (G.1 + 298)), (1, .int x1), (2, .int x2), (3, .int x3), (4, .int r5), (5, .int (0 : Int32)), (6, .int z10)] [] m := by
            refine pw_iconst (v := (0 : Int32)) (by decide) 81 dX7_away_80 rfl ?_
            refine pw_istore [(7, .int (0 : Int32)), (0, .ref (G.1 + 298)), (1, .int x1), (2, .int x2), (3, .int x3), (4, .int r5), (5, .int (0 : Int32)), (6, .int z10)] 83 dX7_away_81 rfl (Nat.le_of_ble_eq_true rfl) rfl ?_
            obtain ⟨z30, m31, h32, h⟩ := bd2_e h
            have hL83_h32 : PW G (KM l G RX7 cX7_away 10 (some .int) wsX7_away 5 (Qi G r mF)) 208 [(3, .int x3), (5, .int z30), (6, .int z10)] [] m31 := by
              refine pw_iload 1 rfl 210 dX7_away_208 rfl ?_
              refine pw_istore [(7, .int z30), (3, .int x3), (5, .int z30), (6, .int z10)] 212 dX7_away_210 rfl (Nat.le_of_ble_eq_true rfl) rfl ?_
              refine pw_iload 3 rfl 214 dX7_away_212 rfl ?_
              refine pw_istore [(8, .int z10), (7, .int z30), (3, .int x3), (5, .int z30), (6, .int z10)] 216 dX7_away_214 rfl (Nat.le_of_ble_eq_true rfl) rfl ?_
              obtain ⟨z36, h37, h⟩ := bd1_e h
              have hL216_h37 : PW G (KM l G RX7 cX7_away 10 (some .int) wsX7_away 5 (Qi G r mF)) 239 [(3, .int x3), (5, .int z30), (6, .int z10), (7, .int z36)] [] m31 := by
                refine pw_iload_n 0 rfl rfl 240 dX7_away_239 rfl ?_
                obtain ⟨j39, ej39, h⟩ := nmE_ h
                have hJ250_j39 : PW G (KM l G RX7 cX7_away 10 (some .int) wsX7_away 5 (Qi G r mF)) 250 [(7, .int z36)] [.int j39] m31 := by
                  refine pw_iload 0 rfl 252 dX7_away_250 rfl ?_
                  obtain ⟨h40, h⟩ := gd_e h
                  refine pw_idiv h40 253 dX7_away_252 rfl ?_
                  exact pw_iret dX7_away_253 (pr_inj h)
                refine pw_if_ne 248 243 dX7_away_240 (by decide) rfl (fun c38 => ?_) (fun c38 => ?_)
                · have ej39 := if_fv ej39 c38
                  refine pw_iload 2 rfl 250 dX7_away_248 rfl ?_
                  refine pw_sub [3] [(7, .int z36)] rfl ?_
                  subst ej39; exact hJ250_j39
                · have ej39 := if_tv ej39 c38
                  refine pw_iload 1 rfl 245 dX7_away_243 rfl ?_
                  refine pw_goto 250 dX7_away_245 (by decide) ?_
                  refine pw_sub [3] [(7, .int z36)] rfl ?_
                  subst ej39; exact hJ250_j39
              refine pw_sub [2, 3, 4, 1, 0] [(3, .int x3), (5, .int z30), (6, .int z10), (7, .int z30), (8, .int z10)] rfl ?_
              exact kl_X7_away_216 FU x3 z30 z10 z30 z10 m31 z36 h37 hL216_h37
            refine pw_sub [1, 2, 3, 4, 5, 6, 7, 0] [(0, .ref (G.1 + 298)), (1, .int x1), (2, .int x2), (3, .int x3), (4, .int r5), (5, .int (0 : Int32)), (6, .int z10), (7, .int (0 : Int32))] rfl ?_
            exact kl_X7_away_83 FU x1 x2 x3 r5 (0 : Int32) z10 (0 : Int32) m z30 m31 h32 hL83_h32
          refine pw_sub [4, 5, 6, 7, 3, 2, 1, 0] [(0, .ref (G.1 + 298)), (1, .int x1), (2, .int x2), (3, .int x3), (4, .int r5), (5, .int (0 : Int32)), (6, .int (1 : Int32)), (7, .int (0 : Int32))] rfl ?_
          exact kl_X7_away_57 FU x1 x2 x3 r5 (0 : Int32) (1 : Int32) (0 : Int32) m z10 h11 hL57_h11
        · have h := if_t h c4
          refine pw_ldc 41 lw_X7_away_c67 dX7_away_39 rfl ?_
          exact pw_iret dX7_away_41 (pr_inj h)
  · have h := if_t h c1
    refine pw_ldc 9 lw_X7_away_c169 dX7_away_7 rfl ?_
    exact pw_iret dX7_away_9 (pr_inj h)
theorem lw_X7_drawn_c67 : Cond.constant RX7 67 (-1000001 : Int32) ∈ wsX7_drawn := by decide +kernel
theorem lw_X7_drawn_c212 : Cond.constant RX7 212 (999999 : Int32) ∈ wsX7_drawn := by decide +kernel
theorem fi_X7_drawn_7 : ∀ w ∈ wsX70, w ∈ wsX7_drawn := by decide +kernel
theorem lk_X7_drawn_25 : Cond.fieldLink RX7 25 (TX7 13).1 (TX7 13).2.1 (TX7 13).2.2.1 ∈ wsX7_drawn := by decide +kernel
theorem lk_X7_drawn_31 : Cond.fieldLink RX7 31 (TX7 15).1 (TX7 15).2.1 (TX7 15).2.2.1 ∈ wsX7_drawn := by decide +kernel
theorem lw_X7_drawn_c213 : Cond.constantLong RX7 213 (16807 : Int64) ∈ wsX7_drawn := by decide +kernel
theorem lw_X7_drawn_c215 : Cond.constantLong RX7 215 (2147483647 : Int64) ∈ wsX7_drawn := by decide +kernel
theorem lw_X7_drawn_c217 : Cond.constantLong RX7 217 (7 : Int64) ∈ wsX7_drawn := by decide +kernel
theorem lw_X7_drawn_c169 : Cond.constant RX7 169 (-1000002 : Int32) ∈ wsX7_drawn := by decide +kernel
set_option maxHeartbeats 4000000 in
set_option maxRecDepth 100000 in
theorem kl_X7_drawn_62 {l : Launch} {G : Gx}  {r : Int32} {mF : Mm}  : ∀ (n : Nat) (y1 : Int32) (y3 : Int32) (y4 : Int64) (y6 : Int32) (m : Mm) (a0 : Mm), lp_X7_drawn_62 n y1 y3 y4 y6 m = some a0 → PW G (KM l G RX7 cX7_drawn 9 (some .int) wsX7_drawn 4 (Qi G r mF)) 182 [(0, .ref (G.1 + 298)), (3, .int y3)] [] a0 → PW G (KM l G RX7 cX7_drawn 9 (some .int) wsX7_drawn 4 (Qi G r mF)) 62 [(0, .ref (G.1 + 298)), (1, .int y1), (3, .int y3), (4, .long y4), (6, .int y6)] [] m := by
  intro n
  induction n with
  | zero => intro y1 y3 y4 y6 m a0 h hk; cases h
  | succ n ih =>
    intro y1 y3 y4 y6 m a0 h hk
    have h : lb_X7_drawn_62 (lp_X7_drawn_62 n) y1 y3 y4 y6 m = _ := h
    unfold lb_X7_drawn_62 at h
    refine pw_iload 4 rfl 64 dX7_drawn_62 rfl ?_
    refine pw_iload_n 1 rfl rfl 65 dX7_drawn_64 rfl ?_
    refine pw_icmp_ge 182 68 dX7_drawn_65 (by decide) rfl (fun c7 => ?_) (fun c7 => ?_)
    · have h := if_t h c7
      refine pw_sub [0, 2] [(0, .ref (G.1 + 298)), (3, .int y3)] rfl ?_
      cases h; exact hk
    · have h := if_f h c7
      refine pw_lload 3 rfl 70 dX7_drawn_68 rfl ?_
      refine pw_ldc2 73 lw_X7_drawn_c213 dX7_drawn_70 rfl ?_
      refine pw_lmul 74 dX7_drawn_73 rfl ?_
      refine pw_ldc2 77 lw_X7_drawn_c215 dX7_drawn_74 rfl ?_
      refine pw_lrem (by decide) 78 dX7_drawn_77 rfl ?_
      obtain ⟨v8, ev8, h⟩ := nmE_ h
      refine pw_topl ev8 ?_
      refine pw_lstore [(4, .long v8), (0, .ref (G.1 + 298)), (1, .int y1), (3, .int y3), (6, .int y6)] 80 dX7_drawn_78 rfl (Nat.le_of_ble_eq_true rfl) rfl ?_
      refine pw_lload 0 rfl 82 dX7_drawn_80 rfl ?_
      refine pw_aload_n 1 rfl rfl 83 dX7_drawn_82 rfl ?_
      refine pw_getR 13 86 dX7_drawn_83 rfl fi_X7_drawn_7 lk_X7_drawn_25 la_298 ly_298 (by decide) rfl (by decide) rfl rf_298_13 ?_
      refine pw_iconst (v := (2 : Int32)) (by decide) 87 dX7_drawn_86 rfl ?_
      refine pw_iald 88 dX7_drawn_87 rfl la_304 ly_304 (vp_lit rfl rfl) ?_
      refine pw_i2l 89 dX7_drawn_88 rfl ?_
      obtain ⟨h9, h⟩ := gd_e h
      refine pw_lrem h9 90 dX7_drawn_89 rfl ?_
      refine pw_l2i 91 dX7_drawn_90 rfl ?_
      obtain ⟨v10, ev10, h⟩ := nmE_ h
      refine pw_top ev10 ?_
      refine pw_istore [(7, .int v10), (4, .long v8), (0, .ref (G.1 + 298)), (1, .int y1), (3, .int y3), (6, .int y6)] 93 dX7_drawn_91 rfl (Nat.le_of_ble_eq_true rfl) rfl ?_
      refine pw_aload_n 2 rfl rfl 94 dX7_drawn_93 rfl ?_
      refine pw_getR 15 97 dX7_drawn_94 rfl fi_X7_drawn_7 lk_X7_drawn_31 la_298 ly_298 (by decide) rfl (by decide) rfl rf_298_15 ?_
      refine pw_iload 0 rfl 99 dX7_drawn_97 rfl ?_
      refine pw_iconst (v := (1 : Int32)) (by decide) 100 dX7_drawn_99 rfl ?_
      refine pw_aload_n 2 rfl rfl 101 dX7_drawn_100 rfl ?_
      refine pw_getR 15 104 dX7_drawn_101 rfl fi_X7_drawn_7 lk_X7_drawn_31 la_298 ly_298 (by decide) rfl (by decide) rfl rf_298_15 ?_
      refine pw_bipush (v := (6 : Int32)) (by decide) 106 dX7_drawn_104 rfl ?_
      refine pw_bipush (v := (7 : Int32)) (by decide) 108 dX7_drawn_106 rfl ?_
      refine pw_iload 0 rfl 110 dX7_drawn_108 rfl ?_
      refine pw_imul 111 dX7_drawn_110 rfl ?_
      refine pw_iadd 112 dX7_drawn_111 rfl ?_
      refine pw_iconst (v := (5 : Int32)) (by decide) 113 dX7_drawn_112 rfl ?_
      refine pw_iadd 114 dX7_drawn_113 rfl ?_
      obtain ⟨h11, h⟩ := gd_e h
      refine pw_iald 115 dX7_drawn_114 rfl la_306 ly_306 h11 ?_
      refine pw_isub 116 dX7_drawn_115 rfl ?_
      obtain ⟨m12, hm12, h⟩ := bd1_e h
      refine pw_callSv 119 dX7_drawn_116 rfl [.ref (G.1 + 306), .int v10, .int ((1 : Int32) - (m 306 (ix (((6 : Int32) + ((7 : Int32) * v10)) + (5 : Int32)))))] 3 ⟨gX7_drawn_X7_hires, rfl, sgS_X7_hires, ⟨Nat.le_of_ble_eq_true rfl, Nat.le_of_ble_eq_true rfl⟩, ⟨Nat.le_refl _, Nat.le_refl _⟩⟩ (k_X7_hires la_306 ly_306 hm12) rfl rfl (Nat.le_of_ble_eq_true rfl) ?_
      refine pw_lload 1 rfl 121 dX7_drawn_119 rfl ?_
      refine pw_ldc2 124 lw_X7_drawn_c217 dX7_drawn_121 rfl ?_
      refine pw_lrem (by decide) 125 dX7_drawn_124 rfl ?_
      refine pw_l2i 126 dX7_drawn_125 rfl ?_
      obtain ⟨v13, ev13, h⟩ := nmE_ h
      refine pw_top ev13 ?_
      refine pw_istore [(8, .int v13), (7, .int v10), (4, .long v8), (0, .ref (G.1 + 298)), (1, .int y1), (3, .int y3), (6, .int y6)] 128 dX7_drawn_126 rfl (Nat.le_of_ble_eq_true rfl) rfl ?_
      refine pw_iload 0 rfl 130 dX7_drawn_128 rfl ?_
      refine pw_iconst (v := (1 : Int32)) (by decide) 131 dX7_drawn_130 rfl ?_
      refine pw_iadd 132 dX7_drawn_131 rfl ?_
      refine pw_aload_n 3 rfl rfl 133 dX7_drawn_132 rfl ?_
      refine pw_getR 13 136 dX7_drawn_133 rfl fi_X7_drawn_7 lk_X7_drawn_25 la_298 ly_298 (by decide) rfl (by decide) rfl rf_298_13 ?_
      refine pw_iconst (v := (2 : Int32)) (by decide) 137 dX7_drawn_136 rfl ?_
      refine pw_iald 138 dX7_drawn_137 rfl la_304 ly_304 (vp_lit rfl rfl) ?_
      obtain ⟨m18, qm18, h⟩ := bd1_e h
      have hJ168_m18 : PW G (KM l G RX7 cX7_drawn 9 (some .int) wsX7_drawn 4 (Qi G r mF)) 168 [(0, .ref (G.1 + 298)), (1, .int y1), (3, .int y3), (4, .long v8), (6, .int y6)] [] m18 := by
        refine pw_aload_n 0 rfl rfl 169 dX7_drawn_168 rfl ?_
        refine pw_aload_n 0 rfl rfl 170 dX7_drawn_169 rfl ?_
        refine pw_getR 15 173 dX7_drawn_170 rfl fi_X7_drawn_7 lk_X7_drawn_31 la_298 ly_298 (by decide) rfl (by decide) rfl rf_298_15 ?_
        obtain ⟨m19, hm19, h⟩ := bd1_e h
        refine pw_callVv 176 dX7_drawn_173 rfl [.ref (G.1 + 306)] 1 ⟨gX7_drawn_X7_passes, rfl, sgV_X7_passes, ⟨Nat.le_of_ble_eq_true rfl, Nat.le_of_ble_eq_true rfl⟩, ⟨Nat.le_refl _, Nat.le_refl _⟩⟩ ly_298 (by decide) la_298 rfl (k_X7_passes la_306 ly_306 hm19) rfl rfl (Nat.le_of_ble_eq_true rfl) ?_
        obtain ⟨v20, ev20, h⟩ := nmE_ h
        refine pw_iinc 4 rfl (by rw [ev20]; rfl) [(6, .int v20), (0, .ref (G.1 + 298)), (1, .int y1), (3, .int y3), (4, .long v8)] 179 dX7_drawn_176 rfl (Nat.le_of_ble_eq_true rfl) rfl ?_
        refine pw_goto 62 dX7_drawn_179 (by decide) ?_
        refine pw_sub [1, 2, 3, 4, 0] [(0, .ref (G.1 + 298)), (1, .int y1), (3, .int y3), (4, .long v8), (6, .int v20)] rfl ?_
        exact ih y1 y3 v8 v20 m19 a0 h hk
      refine pw_icmp_ge 168 141 dX7_drawn_138 (by decide) rfl (fun c14 => ?_) (fun c14 => ?_)
      · have qm18 := if_t qm18 c14
        refine pw_sub [3, 4, 5, 2, 6] [(0, .ref (G.1 + 298)), (1, .int y1), (3, .int y3), (4, .long v8), (6, .int y6)] rfl ?_
        cases qm18; exact hJ168_m18
      · have qm18 := if_f qm18 c14
        refine pw_aload_n 3 rfl rfl 142 dX7_drawn_141 rfl ?_
        refine pw_getR 15 145 dX7_drawn_142 rfl fi_X7_drawn_7 lk_X7_drawn_31 la_298 ly_298 (by decide) rfl (by decide) rfl rf_298_15 ?_
        refine pw_aload_n 3 rfl rfl 146 dX7_drawn_145 rfl ?_
        refine pw_getR 15 149 dX7_drawn_146 rfl fi_X7_drawn_7 lk_X7_drawn_31 la_298 ly_298 (by decide) rfl (by decide) rfl rf_298_15 ?_
        refine pw_iload 0 rfl 151 dX7_drawn_149 rfl ?_
        obtain ⟨r15, hr15, qm18⟩ := bd1_e qm18
        refine pw_callSi 154 dX7_drawn_151 rfl [.ref (G.1 + 306), .int v13] 2 ⟨gX7_drawn_X7_inSeat, rfl, sgS_X7_inSeat, ⟨Nat.le_of_ble_eq_true rfl, Nat.le_of_ble_eq_true rfl⟩, ⟨Nat.le_refl _, Nat.le_refl _⟩⟩ (k_X7_inSeat la_306 ly_306 hr15) rfl rfl (Nat.le_of_ble_eq_true rfl) ?_
        refine pw_aload_n 3 rfl rfl 155 dX7_drawn_154 rfl ?_
        refine pw_getR 15 158 dX7_drawn_155 rfl fi_X7_drawn_7 lk_X7_drawn_31 la_298 ly_298 (by decide) rfl (by decide) rfl rf_298_15 ?_
        refine pw_iload 0 rfl 160 dX7_drawn_158 rfl ?_
        refine pw_iconst (v := (1 : Int32)) (by decide) 161 dX7_drawn_160 rfl ?_
        refine pw_iadd 162 dX7_drawn_161 rfl ?_
        obtain ⟨r16, hr16, qm18⟩ := bd1_e qm18
        refine pw_callSi 165 dX7_drawn_162 rfl [.ref (G.1 + 306), .int (v13 + (1 : Int32))] 2 ⟨gX7_drawn_X7_inSeat, rfl, sgS_X7_inSeat, ⟨Nat.le_of_ble_eq_true rfl, Nat.le_of_ble_eq_true rfl⟩, ⟨Nat.le_refl _, Nat.le_refl _⟩⟩ (k_X7_inSeat la_306 ly_306 hr16) rfl rfl (Nat.le_of_ble_eq_true rfl) ?_
        obtain ⟨m17, hm17, qm18⟩ := bd1_e qm18
        refine pw_callSv 168 dX7_drawn_165 rfl [.ref (G.1 + 306), .int r15, .int r16] 3 ⟨gX7_drawn_X7_changes, rfl, sgS_X7_changes, ⟨Nat.le_of_ble_eq_true rfl, Nat.le_of_ble_eq_true rfl⟩, ⟨Nat.le_refl _, Nat.le_refl _⟩⟩ (k_X7_changes la_306 ly_306 hm17) rfl rfl (Nat.le_of_ble_eq_true rfl) ?_
        refine pw_sub [3, 4, 5, 2, 6] [(0, .ref (G.1 + 298)), (1, .int y1), (3, .int y3), (4, .long v8), (6, .int y6)] rfl ?_
        cases qm18; exact hJ168_m18
set_option maxHeartbeats 4000000 in
set_option maxRecDepth 100000 in
theorem k_X7_drawn {l : Launch} {G : Gx} {x1 : Int32} {x2 : Int32} {x3 : Int32} {m mF : Mm} {r : Int32}  (h : f_X7_drawn x1 x2 x3 m = some (r, mF)) : Cn l G 4 yX7_drawn wsX7_drawn [.ref (G.1 + 298), .int x1, .int x2, .int x3] m (Qi G r mF) := by
  unfold f_X7_drawn at h
  refine Cn.of (own := RX7) (lv := [(0, .ref (G.1 + 298)), (1, .int x1), (2, .int x2), (3, .int x3)]) (by decide) rfl rfl (Nat.le_of_ble_eq_true rfl) rfl ?_
  refine pw_aload_n 0 rfl rfl 1 dX7_drawn_0 rfl ?_
  refine pw_callVi 4 dX7_drawn_1 rfl [] 0 ⟨gX7_drawn_X7_isWedding, rfl, sgV_X7_isWedding, ⟨Nat.le_of_ble_eq_true rfl, Nat.le_of_ble_eq_true rfl⟩, ⟨Nat.le_refl _, Nat.le_refl _⟩⟩ ly_298 (by decide) la_298 rfl (k_X7_isWedding rfl) rfl rfl (Nat.le_of_ble_eq_true rfl) ?_
  refine pw_if_ne 10 7 dX7_drawn_4 (by decide) rfl (fun c1 => ?_) (fun c1 => ?_)
  · have h := if_f h c1
    refine pw_iload_n 1 rfl rfl 11 dX7_drawn_10 rfl ?_
    refine pw_iconst (v := (0 : Int32)) (by decide) 12 dX7_drawn_11 rfl ?_
    refine pw_bipush (v := (60 : Int32)) (by decide) 14 dX7_drawn_12 rfl ?_
    refine pw_callSi 17 dX7_drawn_14 rfl [.int x1, .int (0 : Int32), .int (60 : Int32)] 3 ⟨gX7_drawn_X7_in, rfl, sgS_X7_in, ⟨Nat.le_of_ble_eq_true rfl, Nat.le_of_ble_eq_true rfl⟩, ⟨Nat.le_refl _, Nat.le_refl _⟩⟩ (k_X7_in rfl) rfl rfl (Nat.le_of_ble_eq_true rfl) ?_
    refine pw_if_eq 39 20 dX7_drawn_17 (by decide) rfl (fun c2 => ?_) (fun c2 => ?_)
    · have h := if_t h c2
      refine pw_ldc 41 lw_X7_drawn_c67 dX7_drawn_39 rfl ?_
      exact pw_iret dX7_drawn_41 (pr_inj h)
    · have h := if_f h c2
      refine pw_iload_n 2 rfl rfl 21 dX7_drawn_20 rfl ?_
      refine pw_iconst (v := (1 : Int32)) (by decide) 22 dX7_drawn_21 rfl ?_
      refine pw_ldc 24 lw_X7_drawn_c212 dX7_drawn_22 rfl ?_
      refine pw_callSi 27 dX7_drawn_24 rfl [.int x2, .int (1 : Int32), .int (999999 : Int32)] 3 ⟨gX7_drawn_X7_in, rfl, sgS_X7_in, ⟨Nat.le_of_ble_eq_true rfl, Nat.le_of_ble_eq_true rfl⟩, ⟨Nat.le_refl _, Nat.le_refl _⟩⟩ (k_X7_in rfl) rfl rfl (Nat.le_of_ble_eq_true rfl) ?_
      refine pw_if_eq 39 30 dX7_drawn_27 (by decide) rfl (fun c3 => ?_) (fun c3 => ?_)
      · have h := if_t h c3
        refine pw_ldc 41 lw_X7_drawn_c67 dX7_drawn_39 rfl ?_
        exact pw_iret dX7_drawn_41 (pr_inj h)
      · have h := if_f h c3
        refine pw_iload_n 3 rfl rfl 31 dX7_drawn_30 rfl ?_
        refine pw_iconst (v := (0 : Int32)) (by decide) 32 dX7_drawn_31 rfl ?_
        refine pw_iconst (v := (1 : Int32)) (by decide) 33 dX7_drawn_32 rfl ?_
        refine pw_callSi 36 dX7_drawn_33 rfl [.int x3, .int (0 : Int32), .int (1 : Int32)] 3 ⟨gX7_drawn_X7_in, rfl, sgS_X7_in, ⟨Nat.le_of_ble_eq_true rfl, Nat.le_of_ble_eq_true rfl⟩, ⟨Nat.le_refl _, Nat.le_refl _⟩⟩ (k_X7_in rfl) rfl rfl (Nat.le_of_ble_eq_true rfl) ?_
        refine pw_if_ne 42 39 dX7_drawn_36 (by decide) rfl (fun c4 => ?_) (fun c4 => ?_)
        · have h := if_f h c4
          refine pw_aload_n 0 rfl rfl 43 dX7_drawn_42 rfl ?_
          refine pw_getR 13 46 dX7_drawn_43 rfl fi_X7_drawn_7 lk_X7_drawn_25 la_298 ly_298 (by decide) rfl (by decide) rfl rf_298_13 ?_
          refine pw_iconst (v := (0 : Int32)) (by decide) 47 dX7_drawn_46 rfl ?_
          refine pw_aload_n 0 rfl rfl 48 dX7_drawn_47 rfl ?_
          refine pw_getR 15 51 dX7_drawn_48 rfl fi_X7_drawn_7 lk_X7_drawn_31 la_298 ly_298 (by decide) rfl (by decide) rfl rf_298_15 ?_
          refine pw_iconst (v := (0 : Int32)) (by decide) 52 dX7_drawn_51 rfl ?_
          obtain ⟨m5, hm5, h⟩ := bd1_e h
          refine pw_callSv 55 dX7_drawn_52 rfl [.ref (G.1 + 304), .int (0 : Int32), .ref (G.1 + 306), .int (0 : Int32)] 4 ⟨gX7_drawn_X7_copies, rfl, sgS_X7_copies, ⟨Nat.le_of_ble_eq_true rfl, Nat.le_of_ble_eq_true rfl⟩, ⟨Nat.le_refl _, Nat.le_refl _⟩⟩ (k_X7_copies la_304 ly_304 la_306 ly_306 hm5) rfl rfl (Nat.le_of_ble_eq_true rfl) ?_
          refine pw_iload_n 2 rfl rfl 56 dX7_drawn_55 rfl ?_
          refine pw_i2l 57 dX7_drawn_56 rfl ?_
          obtain ⟨v6, ev6, h⟩ := nmE_ h
          refine pw_topl ev6 ?_
          refine pw_lstore [(4, .long v6), (0, .ref (G.1 + 298)), (1, .int x1), (2, .int x2), (3, .int x3)] 59 dX7_drawn_57 rfl (Nat.le_of_ble_eq_true rfl) rfl ?_
          refine pw_iconst (v := (0 : Int32)) (by decide) 60 dX7_drawn_59 rfl ?_
          refine pw_istore [(6, .int (0 : Int32)), (4, .long v6), (0, .ref (G.1 + 298)), (1, .int x1), (2, .int x2), (3, .int x3)] 62 dX7_drawn_60 rfl (Nat.le_of_ble_eq_true rfl) rfl ?_
          obtain ⟨m21, h22, h⟩ := bd1_e h
          have hL62_h22 : PW G (KM l G RX7 cX7_drawn 9 (some .int) wsX7_drawn 4 (Qi G r mF)) 182 [(0, .ref (G.1 + 298)), (3, .int x3)] [] m21 := by
            refine pw_aload_n 0 rfl rfl 183 dX7_drawn_182 rfl ?_
            refine pw_getR 15 186 dX7_drawn_183 rfl fi_X7_drawn_7 lk_X7_drawn_31 la_298 ly_298 (by decide) rfl (by decide) rfl rf_298_15 ?_
            refine pw_iload_n 1 rfl rfl 187 dX7_drawn_186 rfl ?_
            obtain ⟨j24, ej24, h⟩ := nmE_ h
            have hJ195_j24 : PW G (KM l G RX7 cX7_drawn 9 (some .int) wsX7_drawn 4 (Qi G r mF)) 195 [] [.int j24, .ref (G.1 + 306)] m21 := by
              obtain ⟨h25, h⟩ := gd_e h
              refine pw_iald 196 dX7_drawn_195 rfl la_306 ly_306 h25 ?_
              exact pw_iret dX7_drawn_196 (pr_inj h)
            refine pw_if_ne 194 190 dX7_drawn_187 (by decide) rfl (fun c23 => ?_) (fun c23 => ?_)
            · have ej24 := if_fv ej24 c23
              refine pw_iconst (v := (5 : Int32)) (by decide) 195 dX7_drawn_194 rfl ?_
              refine pw_sub [] [] rfl ?_
              subst ej24; exact hJ195_j24
            · have ej24 := if_tv ej24 c23
              refine pw_iconst (v := (4 : Int32)) (by decide) 191 dX7_drawn_190 rfl ?_
              refine pw_goto 195 dX7_drawn_191 (by decide) ?_
              refine pw_sub [] [] rfl ?_
              subst ej24; exact hJ195_j24
          refine pw_sub [2, 3, 5, 1, 0] [(0, .ref (G.1 + 298)), (1, .int x1), (3, .int x3), (4, .long v6), (6, .int (0 : Int32))] rfl ?_
          exact kl_X7_drawn_62 FU x1 x3 v6 (0 : Int32) m5 m21 h22 hL62_h22
        · have h := if_t h c4
          refine pw_ldc 41 lw_X7_drawn_c67 dX7_drawn_39 rfl ?_
          exact pw_iret dX7_drawn_41 (pr_inj h)
  · have h := if_t h c1
    refine pw_ldc 9 lw_X7_drawn_c169 dX7_drawn_7 rfl ?_
    exact pw_iret dX7_drawn_9 (pr_inj h)
theorem fi_X7_image_7 : ∀ w ∈ wsX70, w ∈ wsX7_image := by decide +kernel
theorem lk_X7_image_25 : Cond.fieldLink RX7 25 (TX7 13).1 (TX7 13).2.1 (TX7 13).2.2.1 ∈ wsX7_image := by decide +kernel
theorem lk_X7_image_37 : Cond.fieldLink RX7 37 (TX7 18).1 (TX7 18).2.1 (TX7 18).2.2.1 ∈ wsX7_image := by decide +kernel
theorem lk_X7_image_40 : Cond.fieldLink RX7 40 (TX7 19).1 (TX7 19).2.1 (TX7 19).2.2.1 ∈ wsX7_image := by decide +kernel
theorem lw_X7_image_c169 : Cond.constant RX7 169 (-1000002 : Int32) ∈ wsX7_image := by decide +kernel
theorem lw_X7_image_c67 : Cond.constant RX7 67 (-1000001 : Int32) ∈ wsX7_image := by decide +kernel
set_option maxHeartbeats 4000000 in
set_option maxRecDepth 100000 in
theorem k_X7_image {l : Launch} {G : Gx} {x1 : Int32} {m mF : Mm} {r : Int32}  (h : f_X7_image x1 m = some (r, mF)) : Cn l G 1 yX7_image wsX7_image [.ref (G.1 + 298), .int x1] m (Qi G r mF) := by
  unfold f_X7_image at h
  refine Cn.of (own := RX7) (lv := [(0, .ref (G.1 + 298)), (1, .int x1)]) (by decide) rfl rfl (Nat.le_of_ble_eq_true rfl) rfl ?_
  refine pw_iload_n 1 rfl rfl 1 dX7_image_0 rfl ?_
  refine pw_iconst (v := (0 : Int32)) (by decide) 2 dX7_image_1 rfl ?_
  refine pw_iconst (v := (1 : Int32)) (by decide) 3 dX7_image_2 rfl ?_
  refine pw_callSi 6 dX7_image_3 rfl [.int x1, .int (0 : Int32), .int (1 : Int32)] 3 ⟨gX7_image_X7_in, rfl, sgS_X7_in, ⟨Nat.le_of_ble_eq_true rfl, Nat.le_of_ble_eq_true rfl⟩, ⟨Nat.le_refl _, Nat.le_refl _⟩⟩ (k_X7_in rfl) rfl rfl (Nat.le_of_ble_eq_true rfl) ?_
  refine pw_if_ne 12 9 dX7_image_6 (by decide) rfl (fun c1 => ?_) (fun c1 => ?_)
  · have h := if_f h c1
    refine pw_aload_n 0 rfl rfl 13 dX7_image_12 rfl ?_
    refine pw_callVi 16 dX7_image_13 rfl [] 0 ⟨gX7_image_X7_isWedding, rfl, sgV_X7_isWedding, ⟨Nat.le_of_ble_eq_true rfl, Nat.le_of_ble_eq_true rfl⟩, ⟨Nat.le_refl _, Nat.le_refl _⟩⟩ ly_298 (by decide) la_298 rfl (k_X7_isWedding rfl) rfl rfl (Nat.le_of_ble_eq_true rfl) ?_
    refine pw_if_ne 22 19 dX7_image_16 (by decide) rfl (fun c2 => ?_) (fun c2 => ?_)
    · have h := if_f h c2
      refine pw_aload_n 0 rfl rfl 23 dX7_image_22 rfl ?_
      refine pw_getR 13 26 dX7_image_23 rfl fi_X7_image_7 lk_X7_image_25 la_298 ly_298 (by decide) rfl (by decide) rfl rf_298_13 ?_
      refine pw_iconst (v := (0 : Int32)) (by decide) 27 dX7_image_26 rfl ?_
      refine pw_aload_n 0 rfl rfl 28 dX7_image_27 rfl ?_
      refine pw_getR 18 31 dX7_image_28 rfl fi_X7_image_7 lk_X7_image_37 la_298 ly_298 (by decide) rfl (by decide) rfl rf_298_18 ?_
      refine pw_bipush (v := (55 : Int32)) (by decide) 33 dX7_image_31 rfl ?_
      refine pw_iload_n 1 rfl rfl 34 dX7_image_33 rfl ?_
      refine pw_imul 35 dX7_image_34 rfl ?_
      obtain ⟨m3, hm3, h⟩ := bd1_e h
      refine pw_callSv 38 dX7_image_35 rfl [.ref (G.1 + 304), .int (0 : Int32), .ref (G.1 + 308), .int ((55 : Int32) * x1)] 4 ⟨gX7_image_X7_copies, rfl, sgS_X7_copies, ⟨Nat.le_of_ble_eq_true rfl, Nat.le_of_ble_eq_true rfl⟩, ⟨Nat.le_refl _, Nat.le_refl _⟩⟩ (k_X7_copies la_304 ly_304 la_308 ly_308 hm3) rfl rfl (Nat.le_of_ble_eq_true rfl) ?_
      refine pw_aload_n 0 rfl rfl 39 dX7_image_38 rfl ?_
      refine pw_getR 19 42 dX7_image_39 rfl fi_X7_image_7 lk_X7_image_40 la_298 ly_298 (by decide) rfl (by decide) rfl rf_298_19 ?_
      refine pw_iload_n 1 rfl rfl 43 dX7_image_42 rfl ?_
      refine pw_iconst (v := (1 : Int32)) (by decide) 44 dX7_image_43 rfl ?_
      obtain ⟨h5, h⟩ := gd_e h
      refine pw_zast 45 dX7_image_44 rfl la_309 ly_309 h5 (by decide) ?_
      obtain ⟨m4, em4, h⟩ := nmE_ h
      refine pw_mem em4 ?_
      refine pw_iconst (v := (1 : Int32)) (by decide) 46 dX7_image_45 rfl ?_
      exact pw_iret dX7_image_46 (pr_inj h)
    · have h := if_t h c2
      refine pw_ldc 21 lw_X7_image_c169 dX7_image_19 rfl ?_
      exact pw_iret dX7_image_21 (pr_inj h)
  · have h := if_t h c1
    refine pw_ldc 11 lw_X7_image_c67 dX7_image_9 rfl ?_
    exact pw_iret dX7_image_11 (pr_inj h)
theorem fi_X7_restore_7 : ∀ w ∈ wsX70, w ∈ wsX7_restore := by decide +kernel
theorem lk_X7_restore_40 : Cond.fieldLink RX7 40 (TX7 19).1 (TX7 19).2.1 (TX7 19).2.2.1 ∈ wsX7_restore := by decide +kernel
theorem lk_X7_restore_37 : Cond.fieldLink RX7 37 (TX7 18).1 (TX7 18).2.1 (TX7 18).2.2.1 ∈ wsX7_restore := by decide +kernel
theorem lk_X7_restore_25 : Cond.fieldLink RX7 25 (TX7 13).1 (TX7 13).2.1 (TX7 13).2.2.1 ∈ wsX7_restore := by decide +kernel
theorem lk_X7_restore_142 : Cond.fieldLink RX7 142 (TX7 17).1 (TX7 17).2.1 (TX7 17).2.2.1 ∈ wsX7_restore := by decide +kernel
theorem lw_X7_restore_c169 : Cond.constant RX7 169 (-1000002 : Int32) ∈ wsX7_restore := by decide +kernel
theorem lw_X7_restore_c67 : Cond.constant RX7 67 (-1000001 : Int32) ∈ wsX7_restore := by decide +kernel
set_option maxHeartbeats 4000000 in
set_option maxRecDepth 100000 in
theorem k_X7_restore {l : Launch} {G : Gx} {x1 : Int32} {m mF : Mm} {r : Int32}  (h : f_X7_restore x1 m = some (r, mF)) : Cn l G 1 yX7_restore wsX7_restore [.ref (G.1 + 298), .int x1] m (Qi G r mF) := by
  unfold f_X7_restore at h
  refine Cn.of (own := RX7) (lv := [(0, .ref (G.1 + 298)), (1, .int x1)]) (by decide) rfl rfl (Nat.le_of_ble_eq_true rfl) rfl ?_
  refine pw_iload_n 1 rfl rfl 1 dX7_restore_0 rfl ?_
  refine pw_iconst (v := (0 : Int32)) (by decide) 2 dX7_restore_1 rfl ?_
  refine pw_iconst (v := (1 : Int32)) (by decide) 3 dX7_restore_2 rfl ?_
  refine pw_callSi 6 dX7_restore_3 rfl [.int x1, .int (0 : Int32), .int (1 : Int32)] 3 ⟨gX7_restore_X7_in, rfl, sgS_X7_in, ⟨Nat.le_of_ble_eq_true rfl, Nat.le_of_ble_eq_true rfl⟩, ⟨Nat.le_refl _, Nat.le_refl _⟩⟩ (k_X7_in rfl) rfl rfl (Nat.le_of_ble_eq_true rfl) ?_
  refine pw_if_ne 12 9 dX7_restore_6 (by decide) rfl (fun c1 => ?_) (fun c1 => ?_)
  · have h := if_f h c1
    refine pw_aload_n 0 rfl rfl 13 dX7_restore_12 rfl ?_
    refine pw_getR 19 16 dX7_restore_13 rfl fi_X7_restore_7 lk_X7_restore_40 la_298 ly_298 (by decide) rfl (by decide) rfl rf_298_19 ?_
    refine pw_iload_n 1 rfl rfl 17 dX7_restore_16 rfl ?_
    obtain ⟨h2, h⟩ := gd_e h
    refine pw_zald 18 dX7_restore_17 rfl la_309 ly_309 h2 ?_
    refine pw_if_ne 24 21 dX7_restore_18 (by decide) rfl (fun c3 => ?_) (fun c3 => ?_)
    · have h := if_f h c3
      refine pw_aload_n 0 rfl rfl 25 dX7_restore_24 rfl ?_
      refine pw_getR 18 28 dX7_restore_25 rfl fi_X7_restore_7 lk_X7_restore_37 la_298 ly_298 (by decide) rfl (by decide) rfl rf_298_18 ?_
      refine pw_bipush (v := (55 : Int32)) (by decide) 30 dX7_restore_28 rfl ?_
      refine pw_iload_n 1 rfl rfl 31 dX7_restore_30 rfl ?_
      refine pw_imul 32 dX7_restore_31 rfl ?_
      refine pw_aload_n 0 rfl rfl 33 dX7_restore_32 rfl ?_
      refine pw_getR 13 36 dX7_restore_33 rfl fi_X7_restore_7 lk_X7_restore_25 la_298 ly_298 (by decide) rfl (by decide) rfl rf_298_13 ?_
      refine pw_iconst (v := (0 : Int32)) (by decide) 37 dX7_restore_36 rfl ?_
      obtain ⟨m4, hm4, h⟩ := bd1_e h
      refine pw_callSv 40 dX7_restore_37 rfl [.ref (G.1 + 308), .int ((55 : Int32) * x1), .ref (G.1 + 304), .int (0 : Int32)] 4 ⟨gX7_restore_X7_copies, rfl, sgS_X7_copies, ⟨Nat.le_of_ble_eq_true rfl, Nat.le_of_ble_eq_true rfl⟩, ⟨Nat.le_refl _, Nat.le_refl _⟩⟩ (k_X7_copies la_308 ly_308 la_304 ly_304 hm4) rfl rfl (Nat.le_of_ble_eq_true rfl) ?_
      refine pw_aload_n 0 rfl rfl 41 dX7_restore_40 rfl ?_
      refine pw_iconst (v := (0 : Int32)) (by decide) 42 dX7_restore_41 rfl ?_
      refine pw_put (ty0 := tyX7) (ty := .int) 17 45 dX7_restore_42 rfl fi_X7_restore_7 tyX7_ok nmX7 lk_X7_restore_142 la_298 ly_298 (by decide) rfl (by decide) rfl rfl rfl rfl rfl ?_
      obtain ⟨m5, em5, h⟩ := nmE_ h
      refine pw_mem em5 ?_
      refine pw_iconst (v := (1 : Int32)) (by decide) 46 dX7_restore_45 rfl ?_
      exact pw_iret dX7_restore_46 (pr_inj h)
    · have h := if_t h c3
      refine pw_ldc 23 lw_X7_restore_c169 dX7_restore_21 rfl ?_
      exact pw_iret dX7_restore_23 (pr_inj h)
  · have h := if_t h c1
    refine pw_ldc 11 lw_X7_restore_c67 dX7_restore_9 rfl ?_
    exact pw_iret dX7_restore_11 (pr_inj h)
theorem fi_X7_kindIn_7 : ∀ w ∈ wsX70, w ∈ wsX7_kindIn := by decide +kernel
theorem lk_X7_kindIn_25 : Cond.fieldLink RX7 25 (TX7 13).1 (TX7 13).2.1 (TX7 13).2.2.1 ∈ wsX7_kindIn := by decide +kernel
set_option maxHeartbeats 4000000 in
set_option maxRecDepth 100000 in
theorem k_X7_kindIn {l : Launch} {G : Gx} {x1 : Int32} {m : Mm} {r : Int32}  (h : f_X7_kindIn x1 m = some r) : Cn l G 0 yX7_kindIn wsX7_kindIn [.ref (G.1 + 298), .int x1] m (Qi G r m) := by
  unfold f_X7_kindIn at h
  refine Cn.of (own := RX7) (lv := [(0, .ref (G.1 + 298)), (1, .int x1)]) (by decide) rfl rfl (Nat.le_of_ble_eq_true rfl) rfl ?_
  refine pw_aload_n 0 rfl rfl 1 dX7_kindIn_0 rfl ?_
  refine pw_getR 13 4 dX7_kindIn_1 rfl fi_X7_kindIn_7 lk_X7_kindIn_25 la_298 ly_298 (by decide) rfl (by decide) rfl rf_298_13 ?_
  refine pw_bipush (v := (6 : Int32)) (by decide) 6 dX7_kindIn_4 rfl ?_
  refine pw_bipush (v := (7 : Int32)) (by decide) 8 dX7_kindIn_6 rfl ?_
  refine pw_iload_n 1 rfl rfl 9 dX7_kindIn_8 rfl ?_
  refine pw_imul 10 dX7_kindIn_9 rfl ?_
  refine pw_iadd 11 dX7_kindIn_10 rfl ?_
  obtain ⟨h1, h⟩ := gd_e h
  refine pw_iald 12 dX7_kindIn_11 rfl la_304 ly_304 h1 ?_
  exact pw_iret dX7_kindIn_12 ⟨Option.some.inj h, rfl⟩
theorem lw_X7_kind_c67 : Cond.constant RX7 67 (-1000001 : Int32) ∈ wsX7_kind := by decide +kernel
set_option maxHeartbeats 4000000 in
set_option maxRecDepth 100000 in
theorem k_X7_kind {l : Launch} {G : Gx} {x1 : Int32} {m : Mm} {r : Int32}  (h : f_X7_kind x1 m = some r) : Cn l G 2 yX7_kind wsX7_kind [.ref (G.1 + 298), .int x1] m (Qi G r m) := by
  unfold f_X7_kind at h
  refine Cn.of (own := RX7) (lv := [(0, .ref (G.1 + 298)), (1, .int x1)]) (by decide) rfl rfl (Nat.le_of_ble_eq_true rfl) rfl ?_
  refine pw_aload_n 0 rfl rfl 1 dX7_kind_0 rfl ?_
  refine pw_iload_n 1 rfl rfl 2 dX7_kind_1 rfl ?_
  obtain ⟨r1, hr1, h⟩ := bd1_e h
  refine pw_callVi 5 dX7_kind_2 rfl [.int x1] 1 ⟨gX7_kind_X7_isGuest, rfl, sgV_X7_isGuest, ⟨Nat.le_of_ble_eq_true rfl, Nat.le_of_ble_eq_true rfl⟩, ⟨Nat.le_refl _, Nat.le_refl _⟩⟩ ly_298 (by decide) la_298 rfl (k_X7_isGuest hr1) rfl rfl (Nat.le_of_ble_eq_true rfl) ?_
  refine pw_if_eq 16 8 dX7_kind_5 (by decide) rfl (fun c2 => ?_) (fun c2 => ?_)
  · have h := if_t h c2
    refine pw_ldc 18 lw_X7_kind_c67 dX7_kind_16 rfl ?_
    exact pw_iret dX7_kind_18 ⟨Option.some.inj h, rfl⟩
  · have h := if_f h c2
    refine pw_aload_n 0 rfl rfl 9 dX7_kind_8 rfl ?_
    refine pw_iload_n 1 rfl rfl 10 dX7_kind_9 rfl ?_
    obtain ⟨r3, hr3, h⟩ := bd1_e h
    refine pw_callVi 13 dX7_kind_10 rfl [.int x1] 1 ⟨gX7_kind_X7_kindIn, rfl, sgV_X7_kindIn, ⟨Nat.le_of_ble_eq_true rfl, Nat.le_of_ble_eq_true rfl⟩, ⟨Nat.le_refl _, Nat.le_refl _⟩⟩ ly_298 (by decide) la_298 rfl (k_X7_kindIn hr3) rfl rfl (Nat.le_of_ble_eq_true rfl) ?_
    refine pw_goto 18 dX7_kind_13 (by decide) ?_
    exact pw_iret dX7_kind_18 ⟨Option.some.inj h, rfl⟩
theorem lw_X7_as_c67 : Cond.constant RX7 67 (-1000001 : Int32) ∈ wsX7_as := by decide +kernel
set_option maxHeartbeats 4000000 in
set_option maxRecDepth 100000 in
theorem k_X7_as {l : Launch} {G : Gx} {x1 : Int32} {x2 : Int32} {m mF : Mm} {r : Int32}  (h : f_X7_as x1 x2 m = some (r, mF)) : Cn l G 2 yX7_as wsX7_as [.ref (G.1 + 298), .int x1, .int x2] m (Qi G r mF) := by
  unfold f_X7_as at h
  refine Cn.of (own := RX7) (lv := [(0, .ref (G.1 + 298)), (1, .int x1), (2, .int x2)]) (by decide) rfl rfl (Nat.le_of_ble_eq_true rfl) rfl ?_
  refine pw_aload_n 0 rfl rfl 1 dX7_as_0 rfl ?_
  refine pw_iload_n 1 rfl rfl 2 dX7_as_1 rfl ?_
  obtain ⟨r1, hr1, h⟩ := bd1_e h
  refine pw_callVi 5 dX7_as_2 rfl [.int x1] 1 ⟨gX7_as_X7_isGuest, rfl, sgV_X7_isGuest, ⟨Nat.le_of_ble_eq_true rfl, Nat.le_of_ble_eq_true rfl⟩, ⟨Nat.le_refl _, Nat.le_refl _⟩⟩ ly_298 (by decide) la_298 rfl (k_X7_isGuest hr1) rfl rfl (Nat.le_of_ble_eq_true rfl) ?_
  refine pw_if_eq 17 8 dX7_as_5 (by decide) rfl (fun c2 => ?_) (fun c2 => ?_)
  · have h := if_t h c2
    refine pw_ldc 19 lw_X7_as_c67 dX7_as_17 rfl ?_
    exact pw_iret dX7_as_19 (pr_inj h)
  · have h := if_f h c2
    refine pw_iload_n 2 rfl rfl 9 dX7_as_8 rfl ?_
    refine pw_iconst (v := (0 : Int32)) (by decide) 10 dX7_as_9 rfl ?_
    refine pw_iconst (v := (5 : Int32)) (by decide) 11 dX7_as_10 rfl ?_
    refine pw_callSi 14 dX7_as_11 rfl [.int x2, .int (0 : Int32), .int (5 : Int32)] 3 ⟨gX7_as_X7_in, rfl, sgS_X7_in, ⟨Nat.le_of_ble_eq_true rfl, Nat.le_of_ble_eq_true rfl⟩, ⟨Nat.le_refl _, Nat.le_refl _⟩⟩ (k_X7_in rfl) rfl rfl (Nat.le_of_ble_eq_true rfl) ?_
    refine pw_if_ne 20 17 dX7_as_14 (by decide) rfl (fun c3 => ?_) (fun c3 => ?_)
    · have h := if_f h c3
      refine pw_aload_n 0 rfl rfl 21 dX7_as_20 rfl ?_
      refine pw_iload_n 1 rfl rfl 22 dX7_as_21 rfl ?_
      obtain ⟨r4, hr4, h⟩ := bd1_e h
      refine pw_callVi 25 dX7_as_22 rfl [.int x1] 1 ⟨gX7_as_X7_kindIn, rfl, sgV_X7_kindIn, ⟨Nat.le_of_ble_eq_true rfl, Nat.le_of_ble_eq_true rfl⟩, ⟨Nat.le_refl _, Nat.le_refl _⟩⟩ ly_298 (by decide) la_298 rfl (k_X7_kindIn hr4) rfl rfl (Nat.le_of_ble_eq_true rfl) ?_
      refine pw_istore_n (hf := rfl) [(3, .int r4), (0, .ref (G.1 + 298)), (1, .int x1), (2, .int x2)] 26 dX7_as_25 rfl (Nat.le_of_ble_eq_true rfl) rfl ?_
      refine pw_iload_n 3 rfl rfl 27 dX7_as_26 rfl ?_
      obtain ⟨j13, ej13, h⟩ := nmE_ h
      have hJ60_j13 : PW G (KM l G RX7 cX7_as 5 (some .int) wsX7_as 2 (Qi G r mF)) 60 [(0, .ref (G.1 + 298)), (1, .int x1)] [.int j13] m := by
        refine pw_istore [(4, .int j13), (0, .ref (G.1 + 298)), (1, .int x1)] 62 dX7_as_60 rfl (Nat.le_of_ble_eq_true rfl) rfl ?_
        refine pw_iload 0 rfl 64 dX7_as_62 rfl ?_
        refine pw_if_eq 75 67 dX7_as_64 (by decide) rfl (fun c14 => ?_) (fun c14 => ?_)
        · have h := if_t h c14
          refine pw_aload_n 1 rfl rfl 76 dX7_as_75 rfl ?_
          refine pw_iconst (v := (3 : Int32)) (by decide) 77 dX7_as_76 rfl ?_
          obtain ⟨r16, m15, hr16, h⟩ := bd2_e h
          refine pw_callVi 80 dX7_as_77 rfl [.int (3 : Int32)] 1 ⟨gX7_as_X7_found, rfl, sgV_X7_found, ⟨Nat.le_of_ble_eq_true rfl, Nat.le_of_ble_eq_true rfl⟩, ⟨Nat.le_refl _, Nat.le_refl _⟩⟩ ly_298 (by decide) la_298 rfl (k_X7_found hr16) rfl rfl (Nat.le_of_ble_eq_true rfl) ?_
          exact pw_iret dX7_as_80 (pr_inj h)
        · have h := if_f h c14
          refine pw_aload_n 1 rfl rfl 68 dX7_as_67 rfl ?_
          refine pw_iload_n 2 rfl rfl 69 dX7_as_68 rfl ?_
          obtain ⟨r18, m17, hr18, h⟩ := bd2_e h
          refine pw_callVi 72 dX7_as_69 rfl [.int x1] 1 ⟨gX7_as_X7_well, rfl, sgV_X7_well, ⟨Nat.le_of_ble_eq_true rfl, Nat.le_of_ble_eq_true rfl⟩, ⟨Nat.le_refl _, Nat.le_refl _⟩⟩ ly_298 (by decide) la_298 rfl (k_X7_well hr18) rfl rfl (Nat.le_of_ble_eq_true rfl) ?_
          refine pw_goto 80 dX7_as_72 (by decide) ?_
          exact pw_iret dX7_as_80 (pr_inj h)
      refine pw_if_eq 55 30 dX7_as_27 (by decide) rfl (fun c5 => ?_) (fun c5 => ?_)
      · have ej13 := if_tv ej13 c5
        refine pw_iconst (v := (1 : Int32)) (by decide) 56 dX7_as_55 rfl ?_
        refine pw_goto 60 dX7_as_56 (by decide) ?_
        refine pw_sub [1, 2] [(0, .ref (G.1 + 298)), (1, .int x1)] rfl ?_
        subst ej13; exact hJ60_j13
      · have ej13 := if_fv ej13 c5
        refine pw_iload_n 3 rfl rfl 31 dX7_as_30 rfl ?_
        refine pw_iload_n 0 rfl rfl 32 dX7_as_31 rfl ?_
        refine pw_icmp_eq 55 35 dX7_as_32 (by decide) rfl (fun c6 => ?_) (fun c6 => ?_)
        · have ej13 := if_tv ej13 c6
          refine pw_iconst (v := (1 : Int32)) (by decide) 56 dX7_as_55 rfl ?_
          refine pw_goto 60 dX7_as_56 (by decide) ?_
          refine pw_sub [1, 2] [(0, .ref (G.1 + 298)), (1, .int x1)] rfl ?_
          subst ej13; exact hJ60_j13
        · have ej13 := if_fv ej13 c6
          refine pw_iload_n 3 rfl rfl 36 dX7_as_35 rfl ?_
          refine pw_iconst (v := (1 : Int32)) (by decide) 37 dX7_as_36 rfl ?_
          refine pw_icmp_ne 45 40 dX7_as_37 (by decide) rfl (fun c7 => ?_) (fun c7 => ?_)
          · have ej13 := if_fv ej13 c7
            refine pw_iload_n 3 rfl rfl 46 dX7_as_45 rfl ?_
            refine pw_iconst (v := (4 : Int32)) (by decide) 47 dX7_as_46 rfl ?_
            refine pw_icmp_ne 59 50 dX7_as_47 (by decide) rfl (fun c8 => ?_) (fun c8 => ?_)
            · have ej13 := if_fv ej13 c8
              refine pw_iconst (v := (0 : Int32)) (by decide) 60 dX7_as_59 rfl ?_
              refine pw_sub [1, 2] [(0, .ref (G.1 + 298)), (1, .int x1)] rfl ?_
              subst ej13; exact hJ60_j13
            · have ej13 := if_tv ej13 c8
              refine pw_iload_n 0 rfl rfl 51 dX7_as_50 rfl ?_
              refine pw_iconst (v := (5 : Int32)) (by decide) 52 dX7_as_51 rfl ?_
              refine pw_icmp_ne 59 55 dX7_as_52 (by decide) rfl (fun c9 => ?_) (fun c9 => ?_)
              · have ej13 := if_fv ej13 c9
                refine pw_iconst (v := (0 : Int32)) (by decide) 60 dX7_as_59 rfl ?_
                refine pw_sub [1, 2] [(0, .ref (G.1 + 298)), (1, .int x1)] rfl ?_
                subst ej13; exact hJ60_j13
              · have ej13 := if_tv ej13 c9
                refine pw_iconst (v := (1 : Int32)) (by decide) 56 dX7_as_55 rfl ?_
                refine pw_goto 60 dX7_as_56 (by decide) ?_
                refine pw_sub [1, 2] [(0, .ref (G.1 + 298)), (1, .int x1)] rfl ?_
                subst ej13; exact hJ60_j13
          · have ej13 := if_tv ej13 c7
            refine pw_iload_n 0 rfl rfl 41 dX7_as_40 rfl ?_
            refine pw_iconst (v := (4 : Int32)) (by decide) 42 dX7_as_41 rfl ?_
            refine pw_icmp_lt 55 45 dX7_as_42 (by decide) rfl (fun c10 => ?_) (fun c10 => ?_)
            · have ej13 := if_tv ej13 c10
              refine pw_iconst (v := (1 : Int32)) (by decide) 56 dX7_as_55 rfl ?_
              refine pw_goto 60 dX7_as_56 (by decide) ?_
              refine pw_sub [1, 2] [(0, .ref (G.1 + 298)), (1, .int x1)] rfl ?_
              subst ej13; exact hJ60_j13
            · have ej13 := if_fv ej13 c10
              refine pw_iload_n 3 rfl rfl 46 dX7_as_45 rfl ?_
              refine pw_iconst (v := (4 : Int32)) (by decide) 47 dX7_as_46 rfl ?_
              refine pw_icmp_ne 59 50 dX7_as_47 (by decide) rfl (fun c11 => ?_) (fun c11 => ?_)
              · have ej13 := if_fv ej13 c11
                refine pw_iconst (v := (0 : Int32)) (by decide) 60 dX7_as_59 rfl ?_
                refine pw_sub [1, 2] [(0, .ref (G.1 + 298)), (1, .int x1)] rfl ?_
                subst ej13; exact hJ60_j13
              · have ej13 := if_tv ej13 c11
                refine pw_iload_n 0 rfl rfl 51 dX7_as_50 rfl ?_
                refine pw_iconst (v := (5 : Int32)) (by decide) 52 dX7_as_51 rfl ?_
                refine pw_icmp_ne 59 55 dX7_as_52 (by decide) rfl (fun c12 => ?_) (fun c12 => ?_)
                · have ej13 := if_fv ej13 c12
                  refine pw_iconst (v := (0 : Int32)) (by decide) 60 dX7_as_59 rfl ?_
                  refine pw_sub [1, 2] [(0, .ref (G.1 + 298)), (1, .int x1)] rfl ?_
                  subst ej13; exact hJ60_j13
                · have ej13 := if_tv ej13 c12
                  refine pw_iconst (v := (1 : Int32)) (by decide) 56 dX7_as_55 rfl ?_
                  refine pw_goto 60 dX7_as_56 (by decide) ?_
                  refine pw_sub [1, 2] [(0, .ref (G.1 + 298)), (1, .int x1)] rfl ?_
                  subst ej13; exact hJ60_j13
    · have h := if_t h c3
      refine pw_ldc 19 lw_X7_as_c67 dX7_as_17 rfl ?_
      exact pw_iret dX7_as_19 (pr_inj h)
theorem fi_X7_begins_7 : ∀ w ∈ wsX70, w ∈ wsX7_begins := by decide +kernel
theorem lk_X7_begins_222 : Cond.fieldLink RX7 222 (TX7 23).1 (TX7 23).2.1 (TX7 23).2.2.1 ∈ wsX7_begins := by decide +kernel
theorem lk_X7_begins_50 : Cond.fieldLink RX7 50 (TX7 22).1 (TX7 22).2.1 (TX7 22).2.2.1 ∈ wsX7_begins := by decide +kernel
set_option maxHeartbeats 4000000 in
set_option maxRecDepth 100000 in
theorem k_X7_begins {l : Launch} {G : Gx} {x1 : Int32} {m mF : Mm}   (h : f_X7_begins x1 m = some mF) : Cn l G 0 yX7_begins wsX7_begins [.ref (G.1 + 298), .int x1] m (Qv G mF) := by
  unfold f_X7_begins at h
  refine Cn.of (own := RX7) (lv := [(0, .ref (G.1 + 298)), (1, .int x1)]) (by decide) rfl rfl (Nat.le_of_ble_eq_true rfl) rfl ?_
  refine pw_aload_n 0 rfl rfl 1 dX7_begins_0 rfl ?_
  refine pw_getI 23 4 dX7_begins_1 rfl fi_X7_begins_7 lk_X7_begins_222 la_298 ly_298 (by decide) rfl (by decide) rfl ?_
  refine pw_bipush (v := (16 : Int32)) (by decide) 6 dX7_begins_4 rfl ?_
  refine pw_icmp_ge 29 9 dX7_begins_6 (by decide) rfl (fun c1 => ?_) (fun c1 => ?_)
  · have h := if_t h c1
    exact pw_vret dX7_begins_29 (Option.some.inj h)
  · have h := if_f h c1
    refine pw_aload_n 0 rfl rfl 10 dX7_begins_9 rfl ?_
    refine pw_getR 22 13 dX7_begins_10 rfl fi_X7_begins_7 lk_X7_begins_50 la_298 ly_298 (by decide) rfl (by decide) rfl rf_298_22 ?_
    refine pw_aload_n 0 rfl rfl 14 dX7_begins_13 rfl ?_
    refine pw_getI 23 17 dX7_begins_14 rfl fi_X7_begins_7 lk_X7_begins_222 la_298 ly_298 (by decide) rfl (by decide) rfl ?_
    refine pw_iload_n 1 rfl rfl 18 dX7_begins_17 rfl ?_
    obtain ⟨h5, h⟩ := gd_e h
    refine pw_iast 19 dX7_begins_18 rfl la_312 ly_312 h5 ?_
    obtain ⟨m2, em2, h⟩ := nmE_ h
    refine pw_mem em2 ?_
    refine pw_aload_n 0 rfl rfl 20 dX7_begins_19 rfl ?_
    refine pw_dup rfl 21 dX7_begins_20 rfl ?_
    refine pw_getI 23 24 dX7_begins_21 rfl fi_X7_begins_7 lk_X7_begins_222 la_298 ly_298 (by decide) rfl (by decide) rfl ?_
    refine pw_iconst (v := (1 : Int32)) (by decide) 25 dX7_begins_24 rfl ?_
    refine pw_iadd 26 dX7_begins_25 rfl ?_
    obtain ⟨v3, ev3, h⟩ := nmE_ h
    refine pw_top ev3 ?_
    refine pw_put (ty0 := tyX7) (ty := .int) 23 29 dX7_begins_26 rfl fi_X7_begins_7 tyX7_ok nmX7 lk_X7_begins_222 la_298 ly_298 (by decide) rfl (by decide) rfl rfl rfl rfl rfl ?_
    obtain ⟨m4, em4, h⟩ := nmE_ h
    refine pw_mem em4 ?_
    exact pw_vret dX7_begins_29 (Option.some.inj h)
theorem fi_X7_auntMark_7 : ∀ w ∈ wsX70, w ∈ wsX7_auntMark := by decide +kernel
theorem lk_X7_auntMark_25 : Cond.fieldLink RX7 25 (TX7 13).1 (TX7 13).2.1 (TX7 13).2.2.1 ∈ wsX7_auntMark := by decide +kernel
set_option maxHeartbeats 4000000 in
set_option maxRecDepth 100000 in
theorem k_X7_auntMark {l : Launch} {G : Gx} {x1 : Int32} {m mF : Mm} {r : Int32}  (h : f_X7_auntMark x1 m = some (r, mF)) : Cn l G 1 yX7_auntMark wsX7_auntMark [.ref (G.1 + 298), .int x1] m (Qi G r mF) := by
  unfold f_X7_auntMark at h
  refine Cn.of (own := RX7) (lv := [(0, .ref (G.1 + 298)), (1, .int x1)]) (by decide) rfl rfl (Nat.le_of_ble_eq_true rfl) rfl ?_
  refine pw_aload_n 0 rfl rfl 1 dX7_auntMark_0 rfl ?_
  refine pw_iload_n 1 rfl rfl 2 dX7_auntMark_1 rfl ?_
  obtain ⟨r1, hr1, h⟩ := bd1_e h
  refine pw_callVi 5 dX7_auntMark_2 rfl [.int x1] 1 ⟨gX7_auntMark_X7_kindIn, rfl, sgV_X7_kindIn, ⟨Nat.le_of_ble_eq_true rfl, Nat.le_of_ble_eq_true rfl⟩, ⟨Nat.le_refl _, Nat.le_refl _⟩⟩ ly_298 (by decide) la_298 rfl (k_X7_kindIn hr1) rfl rfl (Nat.le_of_ble_eq_true rfl) ?_
  refine pw_istore_n (hf := rfl) [(2, .int r1), (0, .ref (G.1 + 298)), (1, .int x1)] 6 dX7_auntMark_5 rfl (Nat.le_of_ble_eq_true rfl) rfl ?_
  refine pw_iload_n 0 rfl rfl 7 dX7_auntMark_6 rfl ?_
  refine pw_iconst (v := (1 : Int32)) (by decide) 8 dX7_auntMark_7 rfl ?_
  obtain ⟨m6, qm6, h⟩ := bd1_e h
  have hJ27_m6 : PW G (KM l G RX7 cX7_auntMark 4 (some .int) wsX7_auntMark 1 (Qi G r mF)) 27 [(0, .ref (G.1 + 298)), (1, .int x1), (2, .int r1)] [] m6 := by
    refine pw_aload_n 0 rfl rfl 28 dX7_auntMark_27 rfl ?_
    refine pw_bipush (v := (21 : Int32)) (by decide) 30 dX7_auntMark_28 rfl ?_
    obtain ⟨m7, hm7, h⟩ := bd1_e h
    refine pw_callVv 33 dX7_auntMark_30 rfl [.int (21 : Int32)] 1 ⟨gX7_auntMark_X7_begins, rfl, sgV_X7_begins, ⟨Nat.le_of_ble_eq_true rfl, Nat.le_of_ble_eq_true rfl⟩, ⟨Nat.le_refl _, Nat.le_refl _⟩⟩ ly_298 (by decide) la_298 rfl (k_X7_begins hm7) rfl rfl (Nat.le_of_ble_eq_true rfl) ?_
    refine pw_aload_n 0 rfl rfl 34 dX7_auntMark_33 rfl ?_
    refine pw_bipush (v := (20 : Int32)) (by decide) 36 dX7_auntMark_34 rfl ?_
    obtain ⟨m8, hm8, h⟩ := bd1_e h
    refine pw_callVv 39 dX7_auntMark_36 rfl [.int (20 : Int32)] 1 ⟨gX7_auntMark_X7_begins, rfl, sgV_X7_begins, ⟨Nat.le_of_ble_eq_true rfl, Nat.le_of_ble_eq_true rfl⟩, ⟨Nat.le_refl _, Nat.le_refl _⟩⟩ ly_298 (by decide) la_298 rfl (k_X7_begins hm8) rfl rfl (Nat.le_of_ble_eq_true rfl) ?_
    refine pw_iload_n 1 rfl rfl 40 dX7_auntMark_39 rfl ?_
    refine pw_aload_n 0 rfl rfl 41 dX7_auntMark_40 rfl ?_
    refine pw_getR 13 44 dX7_auntMark_41 rfl fi_X7_auntMark_7 lk_X7_auntMark_25 la_298 ly_298 (by decide) rfl (by decide) rfl rf_298_13 ?_
    refine pw_bipush (v := (6 : Int32)) (by decide) 46 dX7_auntMark_44 rfl ?_
    refine pw_bipush (v := (7 : Int32)) (by decide) 48 dX7_auntMark_46 rfl ?_
    refine pw_iload_n 1 rfl rfl 49 dX7_auntMark_48 rfl ?_
    refine pw_imul 50 dX7_auntMark_49 rfl ?_
    refine pw_iadd 51 dX7_auntMark_50 rfl ?_
    refine pw_iconst (v := (2 : Int32)) (by decide) 52 dX7_auntMark_51 rfl ?_
    refine pw_iadd 53 dX7_auntMark_52 rfl ?_
    obtain ⟨h9, h⟩ := gd_e h
    refine pw_iald 54 dX7_auntMark_53 rfl la_304 ly_304 h9 ?_
    refine pw_iadd 55 dX7_auntMark_54 rfl ?_
    obtain ⟨v10, ev10, h⟩ := nmE_ h
    refine pw_top ev10 ?_
    refine pw_istore_n (hf := rfl) [(3, .int v10), (0, .ref (G.1 + 298)), (1, .int x1), (2, .int r1)] 56 dX7_auntMark_55 rfl (Nat.le_of_ble_eq_true rfl) rfl ?_
    refine pw_iload_n 3 rfl rfl 57 dX7_auntMark_56 rfl ?_
    refine pw_iconst (v := (2 : Int32)) (by decide) 58 dX7_auntMark_57 rfl ?_
    refine pw_icmp_ne 67 61 dX7_auntMark_58 (by decide) rfl (fun c11 => ?_) (fun c11 => ?_)
    · have h := if_f h c11
      refine pw_iload_n 3 rfl rfl 68 dX7_auntMark_67 rfl ?_
      refine pw_iconst (v := (3 : Int32)) (by decide) 69 dX7_auntMark_68 rfl ?_
      refine pw_icmp_ne 80 72 dX7_auntMark_69 (by decide) rfl (fun c12 => ?_) (fun c12 => ?_)
      · have h := if_f h c12
        refine pw_iload_n 0 rfl rfl 81 dX7_auntMark_80 rfl ?_
        exact pw_iret dX7_auntMark_81 (pr_inj h)
      · have h := if_t h c12
        refine pw_iload_n 0 rfl rfl 73 dX7_auntMark_72 rfl ?_
        refine pw_sipush (v := (1000 : Int32)) (by decide) 76 dX7_auntMark_73 rfl ?_
        refine pw_isub 77 dX7_auntMark_76 rfl ?_
        refine pw_goto 81 dX7_auntMark_77 (by decide) ?_
        exact pw_iret dX7_auntMark_81 (pr_inj h)
    · have h := if_t h c11
      refine pw_iconst (v := (2 : Int32)) (by decide) 62 dX7_auntMark_61 rfl ?_
      refine pw_iload_n 0 rfl rfl 63 dX7_auntMark_62 rfl ?_
      refine pw_imul 64 dX7_auntMark_63 rfl ?_
      refine pw_goto 81 dX7_auntMark_64 (by decide) ?_
      exact pw_iret dX7_auntMark_81 (pr_inj h)
  refine pw_icmp_eq 27 11 dX7_auntMark_8 (by decide) rfl (fun c2 => ?_) (fun c2 => ?_)
  · have qm6 := if_t qm6 c2
    refine pw_sub [1, 2, 0] [(0, .ref (G.1 + 298)), (1, .int x1), (2, .int r1)] rfl ?_
    cases qm6; exact hJ27_m6
  · have qm6 := if_f qm6 c2
    refine pw_aload_n 1 rfl rfl 12 dX7_auntMark_11 rfl ?_
    refine pw_iload_n 0 rfl rfl 13 dX7_auntMark_12 rfl ?_
    refine pw_iconst (v := (2 : Int32)) (by decide) 14 dX7_auntMark_13 rfl ?_
    obtain ⟨j4, ej4, qm6⟩ := nmE_ qm6
    have hJ24_j4 : PW G (KM l G RX7 cX7_auntMark 4 (some .int) wsX7_auntMark 1 (Qi G r mF)) 24 [(0, .ref (G.1 + 298)), (1, .int x1), (2, .int r1)] [.int j4, .ref (G.1 + 298)] m := by
      obtain ⟨m5, hm5, qm6⟩ := bd1_e qm6
      refine pw_callVv 27 dX7_auntMark_24 rfl [.int j4] 1 ⟨gX7_auntMark_X7_begins, rfl, sgV_X7_begins, ⟨Nat.le_of_ble_eq_true rfl, Nat.le_of_ble_eq_true rfl⟩, ⟨Nat.le_refl _, Nat.le_refl _⟩⟩ ly_298 (by decide) la_298 rfl (k_X7_begins hm5) rfl rfl (Nat.le_of_ble_eq_true rfl) ?_
      refine pw_sub [0, 1, 2] [(0, .ref (G.1 + 298)), (1, .int x1), (2, .int r1)] rfl ?_
      cases qm6; exact hJ27_m6
    refine pw_icmp_ne 22 17 dX7_auntMark_14 (by decide) rfl (fun c3 => ?_) (fun c3 => ?_)
    · have ej4 := if_fv ej4 c3
      refine pw_bipush (v := (22 : Int32)) (by decide) 24 dX7_auntMark_22 rfl ?_
      refine pw_sub [1, 2, 0] [(0, .ref (G.1 + 298)), (1, .int x1), (2, .int r1)] rfl ?_
      subst ej4; exact hJ24_j4
    · have ej4 := if_tv ej4 c3
      refine pw_bipush (v := (24 : Int32)) (by decide) 19 dX7_auntMark_17 rfl ?_
      refine pw_goto 24 dX7_auntMark_19 (by decide) ?_
      refine pw_sub [1, 2, 0] [(0, .ref (G.1 + 298)), (1, .int x1), (2, .int r1)] rfl ?_
      subst ej4; exact hJ24_j4
theorem fi_X7_manSize_7 : ∀ w ∈ wsX70, w ∈ wsX7_manSize := by decide +kernel
theorem lk_X7_manSize_25 : Cond.fieldLink RX7 25 (TX7 13).1 (TX7 13).2.1 (TX7 13).2.2.1 ∈ wsX7_manSize := by decide +kernel
set_option maxHeartbeats 4000000 in
set_option maxRecDepth 100000 in
theorem k_X7_manSize {l : Launch} {G : Gx} {x1 : Int32} {m mF : Mm} {r : Int32}  (h : f_X7_manSize x1 m = some (r, mF)) : Cn l G 1 yX7_manSize wsX7_manSize [.ref (G.1 + 298), .int x1] m (Qi G r mF) := by
  unfold f_X7_manSize at h
  refine Cn.of (own := RX7) (lv := [(0, .ref (G.1 + 298)), (1, .int x1)]) (by decide) rfl rfl (Nat.le_of_ble_eq_true rfl) rfl ?_
  refine pw_aload_n 0 rfl rfl 1 dX7_manSize_0 rfl ?_
  refine pw_iload_n 1 rfl rfl 2 dX7_manSize_1 rfl ?_
  obtain ⟨r1, hr1, h⟩ := bd1_e h
  refine pw_callVi 5 dX7_manSize_2 rfl [.int x1] 1 ⟨gX7_manSize_X7_kindIn, rfl, sgV_X7_kindIn, ⟨Nat.le_of_ble_eq_true rfl, Nat.le_of_ble_eq_true rfl⟩, ⟨Nat.le_refl _, Nat.le_refl _⟩⟩ ly_298 (by decide) la_298 rfl (k_X7_kindIn hr1) rfl rfl (Nat.le_of_ble_eq_true rfl) ?_
  refine pw_iconst (v := (5 : Int32)) (by decide) 6 dX7_manSize_5 rfl ?_
  obtain ⟨j3, ej3, h⟩ := nmE_ h
  have hJ14_j3 : PW G (KM l G RX7 cX7_manSize 4 (some .int) wsX7_manSize 1 (Qi G r mF)) 14 [(0, .ref (G.1 + 298)), (1, .int x1)] [.int j3] m := by
    refine pw_istore_n (hf := rfl) [(2, .int j3), (0, .ref (G.1 + 298)), (1, .int x1)] 15 dX7_manSize_14 rfl (Nat.le_of_ble_eq_true rfl) rfl ?_
    refine pw_iload_n 0 rfl rfl 16 dX7_manSize_15 rfl ?_
    obtain ⟨m6, qm6, h⟩ := bd1_e h
    have hJ25_m6 : PW G (KM l G RX7 cX7_manSize 4 (some .int) wsX7_manSize 1 (Qi G r mF)) 25 [(0, .ref (G.1 + 298)), (1, .int x1), (2, .int j3)] [] m6 := by
      refine pw_aload_n 0 rfl rfl 26 dX7_manSize_25 rfl ?_
      refine pw_bipush (v := (13 : Int32)) (by decide) 28 dX7_manSize_26 rfl ?_
      obtain ⟨m7, hm7, h⟩ := bd1_e h
      refine pw_callVv 31 dX7_manSize_28 rfl [.int (13 : Int32)] 1 ⟨gX7_manSize_X7_begins, rfl, sgV_X7_begins, ⟨Nat.le_of_ble_eq_true rfl, Nat.le_of_ble_eq_true rfl⟩, ⟨Nat.le_refl _, Nat.le_refl _⟩⟩ ly_298 (by decide) la_298 rfl (k_X7_begins hm7) rfl rfl (Nat.le_of_ble_eq_true rfl) ?_
      refine pw_aload_n 0 rfl rfl 32 dX7_manSize_31 rfl ?_
      refine pw_bipush (v := (10 : Int32)) (by decide) 34 dX7_manSize_32 rfl ?_
      obtain ⟨m8, hm8, h⟩ := bd1_e h
      refine pw_callVv 37 dX7_manSize_34 rfl [.int (10 : Int32)] 1 ⟨gX7_manSize_X7_begins, rfl, sgV_X7_begins, ⟨Nat.le_of_ble_eq_true rfl, Nat.le_of_ble_eq_true rfl⟩, ⟨Nat.le_refl _, Nat.le_refl _⟩⟩ ly_298 (by decide) la_298 rfl (k_X7_begins hm8) rfl rfl (Nat.le_of_ble_eq_true rfl) ?_
      refine pw_aload_n 0 rfl rfl 38 dX7_manSize_37 rfl ?_
      refine pw_getR 13 41 dX7_manSize_38 rfl fi_X7_manSize_7 lk_X7_manSize_25 la_298 ly_298 (by decide) rfl (by decide) rfl rf_298_13 ?_
      refine pw_bipush (v := (6 : Int32)) (by decide) 43 dX7_manSize_41 rfl ?_
      refine pw_bipush (v := (7 : Int32)) (by decide) 45 dX7_manSize_43 rfl ?_
      refine pw_iload_n 1 rfl rfl 46 dX7_manSize_45 rfl ?_
      refine pw_imul 47 dX7_manSize_46 rfl ?_
      refine pw_iadd 48 dX7_manSize_47 rfl ?_
      refine pw_iconst (v := (1 : Int32)) (by decide) 49 dX7_manSize_48 rfl ?_
      refine pw_iadd 50 dX7_manSize_49 rfl ?_
      obtain ⟨h9, h⟩ := gd_e h
      refine pw_iald 51 dX7_manSize_50 rfl la_304 ly_304 h9 ?_
      refine pw_bipush (v := (100 : Int32)) (by decide) 53 dX7_manSize_51 rfl ?_
      refine pw_isub 54 dX7_manSize_53 rfl ?_
      obtain ⟨v10, ev10, h⟩ := nmE_ h
      refine pw_top ev10 ?_
      refine pw_istore_n (hf := rfl) [(3, .int v10), (0, .ref (G.1 + 298)), (1, .int x1), (2, .int j3)] 55 dX7_manSize_54 rfl (Nat.le_of_ble_eq_true rfl) rfl ?_
      refine pw_iload_n 3 rfl rfl 56 dX7_manSize_55 rfl ?_
      refine pw_if_eq 65 59 dX7_manSize_56 (by decide) rfl (fun c11 => ?_) (fun c11 => ?_)
      · have h := if_t h c11
        refine pw_iload_n 0 rfl rfl 66 dX7_manSize_65 rfl ?_
        exact pw_iret dX7_manSize_66 (pr_inj h)
      · have h := if_f h c11
        refine pw_iconst (v := (2 : Int32)) (by decide) 60 dX7_manSize_59 rfl ?_
        refine pw_iload_n 0 rfl rfl 61 dX7_manSize_60 rfl ?_
        refine pw_imul 62 dX7_manSize_61 rfl ?_
        refine pw_goto 66 dX7_manSize_62 (by decide) ?_
        exact pw_iret dX7_manSize_66 (pr_inj h)
    refine pw_if_eq 25 19 dX7_manSize_16 (by decide) rfl (fun c4 => ?_) (fun c4 => ?_)
    · have qm6 := if_t qm6 c4
      refine pw_sub [1, 2, 0] [(0, .ref (G.1 + 298)), (1, .int x1), (2, .int j3)] rfl ?_
      cases qm6; exact hJ25_m6
    · have qm6 := if_f qm6 c4
      refine pw_aload_n 1 rfl rfl 20 dX7_manSize_19 rfl ?_
      refine pw_bipush (v := (14 : Int32)) (by decide) 22 dX7_manSize_20 rfl ?_
      obtain ⟨m5, hm5, qm6⟩ := bd1_e qm6
      refine pw_callVv 25 dX7_manSize_22 rfl [.int (14 : Int32)] 1 ⟨gX7_manSize_X7_begins, rfl, sgV_X7_begins, ⟨Nat.le_of_ble_eq_true rfl, Nat.le_of_ble_eq_true rfl⟩, ⟨Nat.le_refl _, Nat.le_refl _⟩⟩ ly_298 (by decide) la_298 rfl (k_X7_begins hm5) rfl rfl (Nat.le_of_ble_eq_true rfl) ?_
      refine pw_sub [1, 2, 0] [(0, .ref (G.1 + 298)), (1, .int x1), (2, .int j3)] rfl ?_
      cases qm6; exact hJ25_m6
  refine pw_icmp_ne 13 9 dX7_manSize_6 (by decide) rfl (fun c2 => ?_) (fun c2 => ?_)
  · have ej3 := if_fv ej3 c2
    refine pw_iconst (v := (0 : Int32)) (by decide) 14 dX7_manSize_13 rfl ?_
    refine pw_sub [0, 1] [(0, .ref (G.1 + 298)), (1, .int x1)] rfl ?_
    subst ej3; exact hJ14_j3
  · have ej3 := if_tv ej3 c2
    refine pw_iconst (v := (1 : Int32)) (by decide) 10 dX7_manSize_9 rfl ?_
    refine pw_goto 14 dX7_manSize_10 (by decide) ?_
    refine pw_sub [0, 1] [(0, .ref (G.1 + 298)), (1, .int x1)] rfl ?_
    subst ej3; exact hJ14_j3
theorem fi_X7_auntSize_7 : ∀ w ∈ wsX70, w ∈ wsX7_auntSize := by decide +kernel
theorem lk_X7_auntSize_25 : Cond.fieldLink RX7 25 (TX7 13).1 (TX7 13).2.1 (TX7 13).2.2.1 ∈ wsX7_auntSize := by decide +kernel
set_option maxHeartbeats 4000000 in
set_option maxRecDepth 100000 in
theorem k_X7_auntSize {l : Launch} {G : Gx} {x1 : Int32} {m mF : Mm} {r : Int32}  (h : f_X7_auntSize x1 m = some (r, mF)) : Cn l G 2 yX7_auntSize wsX7_auntSize [.ref (G.1 + 298), .int x1] m (Qi G r mF) := by
  unfold f_X7_auntSize at h
  refine Cn.of (own := RX7) (lv := [(0, .ref (G.1 + 298)), (1, .int x1)]) (by decide) rfl rfl (Nat.le_of_ble_eq_true rfl) rfl ?_
  refine pw_aload_n 0 rfl rfl 1 dX7_auntSize_0 rfl ?_
  refine pw_iload_n 1 rfl rfl 2 dX7_auntSize_1 rfl ?_
  obtain ⟨r1, hr1, h⟩ := bd1_e h
  refine pw_callVi 5 dX7_auntSize_2 rfl [.int x1] 1 ⟨gX7_auntSize_X7_kindIn, rfl, sgV_X7_kindIn, ⟨Nat.le_of_ble_eq_true rfl, Nat.le_of_ble_eq_true rfl⟩, ⟨Nat.le_refl _, Nat.le_refl _⟩⟩ ly_298 (by decide) la_298 rfl (k_X7_kindIn hr1) rfl rfl (Nat.le_of_ble_eq_true rfl) ?_
  refine pw_iconst (v := (2 : Int32)) (by decide) 6 dX7_auntSize_5 rfl ?_
  obtain ⟨j3, ej3, h⟩ := nmE_ h
  have hJ14_j3 : PW G (KM l G RX7 cX7_auntSize 4 (some .int) wsX7_auntSize 2 (Qi G r mF)) 14 [(0, .ref (G.1 + 298)), (1, .int x1)] [.int j3] m := by
    refine pw_istore_n (hf := rfl) [(2, .int j3), (0, .ref (G.1 + 298)), (1, .int x1)] 15 dX7_auntSize_14 rfl (Nat.le_of_ble_eq_true rfl) rfl ?_
    refine pw_iload_n 0 rfl rfl 16 dX7_auntSize_15 rfl ?_
    obtain ⟨m6, qm6, h⟩ := bd1_e h
    have hJ25_m6 : PW G (KM l G RX7 cX7_auntSize 4 (some .int) wsX7_auntSize 2 (Qi G r mF)) 25 [(0, .ref (G.1 + 298)), (1, .int x1), (2, .int j3)] [] m6 := by
      refine pw_aload_n 0 rfl rfl 26 dX7_auntSize_25 rfl ?_
      refine pw_bipush (v := (11 : Int32)) (by decide) 28 dX7_auntSize_26 rfl ?_
      obtain ⟨m7, hm7, h⟩ := bd1_e h
      refine pw_callVv 31 dX7_auntSize_28 rfl [.int (11 : Int32)] 1 ⟨gX7_auntSize_X7_begins, rfl, sgV_X7_begins, ⟨Nat.le_of_ble_eq_true rfl, Nat.le_of_ble_eq_true rfl⟩, ⟨Nat.le_refl _, Nat.le_refl _⟩⟩ ly_298 (by decide) la_298 rfl (k_X7_begins hm7) rfl rfl (Nat.le_of_ble_eq_true rfl) ?_
      refine pw_aload_n 0 rfl rfl 32 dX7_auntSize_31 rfl ?_
      refine pw_bipush (v := (10 : Int32)) (by decide) 34 dX7_auntSize_32 rfl ?_
      obtain ⟨m8, hm8, h⟩ := bd1_e h
      refine pw_callVv 37 dX7_auntSize_34 rfl [.int (10 : Int32)] 1 ⟨gX7_auntSize_X7_begins, rfl, sgV_X7_begins, ⟨Nat.le_of_ble_eq_true rfl, Nat.le_of_ble_eq_true rfl⟩, ⟨Nat.le_refl _, Nat.le_refl _⟩⟩ ly_298 (by decide) la_298 rfl (k_X7_begins hm8) rfl rfl (Nat.le_of_ble_eq_true rfl) ?_
      refine pw_aload_n 0 rfl rfl 38 dX7_auntSize_37 rfl ?_
      refine pw_getR 13 41 dX7_auntSize_38 rfl fi_X7_auntSize_7 lk_X7_auntSize_25 la_298 ly_298 (by decide) rfl (by decide) rfl rf_298_13 ?_
      refine pw_bipush (v := (6 : Int32)) (by decide) 43 dX7_auntSize_41 rfl ?_
      refine pw_bipush (v := (7 : Int32)) (by decide) 45 dX7_auntSize_43 rfl ?_
      refine pw_iload_n 1 rfl rfl 46 dX7_auntSize_45 rfl ?_
      refine pw_imul 47 dX7_auntSize_46 rfl ?_
      refine pw_iadd 48 dX7_auntSize_47 rfl ?_
      refine pw_iconst (v := (1 : Int32)) (by decide) 49 dX7_auntSize_48 rfl ?_
      refine pw_iadd 50 dX7_auntSize_49 rfl ?_
      obtain ⟨h9, h⟩ := gd_e h
      refine pw_iald 51 dX7_auntSize_50 rfl la_304 ly_304 h9 ?_
      refine pw_aload_n 0 rfl rfl 52 dX7_auntSize_51 rfl ?_
      refine pw_iload_n 1 rfl rfl 53 dX7_auntSize_52 rfl ?_
      obtain ⟨r11, m10, hr11, h⟩ := bd2_e h
      refine pw_callVi 56 dX7_auntSize_53 rfl [.int x1] 1 ⟨gX7_auntSize_X7_auntMark, rfl, sgV_X7_auntMark, ⟨Nat.le_of_ble_eq_true rfl, Nat.le_of_ble_eq_true rfl⟩, ⟨Nat.le_refl _, Nat.le_refl _⟩⟩ ly_298 (by decide) la_298 rfl (k_X7_auntMark hr11) rfl rfl (Nat.le_of_ble_eq_true rfl) ?_
      refine pw_iadd 57 dX7_auntSize_56 rfl ?_
      obtain ⟨v12, ev12, h⟩ := nmE_ h
      refine pw_top ev12 ?_
      refine pw_istore_n (hf := rfl) [(3, .int v12), (0, .ref (G.1 + 298)), (1, .int x1), (2, .int j3)] 58 dX7_auntSize_57 rfl (Nat.le_of_ble_eq_true rfl) rfl ?_
      refine pw_iload_n 3 rfl rfl 59 dX7_auntSize_58 rfl ?_
      refine pw_if_eq 67 62 dX7_auntSize_59 (by decide) rfl (fun c13 => ?_) (fun c13 => ?_)
      · have h := if_t h c13
        refine pw_iload_n 0 rfl rfl 68 dX7_auntSize_67 rfl ?_
        exact pw_iret dX7_auntSize_68 (pr_inj h)
      · have h := if_f h c13
        refine pw_iload_n 0 rfl rfl 63 dX7_auntSize_62 rfl ?_
        refine pw_ineg 64 dX7_auntSize_63 rfl ?_
        refine pw_goto 68 dX7_auntSize_64 (by decide) ?_
        exact pw_iret dX7_auntSize_68 (pr_inj h)
    refine pw_if_eq 25 19 dX7_auntSize_16 (by decide) rfl (fun c4 => ?_) (fun c4 => ?_)
    · have qm6 := if_t qm6 c4
      refine pw_sub [1, 2, 0] [(0, .ref (G.1 + 298)), (1, .int x1), (2, .int j3)] rfl ?_
      cases qm6; exact hJ25_m6
    · have qm6 := if_f qm6 c4
      refine pw_aload_n 1 rfl rfl 20 dX7_auntSize_19 rfl ?_
      refine pw_bipush (v := (12 : Int32)) (by decide) 22 dX7_auntSize_20 rfl ?_
      obtain ⟨m5, hm5, qm6⟩ := bd1_e qm6
      refine pw_callVv 25 dX7_auntSize_22 rfl [.int (12 : Int32)] 1 ⟨gX7_auntSize_X7_begins, rfl, sgV_X7_begins, ⟨Nat.le_of_ble_eq_true rfl, Nat.le_of_ble_eq_true rfl⟩, ⟨Nat.le_refl _, Nat.le_refl _⟩⟩ ly_298 (by decide) la_298 rfl (k_X7_begins hm5) rfl rfl (Nat.le_of_ble_eq_true rfl) ?_
      refine pw_sub [1, 2, 0] [(0, .ref (G.1 + 298)), (1, .int x1), (2, .int j3)] rfl ?_
      cases qm6; exact hJ25_m6
  refine pw_icmp_ne 13 9 dX7_auntSize_6 (by decide) rfl (fun c2 => ?_) (fun c2 => ?_)
  · have ej3 := if_fv ej3 c2
    refine pw_iconst (v := (0 : Int32)) (by decide) 14 dX7_auntSize_13 rfl ?_
    refine pw_sub [0, 1] [(0, .ref (G.1 + 298)), (1, .int x1)] rfl ?_
    subst ej3; exact hJ14_j3
  · have ej3 := if_tv ej3 c2
    refine pw_iconst (v := (1 : Int32)) (by decide) 10 dX7_auntSize_9 rfl ?_
    refine pw_goto 14 dX7_auntSize_10 (by decide) ?_
    refine pw_sub [0, 1] [(0, .ref (G.1 + 298)), (1, .int x1)] rfl ?_
    subst ej3; exact hJ14_j3
