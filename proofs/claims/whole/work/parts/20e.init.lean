theorem lp6a (l : Launch) (G : Gx) {r : Rm} {Z' : Zx} (hr : FR r 264) (hg : r 0 0 = some 1) (kend : PZ G (KZ l G RX6 cX6_init 2 wsX6_init 3 297 2677 Z') (263 + 2 * 8) (2183 + 44 * 8) 111 [(1, .int (nI 8)), (0, .ref (G.1 + 0))] [] (mz, rL 1 264 2 r 8, 264 + 2 * 8)) : ∀ t i, i + t = 8 → PZ G (KZ l G RX6 cX6_init 2 wsX6_init 3 297 2677 Z') (263 + 2 * i) (2183 + 44 * i) 86 [(1, .int (nI i)), (0, .ref (G.1 + 0))] [] (mz, rL 1 264 2 r i, 264 + 2 * i) := by
  intro t
  induction t with
  | zero =>
    intro i hi
    have e : i = 8 := by omega
    subst e
    refine pz_iload_n (i := 1) 0 rfl rfl 87 dX6_init_86 rfl ?_
    refine pz_bipush (v := 8) (by decide) 89 dX6_init_87 rfl ?_
    exact pz_icmp_ge 111 92 dX6_init_89 (by decide) rfl (fun _ => kend) (fun h => absurd (by decide) h)
  | succ t ih =>
    intro i hi
    have hq : IsR (264 + 2 * i) := isR_b (by omega)
    have hF : FR (rL 1 264 2 r i) (264 + 2 * i) := FR.rL hr (by omega)
    refine pz_iload_n (i := 1) 0 rfl rfl 87 dX6_init_86 rfl ?_
    refine pz_bipush (v := 8) (by decide) 89 dX6_init_87 rfl ?_
    refine pz_icmp_ge 111 92 dX6_init_89 (by decide) rfl (fun h => absurd h (by rw [show (8 : Int32) = nI 8 from rfl, nI_leE (by omega) (by omega)]; omega)) (fun _ => ?_)
    refine pz_aload_n (i := 0) 1 rfl rfl 93 dX6_init_92 rfl ?_
    refine pz_getR (a := 0) (q := 1) (C := RX6) (T := TX6) (N := 10) (ci := 6) 0 96 dX6_init_93 rfl (fun w h => List.mem_cons_of_mem _ (List.mem_append_left _ (List.mem_append_left _ (List.mem_append_left _ (List.mem_append_left _ (List.mem_append_left _ (List.mem_append_left _ (List.mem_append_right _ h)))))))) (List.mem_of_getElem? (i := 5) rfl) (by omega) (by decide) (by decide) rfl (by decide) rfl (by rw [rL_lo (by omega) (by omega)]; exact hg) ?_
    refine pz_iload_n (i := 1) 0 rfl rfl 97 dX6_init_96 rfl ?_
    refine pz_new (ci := 4) (C := RX4) (T := TX4) (N := 4) (ty := tyX4) 100 dX6_init_97 rfl (fun w h => List.mem_cons_of_mem _ (List.mem_append_right _ h)) tyX4_ok dfX4 (List.mem_of_getElem? (i := 4) rfl) (List.mem_of_getElem? (i := 29) rfl) (List.mem_of_getElem? (i := 30) rfl) hq.o (by decide) rfl rfl (hF _ (Nat.le_refl _)) (show _ ≤ 297 by omega) (show _ ≤ 2677 by omega) ?_
    refine pz_dup rfl 101 dX6_init_100 rfl ?_
    refine pz_initN (a := 264 + 2 * i) (d := 1) (mc := 1) (ms := 40) (Z1 := (mz, fin (rL 1 264 2 r i) (264 + 2 * i) (264 + 2 * i + 2), 264 + 2 * i + 2)) 104 dX6_init_101 rfl (List.mem_of_getElem? (i := 8) rfl) ggX6_init_X4_init rfl (List.mem_of_getElem? (i := 30) rfl) (List.mem_of_getElem? (i := 66) rfl) rfl (by decide +kernel) ⟨(Nat.le_of_ble_eq_true rfl), (Nat.le_of_ble_eq_true rfl)⟩ ⟨(show _ ≤ 297 by omega), (show _ ≤ 2677 by omega)⟩ (c4_init l G _ hq hF) (Nat.le_of_ble_eq_true rfl) ?_
    refine pz_aast (a := 1) (q := 264 + 2 * i) (N := 8) 105 dX6_init_104 rfl (Or.inl ⟨rfl, rfl, rfl⟩) (by omega) (by decide) (by omega) hq.o (vpin (by omega) (by omega)) ?_
    refine pz_iinc (z := 1) (v := nI (i + 1)) 0 rfl (show nI i + Int32.ofInt 1 = nI (i + 1) from nI_s1 i) [(1, .int (nI (i + 1))), (0, .ref (G.1 + 0))] 108 dX6_init_105 rfl (show 1 < 2 by omega) rfl ?_
    refine pz_goto 86 dX6_init_108 (by decide) ?_
    refine PZ.cast (ih (i + 1) (by omega)) (by omega) (by omega) ?_
    rw [ix_nI (by omega), rL_s (by omega), show 264 + 2 * (i + 1) = 264 + 2 * i + 2 by omega]
theorem lp6b (l : Launch) (G : Gx) {r : Rm} {Z' : Zx} (hr : FR r 280) (hg : r 0 6 = some 262) (kend : PZ G (KZ l G RX6 cX6_init 2 wsX6_init 3 297 2677 Z') (279 + 9 * 2) (2535 + 71 * 2) 137 [(1, .int (nI 2)), (0, .ref (G.1 + 0))] [] (mz, rL 262 280 9 r 2, 280 + 9 * 2)) : ∀ t i, i + t = 2 → PZ G (KZ l G RX6 cX6_init 2 wsX6_init 3 297 2677 Z') (279 + 9 * i) (2535 + 71 * i) 113 [(1, .int (nI i)), (0, .ref (G.1 + 0))] [] (mz, rL 262 280 9 r i, 280 + 9 * i) := by
  intro t
  induction t with
  | zero =>
    intro i hi
    have e : i = 2 := by omega
    subst e
    refine pz_iload_n (i := 1) 0 rfl rfl 114 dX6_init_113 rfl ?_
    refine pz_iconst (v := 2) (by decide) 115 dX6_init_114 rfl ?_
    exact pz_icmp_ge 137 118 dX6_init_115 (by decide) rfl (fun _ => kend) (fun h => absurd (by decide) h)
  | succ t ih =>
    intro i hi
    have hq : IsW (280 + 9 * i) := isW_m (by omega)
    have hF : FR (rL 262 280 9 r i) (280 + 9 * i) := FR.rL hr (by omega)
    refine pz_iload_n (i := 1) 0 rfl rfl 114 dX6_init_113 rfl ?_
    refine pz_iconst (v := 2) (by decide) 115 dX6_init_114 rfl ?_
    refine pz_icmp_ge 137 118 dX6_init_115 (by decide) rfl (fun h => absurd h (by rw [show (2 : Int32) = nI 2 from rfl, nI_leE (by omega) (by omega)]; omega)) (fun _ => ?_)
    refine pz_aload_n (i := 0) 1 rfl rfl 119 dX6_init_118 rfl ?_
    refine pz_getR (a := 0) (q := 262) (C := RX6) (T := TX6) (N := 10) (ci := 6) 6 122 dX6_init_119 rfl (fun w h => List.mem_cons_of_mem _ (List.mem_append_left _ (List.mem_append_left _ (List.mem_append_left _ (List.mem_append_left _ (List.mem_append_left _ (List.mem_append_left _ (List.mem_append_right _ h)))))))) (List.mem_of_getElem? (i := 26) rfl) (by omega) (by decide) (by decide) rfl (by decide) rfl (by rw [rL_lo (by omega) (by omega)]; exact hg) ?_
    refine pz_iload_n (i := 1) 0 rfl rfl 123 dX6_init_122 rfl ?_
    refine pz_new (ci := 5) (C := RX5) (T := TX5) (N := 15) (ty := tyX5) 126 dX6_init_123 rfl (fun w h => List.mem_cons_of_mem _ (List.mem_append_left _ (List.mem_append_left _ (List.mem_append_left _ (List.mem_append_left _ (List.mem_append_right _ h)))))) tyX5_ok dfX5 (List.mem_of_getElem? (i := 10) rfl) (List.mem_of_getElem? (i := 11) rfl) (List.mem_of_getElem? (i := 12) rfl) hq.o (by decide) rfl rfl (hF _ (Nat.le_refl _)) (show _ ≤ 297 by omega) (show _ ≤ 2677 by omega) ?_
    refine pz_dup rfl 127 dX6_init_126 rfl ?_
    refine pz_initN (a := 280 + 9 * i) (d := 1) (mc := 8) (ms := 56) (Z1 := (mz, fin (rL 262 280 9 r i) (280 + 9 * i) (280 + 9 * i + 9), 280 + 9 * i + 9)) 130 dX6_init_127 rfl (List.mem_of_getElem? (i := 2) rfl) ggX6_init_X5_init rfl (List.mem_of_getElem? (i := 12) rfl) (List.mem_of_getElem? (i := 37) rfl) rfl (by decide +kernel) ⟨(Nat.le_of_ble_eq_true rfl), (Nat.le_of_ble_eq_true rfl)⟩ ⟨(show _ ≤ 297 by omega), (show _ ≤ 2677 by omega)⟩ (c5_init l G _ hq hF) (Nat.le_of_ble_eq_true rfl) ?_
    refine pz_aast (a := 262) (q := 280 + 9 * i) (N := 2) 131 dX6_init_130 rfl (Or.inr ⟨rfl, rfl, rfl⟩) (by omega) (by decide) (by omega) hq.o (vpin (by omega) (by omega)) ?_
    refine pz_iinc (z := 1) (v := nI (i + 1)) 0 rfl (show nI i + Int32.ofInt 1 = nI (i + 1) from nI_s1 i) [(1, .int (nI (i + 1))), (0, .ref (G.1 + 0))] 134 dX6_init_131 rfl (show 1 < 2 by omega) rfl ?_
    refine pz_goto 113 dX6_init_134 (by decide) ?_
    refine PZ.cast (ih (i + 1) (by omega)) (by omega) (by omega) ?_
    rw [ix_nI (by omega), rL_s (by omega), show 280 + 9 * (i + 1) = 280 + 9 * i + 9 by omega]
theorem rfZ_0 (j : Nat) : rfZ 0 j = if j = 0 then some 1 else if j = 1 then some 2 else if j = 2 then some 13 else if j = 3 then some 22 else if j = 4 then some 240 else if j = 5 then some 251 else if j = 6 then some 262 else if j = 7 then some 263 else none := by
  by_cases hj : j < 8
  · rcases (show j = 0 ∨ j = 1 ∨ j = 2 ∨ j = 3 ∨ j = 4 ∨ j = 5 ∨ j = 6 ∨ j = 7 by omega) with e | e | e | e | e | e | e | e <;> subst e <;> rfl
  · rw [if_neg (by omega), if_neg (by omega), if_neg (by omega), if_neg (by omega), if_neg (by omega), if_neg (by omega), if_neg (by omega), if_neg (by omega)]
    unfold rfZ
    rw [if_neg]
    rintro (⟨-, h1, h2⟩ | ⟨h1, -⟩)
    · have h1' : isRf 6 j = true := h1
      unfold isRf at h1'
      simp at h1'
      omega
    · revert h1; decide
theorem e6_end {r : Rm} (hr : FR r 0) : rL 262 280 9 (rL 1 264 2 (ur (ur (ur (fin (ur (fin (ur (fin (ur (fin (ur (fin (ur r 0 0 (1)) 2 (13)) 0 1 (2)) 13 (22)) 0 2 (13)) 22 (240)) 0 3 (22)) 240 (251)) 0 4 (240)) 251 (262)) 0 5 (251)) 0 6 (262)) 0 7 (263)) 8) 2 = fin r 0 298 := by
  funext a
  by_cases h : 0 ≤ a ∧ a < 298
  rotate_left
  · rw [fin_out h, rL_out (by omega) (by omega), rL_out (by omega) (by omega)]
    have U : ∀ (q : Rm) k v, ur q 0 k v a = q a := fun q k v => ur_off a (by omega)
    simp only [U]
    rw [fin_out (by omega), U, fin_out (by omega), U, fin_out (by omega), U, fin_out (by omega), U, fin_out (by omega), U]
  rw [fin_in h]
  by_cases e : a = 262
  · subst e
    funext j
    rw [rL_A]
    unfold rfZ
    by_cases hj : j < 2
    · rw [if_pos hj, if_pos (Or.inr ⟨Or.inr rfl, hj⟩), rf262]
    · rw [if_neg hj, if_neg]
      rintro (⟨h1, -⟩ | ⟨-, h2⟩)
      · revert h1; decide
      · exact hj h2
  by_cases hi : 280 ≤ a ∧ a < 298
  · rw [rL_in (by omega) e]
  rw [rL_out (by omega) e]
  by_cases e1 : a = 1
  · subst e1
    funext j
    rw [rL_A]
    unfold rfZ
    by_cases hj : j < 8
    · rw [if_pos hj, if_pos (Or.inr ⟨Or.inl rfl, hj⟩), rf1]
    · rw [if_neg hj, if_neg]
      rintro (⟨h1, -⟩ | ⟨-, h2⟩)
      · revert h1; decide
      · exact hj h2
  by_cases hi : 264 ≤ a ∧ a < 280
  · rw [rL_in (by omega) e1]
  rw [rL_out (by omega) e1]
  by_cases e0 : a = 0
  · subst e0
    funext j
    have F : ∀ (q : Rm) lo hi, 1 ≤ lo → fin q lo hi 0 = q 0 := fun q lo hi h => fin_out (by omega)
    rw [rfZ_0]
    simp (disch := omega) only [ur_s, F, hr 0 (Nat.le_refl _)]
    by_cases hj : j < 8
    · rcases (show j = 0 ∨ j = 1 ∨ j = 2 ∨ j = 3 ∨ j = 4 ∨ j = 5 ∨ j = 6 ∨ j = 7 by omega) with e | e | e | e | e | e | e | e <;> subst e <;> rfl
    · rw [if_neg (by omega), if_neg (by omega), if_neg (by omega), if_neg (by omega), if_neg (by omega), if_neg (by omega), if_neg (by omega), if_neg (by omega), if_neg (by omega), if_neg (by omega), if_neg (by omega), if_neg (by omega), if_neg (by omega), if_neg (by omega), if_neg (by omega), if_neg (by omega)]
  have U : ∀ (q : Rm) k v, ur q 0 k v a = q a := fun q k v => ur_off a e0
  simp only [U]
  by_cases h1 : 251 ≤ a ∧ a < 262
  · rw [fin_in h1]
  rw [fin_out h1]
  try simp only [U]
  by_cases h2 : 240 ≤ a ∧ a < 251
  · rw [fin_in h2]
  rw [fin_out h2]
  try simp only [U]
  by_cases h3 : 22 ≤ a ∧ a < 240
  · rw [fin_in h3]
  rw [fin_out h3]
  try simp only [U]
  by_cases h4 : 13 ≤ a ∧ a < 22
  · rw [fin_in h4]
  rw [fin_out h4]
  try simp only [U]
  by_cases h5 : 2 ≤ a ∧ a < 13
  · rw [fin_in h5]
  rw [fin_out h5]
  try simp only [U]
  have e3 : a = 263 := by omega
  subst e3
  rw [hr _ (by omega), rfZ_i (N := 16) (by decide)]
theorem c6_init (l : Launch) (G : Gx) {r : Rm} (hr : FR r 0) : CnZ l G 3 297 2677 yX6_init wsX6_init 0 (mz, r, 1) (mz, fin r 0 298, 298) := by
  refine CnZ.of (own := RX6) (cc := cX6_init) (nL := 2) (by decide) rfl rfl rfl (by omega) ?_
  refine pz_aload_n (i := 0) 0 rfl rfl 1 dX6_init_0 rfl ?_
  refine pz_obj 4 dX6_init_1 rfl (List.mem_of_getElem? (i := 1) rfl) (List.mem_of_getElem? (i := 2) rfl) (List.mem_of_getElem? (i := 3) rfl) (Nat.le_of_ble_eq_true rfl) (Nat.le_of_ble_eq_true rfl) ?_
  refine pz_aload_n (i := 0) 0 rfl rfl 5 dX6_init_4 rfl ?_
  refine pz_bipush (v := 8) (by decide) 7 dX6_init_5 rfl ?_
  refine pz_newQ (N := 8) (kd := 10) (C := "TearGuests$Row") 10 dX6_init_7 rfl (by decide) (by decide) (Or.inl ⟨rfl, rfl⟩) (List.mem_of_getElem? (i := 4) rfl) (by decide) (by omega) (hr 1 (by omega)) (Nat.le_of_ble_eq_true rfl) (Nat.le_of_ble_eq_true rfl) ?_
  show PZ G _ 1 8 10 _ _ (mz, _, 2)
  have f0 := FR.up hr (n2 := 2) (by omega)
  refine pz_putF (a := 0) (q := 1) (C := RX6) (T := TX6) (N := 10) (ci := 6) (ty0 := tyX6) (ty := (.array (.object "TearGuests$Row"))) 0 13 dX6_init_10 rfl (fun w h => List.mem_cons_of_mem _ (List.mem_append_left _ (List.mem_append_left _ (List.mem_append_left _ (List.mem_append_left _ (List.mem_append_left _ (List.mem_append_left _ (List.mem_append_right _ h)))))))) tyX6_ok nmX6 (List.mem_of_getElem? (i := 5) rfl) (by omega) (by decide) (by decide) rfl (by decide) rfl rfl (show RX6 ≠ "TearGuestsLaw" by decide) rfl (by decide +kernel) (fun _ => rfl) (fun _ => rfl) ?_
  have f1 : FR (ur r 0 0 (1)) (2) := FR.ur (FR.up f0 (by omega)) (by omega)
  refine pz_aload_n (i := 0) 0 rfl rfl 14 dX6_init_13 rfl ?_
  refine pz_new (ci := 3) (C := RX3) (T := TX3) (N := 5) (ty := tyX3) 17 dX6_init_14 rfl (fun w h => List.mem_cons_of_mem _ (List.mem_append_left _ (List.mem_append_left _ (List.mem_append_left _ (List.mem_append_left _ (List.mem_append_left _ (List.mem_append_right _ h))))))) tyX3_ok dfX3 (List.mem_of_getElem? (i := 6) rfl) (List.mem_of_getElem? (i := 7) rfl) (List.mem_of_getElem? (i := 8) rfl) (by decide) (by decide) rfl rfl (f1 2 (by omega)) (Nat.le_of_ble_eq_true rfl) (Nat.le_of_ble_eq_true rfl) ?_
  show PZ G _ 2 13 17 _ _ (mz, _, 3)
  refine pz_dup rfl 18 dX6_init_17 rfl ?_
  refine pz_initN (a := 2) (d := 2) (mc := 10) (ms := 181) (Z1 := (mz, fin (ur r 0 0 (1)) 2 (13), 13)) 21 dX6_init_18 rfl (List.mem_of_getElem? (i := 0) rfl) ggX6_init_X3_init rfl (List.mem_of_getElem? (i := 8) rfl) (List.mem_of_getElem? (i := 31) rfl) rfl (by decide +kernel) ⟨(Nat.le_of_ble_eq_true rfl), (Nat.le_of_ble_eq_true rfl)⟩ ⟨(Nat.le_of_ble_eq_true rfl), (Nat.le_of_ble_eq_true rfl)⟩ (c3_init l G (f1.up (by omega))) (Nat.le_of_ble_eq_true rfl) ?_
  show PZ G _ 12 194 21 _ _ (mz, _, 13)
  have f2 := FR.fin f1 (lo := 2) (hi := 13) (n2 := 13) (by omega) (by omega)
  refine pz_putF (a := 0) (q := 2) (C := RX6) (T := TX6) (N := 10) (ci := 6) (ty0 := tyX6) (ty := (.object "TearGuests$Reader")) 1 24 dX6_init_21 rfl (fun w h => List.mem_cons_of_mem _ (List.mem_append_left _ (List.mem_append_left _ (List.mem_append_left _ (List.mem_append_left _ (List.mem_append_left _ (List.mem_append_left _ (List.mem_append_right _ h)))))))) tyX6_ok nmX6 (List.mem_of_getElem? (i := 9) rfl) (by omega) (by decide) (by decide) rfl (by decide) rfl rfl (show RX6 ≠ "TearGuestsLaw" by decide) rfl (by decide +kernel) (fun _ => rfl) (fun _ => rfl) ?_
  have f3 : FR (ur (fin (ur r 0 0 (1)) 2 (13)) 0 1 (2)) (13) := FR.ur (FR.up f2 (by omega)) (by omega)
  refine pz_aload_n (i := 0) 0 rfl rfl 25 dX6_init_24 rfl ?_
  refine pz_new (ci := 5) (C := RX5) (T := TX5) (N := 15) (ty := tyX5) 28 dX6_init_25 rfl (fun w h => List.mem_cons_of_mem _ (List.mem_append_left _ (List.mem_append_left _ (List.mem_append_left _ (List.mem_append_left _ (List.mem_append_right _ h)))))) tyX5_ok dfX5 (List.mem_of_getElem? (i := 10) rfl) (List.mem_of_getElem? (i := 11) rfl) (List.mem_of_getElem? (i := 12) rfl) (by decide) (by decide) rfl rfl (f3 13 (by omega)) (Nat.le_of_ble_eq_true rfl) (Nat.le_of_ble_eq_true rfl) ?_
  show PZ G _ 13 209 28 _ _ (mz, _, 14)
  refine pz_dup rfl 29 dX6_init_28 rfl ?_
  refine pz_initN (a := 13) (d := 1) (mc := 8) (ms := 56) (Z1 := (mz, fin (ur (fin (ur r 0 0 (1)) 2 (13)) 0 1 (2)) 13 (22), 22)) 32 dX6_init_29 rfl (List.mem_of_getElem? (i := 2) rfl) ggX6_init_X5_init rfl (List.mem_of_getElem? (i := 12) rfl) (List.mem_of_getElem? (i := 37) rfl) rfl (by decide +kernel) ⟨(Nat.le_of_ble_eq_true rfl), (Nat.le_of_ble_eq_true rfl)⟩ ⟨(Nat.le_of_ble_eq_true rfl), (Nat.le_of_ble_eq_true rfl)⟩ (c5_init l G 13 (isW_13) (f3.up (by omega))) (Nat.le_of_ble_eq_true rfl) ?_
  show PZ G _ 21 265 32 _ _ (mz, _, 22)
  have f4 := FR.fin f3 (lo := 13) (hi := 22) (n2 := 22) (by omega) (by omega)
  refine pz_putF (a := 0) (q := 13) (C := RX6) (T := TX6) (N := 10) (ci := 6) (ty0 := tyX6) (ty := (.object "TearGuests$Wedding")) 2 35 dX6_init_32 rfl (fun w h => List.mem_cons_of_mem _ (List.mem_append_left _ (List.mem_append_left _ (List.mem_append_left _ (List.mem_append_left _ (List.mem_append_left _ (List.mem_append_left _ (List.mem_append_right _ h)))))))) tyX6_ok nmX6 (List.mem_of_getElem? (i := 13) rfl) (by omega) (by decide) (by decide) rfl (by decide) rfl rfl (show RX6 ≠ "TearGuestsLaw" by decide) rfl (by decide +kernel) (fun _ => rfl) (fun _ => rfl) ?_
  have f5 : FR (ur (fin (ur (fin (ur r 0 0 (1)) 2 (13)) 0 1 (2)) 13 (22)) 0 2 (13)) (22) := FR.ur (FR.up f4 (by omega)) (by omega)
  refine pz_aload_n (i := 0) 0 rfl rfl 36 dX6_init_35 rfl ?_
  refine pz_new (ci := 0) (C := RX0) (T := TX0) (N := 3) (ty := tyX0) 39 dX6_init_36 rfl (fun w h => List.mem_cons_of_mem _ (List.mem_append_left _ (List.mem_append_left _ (List.mem_append_left _ (List.mem_append_right _ h))))) tyX0_ok dfX0 (List.mem_of_getElem? (i := 14) rfl) (List.mem_of_getElem? (i := 15) rfl) (List.mem_of_getElem? (i := 16) rfl) (by decide) (by decide) rfl rfl (f5 22 (by omega)) (Nat.le_of_ble_eq_true rfl) (Nat.le_of_ble_eq_true rfl) ?_
  show PZ G _ 22 268 39 _ _ (mz, _, 23)
  refine pz_dup rfl 40 dX6_init_39 rfl ?_
  refine pz_initC (a := 22) (d := 2) (mc := 217) (ms := 1728) (Z1 := (mz, fin (ur (fin (ur (fin (ur r 0 0 (1)) 2 (13)) 0 1 (2)) 13 (22)) 0 2 (13)) 22 (240), 240)) 43 dX6_init_40 rfl (List.mem_of_getElem? (i := 48) rfl) ggX6_init_X0_init rfl (List.mem_of_getElem? (i := 16) rfl) (List.mem_of_getElem? (i := 49) rfl) rfl (by decide +kernel) ⟨(Nat.le_of_ble_eq_true rfl), (Nat.le_of_ble_eq_true rfl)⟩ ⟨(Nat.le_of_ble_eq_true rfl), (Nat.le_of_ble_eq_true rfl)⟩ (c0_init l G (f5.up (by omega))) (Nat.le_of_ble_eq_true rfl) ?_
  show PZ G _ 239 1996 43 _ _ (mz, _, 240)
  have f6 := FR.fin f5 (lo := 22) (hi := 240) (n2 := 240) (by omega) (by omega)
  refine pz_putF (a := 0) (q := 22) (C := RX6) (T := TX6) (N := 10) (ci := 6) (ty0 := tyX6) (ty := (.object "TearGuests$Acts")) 3 46 dX6_init_43 rfl (fun w h => List.mem_cons_of_mem _ (List.mem_append_left _ (List.mem_append_left _ (List.mem_append_left _ (List.mem_append_left _ (List.mem_append_left _ (List.mem_append_left _ (List.mem_append_right _ h)))))))) tyX6_ok nmX6 (List.mem_of_getElem? (i := 17) rfl) (by omega) (by decide) (by decide) rfl (by decide) rfl rfl (show RX6 ≠ "TearGuestsLaw" by decide) rfl (by decide +kernel) (fun _ => rfl) (fun _ => rfl) ?_
  have f7 : FR (ur (fin (ur (fin (ur (fin (ur r 0 0 (1)) 2 (13)) 0 1 (2)) 13 (22)) 0 2 (13)) 22 (240)) 0 3 (22)) (240) := FR.ur (FR.up f6 (by omega)) (by omega)
  refine pz_aload_n (i := 0) 0 rfl rfl 47 dX6_init_46 rfl ?_
  refine pz_new (ci := 1) (C := RX1) (T := TX1) (N := 4) (ty := tyX1) 50 dX6_init_47 rfl (fun w h => List.mem_cons_of_mem _ (List.mem_append_left _ (List.mem_append_left _ (List.mem_append_right _ h)))) tyX1_ok dfX1 (List.mem_of_getElem? (i := 18) rfl) (List.mem_of_getElem? (i := 19) rfl) (List.mem_of_getElem? (i := 20) rfl) (by decide) (by decide) rfl rfl (f7 240 (by omega)) (Nat.le_of_ble_eq_true rfl) (Nat.le_of_ble_eq_true rfl) ?_
  show PZ G _ 240 2000 50 _ _ (mz, _, 241)
  refine pz_dup rfl 51 dX6_init_50 rfl ?_
  refine pz_initN (a := 240) (d := 2) (mc := 10) (ms := 78) (Z1 := (mz, fin (ur (fin (ur (fin (ur (fin (ur r 0 0 (1)) 2 (13)) 0 1 (2)) 13 (22)) 0 2 (13)) 22 (240)) 0 3 (22)) 240 (251), 251)) 54 dX6_init_51 rfl (List.mem_of_getElem? (i := 4) rfl) ggX6_init_X1_init rfl (List.mem_of_getElem? (i := 20) rfl) (List.mem_of_getElem? (i := 54) rfl) rfl (by decide +kernel) ⟨(Nat.le_of_ble_eq_true rfl), (Nat.le_of_ble_eq_true rfl)⟩ ⟨(Nat.le_of_ble_eq_true rfl), (Nat.le_of_ble_eq_true rfl)⟩ (c1_init l G (f7.up (by omega))) (Nat.le_of_ble_eq_true rfl) ?_
  show PZ G _ 250 2078 54 _ _ (mz, _, 251)
  have f8 := FR.fin f7 (lo := 240) (hi := 251) (n2 := 251) (by omega) (by omega)
  refine pz_putF (a := 0) (q := 240) (C := RX6) (T := TX6) (N := 10) (ci := 6) (ty0 := tyX6) (ty := (.object "TearGuests$Forecast")) 4 57 dX6_init_54 rfl (fun w h => List.mem_cons_of_mem _ (List.mem_append_left _ (List.mem_append_left _ (List.mem_append_left _ (List.mem_append_left _ (List.mem_append_left _ (List.mem_append_left _ (List.mem_append_right _ h)))))))) tyX6_ok nmX6 (List.mem_of_getElem? (i := 21) rfl) (by omega) (by decide) (by decide) rfl (by decide) rfl rfl (show RX6 ≠ "TearGuestsLaw" by decide) rfl (by decide +kernel) (fun _ => rfl) (fun _ => rfl) ?_
  have f9 : FR (ur (fin (ur (fin (ur (fin (ur (fin (ur r 0 0 (1)) 2 (13)) 0 1 (2)) 13 (22)) 0 2 (13)) 22 (240)) 0 3 (22)) 240 (251)) 0 4 (240)) (251) := FR.ur (FR.up f8 (by omega)) (by omega)
  refine pz_aload_n (i := 0) 0 rfl rfl 58 dX6_init_57 rfl ?_
  refine pz_new (ci := 2) (C := RX2) (T := TX2) (N := 4) (ty := tyX2) 61 dX6_init_58 rfl (fun w h => List.mem_cons_of_mem _ (List.mem_append_left _ (List.mem_append_right _ h))) tyX2_ok dfX2 (List.mem_of_getElem? (i := 22) rfl) (List.mem_of_getElem? (i := 23) rfl) (List.mem_of_getElem? (i := 24) rfl) (by decide) (by decide) rfl rfl (f9 251 (by omega)) (Nat.le_of_ble_eq_true rfl) (Nat.le_of_ble_eq_true rfl) ?_
  show PZ G _ 251 2082 61 _ _ (mz, _, 252)
  refine pz_dup rfl 62 dX6_init_61 rfl ?_
  refine pz_initN (a := 251) (d := 2) (mc := 10) (ms := 83) (Z1 := (mz, fin (ur (fin (ur (fin (ur (fin (ur (fin (ur r 0 0 (1)) 2 (13)) 0 1 (2)) 13 (22)) 0 2 (13)) 22 (240)) 0 3 (22)) 240 (251)) 0 4 (240)) 251 (262), 262)) 65 dX6_init_62 rfl (List.mem_of_getElem? (i := 6) rfl) ggX6_init_X2_init rfl (List.mem_of_getElem? (i := 24) rfl) (List.mem_of_getElem? (i := 60) rfl) rfl (by decide +kernel) ⟨(Nat.le_of_ble_eq_true rfl), (Nat.le_of_ble_eq_true rfl)⟩ ⟨(Nat.le_of_ble_eq_true rfl), (Nat.le_of_ble_eq_true rfl)⟩ (c2_init l G (f9.up (by omega))) (Nat.le_of_ble_eq_true rfl) ?_
  show PZ G _ 261 2165 65 _ _ (mz, _, 262)
  have f10 := FR.fin f9 (lo := 251) (hi := 262) (n2 := 262) (by omega) (by omega)
  refine pz_putF (a := 0) (q := 251) (C := RX6) (T := TX6) (N := 10) (ci := 6) (ty0 := tyX6) (ty := (.object "TearGuests$Guess")) 5 68 dX6_init_65 rfl (fun w h => List.mem_cons_of_mem _ (List.mem_append_left _ (List.mem_append_left _ (List.mem_append_left _ (List.mem_append_left _ (List.mem_append_left _ (List.mem_append_left _ (List.mem_append_right _ h)))))))) tyX6_ok nmX6 (List.mem_of_getElem? (i := 25) rfl) (by omega) (by decide) (by decide) rfl (by decide) rfl rfl (show RX6 ≠ "TearGuestsLaw" by decide) rfl (by decide +kernel) (fun _ => rfl) (fun _ => rfl) ?_
  have f11 : FR (ur (fin (ur (fin (ur (fin (ur (fin (ur (fin (ur r 0 0 (1)) 2 (13)) 0 1 (2)) 13 (22)) 0 2 (13)) 22 (240)) 0 3 (22)) 240 (251)) 0 4 (240)) 251 (262)) 0 5 (251)) (262) := FR.ur (FR.up f10 (by omega)) (by omega)
  refine pz_aload_n (i := 0) 0 rfl rfl 69 dX6_init_68 rfl ?_
  refine pz_iconst (v := 2) (by decide) 70 dX6_init_69 rfl ?_
  refine pz_newQ (N := 2) (kd := 11) (C := "TearGuests$Wedding") 73 dX6_init_70 rfl (by decide) (by decide) (Or.inr ⟨rfl, rfl⟩) (List.mem_of_getElem? (i := 10) rfl) (by decide) (by omega) (f11 262 (by omega)) (Nat.le_of_ble_eq_true rfl) (Nat.le_of_ble_eq_true rfl) ?_
  show PZ G _ 262 2167 73 _ _ (mz, _, 263)
  have f12 := FR.up f11 (n2 := 263) (by omega)
  refine pz_putF (a := 0) (q := 262) (C := RX6) (T := TX6) (N := 10) (ci := 6) (ty0 := tyX6) (ty := (.array (.object "TearGuests$Wedding"))) 6 76 dX6_init_73 rfl (fun w h => List.mem_cons_of_mem _ (List.mem_append_left _ (List.mem_append_left _ (List.mem_append_left _ (List.mem_append_left _ (List.mem_append_left _ (List.mem_append_left _ (List.mem_append_right _ h)))))))) tyX6_ok nmX6 (List.mem_of_getElem? (i := 26) rfl) (by omega) (by decide) (by decide) rfl (by decide) rfl rfl (show RX6 ≠ "TearGuestsLaw" by decide) rfl (by decide +kernel) (fun _ => rfl) (fun _ => rfl) ?_
  have f13 : FR (ur (ur (fin (ur (fin (ur (fin (ur (fin (ur (fin (ur r 0 0 (1)) 2 (13)) 0 1 (2)) 13 (22)) 0 2 (13)) 22 (240)) 0 3 (22)) 240 (251)) 0 4 (240)) 251 (262)) 0 5 (251)) 0 6 (262)) (263) := FR.ur (FR.up f12 (by omega)) (by omega)
  refine pz_aload_n (i := 0) 0 rfl rfl 77 dX6_init_76 rfl ?_
  refine pz_bipush (v := 16) (by decide) 79 dX6_init_77 rfl ?_
  refine pz_newI (N := 16) 81 dX6_init_79 rfl (by decide) (by decide) (List.mem_of_getElem? (i := 27) rfl) (by decide) (by omega) rfl (Nat.le_of_ble_eq_true rfl) (Nat.le_of_ble_eq_true rfl) ?_
  show PZ G _ 263 2183 81 _ _ (mz, _, 264)
  refine pz_putF (a := 0) (q := 263) (C := RX6) (T := TX6) (N := 10) (ci := 6) (ty0 := tyX6) (ty := (.array .int)) 7 84 dX6_init_81 rfl (fun w h => List.mem_cons_of_mem _ (List.mem_append_left _ (List.mem_append_left _ (List.mem_append_left _ (List.mem_append_left _ (List.mem_append_left _ (List.mem_append_left _ (List.mem_append_right _ h)))))))) tyX6_ok nmX6 (List.mem_of_getElem? (i := 28) rfl) (by omega) (by decide) (by decide) rfl (by decide) rfl rfl (show RX6 ≠ "TearGuestsLaw" by decide) rfl (by decide +kernel) (fun _ => rfl) (fun _ => rfl) ?_
  have f14 : FR (ur (ur (ur (fin (ur (fin (ur (fin (ur (fin (ur (fin (ur r 0 0 (1)) 2 (13)) 0 1 (2)) 13 (22)) 0 2 (13)) 22 (240)) 0 3 (22)) 240 (251)) 0 4 (240)) 251 (262)) 0 5 (251)) 0 6 (262)) 0 7 (263)) (264) := FR.ur (FR.up f13 (by omega)) (by omega)
  refine pz_iconst (v := 0) (by decide) 85 dX6_init_84 rfl ?_
  refine pz_istore_n (i := 1) rfl [(1, .int 0), (0, .ref (G.1 + 0))] 86 dX6_init_85 rfl (show 1 < 2 by omega) rfl ?_
  have g1 : ∀ k, k ≠ 0 → k ≠ 1 → True := fun _ _ _ => trivial
  have w0 : (ur (ur (ur (fin (ur (fin (ur (fin (ur (fin (ur (fin (ur r 0 0 (1)) 2 (13)) 0 1 (2)) 13 (22)) 0 2 (13)) 22 (240)) 0 3 (22)) 240 (251)) 0 4 (240)) 251 (262)) 0 5 (251)) 0 6 (262)) 0 7 (263)) 0 0 = some 1 := by simp (disch := omega) only [ur_s, show ∀ (q : Rm) lo hi, 1 ≤ lo → fin q lo hi 0 = q 0 from fun q lo hi h => fin_out (by omega)]; rfl
  have w6 : (ur (ur (ur (fin (ur (fin (ur (fin (ur (fin (ur (fin (ur r 0 0 (1)) 2 (13)) 0 1 (2)) 13 (22)) 0 2 (13)) 22 (240)) 0 3 (22)) 240 (251)) 0 4 (240)) 251 (262)) 0 5 (251)) 0 6 (262)) 0 7 (263)) 0 6 = some 262 := by simp (disch := omega) only [ur_s, show ∀ (q : Rm) lo hi, 1 ≤ lo → fin q lo hi 0 = q 0 from fun q lo hi h => fin_out (by omega)]; rfl
  have x1 : (ur (ur (ur (fin (ur (fin (ur (fin (ur (fin (ur (fin (ur r 0 0 (1)) 2 (13)) 0 1 (2)) 13 (22)) 0 2 (13)) 22 (240)) 0 3 (22)) 240 (251)) 0 4 (240)) 251 (262)) 0 5 (251)) 0 6 (262)) 0 7 (263)) 1 = fun _ => none := by
    have U : ∀ (q : Rm) k v, ur q 0 k v 1 = q 1 := fun q k v => ur_off 1 (by omega)
    have F : ∀ (q : Rm) lo hi, 2 ≤ lo → fin q lo hi 1 = q 1 := fun q lo hi h => fin_out (by omega)
    simp (disch := omega) only [U, F]
    exact hr 1 (by omega)
  have x2 : (ur (ur (ur (fin (ur (fin (ur (fin (ur (fin (ur (fin (ur r 0 0 (1)) 2 (13)) 0 1 (2)) 13 (22)) 0 2 (13)) 22 (240)) 0 3 (22)) 240 (251)) 0 4 (240)) 251 (262)) 0 5 (251)) 0 6 (262)) 0 7 (263)) 262 = fun _ => none := by
    have U : ∀ (q : Rm) k v, ur q 0 k v 262 = q 262 := fun q k v => ur_off 262 (by omega)
    have F : ∀ (q : Rm) lo hi, hi ≤ 262 → fin q lo hi 262 = q 262 := fun q lo hi h => fin_out (by omega)
    simp (disch := omega) only [U, F]
    exact hr 262 (by omega)
  refine PZ.cast (lp6a l G (r := (ur (ur (ur (fin (ur (fin (ur (fin (ur (fin (ur (fin (ur r 0 0 (1)) 2 (13)) 0 1 (2)) 13 (22)) 0 2 (13)) 22 (240)) 0 3 (22)) 240 (251)) 0 4 (240)) 251 (262)) 0 5 (251)) 0 6 (262)) 0 7 (263))) (f14.up (by omega)) w0 ?_ 8 0 rfl) rfl rfl (by rw [rL_0 x1])
  refine pz_iconst (v := 0) (by decide) 112 dX6_init_111 rfl ?_
  refine pz_istore_n (i := 1) rfl [(1, .int (nI 0)), (0, .ref (G.1 + 0))] 113 dX6_init_112 rfl (show 1 < 2 by omega) rfl ?_
  refine PZ.cast (lp6b l G (r := rL 1 264 2 (ur (ur (ur (fin (ur (fin (ur (fin (ur (fin (ur (fin (ur r 0 0 (1)) 2 (13)) 0 1 (2)) 13 (22)) 0 2 (13)) 22 (240)) 0 3 (22)) 240 (251)) 0 4 (240)) 251 (262)) 0 5 (251)) 0 6 (262)) 0 7 (263)) 8) (FR.up (FR.rL (f14.up (by omega)) (by omega)) (by omega)) (by rw [rL_lo (by omega) (by omega)]; exact w6) ?_ 2 0 rfl) rfl rfl (by rw [rL_0 (by rw [rL_lo (by omega) (by omega)]; exact x2)])
  exact pz_vret dX6_init_137 (by rw [e6_end hr])
