def mLn (i : Nat) : Mm := fun a k => if a = 299 ∧ k < i then -1000000 else 0
theorem mLn_0 : mLn 0 = mz := by
  funext a k
  unfold mLn mz
  rw [if_neg (by omega)]
theorem mLn_s (i : Nat) : st_ (mLn i) 299 i (-1000000) = mLn (i + 1) := by
  funext a k
  unfold st_ mLn
  by_cases h : a = 299 ∧ k = i
  · rw [if_pos h, if_pos (by omega)]
  · rw [if_neg h]
    by_cases h2 : a = 299 ∧ k < i
    · rw [if_pos h2, if_pos (by omega)]
    · rw [if_neg h2, if_neg (by omega)]
theorem mLn_n {i a : Nat} (h : a ≠ 299) (k : Nat) : mLn i a k = 0 := by
  unfold mLn
  rw [if_neg (fun q => h q.1)]
theorem lpM7 (l : Launch) (G : Gx) {r : Rm} {Z' : Zx} (hg : r 298 0 = some 299) (kend : PZ G (KZ l G RX7 cX7_init 2 wsX7_init 1 14 2113 Z') 14 2113 139 [(1, .int (nI 8)), (0, .ref (G.1 + 298))] [] (mLn 8, r, 313)) : ∀ t i, i + t = 8 → PZ G (KZ l G RX7 cX7_init 2 wsX7_init 1 14 2113 Z') 14 2113 119 [(1, .int (nI i)), (0, .ref (G.1 + 298))] [] (mLn i, r, 313) := by
  intro t
  induction t with
  | zero =>
    intro i hi
    have e : i = 8 := by omega
    subst e
    refine pz_iload_n (i := 1) 0 rfl rfl 120 dX7_init_119 rfl ?_
    refine pz_bipush (v := 8) (by decide) 122 dX7_init_120 rfl ?_
    exact pz_icmp_ge 139 125 dX7_init_122 (by decide) rfl (fun _ => kend) (fun h => absurd (by decide) h)
  | succ t ih =>
    intro i hi
    refine pz_iload_n (i := 1) 0 rfl rfl 120 dX7_init_119 rfl ?_
    refine pz_bipush (v := 8) (by decide) 122 dX7_init_120 rfl ?_
    refine pz_icmp_ge 139 125 dX7_init_122 (by decide) rfl (fun h => absurd h (by rw [show (8 : Int32) = nI 8 from rfl, nI_leE (by omega) (by omega)]; omega)) (fun _ => ?_)
    refine pz_aload_n (i := 0) 1 rfl rfl 126 dX7_init_125 rfl ?_
    refine pz_getR (a := 298) (q := 299) (C := RX7) (T := TX7) (N := 24) (ci := 7) 0 129 dX7_init_126 rfl (fun w h => List.mem_cons_of_mem _ (List.mem_append_right _ h)) (List.mem_of_getElem? (i := 5) rfl) (by omega) (by decide) (by decide) rfl (by decide) rfl hg ?_
    refine pz_iload_n (i := 1) 0 rfl rfl 130 dX7_init_129 rfl ?_
    refine pz_ldc (v := -1000000) 132 (List.mem_of_getElem? (i := 20) rfl) dX7_init_130 rfl ?_
    refine pz_iast (a := 299) (N := 8) 133 dX7_init_132 rfl (by omega) (by decide) (vpin (by omega) (by omega)) ?_
    refine pz_iinc (z := 1) (v := nI (i + 1)) 0 rfl (show nI i + Int32.ofInt 1 = nI (i + 1) from nI_s1 i) [(1, .int (nI (i + 1))), (0, .ref (G.1 + 298))] 136 dX7_init_133 rfl (show 1 < 2 by omega) rfl ?_
    refine pz_goto 119 dX7_init_136 (by decide) ?_
    refine PZ.cast (ih (i + 1) (by omega)) rfl rfl ?_
    rw [ix_nI (by omega), mLn_s]
theorem e7_end {r : Rm} (hr : FR r 298) : (ur (ur (ur (ur (ur (ur (ur (ur (ur (ur (ur (ur (ur (ur r 298 0 (299)) 298 1 (300)) 298 2 (301)) 298 3 (302)) 298 5 (303)) 298 13 (304)) 298 14 (305)) 298 15 (306)) 298 16 (307)) 298 18 (308)) 298 19 (309)) 298 20 (310)) 298 21 (311)) 298 22 (312)) = fin r 298 313 := by
  funext a
  by_cases h : 298 ≤ a ∧ a < 313
  rotate_left
  · have U : ∀ (q : Rm) k v, ur q 298 k v a = q a := fun q k v => ur_off a (by omega)
    simp only [U]
    rw [fin_out h]
  rw [fin_in h]
  by_cases e0 : a = 298
  · subst e0
    funext j
    simp only [ur_s, hr 298 (Nat.le_refl _)]
    by_cases hj : j < 24
    · rcases (show j = 0 ∨ j = 1 ∨ j = 2 ∨ j = 3 ∨ j = 4 ∨ j = 5 ∨ j = 6 ∨ j = 7 ∨ j = 8 ∨ j = 9 ∨ j = 10 ∨ j = 11 ∨ j = 12 ∨ j = 13 ∨ j = 14 ∨ j = 15 ∨ j = 16 ∨ j = 17 ∨ j = 18 ∨ j = 19 ∨ j = 20 ∨ j = 21 ∨ j = 22 ∨ j = 23 by omega) with e | e | e | e | e | e | e | e | e | e | e | e | e | e | e | e | e | e | e | e | e | e | e | e <;> subst e <;> rfl
    · rw [if_neg (by omega), if_neg (by omega), if_neg (by omega), if_neg (by omega), if_neg (by omega), if_neg (by omega), if_neg (by omega), if_neg (by omega), if_neg (by omega), if_neg (by omega), if_neg (by omega), if_neg (by omega), if_neg (by omega), if_neg (by omega)]
      unfold rfZ
      rw [if_neg]
      rintro (⟨-, -, h2⟩ | ⟨h1, -⟩)
      · exact hj h2
      · revert h1; decide
  have U : ∀ (q : Rm) k v, ur q 298 k v a = q a := fun q k v => ur_off a e0
  simp only [U]
  rw [hr a (by omega)]
  rcases (show a = 299 ∨ a = 300 ∨ a = 301 ∨ a = 302 ∨ a = 303 ∨ a = 304 ∨ a = 305 ∨ a = 306 ∨ a = 307 ∨ a = 308 ∨ a = 309 ∨ a = 310 ∨ a = 311 ∨ a = 312 by omega) with e | e | e | e | e | e | e | e | e | e | e | e | e | e <;> subst e <;> first | exact (rfZ_i rfl).symm | exact (rfZ_z rfl).symm
theorem c7_init (l : Launch) (G : Gx) {r : Rm} (hr : FR r 298) : CnZ l G 1 14 2113 yX7_init wsX7_init 298 (mz, r, 299) (mLn 8, fin r 298 313, 313) := by
  refine CnZ.of (own := RX7) (cc := cX7_init) (nL := 2) (by decide) rfl rfl rfl (by omega) ?_
  refine pz_aload_n (i := 0) 0 rfl rfl 1 dX7_init_0 rfl ?_
  refine pz_obj 4 dX7_init_1 rfl (List.mem_of_getElem? (i := 1) rfl) (List.mem_of_getElem? (i := 2) rfl) (List.mem_of_getElem? (i := 3) rfl) (Nat.le_of_ble_eq_true rfl) (Nat.le_of_ble_eq_true rfl) ?_
  refine pz_aload_n (i := 0) 0 rfl rfl 5 dX7_init_4 rfl ?_
  refine pz_bipush (v := 8) (by decide) 7 dX7_init_5 rfl ?_
  refine pz_newI (N := 8) 9 dX7_init_7 rfl (by decide) (by decide) (List.mem_of_getElem? (i := 4) rfl) (by decide) (by omega) rfl (Nat.le_of_ble_eq_true rfl) (Nat.le_of_ble_eq_true rfl) ?_
  show PZ G _ 1 8 9 _ _ (mz, _, 300)
  refine pz_putF (a := 298) (q := 299) (C := RX7) (T := TX7) (N := 24) (ci := 7) (ty0 := tyX7) (ty := (.array .int)) 0 12 dX7_init_9 rfl (fun w h => List.mem_cons_of_mem _ (List.mem_append_right _ h)) tyX7_ok nmX7 (List.mem_of_getElem? (i := 5) rfl) (by omega) (by decide) (by decide) rfl (by decide) rfl rfl (show RX7 ≠ "TearGuestsLaw" by decide) rfl (by decide +kernel) (fun _ => rfl) (fun _ => rfl) ?_
  have f0 : FR (ur r 298 0 (299)) (300) := FR.ur (FR.up hr (by omega)) (by omega)
  refine pz_aload_n (i := 0) 0 rfl rfl 13 dX7_init_12 rfl ?_
  refine pz_bipush (v := 8) (by decide) 15 dX7_init_13 rfl ?_
  refine pz_newI (N := 8) 17 dX7_init_15 rfl (by decide) (by decide) (List.mem_of_getElem? (i := 4) rfl) (by decide) (by omega) rfl (Nat.le_of_ble_eq_true rfl) (Nat.le_of_ble_eq_true rfl) ?_
  show PZ G _ 2 16 17 _ _ (mz, _, 301)
  refine pz_putF (a := 298) (q := 300) (C := RX7) (T := TX7) (N := 24) (ci := 7) (ty0 := tyX7) (ty := (.array .int)) 1 20 dX7_init_17 rfl (fun w h => List.mem_cons_of_mem _ (List.mem_append_right _ h)) tyX7_ok nmX7 (List.mem_of_getElem? (i := 6) rfl) (by omega) (by decide) (by decide) rfl (by decide) rfl rfl (show RX7 ≠ "TearGuestsLaw" by decide) rfl (by decide +kernel) (fun _ => rfl) (fun _ => rfl) ?_
  have f1 : FR (ur (ur r 298 0 (299)) 298 1 (300)) (301) := FR.ur (FR.up f0 (by omega)) (by omega)
  refine pz_aload_n (i := 0) 0 rfl rfl 21 dX7_init_20 rfl ?_
  refine pz_sipush (v := 320) (by decide) 24 dX7_init_21 rfl ?_
  refine pz_newI (N := 320) 26 dX7_init_24 rfl (by decide) (by decide) (List.mem_of_getElem? (i := 4) rfl) (by decide) (by omega) rfl (Nat.le_of_ble_eq_true rfl) (Nat.le_of_ble_eq_true rfl) ?_
  show PZ G _ 3 336 26 _ _ (mz, _, 302)
  refine pz_putF (a := 298) (q := 301) (C := RX7) (T := TX7) (N := 24) (ci := 7) (ty0 := tyX7) (ty := (.array .int)) 2 29 dX7_init_26 rfl (fun w h => List.mem_cons_of_mem _ (List.mem_append_right _ h)) tyX7_ok nmX7 (List.mem_of_getElem? (i := 7) rfl) (by omega) (by decide) (by decide) rfl (by decide) rfl rfl (show RX7 ≠ "TearGuestsLaw" by decide) rfl (by decide +kernel) (fun _ => rfl) (fun _ => rfl) ?_
  have f2 : FR (ur (ur (ur r 298 0 (299)) 298 1 (300)) 298 2 (301)) (302) := FR.ur (FR.up f1 (by omega)) (by omega)
  refine pz_aload_n (i := 0) 0 rfl rfl 30 dX7_init_29 rfl ?_
  refine pz_bipush (v := 40) (by decide) 32 dX7_init_30 rfl ?_
  refine pz_newI (N := 40) 34 dX7_init_32 rfl (by decide) (by decide) (List.mem_of_getElem? (i := 4) rfl) (by decide) (by omega) rfl (Nat.le_of_ble_eq_true rfl) (Nat.le_of_ble_eq_true rfl) ?_
  show PZ G _ 4 376 34 _ _ (mz, _, 303)
  refine pz_putF (a := 298) (q := 302) (C := RX7) (T := TX7) (N := 24) (ci := 7) (ty0 := tyX7) (ty := (.array .int)) 3 37 dX7_init_34 rfl (fun w h => List.mem_cons_of_mem _ (List.mem_append_right _ h)) tyX7_ok nmX7 (List.mem_of_getElem? (i := 8) rfl) (by omega) (by decide) (by decide) rfl (by decide) rfl rfl (show RX7 ≠ "TearGuestsLaw" by decide) rfl (by decide +kernel) (fun _ => rfl) (fun _ => rfl) ?_
  have f3 : FR (ur (ur (ur (ur r 298 0 (299)) 298 1 (300)) 298 2 (301)) 298 3 (302)) (303) := FR.ur (FR.up f2 (by omega)) (by omega)
  refine pz_aload_n (i := 0) 0 rfl rfl 38 dX7_init_37 rfl ?_
  refine pz_bipush (v := 110) (by decide) 40 dX7_init_38 rfl ?_
  refine pz_newI (N := 110) 42 dX7_init_40 rfl (by decide) (by decide) (List.mem_of_getElem? (i := 4) rfl) (by decide) (by omega) rfl (Nat.le_of_ble_eq_true rfl) (Nat.le_of_ble_eq_true rfl) ?_
  show PZ G _ 5 486 42 _ _ (mz, _, 304)
  refine pz_putF (a := 298) (q := 303) (C := RX7) (T := TX7) (N := 24) (ci := 7) (ty0 := tyX7) (ty := (.array .int)) 5 45 dX7_init_42 rfl (fun w h => List.mem_cons_of_mem _ (List.mem_append_right _ h)) tyX7_ok nmX7 (List.mem_of_getElem? (i := 9) rfl) (by omega) (by decide) (by decide) rfl (by decide) rfl rfl (show RX7 ≠ "TearGuestsLaw" by decide) rfl (by decide +kernel) (fun _ => rfl) (fun _ => rfl) ?_
  have f4 : FR (ur (ur (ur (ur (ur r 298 0 (299)) 298 1 (300)) 298 2 (301)) 298 3 (302)) 298 5 (303)) (304) := FR.ur (FR.up f3 (by omega)) (by omega)
  refine pz_aload_n (i := 0) 0 rfl rfl 46 dX7_init_45 rfl ?_
  refine pz_bipush (v := 55) (by decide) 48 dX7_init_46 rfl ?_
  refine pz_newI (N := 55) 50 dX7_init_48 rfl (by decide) (by decide) (List.mem_of_getElem? (i := 4) rfl) (by decide) (by omega) rfl (Nat.le_of_ble_eq_true rfl) (Nat.le_of_ble_eq_true rfl) ?_
  show PZ G _ 6 541 50 _ _ (mz, _, 305)
  refine pz_putF (a := 298) (q := 304) (C := RX7) (T := TX7) (N := 24) (ci := 7) (ty0 := tyX7) (ty := (.array .int)) 13 53 dX7_init_50 rfl (fun w h => List.mem_cons_of_mem _ (List.mem_append_right _ h)) tyX7_ok nmX7 (List.mem_of_getElem? (i := 10) rfl) (by omega) (by decide) (by decide) rfl (by decide) rfl rfl (show RX7 ≠ "TearGuestsLaw" by decide) rfl (by decide +kernel) (fun _ => rfl) (fun _ => rfl) ?_
  have f5 : FR (ur (ur (ur (ur (ur (ur r 298 0 (299)) 298 1 (300)) 298 2 (301)) 298 3 (302)) 298 5 (303)) 298 13 (304)) (305) := FR.ur (FR.up f4 (by omega)) (by omega)
  refine pz_aload_n (i := 0) 0 rfl rfl 54 dX7_init_53 rfl ?_
  refine pz_bipush (v := 55) (by decide) 56 dX7_init_54 rfl ?_
  refine pz_newI (N := 55) 58 dX7_init_56 rfl (by decide) (by decide) (List.mem_of_getElem? (i := 4) rfl) (by decide) (by omega) rfl (Nat.le_of_ble_eq_true rfl) (Nat.le_of_ble_eq_true rfl) ?_
  show PZ G _ 7 596 58 _ _ (mz, _, 306)
  refine pz_putF (a := 298) (q := 305) (C := RX7) (T := TX7) (N := 24) (ci := 7) (ty0 := tyX7) (ty := (.array .int)) 14 61 dX7_init_58 rfl (fun w h => List.mem_cons_of_mem _ (List.mem_append_right _ h)) tyX7_ok nmX7 (List.mem_of_getElem? (i := 11) rfl) (by omega) (by decide) (by decide) rfl (by decide) rfl rfl (show RX7 ≠ "TearGuestsLaw" by decide) rfl (by decide +kernel) (fun _ => rfl) (fun _ => rfl) ?_
  have f6 : FR (ur (ur (ur (ur (ur (ur (ur r 298 0 (299)) 298 1 (300)) 298 2 (301)) 298 3 (302)) 298 5 (303)) 298 13 (304)) 298 14 (305)) (306) := FR.ur (FR.up f5 (by omega)) (by omega)
  refine pz_aload_n (i := 0) 0 rfl rfl 62 dX7_init_61 rfl ?_
  refine pz_bipush (v := 55) (by decide) 64 dX7_init_62 rfl ?_
  refine pz_newI (N := 55) 66 dX7_init_64 rfl (by decide) (by decide) (List.mem_of_getElem? (i := 4) rfl) (by decide) (by omega) rfl (Nat.le_of_ble_eq_true rfl) (Nat.le_of_ble_eq_true rfl) ?_
  show PZ G _ 8 651 66 _ _ (mz, _, 307)
  refine pz_putF (a := 298) (q := 306) (C := RX7) (T := TX7) (N := 24) (ci := 7) (ty0 := tyX7) (ty := (.array .int)) 15 69 dX7_init_66 rfl (fun w h => List.mem_cons_of_mem _ (List.mem_append_right _ h)) tyX7_ok nmX7 (List.mem_of_getElem? (i := 12) rfl) (by omega) (by decide) (by decide) rfl (by decide) rfl rfl (show RX7 ≠ "TearGuestsLaw" by decide) rfl (by decide +kernel) (fun _ => rfl) (fun _ => rfl) ?_
  have f7 : FR (ur (ur (ur (ur (ur (ur (ur (ur r 298 0 (299)) 298 1 (300)) 298 2 (301)) 298 3 (302)) 298 5 (303)) 298 13 (304)) 298 14 (305)) 298 15 (306)) (307) := FR.ur (FR.up f6 (by omega)) (by omega)
  refine pz_aload_n (i := 0) 0 rfl rfl 70 dX7_init_69 rfl ?_
  refine pz_sipush (v := 1320) (by decide) 73 dX7_init_70 rfl ?_
  refine pz_newI (N := 1320) 75 dX7_init_73 rfl (by decide) (by decide) (List.mem_of_getElem? (i := 4) rfl) (by decide) (by omega) rfl (Nat.le_of_ble_eq_true rfl) (Nat.le_of_ble_eq_true rfl) ?_
  show PZ G _ 9 1971 75 _ _ (mz, _, 308)
  refine pz_putF (a := 298) (q := 307) (C := RX7) (T := TX7) (N := 24) (ci := 7) (ty0 := tyX7) (ty := (.array .int)) 16 78 dX7_init_75 rfl (fun w h => List.mem_cons_of_mem _ (List.mem_append_right _ h)) tyX7_ok nmX7 (List.mem_of_getElem? (i := 13) rfl) (by omega) (by decide) (by decide) rfl (by decide) rfl rfl (show RX7 ≠ "TearGuestsLaw" by decide) rfl (by decide +kernel) (fun _ => rfl) (fun _ => rfl) ?_
  have f8 : FR (ur (ur (ur (ur (ur (ur (ur (ur (ur r 298 0 (299)) 298 1 (300)) 298 2 (301)) 298 3 (302)) 298 5 (303)) 298 13 (304)) 298 14 (305)) 298 15 (306)) 298 16 (307)) (308) := FR.ur (FR.up f7 (by omega)) (by omega)
  refine pz_aload_n (i := 0) 0 rfl rfl 79 dX7_init_78 rfl ?_
  refine pz_bipush (v := 110) (by decide) 81 dX7_init_79 rfl ?_
  refine pz_newI (N := 110) 83 dX7_init_81 rfl (by decide) (by decide) (List.mem_of_getElem? (i := 4) rfl) (by decide) (by omega) rfl (Nat.le_of_ble_eq_true rfl) (Nat.le_of_ble_eq_true rfl) ?_
  show PZ G _ 10 2081 83 _ _ (mz, _, 309)
  refine pz_putF (a := 298) (q := 308) (C := RX7) (T := TX7) (N := 24) (ci := 7) (ty0 := tyX7) (ty := (.array .int)) 18 86 dX7_init_83 rfl (fun w h => List.mem_cons_of_mem _ (List.mem_append_right _ h)) tyX7_ok nmX7 (List.mem_of_getElem? (i := 14) rfl) (by omega) (by decide) (by decide) rfl (by decide) rfl rfl (show RX7 ≠ "TearGuestsLaw" by decide) rfl (by decide +kernel) (fun _ => rfl) (fun _ => rfl) ?_
  have f9 : FR (ur (ur (ur (ur (ur (ur (ur (ur (ur (ur r 298 0 (299)) 298 1 (300)) 298 2 (301)) 298 3 (302)) 298 5 (303)) 298 13 (304)) 298 14 (305)) 298 15 (306)) 298 16 (307)) 298 18 (308)) (309) := FR.ur (FR.up f8 (by omega)) (by omega)
  refine pz_aload_n (i := 0) 0 rfl rfl 87 dX7_init_86 rfl ?_
  refine pz_iconst (v := 2) (by decide) 88 dX7_init_87 rfl ?_
  refine pz_newB (N := 2) 90 dX7_init_88 rfl (by decide) (by decide) (List.mem_of_getElem? (i := 15) rfl) (by decide) (by omega) rfl (Nat.le_of_ble_eq_true rfl) (Nat.le_of_ble_eq_true rfl) ?_
  show PZ G _ 11 2083 90 _ _ (mz, _, 310)
  refine pz_putF (a := 298) (q := 309) (C := RX7) (T := TX7) (N := 24) (ci := 7) (ty0 := tyX7) (ty := (.array .boolean)) 19 93 dX7_init_90 rfl (fun w h => List.mem_cons_of_mem _ (List.mem_append_right _ h)) tyX7_ok nmX7 (List.mem_of_getElem? (i := 16) rfl) (by omega) (by decide) (by decide) rfl (by decide) rfl rfl (show RX7 ≠ "TearGuestsLaw" by decide) rfl (by decide +kernel) (fun _ => rfl) (fun _ => rfl) ?_
  have f10 : FR (ur (ur (ur (ur (ur (ur (ur (ur (ur (ur (ur r 298 0 (299)) 298 1 (300)) 298 2 (301)) 298 3 (302)) 298 5 (303)) 298 13 (304)) 298 14 (305)) 298 15 (306)) 298 16 (307)) 298 18 (308)) 298 19 (309)) (310) := FR.ur (FR.up f9 (by omega)) (by omega)
  refine pz_aload_n (i := 0) 0 rfl rfl 94 dX7_init_93 rfl ?_
  refine pz_bipush (v := 7) (by decide) 96 dX7_init_94 rfl ?_
  refine pz_newI (N := 7) 98 dX7_init_96 rfl (by decide) (by decide) (List.mem_of_getElem? (i := 4) rfl) (by decide) (by omega) rfl (Nat.le_of_ble_eq_true rfl) (Nat.le_of_ble_eq_true rfl) ?_
  show PZ G _ 12 2090 98 _ _ (mz, _, 311)
  refine pz_putF (a := 298) (q := 310) (C := RX7) (T := TX7) (N := 24) (ci := 7) (ty0 := tyX7) (ty := (.array .int)) 20 101 dX7_init_98 rfl (fun w h => List.mem_cons_of_mem _ (List.mem_append_right _ h)) tyX7_ok nmX7 (List.mem_of_getElem? (i := 17) rfl) (by omega) (by decide) (by decide) rfl (by decide) rfl rfl (show RX7 ≠ "TearGuestsLaw" by decide) rfl (by decide +kernel) (fun _ => rfl) (fun _ => rfl) ?_
  have f11 : FR (ur (ur (ur (ur (ur (ur (ur (ur (ur (ur (ur (ur r 298 0 (299)) 298 1 (300)) 298 2 (301)) 298 3 (302)) 298 5 (303)) 298 13 (304)) 298 14 (305)) 298 15 (306)) 298 16 (307)) 298 18 (308)) 298 19 (309)) 298 20 (310)) (311) := FR.ur (FR.up f10 (by omega)) (by omega)
  refine pz_aload_n (i := 0) 0 rfl rfl 102 dX7_init_101 rfl ?_
  refine pz_bipush (v := 7) (by decide) 104 dX7_init_102 rfl ?_
  refine pz_newI (N := 7) 106 dX7_init_104 rfl (by decide) (by decide) (List.mem_of_getElem? (i := 4) rfl) (by decide) (by omega) rfl (Nat.le_of_ble_eq_true rfl) (Nat.le_of_ble_eq_true rfl) ?_
  show PZ G _ 13 2097 106 _ _ (mz, _, 312)
  refine pz_putF (a := 298) (q := 311) (C := RX7) (T := TX7) (N := 24) (ci := 7) (ty0 := tyX7) (ty := (.array .int)) 21 109 dX7_init_106 rfl (fun w h => List.mem_cons_of_mem _ (List.mem_append_right _ h)) tyX7_ok nmX7 (List.mem_of_getElem? (i := 18) rfl) (by omega) (by decide) (by decide) rfl (by decide) rfl rfl (show RX7 ≠ "TearGuestsLaw" by decide) rfl (by decide +kernel) (fun _ => rfl) (fun _ => rfl) ?_
  have f12 : FR (ur (ur (ur (ur (ur (ur (ur (ur (ur (ur (ur (ur (ur r 298 0 (299)) 298 1 (300)) 298 2 (301)) 298 3 (302)) 298 5 (303)) 298 13 (304)) 298 14 (305)) 298 15 (306)) 298 16 (307)) 298 18 (308)) 298 19 (309)) 298 20 (310)) 298 21 (311)) (312) := FR.ur (FR.up f11 (by omega)) (by omega)
  refine pz_aload_n (i := 0) 0 rfl rfl 110 dX7_init_109 rfl ?_
  refine pz_bipush (v := 16) (by decide) 112 dX7_init_110 rfl ?_
  refine pz_newI (N := 16) 114 dX7_init_112 rfl (by decide) (by decide) (List.mem_of_getElem? (i := 4) rfl) (by decide) (by omega) rfl (Nat.le_of_ble_eq_true rfl) (Nat.le_of_ble_eq_true rfl) ?_
  show PZ G _ 14 2113 114 _ _ (mz, _, 313)
  refine pz_putF (a := 298) (q := 312) (C := RX7) (T := TX7) (N := 24) (ci := 7) (ty0 := tyX7) (ty := (.array .int)) 22 117 dX7_init_114 rfl (fun w h => List.mem_cons_of_mem _ (List.mem_append_right _ h)) tyX7_ok nmX7 (List.mem_of_getElem? (i := 19) rfl) (by omega) (by decide) (by decide) rfl (by decide) rfl rfl (show RX7 ≠ "TearGuestsLaw" by decide) rfl (by decide +kernel) (fun _ => rfl) (fun _ => rfl) ?_
  have f13 : FR (ur (ur (ur (ur (ur (ur (ur (ur (ur (ur (ur (ur (ur (ur r 298 0 (299)) 298 1 (300)) 298 2 (301)) 298 3 (302)) 298 5 (303)) 298 13 (304)) 298 14 (305)) 298 15 (306)) 298 16 (307)) 298 18 (308)) 298 19 (309)) 298 20 (310)) 298 21 (311)) 298 22 (312)) (313) := FR.ur (FR.up f12 (by omega)) (by omega)
  refine pz_iconst (v := 0) (by decide) 118 dX7_init_117 rfl ?_
  refine pz_istore_n (i := 1) rfl [(1, .int 0), (0, .ref (G.1 + 298))] 119 dX7_init_118 rfl (show 1 < 2 by omega) rfl ?_
  have w0 : (ur (ur (ur (ur (ur (ur (ur (ur (ur (ur (ur (ur (ur (ur r 298 0 (299)) 298 1 (300)) 298 2 (301)) 298 3 (302)) 298 5 (303)) 298 13 (304)) 298 14 (305)) 298 15 (306)) 298 16 (307)) 298 18 (308)) 298 19 (309)) 298 20 (310)) 298 21 (311)) 298 22 (312)) 298 0 = some 299 := by simp only [ur_s]; rfl
  refine PZ.cast (lpM7 l G (r := (ur (ur (ur (ur (ur (ur (ur (ur (ur (ur (ur (ur (ur (ur r 298 0 (299)) 298 1 (300)) 298 2 (301)) 298 3 (302)) 298 5 (303)) 298 13 (304)) 298 14 (305)) 298 15 (306)) 298 16 (307)) 298 18 (308)) 298 19 (309)) 298 20 (310)) 298 21 (311)) 298 22 (312))) w0 ?_ 8 0 rfl) rfl rfl (by rw [mLn_0])
  exact pz_vret dX7_init_139 (by rw [e7_end hr])
