/-! the constructors -/
def mz : Mm := fun _ _ => 0
def rfZ (a j : Nat) : Option Nat := if ((ly a).1 < 8 ∧ isRf (ly a).1 j = true ∧ j < (ly a).2) ∨ (((ly a).1 = 10 ∨ (ly a).1 = 11) ∧ j < (ly a).2) then some (rf a j) else none
def fin (r : Rm) (lo hi : Nat) : Rm := fun a j => if lo ≤ a ∧ a < hi then rfZ a j else r a j
def FR (r : Rm) (n : Nat) : Prop := ∀ a, n ≤ a → r a = fun _ => none
theorem FR.up {r : Rm} {n n2 : Nat} (h : FR r n) (h2 : n ≤ n2) : FR r n2 := fun a ha => h a (by omega)
theorem FR.ur {r : Rm} {a k v n : Nat} (h : FR r n) (ha : a < n) : FR (ur r a k v) n := fun b hb => by rw [ur_off b (by omega)]; exact h b hb
theorem FR.fin {r : Rm} {lo hi n n2 : Nat} (h : FR r n) (h1 : hi ≤ n2) (h2 : n ≤ n2) : FR (fin r lo hi) n2 := fun a ha => by
  funext j
  show (if lo ≤ a ∧ a < hi then rfZ a j else r a j) = none
  rw [if_neg (by omega), h a (by omega)]
theorem ur_s {r : Rm} {a k v j : Nat} : ur r a k v a j = if j = k then some v else r a j := by
  unfold ur
  by_cases h : j = k
  · rw [if_pos ⟨rfl, h⟩, if_pos h]
  · rw [if_neg (fun x => h x.2), if_neg h]
theorem fin_in {r : Rm} {lo hi a : Nat} (h : lo ≤ a ∧ a < hi) : fin r lo hi a = rfZ a := by funext j; exact if_pos h
theorem fin_out {r : Rm} {lo hi a : Nat} (h : ¬ (lo ≤ a ∧ a < hi)) : fin r lo hi a = r a := by funext j; exact if_neg h
theorem rfZ_i {a N : Nat} (h : ly a = (8, N)) : rfZ a = fun _ => none := by
  funext j
  unfold rfZ
  rw [h, if_neg (by omega)]
theorem rfZ_z {a N : Nat} (h : ly a = (9, N)) : rfZ a = fun _ => none := by
  funext j
  unfold rfZ
  rw [h, if_neg (by omega)]
theorem PZ.cast {G : Gx} {K : Kx} {cs cs' sl sl' pc : Nat} {lv : List (Nat × Value)} {st : List Value} {Z Z' : Zx} (h : PZ G K cs sl pc lv st Z) (h1 : cs = cs') (h2 : sl = sl') (h3 : Z = Z') : PZ G K cs' sl' pc lv st Z' := by subst h1; subst h2; subst h3; exact h
theorem pz_iinc {G : Gx} {K : Kx} {cs sl pc : Nat} {lv : List (Nat × Value)} {st : List Value} {Z : Zx} {i : Nat} {z : Int} {x v : Int32} (j : Nat) (hj : lv[j]? = some (i, .int x)) (hv : x + Int32.ofInt z = v) (lv2 : List (Nat × Value)) (n : Nat) (hd : decode K.2.2.1 pc = .ok (.iinc i z, 3)) (hn : pc + 3 = n) (hi : i < K.2.2.2.1) (hl2 : (i, Value.int v) :: lv.filter (fun q => !(q.1 == i) && !(q.1 + 1 == i && q.2.category == 2)) = lv2) (k : PZ G K cs sl n lv2 st Z) : PZ G K cs sl pc lv st Z := fun p e s m args below meth c A H locs hP hz hS ls hl => by subst hn; exact lv_iinc A.1.1 A.1.2.1 hd hl hj hv hi hl2 (fun ls hl => (k p e s m args below meth c A H locs hP hz hS ls hl))
theorem dfX0 : ∀ j, j < 3 → defaultValue (tyX0 j) = if isRf 0 j then .null else .int 0 := by decide +kernel
theorem dfX1 : ∀ j, j < 4 → defaultValue (tyX1 j) = if isRf 1 j then .null else .int 0 := by decide +kernel
theorem dfX2 : ∀ j, j < 4 → defaultValue (tyX2 j) = if isRf 2 j then .null else .int 0 := by decide +kernel
theorem dfX3 : ∀ j, j < 5 → defaultValue (tyX3 j) = if isRf 3 j then .null else .int 0 := by decide +kernel
theorem dfX4 : ∀ j, j < 4 → defaultValue (tyX4 j) = if isRf 4 j then .null else .int 0 := by decide +kernel
theorem dfX5 : ∀ j, j < 15 → defaultValue (tyX5 j) = if isRf 5 j then .null else .int 0 := by decide +kernel
theorem dfX6 : ∀ j, j < 10 → defaultValue (tyX6 j) = if isRf 6 j then .null else .int 0 := by decide +kernel
theorem dfX7 : ∀ j, j < 24 → defaultValue (tyX7 j) = if isRf 7 j then .null else .int 0 := by decide +kernel
theorem rfZ_w {w : Nat} (hW : IsW w) (j : Nat) : rfZ w j = if 7 ≤ j ∧ j < 15 then some (w + 1 + (j - 7)) else none := by
  unfold rfZ
  rw [hW.o]
  by_cases h : 7 ≤ j ∧ j < 15
  · have e := (hW.2.2 (j - 7) (by omega)).1
    rw [show 7 + (j - 7) = j by omega] at e
    rw [if_pos (Or.inl ⟨by omega, by show isRf 5 j = true; unfold isRf; simp; omega, by omega⟩), if_pos h, e]
  · rw [if_neg h, if_neg]
    rintro (⟨-, h1, h2⟩ | ⟨h1, -⟩)
    · have h1' : isRf 5 j = true := h1
      unfold isRf at h1'
      simp at h1'
      have h2' : j < 15 := h2
      omega
    · rcases h1 with h1 | h1 <;> cases h1
theorem w_end {r : Rm} {w : Nat} (hW : IsW w) (hr : FR r w) : (ur (ur (ur (ur (ur (ur (ur (ur r w 7 (w + 1)) w 8 (w + 2)) w 9 (w + 3)) w 10 (w + 4)) w 11 (w + 5)) w 12 (w + 6)) w 13 (w + 7)) w 14 (w + 8)) = fin r w (w + 9) := by
  funext a
  by_cases h : w ≤ a ∧ a < w + 9
  · rw [fin_in h]
    by_cases e : a = w
    · subst e
      funext j
      rw [rfZ_w hW]
      simp only [ur_s, hr a (Nat.le_refl _)]
      by_cases h7 : 7 ≤ j ∧ j < 15
      · rw [if_pos h7]
        rcases (show j = 7 ∨ j = 8 ∨ j = 9 ∨ j = 10 ∨ j = 11 ∨ j = 12 ∨ j = 13 ∨ j = 14 by omega) with e | e | e | e | e | e | e | e <;> subst e <;> rfl
      · rw [if_neg h7, if_neg (by omega), if_neg (by omega), if_neg (by omega), if_neg (by omega), if_neg (by omega), if_neg (by omega), if_neg (by omega), if_neg (by omega)]
    · obtain ⟨j, hj, rfl⟩ : ∃ j, j < 8 ∧ a = w + 1 + j := ⟨a - (w + 1), by omega, by omega⟩
      rw [rfZ_i (hW.2.2 j hj).2, ur_off _ e, ur_off _ e, ur_off _ e, ur_off _ e, ur_off _ e, ur_off _ e, ur_off _ e, ur_off _ e, hr _ (by omega)]
  · rw [fin_out h]
    have e : a ≠ w := by omega
    rw [ur_off _ e, ur_off _ e, ur_off _ e, ur_off _ e, ur_off _ e, ur_off _ e, ur_off _ e, ur_off _ e]
theorem c5_init (l : Launch) (G : Gx) {r : Rm} (w : Nat) (hW : IsW w) (hr : FR r w) : CnZ l G 1 8 56 yX5_init wsX5_init w (mz, r, w + 1) (mz, fin r w (w + 9), w + 9) := by
  refine CnZ.of (own := RX5) (cc := cX5_init) (nL := 1) (by decide) rfl rfl rfl (by omega) ?_
  refine pz_aload_n (i := 0) 0 rfl rfl 1 dX5_init_0 rfl ?_
  refine pz_obj 4 dX5_init_1 rfl (List.mem_of_getElem? (i := 1) rfl) (List.mem_of_getElem? (i := 2) rfl) (List.mem_of_getElem? (i := 3) rfl) (Nat.le_of_ble_eq_true rfl) (Nat.le_of_ble_eq_true rfl) ?_
  refine pz_aload_n (i := 0) 0 rfl rfl 5 dX5_init_4 rfl ?_
  refine pz_bipush (v := 7) (by decide) 7 dX5_init_5 rfl ?_
  refine pz_newI (N := 7) 9 dX5_init_7 rfl (by decide) (by decide) (List.mem_of_getElem? (i := 4) rfl) hW.o1 (by omega) rfl (Nat.le_of_ble_eq_true rfl) (Nat.le_of_ble_eq_true rfl) ?_
  show PZ G _ 1 7 9 _ _ (mz, _, w + 2)
  refine pz_putF (a := w) (q := w + 1) (C := RX5) (T := TX5) (N := 15) (ci := 5) (ty0 := tyX5) (ty := (.array .int)) 7 12 dX5_init_9 rfl (fun w h => List.mem_cons_of_mem _ (List.mem_append_right _ h)) tyX5_ok nmX5 (List.mem_of_getElem? (i := 5) rfl) (by omega) hW.o (by decide) rfl (by decide) rfl rfl (show RX5 ≠ "TearGuestsLaw" by decide) rfl (by decide +kernel) (fun _ => rfl) (fun _ => rfl) ?_
  have f0 : FR (ur r w 7 (w + 1)) (w + 2) := FR.ur (FR.up hr (by omega)) (by omega)
  refine pz_aload_n (i := 0) 0 rfl rfl 13 dX5_init_12 rfl ?_
  refine pz_bipush (v := 7) (by decide) 15 dX5_init_13 rfl ?_
  refine pz_newI (N := 7) 17 dX5_init_15 rfl (by decide) (by decide) (List.mem_of_getElem? (i := 4) rfl) hW.o2 (by omega) rfl (Nat.le_of_ble_eq_true rfl) (Nat.le_of_ble_eq_true rfl) ?_
  show PZ G _ 2 14 17 _ _ (mz, _, w + 3)
  refine pz_putF (a := w) (q := w + 2) (C := RX5) (T := TX5) (N := 15) (ci := 5) (ty0 := tyX5) (ty := (.array .int)) 8 20 dX5_init_17 rfl (fun w h => List.mem_cons_of_mem _ (List.mem_append_right _ h)) tyX5_ok nmX5 (List.mem_of_getElem? (i := 6) rfl) (by omega) hW.o (by decide) rfl (by decide) rfl rfl (show RX5 ≠ "TearGuestsLaw" by decide) rfl (by decide +kernel) (fun _ => rfl) (fun _ => rfl) ?_
  have f1 : FR (ur (ur r w 7 (w + 1)) w 8 (w + 2)) (w + 3) := FR.ur (FR.up f0 (by omega)) (by omega)
  refine pz_aload_n (i := 0) 0 rfl rfl 21 dX5_init_20 rfl ?_
  refine pz_bipush (v := 7) (by decide) 23 dX5_init_21 rfl ?_
  refine pz_newI (N := 7) 25 dX5_init_23 rfl (by decide) (by decide) (List.mem_of_getElem? (i := 4) rfl) hW.o3 (by omega) rfl (Nat.le_of_ble_eq_true rfl) (Nat.le_of_ble_eq_true rfl) ?_
  show PZ G _ 3 21 25 _ _ (mz, _, w + 4)
  refine pz_putF (a := w) (q := w + 3) (C := RX5) (T := TX5) (N := 15) (ci := 5) (ty0 := tyX5) (ty := (.array .int)) 9 28 dX5_init_25 rfl (fun w h => List.mem_cons_of_mem _ (List.mem_append_right _ h)) tyX5_ok nmX5 (List.mem_of_getElem? (i := 7) rfl) (by omega) hW.o (by decide) rfl (by decide) rfl rfl (show RX5 ≠ "TearGuestsLaw" by decide) rfl (by decide +kernel) (fun _ => rfl) (fun _ => rfl) ?_
  have f2 : FR (ur (ur (ur r w 7 (w + 1)) w 8 (w + 2)) w 9 (w + 3)) (w + 4) := FR.ur (FR.up f1 (by omega)) (by omega)
  refine pz_aload_n (i := 0) 0 rfl rfl 29 dX5_init_28 rfl ?_
  refine pz_bipush (v := 7) (by decide) 31 dX5_init_29 rfl ?_
  refine pz_newI (N := 7) 33 dX5_init_31 rfl (by decide) (by decide) (List.mem_of_getElem? (i := 4) rfl) hW.o4 (by omega) rfl (Nat.le_of_ble_eq_true rfl) (Nat.le_of_ble_eq_true rfl) ?_
  show PZ G _ 4 28 33 _ _ (mz, _, w + 5)
  refine pz_putF (a := w) (q := w + 4) (C := RX5) (T := TX5) (N := 15) (ci := 5) (ty0 := tyX5) (ty := (.array .int)) 10 36 dX5_init_33 rfl (fun w h => List.mem_cons_of_mem _ (List.mem_append_right _ h)) tyX5_ok nmX5 (List.mem_of_getElem? (i := 8) rfl) (by omega) hW.o (by decide) rfl (by decide) rfl rfl (show RX5 ≠ "TearGuestsLaw" by decide) rfl (by decide +kernel) (fun _ => rfl) (fun _ => rfl) ?_
  have f3 : FR (ur (ur (ur (ur r w 7 (w + 1)) w 8 (w + 2)) w 9 (w + 3)) w 10 (w + 4)) (w + 5) := FR.ur (FR.up f2 (by omega)) (by omega)
  refine pz_aload_n (i := 0) 0 rfl rfl 37 dX5_init_36 rfl ?_
  refine pz_bipush (v := 7) (by decide) 39 dX5_init_37 rfl ?_
  refine pz_newI (N := 7) 41 dX5_init_39 rfl (by decide) (by decide) (List.mem_of_getElem? (i := 4) rfl) hW.o5 (by omega) rfl (Nat.le_of_ble_eq_true rfl) (Nat.le_of_ble_eq_true rfl) ?_
  show PZ G _ 5 35 41 _ _ (mz, _, w + 6)
  refine pz_putF (a := w) (q := w + 5) (C := RX5) (T := TX5) (N := 15) (ci := 5) (ty0 := tyX5) (ty := (.array .int)) 11 44 dX5_init_41 rfl (fun w h => List.mem_cons_of_mem _ (List.mem_append_right _ h)) tyX5_ok nmX5 (List.mem_of_getElem? (i := 9) rfl) (by omega) hW.o (by decide) rfl (by decide) rfl rfl (show RX5 ≠ "TearGuestsLaw" by decide) rfl (by decide +kernel) (fun _ => rfl) (fun _ => rfl) ?_
  have f4 : FR (ur (ur (ur (ur (ur r w 7 (w + 1)) w 8 (w + 2)) w 9 (w + 3)) w 10 (w + 4)) w 11 (w + 5)) (w + 6) := FR.ur (FR.up f3 (by omega)) (by omega)
  refine pz_aload_n (i := 0) 0 rfl rfl 45 dX5_init_44 rfl ?_
  refine pz_bipush (v := 7) (by decide) 47 dX5_init_45 rfl ?_
  refine pz_newI (N := 7) 49 dX5_init_47 rfl (by decide) (by decide) (List.mem_of_getElem? (i := 4) rfl) hW.o6 (by omega) rfl (Nat.le_of_ble_eq_true rfl) (Nat.le_of_ble_eq_true rfl) ?_
  show PZ G _ 6 42 49 _ _ (mz, _, w + 7)
  refine pz_putF (a := w) (q := w + 6) (C := RX5) (T := TX5) (N := 15) (ci := 5) (ty0 := tyX5) (ty := (.array .int)) 12 52 dX5_init_49 rfl (fun w h => List.mem_cons_of_mem _ (List.mem_append_right _ h)) tyX5_ok nmX5 (List.mem_of_getElem? (i := 10) rfl) (by omega) hW.o (by decide) rfl (by decide) rfl rfl (show RX5 ≠ "TearGuestsLaw" by decide) rfl (by decide +kernel) (fun _ => rfl) (fun _ => rfl) ?_
  have f5 : FR (ur (ur (ur (ur (ur (ur r w 7 (w + 1)) w 8 (w + 2)) w 9 (w + 3)) w 10 (w + 4)) w 11 (w + 5)) w 12 (w + 6)) (w + 7) := FR.ur (FR.up f4 (by omega)) (by omega)
  refine pz_aload_n (i := 0) 0 rfl rfl 53 dX5_init_52 rfl ?_
  refine pz_bipush (v := 7) (by decide) 55 dX5_init_53 rfl ?_
  refine pz_newI (N := 7) 57 dX5_init_55 rfl (by decide) (by decide) (List.mem_of_getElem? (i := 4) rfl) hW.o7 (by omega) rfl (Nat.le_of_ble_eq_true rfl) (Nat.le_of_ble_eq_true rfl) ?_
  show PZ G _ 7 49 57 _ _ (mz, _, w + 8)
  refine pz_putF (a := w) (q := w + 7) (C := RX5) (T := TX5) (N := 15) (ci := 5) (ty0 := tyX5) (ty := (.array .int)) 13 60 dX5_init_57 rfl (fun w h => List.mem_cons_of_mem _ (List.mem_append_right _ h)) tyX5_ok nmX5 (List.mem_of_getElem? (i := 11) rfl) (by omega) hW.o (by decide) rfl (by decide) rfl rfl (show RX5 ≠ "TearGuestsLaw" by decide) rfl (by decide +kernel) (fun _ => rfl) (fun _ => rfl) ?_
  have f6 : FR (ur (ur (ur (ur (ur (ur (ur r w 7 (w + 1)) w 8 (w + 2)) w 9 (w + 3)) w 10 (w + 4)) w 11 (w + 5)) w 12 (w + 6)) w 13 (w + 7)) (w + 8) := FR.ur (FR.up f5 (by omega)) (by omega)
  refine pz_aload_n (i := 0) 0 rfl rfl 61 dX5_init_60 rfl ?_
  refine pz_bipush (v := 7) (by decide) 63 dX5_init_61 rfl ?_
  refine pz_newI (N := 7) 65 dX5_init_63 rfl (by decide) (by decide) (List.mem_of_getElem? (i := 4) rfl) hW.o8 (by omega) rfl (Nat.le_of_ble_eq_true rfl) (Nat.le_of_ble_eq_true rfl) ?_
  show PZ G _ 8 56 65 _ _ (mz, _, w + 9)
  refine pz_putF (a := w) (q := w + 8) (C := RX5) (T := TX5) (N := 15) (ci := 5) (ty0 := tyX5) (ty := (.array .int)) 14 68 dX5_init_65 rfl (fun w h => List.mem_cons_of_mem _ (List.mem_append_right _ h)) tyX5_ok nmX5 (List.mem_of_getElem? (i := 12) rfl) (by omega) hW.o (by decide) rfl (by decide) rfl rfl (show RX5 ≠ "TearGuestsLaw" by decide) rfl (by decide +kernel) (fun _ => rfl) (fun _ => rfl) ?_
  have f7 : FR (ur (ur (ur (ur (ur (ur (ur (ur r w 7 (w + 1)) w 8 (w + 2)) w 9 (w + 3)) w 10 (w + 4)) w 11 (w + 5)) w 12 (w + 6)) w 13 (w + 7)) w 14 (w + 8)) (w + 9) := FR.ur (FR.up f6 (by omega)) (by omega)
  exact pz_vret dX5_init_68 (by rw [w_end hW hr])
theorem r_end {r : Rm} {w : Nat} (hR : IsR w) (hr : FR r w) : (ur r w 3 (w + 1)) = fin r w (w + 2) := by
  funext a
  by_cases h : w ≤ a ∧ a < w + 2
  · rw [fin_in h]
    by_cases e : a = w
    · subst e
      funext j
      unfold rfZ
      rw [hR.o, ur_s, hr a (Nat.le_refl _)]
      by_cases h3 : j = 3
      · subst h3
        rw [if_pos rfl, if_pos (Or.inl ⟨by omega, rfl, by omega⟩), hR.rf3]
      · rw [if_neg h3, if_neg]
        rintro (⟨-, h1, h2⟩ | ⟨h1, -⟩)
        · have h1' : isRf 4 j = true := h1
          unfold isRf at h1'
          simp at h1'
          omega
        · rcases h1 with h1 | h1 <;> cases h1
    · have e2 : a = w + 1 := by omega
      subst e2
      rw [rfZ_i hR.o1, ur_off _ e, hr _ (by omega)]
  · rw [fin_out h, ur_off _ (by omega)]
theorem c4_init (l : Launch) (G : Gx) {r : Rm} (w : Nat) (hR : IsR w) (hr : FR r w) : CnZ l G 1 1 40 yX4_init wsX4_init w (mz, r, w + 1) (mz, fin r w (w + 2), w + 2) := by
  refine CnZ.of (own := RX4) (cc := cX4_init) (nL := 1) (by decide) rfl rfl rfl (by omega) ?_
  refine pz_aload_n (i := 0) 0 rfl rfl 1 dX4_init_0 rfl ?_
  refine pz_obj 4 dX4_init_1 rfl (List.mem_of_getElem? (i := 1) rfl) (List.mem_of_getElem? (i := 2) rfl) (List.mem_of_getElem? (i := 3) rfl) (Nat.le_of_ble_eq_true rfl) (Nat.le_of_ble_eq_true rfl) ?_
  refine pz_aload_n (i := 0) 0 rfl rfl 5 dX4_init_4 rfl ?_
  refine pz_bipush (v := 40) (by decide) 7 dX4_init_5 rfl ?_
  refine pz_newI (N := 40) 9 dX4_init_7 rfl (by decide) (by decide) (List.mem_of_getElem? (i := 4) rfl) hR.o1 (by omega) rfl (Nat.le_of_ble_eq_true rfl) (Nat.le_of_ble_eq_true rfl) ?_
  show PZ G _ 1 40 9 _ _ (mz, _, w + 2)
  refine pz_putF (a := w) (q := w + 1) (C := RX4) (T := TX4) (N := 4) (ci := 4) (ty0 := tyX4) (ty := (.array .int)) 3 12 dX4_init_9 rfl (fun w h => List.mem_cons_of_mem _ (List.mem_append_right _ h)) tyX4_ok nmX4 (List.mem_of_getElem? (i := 5) rfl) (by omega) hR.o (by decide) rfl (by decide) rfl rfl (show RX4 ≠ "TearGuestsLaw" by decide) rfl (by decide +kernel) (fun _ => rfl) (fun _ => rfl) ?_
  have f0 : FR (ur r w 3 (w + 1)) (w + 2) := FR.ur (FR.up hr (by omega)) (by omega)
  exact pz_vret dX4_init_12 (by rw [r_end hR hr])
theorem e3_end {r : Rm} (hr : FR r 2) : (ur (ur (fin r 3 (12)) 2 0 (3)) 2 1 (12)) = fin r 2 13 := by
  funext a
  by_cases h : 2 ≤ a ∧ a < 13
  · rw [fin_in h]
    by_cases e : a = 2
    · subst e
      funext j
      rw [ur_s, ur_s, fin_out (by omega), hr _ (Nat.le_refl _)]
      rcases (show j = 0 ∨ j = 1 ∨ 2 ≤ j by omega) with h0 | h0 | h0
      · subst h0; rfl
      · subst h0; rfl
      · rw [if_neg (by omega), if_neg (by omega)]
        unfold rfZ
        rw [if_neg]
        rintro (⟨-, h1, h2⟩ | ⟨h1, -⟩)
        · have h1' : isRf 3 j = true := h1
          unfold isRf at h1'
          simp at h1'
          omega
        · revert h1; decide
    · rw [ur_off _ e, ur_off _ e]
      by_cases h2 : a = 12
      · subst h2
        rw [fin_out (by omega), hr _ (by omega), rfZ_i (N := 110) (by decide)]
      · rw [fin_in (by omega)]
  · rw [fin_out h, ur_off _ (by omega), ur_off _ (by omega), fin_out (by omega)]
theorem c3_init (l : Launch) (G : Gx) {r : Rm} (hr : FR r 2) : CnZ l G 2 10 181 yX3_init wsX3_init 2 (mz, r, 3) (mz, fin r 2 13, 13) := by
  refine CnZ.of (own := RX3) (cc := cX3_init) (nL := 1) (by decide) rfl rfl rfl (by omega) ?_
  refine pz_aload_n (i := 0) 0 rfl rfl 1 dX3_init_0 rfl ?_
  refine pz_obj 4 dX3_init_1 rfl (List.mem_of_getElem? (i := 1) rfl) (List.mem_of_getElem? (i := 2) rfl) (List.mem_of_getElem? (i := 3) rfl) (Nat.le_of_ble_eq_true rfl) (Nat.le_of_ble_eq_true rfl) ?_
  refine pz_aload_n (i := 0) 0 rfl rfl 5 dX3_init_4 rfl ?_
  refine pz_new (ci := 5) (C := RX5) (T := TX5) (N := 15) (ty := tyX5) 8 dX3_init_5 rfl (fun w h => List.mem_cons_of_mem _ (List.mem_append_left _ (List.mem_append_right _ h))) tyX5_ok dfX5 (List.mem_of_getElem? (i := 4) rfl) (List.mem_of_getElem? (i := 5) rfl) (List.mem_of_getElem? (i := 6) rfl) (by decide) (by decide) rfl rfl (hr 3 (by omega)) (Nat.le_of_ble_eq_true rfl) (Nat.le_of_ble_eq_true rfl) ?_
  show PZ G _ 1 15 8 _ _ (mz, _, 4)
  refine pz_dup rfl 9 dX3_init_8 rfl ?_
  refine pz_initN (a := 3) (d := 1) (mc := 8) (ms := 56) (Z1 := (mz, fin r 3 (12), 12)) 12 dX3_init_9 rfl (List.mem_of_getElem? (i := 1) rfl) ggX3_init_X5_init rfl (List.mem_of_getElem? (i := 6) rfl) (List.mem_of_getElem? (i := 10) rfl) rfl (by decide +kernel) ⟨(Nat.le_of_ble_eq_true rfl), (Nat.le_of_ble_eq_true rfl)⟩ ⟨(Nat.le_of_ble_eq_true rfl), (Nat.le_of_ble_eq_true rfl)⟩ (c5_init l G 3 (isW_3) (hr.up (by omega))) (Nat.le_of_ble_eq_true rfl) ?_
  show PZ G _ 9 71 12 _ _ (mz, _, 12)
  have f0 := FR.fin hr (lo := 3) (hi := 12) (n2 := 12) (by omega) (by omega)
  refine pz_putF (a := 2) (q := 3) (C := RX3) (T := TX3) (N := 5) (ci := 3) (ty0 := tyX3) (ty := (.object "TearGuests$Wedding")) 0 15 dX3_init_12 rfl (fun w h => List.mem_cons_of_mem _ (List.mem_append_right _ h)) tyX3_ok nmX3 (List.mem_of_getElem? (i := 7) rfl) (by omega) (by decide) (by decide) rfl (by decide) rfl rfl (show RX3 ≠ "TearGuestsLaw" by decide) rfl (by decide +kernel) (fun _ => rfl) (fun _ => rfl) ?_
  have f1 : FR (ur (fin r 3 (12)) 2 0 (3)) (12) := FR.ur (FR.up f0 (by omega)) (by omega)
  refine pz_aload_n (i := 0) 0 rfl rfl 16 dX3_init_15 rfl ?_
  refine pz_bipush (v := 110) (by decide) 18 dX3_init_16 rfl ?_
  refine pz_newI (N := 110) 20 dX3_init_18 rfl (by decide) (by decide) (List.mem_of_getElem? (i := 8) rfl) (by decide) (by omega) rfl (Nat.le_of_ble_eq_true rfl) (Nat.le_of_ble_eq_true rfl) ?_
  show PZ G _ 10 181 20 _ _ (mz, _, 13)
  refine pz_putF (a := 2) (q := 12) (C := RX3) (T := TX3) (N := 5) (ci := 3) (ty0 := tyX3) (ty := (.array .int)) 1 23 dX3_init_20 rfl (fun w h => List.mem_cons_of_mem _ (List.mem_append_right _ h)) tyX3_ok nmX3 (List.mem_of_getElem? (i := 9) rfl) (by omega) (by decide) (by decide) rfl (by decide) rfl rfl (show RX3 ≠ "TearGuestsLaw" by decide) rfl (by decide +kernel) (fun _ => rfl) (fun _ => rfl) ?_
  have f2 : FR (ur (ur (fin r 3 (12)) 2 0 (3)) 2 1 (12)) (13) := FR.ur (FR.up f1 (by omega)) (by omega)
  exact pz_vret dX3_init_23 (by rw [e3_end hr])
theorem e1_end {r : Rm} (hr : FR r 240) : (ur (ur (fin r 241 (250)) 240 0 (241)) 240 1 (250)) = fin r 240 251 := by
  funext a
  by_cases h : 240 ≤ a ∧ a < 251
  · rw [fin_in h]
    by_cases e : a = 240
    · subst e
      funext j
      rw [ur_s, ur_s, fin_out (by omega), hr _ (Nat.le_refl _)]
      rcases (show j = 0 ∨ j = 1 ∨ 2 ≤ j by omega) with h0 | h0 | h0
      · subst h0; rfl
      · subst h0; rfl
      · rw [if_neg (by omega), if_neg (by omega)]
        unfold rfZ
        rw [if_neg]
        rintro (⟨-, h1, h2⟩ | ⟨h1, -⟩)
        · have h1' : isRf 1 j = true := h1
          unfold isRf at h1'
          simp at h1'
          omega
        · revert h1; decide
    · rw [ur_off _ e, ur_off _ e]
      by_cases h2 : a = 250
      · subst h2
        rw [fin_out (by omega), hr _ (by omega), rfZ_i (N := 7) (by decide)]
      · rw [fin_in (by omega)]
  · rw [fin_out h, ur_off _ (by omega), ur_off _ (by omega), fin_out (by omega)]
theorem c1_init (l : Launch) (G : Gx) {r : Rm} (hr : FR r 240) : CnZ l G 2 10 78 yX1_init wsX1_init 240 (mz, r, 241) (mz, fin r 240 251, 251) := by
  refine CnZ.of (own := RX1) (cc := cX1_init) (nL := 1) (by decide) rfl rfl rfl (by omega) ?_
  refine pz_aload_n (i := 0) 0 rfl rfl 1 dX1_init_0 rfl ?_
  refine pz_obj 4 dX1_init_1 rfl (List.mem_of_getElem? (i := 1) rfl) (List.mem_of_getElem? (i := 2) rfl) (List.mem_of_getElem? (i := 3) rfl) (Nat.le_of_ble_eq_true rfl) (Nat.le_of_ble_eq_true rfl) ?_
  refine pz_aload_n (i := 0) 0 rfl rfl 5 dX1_init_4 rfl ?_
  refine pz_new (ci := 5) (C := RX5) (T := TX5) (N := 15) (ty := tyX5) 8 dX1_init_5 rfl (fun w h => List.mem_cons_of_mem _ (List.mem_append_left _ (List.mem_append_right _ h))) tyX5_ok dfX5 (List.mem_of_getElem? (i := 4) rfl) (List.mem_of_getElem? (i := 5) rfl) (List.mem_of_getElem? (i := 6) rfl) (by decide) (by decide) rfl rfl (hr 241 (by omega)) (Nat.le_of_ble_eq_true rfl) (Nat.le_of_ble_eq_true rfl) ?_
  show PZ G _ 1 15 8 _ _ (mz, _, 242)
  refine pz_dup rfl 9 dX1_init_8 rfl ?_
  refine pz_initN (a := 241) (d := 1) (mc := 8) (ms := 56) (Z1 := (mz, fin r 241 (250), 250)) 12 dX1_init_9 rfl (List.mem_of_getElem? (i := 5) rfl) ggX1_init_X5_init rfl (List.mem_of_getElem? (i := 6) rfl) (List.mem_of_getElem? (i := 10) rfl) rfl (by decide +kernel) ⟨(Nat.le_of_ble_eq_true rfl), (Nat.le_of_ble_eq_true rfl)⟩ ⟨(Nat.le_of_ble_eq_true rfl), (Nat.le_of_ble_eq_true rfl)⟩ (c5_init l G 241 (isW_241) (hr.up (by omega))) (Nat.le_of_ble_eq_true rfl) ?_
  show PZ G _ 9 71 12 _ _ (mz, _, 250)
  have f0 := FR.fin hr (lo := 241) (hi := 250) (n2 := 250) (by omega) (by omega)
  refine pz_putF (a := 240) (q := 241) (C := RX1) (T := TX1) (N := 4) (ci := 1) (ty0 := tyX1) (ty := (.object "TearGuests$Wedding")) 0 15 dX1_init_12 rfl (fun w h => List.mem_cons_of_mem _ (List.mem_append_right _ h)) tyX1_ok nmX1 (List.mem_of_getElem? (i := 7) rfl) (by omega) (by decide) (by decide) rfl (by decide) rfl rfl (show RX1 ≠ "TearGuestsLaw" by decide) rfl (by decide +kernel) (fun _ => rfl) (fun _ => rfl) ?_
  have f1 : FR (ur (fin r 241 (250)) 240 0 (241)) (250) := FR.ur (FR.up f0 (by omega)) (by omega)
  refine pz_aload_n (i := 0) 0 rfl rfl 16 dX1_init_15 rfl ?_
  refine pz_bipush (v := 7) (by decide) 18 dX1_init_16 rfl ?_
  refine pz_newI (N := 7) 20 dX1_init_18 rfl (by decide) (by decide) (List.mem_of_getElem? (i := 8) rfl) (by decide) (by omega) rfl (Nat.le_of_ble_eq_true rfl) (Nat.le_of_ble_eq_true rfl) ?_
  show PZ G _ 10 78 20 _ _ (mz, _, 251)
  refine pz_putF (a := 240) (q := 250) (C := RX1) (T := TX1) (N := 4) (ci := 1) (ty0 := tyX1) (ty := (.array .int)) 1 23 dX1_init_20 rfl (fun w h => List.mem_cons_of_mem _ (List.mem_append_right _ h)) tyX1_ok nmX1 (List.mem_of_getElem? (i := 9) rfl) (by omega) (by decide) (by decide) rfl (by decide) rfl rfl (show RX1 ≠ "TearGuestsLaw" by decide) rfl (by decide +kernel) (fun _ => rfl) (fun _ => rfl) ?_
  have f2 : FR (ur (ur (fin r 241 (250)) 240 0 (241)) 240 1 (250)) (251) := FR.ur (FR.up f1 (by omega)) (by omega)
  exact pz_vret dX1_init_23 (by rw [e1_end hr])
theorem e2_end {r : Rm} (hr : FR r 251) : (ur (ur (fin r 252 (261)) 251 0 (252)) 251 1 (261)) = fin r 251 262 := by
  funext a
  by_cases h : 251 ≤ a ∧ a < 262
  · rw [fin_in h]
    by_cases e : a = 251
    · subst e
      funext j
      rw [ur_s, ur_s, fin_out (by omega), hr _ (Nat.le_refl _)]
      rcases (show j = 0 ∨ j = 1 ∨ 2 ≤ j by omega) with h0 | h0 | h0
      · subst h0; rfl
      · subst h0; rfl
      · rw [if_neg (by omega), if_neg (by omega)]
        unfold rfZ
        rw [if_neg]
        rintro (⟨-, h1, h2⟩ | ⟨h1, -⟩)
        · have h1' : isRf 2 j = true := h1
          unfold isRf at h1'
          simp at h1'
          omega
        · revert h1; decide
    · rw [ur_off _ e, ur_off _ e]
      by_cases h2 : a = 261
      · subst h2
        rw [fin_out (by omega), hr _ (by omega), rfZ_i (N := 12) (by decide)]
      · rw [fin_in (by omega)]
  · rw [fin_out h, ur_off _ (by omega), ur_off _ (by omega), fin_out (by omega)]
theorem c2_init (l : Launch) (G : Gx) {r : Rm} (hr : FR r 251) : CnZ l G 2 10 83 yX2_init wsX2_init 251 (mz, r, 252) (mz, fin r 251 262, 262) := by
  refine CnZ.of (own := RX2) (cc := cX2_init) (nL := 1) (by decide) rfl rfl rfl (by omega) ?_
  refine pz_aload_n (i := 0) 0 rfl rfl 1 dX2_init_0 rfl ?_
  refine pz_obj 4 dX2_init_1 rfl (List.mem_of_getElem? (i := 1) rfl) (List.mem_of_getElem? (i := 2) rfl) (List.mem_of_getElem? (i := 3) rfl) (Nat.le_of_ble_eq_true rfl) (Nat.le_of_ble_eq_true rfl) ?_
  refine pz_aload_n (i := 0) 0 rfl rfl 5 dX2_init_4 rfl ?_
  refine pz_new (ci := 5) (C := RX5) (T := TX5) (N := 15) (ty := tyX5) 8 dX2_init_5 rfl (fun w h => List.mem_cons_of_mem _ (List.mem_append_left _ (List.mem_append_right _ h))) tyX5_ok dfX5 (List.mem_of_getElem? (i := 4) rfl) (List.mem_of_getElem? (i := 5) rfl) (List.mem_of_getElem? (i := 6) rfl) (by decide) (by decide) rfl rfl (hr 252 (by omega)) (Nat.le_of_ble_eq_true rfl) (Nat.le_of_ble_eq_true rfl) ?_
  show PZ G _ 1 15 8 _ _ (mz, _, 253)
  refine pz_dup rfl 9 dX2_init_8 rfl ?_
  refine pz_initN (a := 252) (d := 1) (mc := 8) (ms := 56) (Z1 := (mz, fin r 252 (261), 261)) 12 dX2_init_9 rfl (List.mem_of_getElem? (i := 7) rfl) ggX2_init_X5_init rfl (List.mem_of_getElem? (i := 6) rfl) (List.mem_of_getElem? (i := 10) rfl) rfl (by decide +kernel) ⟨(Nat.le_of_ble_eq_true rfl), (Nat.le_of_ble_eq_true rfl)⟩ ⟨(Nat.le_of_ble_eq_true rfl), (Nat.le_of_ble_eq_true rfl)⟩ (c5_init l G 252 (isW_252) (hr.up (by omega))) (Nat.le_of_ble_eq_true rfl) ?_
  show PZ G _ 9 71 12 _ _ (mz, _, 261)
  have f0 := FR.fin hr (lo := 252) (hi := 261) (n2 := 261) (by omega) (by omega)
  refine pz_putF (a := 251) (q := 252) (C := RX2) (T := TX2) (N := 4) (ci := 2) (ty0 := tyX2) (ty := (.object "TearGuests$Wedding")) 0 15 dX2_init_12 rfl (fun w h => List.mem_cons_of_mem _ (List.mem_append_right _ h)) tyX2_ok nmX2 (List.mem_of_getElem? (i := 7) rfl) (by omega) (by decide) (by decide) rfl (by decide) rfl rfl (show RX2 ≠ "TearGuestsLaw" by decide) rfl (by decide +kernel) (fun _ => rfl) (fun _ => rfl) ?_
  have f1 : FR (ur (fin r 252 (261)) 251 0 (252)) (261) := FR.ur (FR.up f0 (by omega)) (by omega)
  refine pz_aload_n (i := 0) 0 rfl rfl 16 dX2_init_15 rfl ?_
  refine pz_bipush (v := 12) (by decide) 18 dX2_init_16 rfl ?_
  refine pz_newI (N := 12) 20 dX2_init_18 rfl (by decide) (by decide) (List.mem_of_getElem? (i := 8) rfl) (by decide) (by omega) rfl (Nat.le_of_ble_eq_true rfl) (Nat.le_of_ble_eq_true rfl) ?_
  show PZ G _ 10 83 20 _ _ (mz, _, 262)
  refine pz_putF (a := 251) (q := 261) (C := RX2) (T := TX2) (N := 4) (ci := 2) (ty0 := tyX2) (ty := (.array .int)) 1 23 dX2_init_20 rfl (fun w h => List.mem_cons_of_mem _ (List.mem_append_right _ h)) tyX2_ok nmX2 (List.mem_of_getElem? (i := 9) rfl) (by omega) (by decide) (by decide) rfl (by decide) rfl rfl (show RX2 ≠ "TearGuestsLaw" by decide) rfl (by decide +kernel) (fun _ => rfl) (fun _ => rfl) ?_
  have f2 : FR (ur (ur (fin r 252 (261)) 251 0 (252)) 251 1 (261)) (262) := FR.ur (FR.up f1 (by omega)) (by omega)
  exact pz_vret dX2_init_23 (by rw [e2_end hr])
