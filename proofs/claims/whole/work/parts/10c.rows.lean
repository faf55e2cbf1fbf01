theorem gr8 {α : Type} {r : Nat} (hr : r < 8) (x : Option α) : gd_ (¬ (nI r < 0 ∨ 8 ≤ r)) x = x := gd_t (by intro h; rcases h with h | h; exact nI_pos (by omega) h; omega)
theorem fitIf {α : Type} (b : Bool) (x y : α) : (if (if b then (1 : Int32) else 0) = 0 then x else y) = if b = true then y else x := by cases b <;> rfl
theorem th_if {α : Type} (b : Bool) (x y : α) : (if (if b then (1 : Int32) else 0) = 0 then x else y) = if b = true then y else x := fitIf b x y
theorem misIf2 {α : Type} (b : Bool) (x y : α) : (if (if b then (0 : Int32) else 1) = 0 then x else y) = if b = true then x else y := by cases b <;> rfl
theorem in1 {sz : Nat} (hs : sz ≤ 40) (x : Int32) : f_X7_in x (0 : Int32) (nI sz - (1 : Int32)) = if fitB sz x 1 then 1 else 0 := by
  have e0 : (0 : Int32).toInt = 0 := by decide
  have e1 : (1 : Int32).toInt = 1 := by decide
  have ed : (nI sz - (1 : Int32)).toInt = (sz : Int) - 1 := pk_sub_toInt (a := sz) (b := 1) (by omega) (by omega)
  unfold f_X7_in fitB
  rw [e1]
  by_cases a : x < 0
  · rw [if_pos a]
    rw [Int32.lt_iff_toInt_lt] at a
    rw [decide_eq_false (p := 0 ≤ x.toInt) (by omega)]; rfl
  · rw [if_neg a]
    rw [Int32.lt_iff_toInt_lt] at a
    rw [decide_eq_true (p := 0 ≤ x.toInt) (by omega)]
    by_cases b : nI sz - (1 : Int32) < x
    · rw [if_pos b]
      rw [Int32.lt_iff_toInt_lt] at b
      rw [decide_eq_false (p := x.toInt + 1 ≤ sz) (by omega)]; rfl
    · rw [if_neg b]
      rw [Int32.lt_iff_toInt_lt] at b
      rw [decide_eq_true (p := x.toInt + 1 ≤ sz) (by omega)]; rfl
set_option maxHeartbeats 1000000 in
theorem sp_set (x1 x2 x3 : Int32) : Sp2 (f_X6_set x1 x2 x3) (f_X7_set x1 x2 x3) := fun S hS => by
  rcases rowIx x1 with hb | ⟨r, hr, rfl⟩
  · obtain ⟨e1, e2⟩ := isRow_bad hb
    exact SpAt.keep hS (-1000001) (fun m _ => by unfold f_X6_set; rw [e1]; rfl) (fun m _ => by unfold f_X7_set; rw [e2]; rfl)
  obtain ⟨e1, e2⟩ := isRow_ok hr
  obtain ⟨hla, hsz⟩ := hS.1 r hr
  have c1 : ∀ m, CInv m S → f_X6_set (nI r) x2 x3 m = if S.1.1 r = true then (if fitB (S.1.2.2.1 r) x2 1 = true then (bd2 (f_X4_put (264 + 2 * r) x2 x3 m) fun r11 m10 => (bd2 (f_X6_findNothing r11 m10) fun r13 m12 => (some (r13, m12)))) else some ((-1000010 : Int32) - 2, st_ m 0 9 (nI 2))) else some ((-1000010 : Int32) - 1, st_ m 0 9 (nI 1)) := fun m hm => by
    obtain ⟨q1, q2, q3, q4⟩ := hm.1 r hr
    unfold f_X6_set
    rw [e1, if_neg (by decide), gdN (by omega) (by omega), ix_nI (by omega), rf1]
    simp only [nm_d, q1, th_if, gr8 hr, spansE q3 hsz, fitIf]
    unfold f_X6_find
    rfl
  have c2 : ∀ m, MInv m S → f_X7_set (nI r) x2 x3 m = if S.1.1 r = true then (if fitB (S.1.2.2.1 r) x2 1 = true then (gd_ (¬ ((((40 : Int32) * nI r) + x2) < 0 ∨ 320 ≤ ix (((40 : Int32) * nI r) + x2))) (gd_ (¬ ((((40 : Int32) * nI r) + x2) < 0 ∨ 320 ≤ ix (((40 : Int32) * nI r) + x2))) (bd2 (f_X7_well (st_ m 301 (ix (((40 : Int32) * nI r) + x2)) (f_X7_cut (m 299 r) x3) 301 (ix (((40 : Int32) * nI r) + x2))) (st_ m 301 (ix (((40 : Int32) * nI r) + x2)) (f_X7_cut (m 299 r) x3))) fun r12 m11 => (some (r12, m11))))) else some ((-1000010 : Int32) - 2, st_ m 298 4 (nI 2))) else some ((-1000010 : Int32) - 1, st_ m 298 4 (nI 1)) := fun m hm => by
    obtain ⟨q1, q2, q3⟩ := hm.1 r hr
    unfold f_X7_set
    rw [e2, bd1_d, if_neg (by decide), mis hS.1 hm.1 hr, bd1_d]
    simp only [misIf2, gr8 hr, ix_nI (show r < 2147483648 by omega), q2, in1 hsz, fitIf, nm_d]
    unfold f_X7_found
    rfl
  cases hb : S.1.1 r with
  | false => exact SpAt.found hS 1 (by omega) ((-1000010 : Int32) - 1) (fun m hm => by rw [c1 m hm, hb, if_neg (by decide)]) (fun m hm => by rw [c2 m hm, hb, if_neg (by decide)])
  | true =>
    cases hfit : fitB (S.1.2.2.1 r) x2 1 with
    | false => exact SpAt.found hS 2 (by omega) ((-1000010 : Int32) - 2) (fun m hm => by rw [c1 m hm, hb, if_pos rfl, hfit, if_neg (by decide)]) (fun m hm => by rw [c2 m hm, hb, if_pos rfl, hfit, if_neg (by decide)])
    | true =>
      obtain ⟨i, k, rfl, hk1, hik⟩ := fitB_of hsz hfit
      have hk : k = 1 := by
        by_cases h : k < 2147483648
        · have := (nI_eq (a := 1) (b := k) (by omega) h).mp hk1
          omega
        · omega
      subst hk
      have hi : i < 40 := by omega
      refine ⟨f_X7_cut (nI (S.1.2.1 r)) x3, setRows S (S.1.1, S.1.2.1, S.1.2.2.1, fun q j => if q = r ∧ j = i then f_X7_cut (nI (S.1.2.1 r)) x3 else S.1.2.2.2 q j) 0, setRows_ok hS (fun k hk => hS.1 k hk) (by omega), fun m hm => ?_, fun m hm => ?_⟩
      · obtain ⟨q1, q2, q3, q4⟩ := hm.1 r hr
        rw [c1 m hm, hb, if_pos rfl, hfit, if_pos rfl]
        unfold f_X4_put f_X6_findNothing
        rw [nm_d, cutE x3 q2 hla, gdN hi (by omega), nm_d, gdN hi (by omega), ix_nI (by omega), st_s, bd2_d, nm_d, bd2_d]
        have ot : ∀ a, a ≠ 0 → a ≠ 264 + 2 * r + 1 → st_ (st_ m (264 + 2 * r + 1) i (f_X7_cut (nI (S.1.2.1 r)) x3)) 0 9 (0 : Int32) a = m a := fun a h1 h2 => by rw [st_na h1, st_na h2]
        refine ⟨_, rfl, hm.rows (hm.1.upd (r := r) (fun a h1 h2 h3 h4 => ot a (by omega) h2) (fun k hk => ⟨rfl, rfl, rfl, funext fun j => if_neg (by omega)⟩) ?_) st_s ?_ (fun a h1 h2 => ot a h1 (by omega)), fun a ha => ot a (by omega) (by omega)⟩
        · rw [ot (264 + 2 * r) (by omega) (by omega)]
          refine ⟨q1, q2, q3, fun k hk => ?_⟩
          rw [st_na (by omega)]
          by_cases hki : k = i
          · subst hki; rw [st_s]; exact (if_pos ⟨rfl, rfl⟩).symm
          · rw [st_n (Or.inr hki), q4 k hk]; exact (if_neg (by omega)).symm
        · rw [st_n (Or.inr (by omega)), st_na (by omega)]
      · obtain ⟨q1, q2, q3⟩ := hm.1 r hr
        have hx : (40 : Int32) * nI r + nI i = nI (40 * r + i) := by rw [n40, nI_mulE, nI_add]
        have hl : m 299 r = nI (S.1.2.1 r) := by rw [q1, hb]; rfl
        rw [c2 m hm, hb, if_pos rfl, hfit, if_pos rfl]
        simp only [hx, hl]
        rw [gdN (by omega) (by omega), gdN (by omega) (by omega), ix_nI (by omega), st_s]
        unfold f_X7_well
        rw [nm_d, bd2_d]
        have ot : ∀ a, a ≠ 298 → a ≠ 301 → st_ (st_ m 301 (40 * r + i) (f_X7_cut (nI (S.1.2.1 r)) x3)) 298 4 (0 : Int32) a = m a := fun a h1 h2 => by rw [st_na h1, st_na h2]
        refine ⟨_, rfl, hm.rows (fun k hk => ?_) st_s (fun k hk => ?_) (fun a ha => ot a (by omega) (by omega)), fun a ha => ot a (by omega) (by omega)⟩
        · obtain ⟨p1, p2, p3⟩ := hm.1 k hk
          rw [ot 299 (by omega) (by omega), ot 300 (by omega) (by omega), st_na (by omega)]
          refine ⟨p1, p2, fun j hj => ?_⟩
          by_cases hkr : k = r ∧ j = i
          · obtain ⟨rfl, rfl⟩ := hkr
            rw [st_s]; exact (if_pos ⟨rfl, rfl⟩).symm
          · rw [st_n (Or.inr (by omega)), p3 j hj]; exact (if_neg hkr).symm
        · rw [st_n (Or.inr hk), st_na (by omega)]
theorem copy1 {a i n : Nat} (ha : a < 8) (hin : i + n ≤ 40) (x3 x4 : Int32) : ∀ (f k : Nat) (m : Mm), k ≤ n → n - k < f → ∃ m', lp_X7_copy_92 f (nI a) (nI i) x3 x4 (nI n) (nI k) m = some m' ∧ (∀ q, q ≠ 302 → m' q = m q) ∧ ∀ j, m' 302 j = if k ≤ j ∧ j < n then m 301 (40 * a + i + j) else m 302 j := by
  intro f
  induction f with
  | zero => intro k m _ h; omega
  | succ f ih =>
    intro k m hk hkf
    show ∃ m', lb_X7_copy_92 (lp_X7_copy_92 f) (nI a) (nI i) x3 x4 (nI n) (nI k) m = some m' ∧ _
    unfold lb_X7_copy_92
    have hc : (nI n ≤ nI k) = (n ≤ k) := nI_leE (by omega) (by omega)
    have hx : (40 : Int32) * nI a + nI i + nI k = nI (40 * a + i + k) := by rw [n40, nI_mulE, nI_add, nI_add]
    simp only [hc, hx]
    by_cases h : n ≤ k
    · rw [if_pos h]
      exact ⟨m, rfl, fun _ _ => rfl, fun j => by rw [if_neg (by omega)]⟩
    · rw [if_neg h, gdN (by omega) (by omega), nm_d, gdN (by omega) (by omega), nm_d, nm_d, ix_nI (by omega), ix_nI (by omega), n1, nI_add]
      obtain ⟨m', e1, e2, e3⟩ := ih (k + 1) (st_ m 302 k (m 301 (40 * a + i + k))) (by omega) (by omega)
      refine ⟨m', e1, fun q hq => by rw [e2 q hq, st_na hq], fun j => ?_⟩
      rw [e3 j, st_na (a' := 301) (by omega)]
      by_cases hj : j = k
      · subst hj; rw [if_neg (by omega), if_pos (by omega), st_s]
      · rw [st_n (Or.inr hj)]
        by_cases h1 : k + 1 ≤ j ∧ j < n
        · rw [if_pos h1, if_pos (by omega)]
        · rw [if_neg h1, if_neg (by omega)]
theorem copy2 {b i n : Nat} (hb : b < 8) (hin : i + n ≤ 40) : ∀ (f k : Nat) (m : Mm), k ≤ n → n - k < f → ∃ m', lp_X7_copy_129 f (nI b) (nI i) (nI n) (nI k) m = some m' ∧ (∀ q, q ≠ 301 → m' q = m q) ∧ ∀ j, m' 301 j = if 40 * b + i + k ≤ j ∧ j < 40 * b + i + n then m 302 (j - (40 * b + i)) else m 301 j := by
  intro f
  induction f with
  | zero => intro k m _ h; omega
  | succ f ih =>
    intro k m hk hkf
    show ∃ m', lb_X7_copy_129 (lp_X7_copy_129 f) (nI b) (nI i) (nI n) (nI k) m = some m' ∧ _
    unfold lb_X7_copy_129
    have hc : (nI n ≤ nI k) = (n ≤ k) := nI_leE (by omega) (by omega)
    have hx : (40 : Int32) * nI b + nI i + nI k = nI (40 * b + i + k) := by rw [n40, nI_mulE, nI_add, nI_add]
    simp only [hc, hx]
    by_cases h : n ≤ k
    · rw [if_pos h]
      exact ⟨m, rfl, fun _ _ => rfl, fun j => by rw [if_neg (by omega)]⟩
    · rw [if_neg h, gdN (by omega) (by omega), nm_d, gdN (by omega) (by omega), nm_d, nm_d, ix_nI (by omega), ix_nI (by omega), n1, nI_add]
      obtain ⟨m', e1, e2, e3⟩ := ih (k + 1) (st_ m 301 (40 * b + i + k) (m 302 k)) (by omega) (by omega)
      refine ⟨m', e1, fun q hq => by rw [e2 q hq, st_na hq], fun j => ?_⟩
      rw [e3 j, st_na (a' := 302) (by omega)]
      by_cases hj : j = 40 * b + i + k
      · subst hj; rw [if_neg (by omega), if_pos (by omega), st_s, show 40 * b + i + k - (40 * b + i) = k by omega]
      · rw [st_n (Or.inr hj)]
        by_cases h1 : 40 * b + i + (k + 1) ≤ j ∧ j < 40 * b + i + n
        · rw [if_pos h1, if_pos (by omega)]
        · rw [if_neg h1, if_neg (by omega)]
set_option maxHeartbeats 2000000 in
theorem sp_copy (x1 x2 x3 x4 x5 : Int32) : Sp2 (f_X6_copy x1 x2 x3 x4 x5) (f_X7_copy x1 x2 x3 x4 x5) := fun S hS => by
  rcases rowIx x1 with hb | ⟨a, ha, rfl⟩
  · obtain ⟨e1, e2⟩ := isRow_bad hb
    exact SpAt.keep hS (-1000001) (fun m _ => by unfold f_X6_copy; rw [e1]; rfl) (fun m _ => by unfold f_X7_copy; rw [e2]; rfl)
  obtain ⟨e1, e2⟩ := isRow_ok ha
  rcases rowIx x3 with hb | ⟨b, hb, rfl⟩
  · obtain ⟨e3, e4⟩ := isRow_bad hb
    exact SpAt.keep hS (-1000001) (fun m _ => by unfold f_X6_copy; rw [e1, e3]; rfl) (fun m _ => by unfold f_X7_copy; rw [e2, e4]; rfl)
  obtain ⟨e3, e4⟩ := isRow_ok hb
  obtain ⟨hla, hsa⟩ := hS.1 a ha
  obtain ⟨hlb, hsb⟩ := hS.1 b hb
  have hle : (nI (S.1.2.1 a) = nI (S.1.2.1 b)) = (S.1.2.1 a = S.1.2.1 b) := nI_eqE (by omega) (by omega)
  have c1 : ∀ m, CInv m S → f_X6_copy (nI a) x2 (nI b) x4 x5 m = if S.1.1 a = true then (if S.1.1 b = true then (if S.1.2.1 a = S.1.2.1 b then (if fitB (S.1.2.2.1 a) x2 x5 = true then (if fitB (S.1.2.2.1 b) x4 x5 = true then (gd_ ((¬ x2 < 0 ∧ ¬ x4 < 0 ∧ ¬ x5 < 0 ∧ ix x2 + ix x5 ≤ 40 ∧ ix x4 + ix x5 ≤ 40)) (some (x5, st_ (cp_ m (264 + 2 * a + 1) (ix x2) (264 + 2 * b + 1) (ix x4) (ix x5)) 0 9 (0 : Int32)))) else some ((-1000010 : Int32) - 2, st_ m 0 9 (nI 2))) else some ((-1000010 : Int32) - 2, st_ m 0 9 (nI 2))) else some ((-1000010 : Int32) - 5, st_ m 0 9 (nI 5))) else some ((-1000010 : Int32) - 1, st_ m 0 9 (nI 1))) else some ((-1000010 : Int32) - 1, st_ m 0 9 (nI 1)) := fun m hm => by
    obtain ⟨q1, q2, q3, q4⟩ := hm.1 a ha
    obtain ⟨p1, p2, p3, p4⟩ := hm.1 b hb
    unfold f_X6_copy f_X6_find f_X6_findNothing
    rw [e1, e3, if_neg (by decide), if_neg (by decide), gdN (by omega) (by omega), ix_nI (show a < 2147483648 by omega), rf1, nm_d, gdN (by omega) (by omega), ix_nI (show b < 2147483648 by omega), rf1]
    simp only [nm_d, bd2_d, q1, q2, p1, p2, th_if, spansE q3 hsa, spansE p3 hsb, fitIf, hle]
    rfl
  have c2 : ∀ m, MInv m S → f_X7_copy (nI a) x2 (nI b) x4 x5 m = if S.1.1 a = true then (if S.1.1 b = true then (if S.1.2.1 a = S.1.2.1 b then (if fitB (S.1.2.2.1 a) x2 x5 = true then (if fitB (S.1.2.2.1 b) x4 x5 = true then (bd1 (lp_X7_copy_92 FU (nI a) x2 (nI b) x4 x5 (0 : Int32) m) fun m26 => (bd1 (lp_X7_copy_129 FU (nI b) x4 x5 (0 : Int32) m26) fun m34 => some (x5, st_ m34 298 4 (0 : Int32)))) else some ((-1000010 : Int32) - 2, st_ m 298 4 (nI 2))) else some ((-1000010 : Int32) - 2, st_ m 298 4 (nI 2))) else some ((-1000010 : Int32) - 5, st_ m 298 4 (nI 5))) else some ((-1000010 : Int32) - 1, st_ m 298 4 (nI 1))) else some ((-1000010 : Int32) - 1, st_ m 298 4 (nI 1)) := fun m hm => by
    obtain ⟨q1, q2, q3⟩ := hm.1 a ha
    obtain ⟨p1, p2, p3⟩ := hm.1 b hb
    unfold f_X7_copy f_X7_found f_X7_well
    rw [e2, bd1_d, if_neg (by decide), e4, bd1_d, if_neg (by decide), mis hS.1 hm.1 ha, bd1_d, mis hS.1 hm.1 hb]
    simp only [bd1_d, misIf2, ix_nI (show a < 2147483648 by omega), ix_nI (show b < 2147483648 by omega), gr8 ha, gr8 hb, partE ha q2 hsa, partE hb p2 hsb, fitIf, nm_d, bd2_d]
    by_cases ta : S.1.1 a = true
    · by_cases tb : S.1.1 b = true
      · rw [if_pos ta, if_pos tb, if_pos ta, if_pos tb, q1, p1, if_pos ta, if_pos tb]
        simp only [hle]
        rfl
      · rw [if_pos ta, if_neg tb, if_pos ta, if_neg tb]; rfl
    · rw [if_neg ta, if_neg ta]; rfl
  by_cases ta : S.1.1 a = true
  rotate_left
  · exact SpAt.found hS 1 (by omega) ((-1000010 : Int32) - 1) (fun m hm => by rw [c1 m hm, if_neg ta]) (fun m hm => by rw [c2 m hm, if_neg ta])
  by_cases tb : S.1.1 b = true
  rotate_left
  · exact SpAt.found hS 1 (by omega) ((-1000010 : Int32) - 1) (fun m hm => by rw [c1 m hm, if_pos ta, if_neg tb]) (fun m hm => by rw [c2 m hm, if_pos ta, if_neg tb])
  by_cases tl : S.1.2.1 a = S.1.2.1 b
  rotate_left
  · exact SpAt.found hS 5 (by omega) ((-1000010 : Int32) - 5) (fun m hm => by rw [c1 m hm, if_pos ta, if_pos tb, if_neg tl]) (fun m hm => by rw [c2 m hm, if_pos ta, if_pos tb, if_neg tl])
  by_cases fa : fitB (S.1.2.2.1 a) x2 x5 = true
  rotate_left
  · exact SpAt.found hS 2 (by omega) ((-1000010 : Int32) - 2) (fun m hm => by rw [c1 m hm, if_pos ta, if_pos tb, if_pos tl, if_neg fa]) (fun m hm => by rw [c2 m hm, if_pos ta, if_pos tb, if_pos tl, if_neg fa])
  by_cases fb : fitB (S.1.2.2.1 b) x4 x5 = true
  rotate_left
  · exact SpAt.found hS 2 (by omega) ((-1000010 : Int32) - 2) (fun m hm => by rw [c1 m hm, if_pos ta, if_pos tb, if_pos tl, if_pos fa, if_neg fb]) (fun m hm => by rw [c2 m hm, if_pos ta, if_pos tb, if_pos tl, if_pos fa, if_neg fb])
  obtain ⟨i, n, rfl, rfl, hin⟩ := fitB_of hsa fa
  obtain ⟨j, n', rfl, hn', hjn⟩ := fitB_of hsb fb
  have hnn : n = n' := (nI_eq (a := n) (b := n') (by omega) (by omega)).mp hn'
  subst hnn
  have hF := FU_big
  refine ⟨nI n, setRows S (S.1.1, S.1.2.1, S.1.2.2.1, fun q k => if q = b ∧ j ≤ k ∧ k < j + n then S.1.2.2.2 a (i + (k - j)) else S.1.2.2.2 q k) 0, setRows_ok hS (fun k hk => hS.1 k hk) (by omega), fun m hm => ?_, fun m hm => ?_⟩
  · obtain ⟨q1, q2, q3, q4⟩ := hm.1 a ha
    obtain ⟨p1, p2, p3, p4⟩ := hm.1 b hb
    rw [c1 m hm, if_pos ta, if_pos tb, if_pos tl, if_pos fa, if_pos fb, gd_t ⟨nI_pos (by omega), nI_pos (by omega), nI_pos (by omega), by rw [ix_nI (by omega), ix_nI (by omega)]; omega, by rw [ix_nI (by omega), ix_nI (by omega)]; omega⟩, ix_nI (show i < 2147483648 by omega), ix_nI (show j < 2147483648 by omega), ix_nI (show n < 2147483648 by omega)]
    have ot : ∀ c, c ≠ 0 → c ≠ 264 + 2 * b + 1 → st_ (cp_ m (264 + 2 * a + 1) i (264 + 2 * b + 1) j n) 0 9 (0 : Int32) c = m c := fun c h1 h2 => by rw [st_na h1, cp_na h2]
    refine ⟨_, rfl, hm.rows (hm.1.upd (r := b) (fun c h1 h2 h3 h4 => ot c (by omega) h2) (fun k hk => ⟨rfl, rfl, rfl, funext fun z => if_neg (by omega)⟩) ?_) st_s ?_ (fun c h1 h2 => ot c h1 (by omega)), fun c hc => ot c (by omega) (by omega)⟩
    · rw [ot (264 + 2 * b) (by omega) (by omega)]
      refine ⟨p1, p2, p3, fun k hk => ?_⟩
      rw [st_na (by omega)]
      unfold cp_
      by_cases hk2 : j ≤ k ∧ k < j + n
      · rw [if_pos ⟨rfl, hk2.1, hk2.2⟩, q4 _ (by omega)]; exact (if_pos ⟨rfl, hk2.1, hk2.2⟩).symm
      · rw [if_neg (by omega), p4 k hk]; exact (if_neg (by omega)).symm
    · rw [st_n (Or.inr (by omega)), cp_na (by omega)]
  · obtain ⟨q1, q2, q3⟩ := hm.1 a ha
    rw [c2 m hm, if_pos ta, if_pos tb, if_pos tl, if_pos fa, if_pos fb]
    obtain ⟨m1, a1, a2, a3⟩ := copy1 (i := i) (n := n) ha (by omega) (nI b) (nI j) FU 0 m (by omega) (by omega)
    obtain ⟨m2, b1, b2, b3⟩ := copy2 (i := j) (n := n) hb (by omega) FU 0 m1 (by omega) (by omega)
    have a1' : lp_X7_copy_92 FU (nI a) (nI i) (nI b) (nI j) (nI n) (0 : Int32) m = some m1 := a1
    have b1' : lp_X7_copy_129 FU (nI b) (nI j) (nI n) (0 : Int32) m1 = some m2 := b1
    rw [a1', bd1_d, b1', bd1_d]
    have ot : ∀ c, c ≠ 298 → c ≠ 301 → c ≠ 302 → st_ m2 298 4 (0 : Int32) c = m c := fun c h1 h2 h3 => by rw [st_na h1, b2 c h2, a2 c h3]
    refine ⟨_, rfl, hm.rows (fun k hk => ?_) st_s (fun k hk => ?_) (fun c hc => ot c (by omega) (by omega) (by omega)), fun c hc => ot c (by omega) (by omega) (by omega)⟩
    · obtain ⟨p1, p2, p3⟩ := hm.1 k hk
      rw [ot 299 (by omega) (by omega) (by omega), ot 300 (by omega) (by omega) (by omega), st_na (by omega)]
      refine ⟨p1, p2, fun z hz => ?_⟩
      rw [b3, a2 301 (by omega), a3]
      by_cases hc : k = b ∧ j ≤ z ∧ z < j + n
      · obtain ⟨rfl, h1, h2⟩ := hc
        rw [if_pos (by omega), if_pos (by omega), show 40 * a + i + (40 * k + z - (40 * k + j)) = 40 * a + (i + (z - j)) by omega, q3 _ (by omega)]
        exact (if_pos ⟨rfl, h1, h2⟩).symm
      · rw [if_neg (by omega), p3 z hz]; exact (if_neg hc).symm
    · rw [st_n (Or.inr hk), b2 298 (by omega), a2 298 (by omega)]
theorem sp_status : Sp2 (fun m => some (f_X6_status m, m)) (fun m => some (f_X7_status m, m)) := fun S hS =>
  SpAt.keep hS (nI S.2.1) (fun m hm => by show some (m 0 9, m) = _; rw [hm.2.1]) (fun m hm => by show some (m 298 4, m) = _; rw [hm.2.1])
