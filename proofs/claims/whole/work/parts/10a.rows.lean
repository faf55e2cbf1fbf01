theorem rowIx (x : Int32) : (x < 0 ∨ (8 : Int32) ≤ x) ∨ ∃ r, r < 8 ∧ x = nI r := by
  rcases pk_ix x (n := 8) (by omega) with h | h | h
  · exact Or.inl (Or.inl h)
  · exact Or.inl (Or.inr h)
  · exact Or.inr h
theorem isRow_bad {x : Int32} (h : x < 0 ∨ (8 : Int32) ≤ x) : f_X6_isRow x = 0 ∧ f_X7_isRow x = some 0 := by
  unfold f_X6_isRow f_X7_isRow f_X7_in
  rcases h with h | h
  · rw [if_pos h, if_pos h]; exact ⟨rfl, rfl⟩
  · have h0 : ¬ x < 0 := by
      intro h2
      rw [Int32.le_iff_toInt_le] at h; rw [Int32.lt_iff_toInt_lt] at h2
      have e1 : (8 : Int32).toInt = 8 := by decide
      have e2 : (0 : Int32).toInt = 0 := by decide
      omega
    have h7 : (7 : Int32) < x := by
      rw [Int32.le_iff_toInt_le] at h; rw [Int32.lt_iff_toInt_lt]
      have e1 : (8 : Int32).toInt = 8 := by decide
      have e2 : (7 : Int32).toInt = 7 := by decide
      omega
    rw [if_neg h0, if_pos h, if_neg h0, if_pos h7]; exact ⟨rfl, rfl⟩
theorem isRow_ok {r : Nat} (h : r < 8) : f_X6_isRow (nI r) = 1 ∧ f_X7_isRow (nI r) = some 1 := by
  rcases (show r = 0 ∨ r = 1 ∨ r = 2 ∨ r = 3 ∨ r = 4 ∨ r = 5 ∨ r = 6 ∨ r = 7 by omega) with h | h | h | h | h | h | h | h <;> subst h <;> exact ⟨rfl, rfl⟩
theorem rf1 (k : Nat) : rf 1 k = 264 + 2 * k := rfl
theorem make_loop {w : Nat} : ∀ (n i : Nat) (m : Mm), i ≤ 40 → 40 - i < n → ∃ m', lp_X4_make_17 w n (nI i) m = some m' ∧ (∀ a, a ≠ w + 1 → m' a = m a) ∧ (∀ k, i ≤ k → k < 40 → m' (w + 1) k = 0) ∧ ∀ k, k < i → m' (w + 1) k = m (w + 1) k := by
  intro n
  induction n with
  | zero => intro i m _ h; omega
  | succ n ih =>
    intro i m hi hin
    show ∃ m', lb_X4_make_17 (lp_X4_make_17 w n) w (nI i) m = some m' ∧ _
    unfold lb_X4_make_17
    have hc : ((40 : Int32) ≤ nI i) = (40 ≤ i) := nI_leE (a := 40) (by omega) (by omega)
    simp only [hc]
    by_cases h : 40 ≤ i
    · rw [if_pos h]
      exact ⟨m, rfl, fun _ _ => rfl, fun k h1 h2 => by omega, fun _ _ => rfl⟩
    · rw [if_neg h, gdN (by omega) (by omega), nm_d, nm_d, ix_nI (by omega), n1, nI_add]
      obtain ⟨m', e1, e2, e3, e4⟩ := ih (i + 1) (st_ m (w + 1) i (0 : Int32)) (by omega) (by omega)
      refine ⟨m', e1, fun a ha => by rw [e2 a ha, st_na ha], fun k h1 h2 => ?_, fun k hk => by rw [e4 k (by omega), st_n (Or.inr (by omega))]⟩
      by_cases hk : k = i
      · subst hk; rw [e4 k (by omega), st_s]
      · exact e3 k (by omega) h2
theorem mrow_loop {r : Nat} (hr : r < 8) (x3 : Int32) : ∀ (n i : Nat) (m : Mm), i ≤ 40 → 40 - i < n → ∃ m', lp_X7_row_52 n (nI r) x3 (nI i) m = some m' ∧ (∀ a, a ≠ 301 → m' a = m a) ∧ ∀ k, m' 301 k = if 40 * r + i ≤ k ∧ k < 40 * r + 40 then 0 else m 301 k := by
  intro n
  induction n with
  | zero => intro i m _ h; omega
  | succ n ih =>
    intro i m hi hin
    show ∃ m', lb_X7_row_52 (lp_X7_row_52 n) (nI r) x3 (nI i) m = some m' ∧ _
    unfold lb_X7_row_52
    have hc : ((40 : Int32) ≤ nI i) = (40 ≤ i) := nI_leE (a := 40) (by omega) (by omega)
    have hx : (40 : Int32) * nI r + nI i = nI (40 * r + i) := by rw [n40, nI_mulE, nI_add]
    simp only [hc, hx]
    by_cases h : 40 ≤ i
    · rw [if_pos h]
      exact ⟨m, rfl, fun _ _ => rfl, fun k => by rw [if_neg (by omega)]⟩
    · rw [if_neg h, gdN (by omega) (by omega), nm_d, nm_d, ix_nI (by omega), n1, nI_add]
      obtain ⟨m', e1, e2, e3⟩ := ih (i + 1) (st_ m 301 (40 * r + i) (0 : Int32)) (by omega) (by omega)
      refine ⟨m', e1, fun a ha => by rw [e2 a ha, st_na ha], fun k => ?_⟩
      rw [e3 k]
      by_cases hk : k = 40 * r + i
      · subst hk; rw [if_neg (by omega), if_pos (by omega), st_s]
      · rw [st_n (Or.inr hk)]
        by_cases h1 : 40 * r + (i + 1) ≤ k ∧ k < 40 * r + 40
        · rw [if_pos h1, if_pos (by omega)]
        · rw [if_neg h1, if_neg (by omega)]
def setRows (S : SS) (R : RowsT) (n : Nat) : SS := (R, n, S.2.2)
/-- rows other than r stay -/
theorem CR.upd {m m' : Mm} {R R' : RowsT} {r : Nat} (h : CR m R) (hf : ∀ a, a ≠ 264 + 2 * r → a ≠ 264 + 2 * r + 1 → 264 ≤ a → a < 280 → m' a = m a) (hR : ∀ q, q ≠ r → R'.1 q = R.1 q ∧ R'.2.1 q = R.2.1 q ∧ R'.2.2.1 q = R.2.2.1 q ∧ R'.2.2.2 q = R.2.2.2 q)
    (hr : m' (264 + 2 * r) 0 = (if R'.1 r then 1 else 0) ∧ m' (264 + 2 * r) 1 = nI (R'.2.1 r) ∧ m' (264 + 2 * r) 2 = nI (R'.2.2.1 r) ∧ ∀ k, k < 40 → m' (264 + 2 * r + 1) k = R'.2.2.2 r k) : CR m' R' := fun q hq => by
  by_cases e : q = r
  · subst e; exact hr
  · obtain ⟨q1, q2, q3, q4⟩ := hR q e
    rw [q1, q2, q3, q4, hf (264 + 2 * q) (by omega) (by omega) (by omega) (by omega), hf (264 + 2 * q + 1) (by omega) (by omega) (by omega) (by omega)]
    exact h q hq
theorem CInv.rows {m m' : Mm} {S : SS} {R : RowsT} {n : Nat} (h : CInv m S) (hR : CR m' R) (hs : m' 0 9 = nI n) (h0 : m' 0 8 = m 0 8) (hf : ∀ a, a ≠ 0 → (a < 264 ∨ 280 ≤ a) → m' a = m a) : CInv m' (setRows S R n) := by
  obtain ⟨h1, h2, h3, h4, h5, h6, h7, h8⟩ := h
  refine ⟨hR, hs, ?_, h4.frame fun a ha hb => hf a (by omega) (by omega), h5.frame fun a ha hb => hf a (by omega) (by omega), h6.frame fun a ha hb => hf a (by omega) (by omega), ?_, ?_⟩
  · rw [hf 2 (by omega) (by omega), hf 12 (by omega) (by omega)]; exact h3
  · rw [h0, hf 263 (by omega) (by omega)]; exact h7
  · rw [hf 3 (by omega) (by omega)]; exact h8
theorem MInv.rows {m m' : Mm} {S : SS} {R : RowsT} {n : Nat} (h : MInv m S) (hR : MR m' R) (hs : m' 298 4 = nI n) (h0 : ∀ k, k ≠ 4 → m' 298 k = m 298 k) (hf : ∀ a, 303 ≤ a → m' a = m a) : MInv m' (setRows S R n) := by
  obtain ⟨h1, h2, h3, h4, h5, h6, h7⟩ := h
  refine ⟨hR, hs, ?_, h4.frame (hf 304 (by omega)), h5.frame (h0 17 (by omega)) (hf 307 (by omega)), h6.frame (hf 309 (by omega)) (hf 308 (by omega)), ?_⟩
  · rw [h0 6 (by omega), h0 7 (by omega), hf 303 (by omega)]; exact h3
  · rw [h0 23 (by omega), hf 312 (by omega)]; exact h7
theorem setRows_ok {S : SS} {R : RowsT} {n : Nat} (h : OkS S) (hR : OR R) (hn : n ≤ 5) : OkS (setRows S R n) := ⟨hR, hn, h.2.2⟩
theorem in02 (x : Int32) : (x < 0 ∨ (3 : Int32) ≤ x) ∨ ∃ r, r < 3 ∧ x = nI r := by
  rcases pk_ix x (n := 3) (by omega) with h | h | h
  · exact Or.inl (Or.inl h)
  · exact Or.inl (Or.inr h)
  · exact Or.inr h
theorem inE {x : Int32} {lo hi : Nat} (h2 : hi < 1000000) (h1 : lo < 1000000) : f_X7_in x (nI lo) (nI hi) = if (lo : Int) ≤ x.toInt ∧ x.toInt ≤ hi then 1 else 0 := by
  unfold f_X7_in
  have e1 := nI_toInt (n := lo) (by omega)
  have e2 := nI_toInt (n := hi) (by omega)
  by_cases a : x < nI lo
  · rw [if_pos a, if_neg]
    rw [Int32.lt_iff_toInt_lt] at a; omega
  · rw [if_neg a]
    rw [Int32.lt_iff_toInt_lt] at a
    by_cases b : nI hi < x
    · rw [if_pos b, if_neg]
      rw [Int32.lt_iff_toInt_lt] at b; omega
    · rw [if_neg b, if_pos]
      rw [Int32.lt_iff_toInt_lt] at b; omega
set_option maxHeartbeats 1000000 in
theorem sp_row (x1 x2 x3 : Int32) : Sp2 (f_X6_row x1 x2 x3) (f_X7_row x1 x2 x3) := fun S hS => by
  rcases rowIx x1 with hb | ⟨r, hr, rfl⟩
  · obtain ⟨e1, e2⟩ := isRow_bad hb
    exact SpAt.keep hS (-1000001) (fun m _ => by unfold f_X6_row; rw [e1]; rfl) (fun m _ => by unfold f_X7_row; rw [e2]; rfl)
  obtain ⟨e1, e2⟩ := isRow_ok hr
  rcases in02 x2 with hb | ⟨q, hq, rfl⟩
  · refine SpAt.keep hS (-1000001) (fun m _ => ?_) (fun m _ => ?_)
    · unfold f_X6_row
      rw [e1, if_neg (by decide)]
      rcases hb with hb | hb
      · rw [if_pos hb]
      · by_cases h0 : x2 < 0
        · rw [if_pos h0]
        · rw [if_neg h0, if_pos hb]
    · unfold f_X7_row
      have hz : f_X7_in x2 (0 : Int32) (2 : Int32) = 0 := (inE (x := x2) (lo := 0) (hi := 2) (by omega) (by omega)).trans (if_neg (by
        intro hh
        have a1 : (3 : Int32).toInt = 3 := by decide
        have a0 : (0 : Int32).toInt = 0 := by decide
        rcases hb with hb | hb
        · rw [Int32.lt_iff_toInt_lt] at hb; omega
        · rw [Int32.le_iff_toInt_le] at hb; omega))
      rw [e2, bd1_d, if_neg (by decide), hz, if_pos rfl]
  have c1 : ∀ m, f_X6_row (nI r) (nI q) x3 m = (if x3 ≤ (40 : Int32) then (if 0 ≤ x3 then (bd1 (f_X4_make (264 + 2 * r) (nI q) x3 m) fun m8 => (bd2 (f_X6_findNothing x3 m8) fun r10 m9 => (some (r10, m9)))) else (bd2 (f_X6_find (4 : Int32) m) fun r12 m11 => (some (r12, m11)))) else (some ((-1000001 : Int32), m))) := fun m => by
    unfold f_X6_row
    rw [e1, if_neg (by decide), if_neg (nI_pos (by omega)), if_neg (by rw [n3, nI_leE (by omega) (by omega)]; omega), gdN (by omega) (by omega), nm_d, ix_nI (by omega), rf1]
  have c2 : ∀ m, f_X7_row (nI r) (nI q) x3 m = (if x3 ≤ (40 : Int32) then (if 0 ≤ x3 then (bd1 (lp_X7_row_52 FU (nI r) x3 (0 : Int32) (st_ (st_ m 299 r (nI q)) 300 r x3)) fun m12 => (bd2 (f_X7_well x3 m12) fun r15 m14 => (some (r15, m14)))) else (bd2 (f_X7_found (4 : Int32) m) fun r19 m18 => (some (r19, m18)))) else (some ((-1000001 : Int32), m))) := fun m => by
    unfold f_X7_row
    have hz : f_X7_in (nI q) (0 : Int32) (2 : Int32) = 1 := (inE (x := nI q) (lo := 0) (hi := 2) (by omega) (by omega)).trans (if_pos (by
      have := nI_toInt (n := q) (by omega)
      omega))
    rw [e2, bd1_d, if_neg (by decide), hz, if_neg (by decide), gdN (by omega) (by omega), nm_d, gdN (by omega) (by omega), nm_d, ix_nI (by omega)]
  by_cases h40 : x3 ≤ (40 : Int32)
  · by_cases h0 : 0 ≤ x3
    · obtain ⟨z, hz, rfl⟩ : ∃ z, z ≤ 40 ∧ x3 = nI z := by
        obtain ⟨j, h1, h2⟩ := nI_of2 (x := x3) (M := 40) (n := 40) (by decide) (by
          intro h; rw [Int32.lt_iff_toInt_lt] at h; rw [Int32.le_iff_toInt_le] at h0; omega) h40
        exact ⟨j, h1, h2⟩
      have hF := FU_big
      refine ⟨nI z, setRows S (fun k => if k = r then true else S.1.1 k, fun k => if k = r then q else S.1.2.1 k, fun k => if k = r then z else S.1.2.2.1 k, fun k => if k = r then (fun _ => 0) else S.1.2.2.2 k) 0, setRows_ok hS (fun k hk => ?_) (by omega), fun m hm => ?_, fun m hm => ?_⟩
      · show (if k = r then q else S.1.2.1 k) ≤ 2 ∧ (if k = r then z else S.1.2.2.1 k) ≤ 40
        by_cases hkr : k = r
        · rw [if_pos hkr, if_pos hkr]; omega
        · rw [if_neg hkr, if_neg hkr]; exact hS.1 k hk
      · rw [c1, if_pos h40, if_pos h0]
        unfold f_X4_make f_X6_findNothing
        simp only [nm_d]
        obtain ⟨m', a1, a2, a3, a4⟩ := make_loop (w := 264 + 2 * r) FU 0 (st_ (st_ (st_ m (264 + 2 * r) 0 (1 : Int32)) (264 + 2 * r) 1 (nI q)) (264 + 2 * r) 2 (nI z)) (by omega) (by omega)
        rw [show (0 : Int32) = nI 0 from rfl, a1]
        simp only [bd1_d, bd2_d]
        have b0 : ∀ k, st_ m' 0 9 (nI 0) (264 + 2 * r) k = st_ (st_ (st_ m (264 + 2 * r) 0 (1 : Int32)) (264 + 2 * r) 1 (nI q)) (264 + 2 * r) 2 (nI z) (264 + 2 * r) k := fun k => by rw [st_n (Or.inl (by omega)), a2 (264 + 2 * r) (by omega)]
        have ot : ∀ a, a ≠ 0 → a ≠ 264 + 2 * r → a ≠ 264 + 2 * r + 1 → st_ m' 0 9 (nI 0) a = m a := fun a h1 h2 h3 => by rw [st_na h1, a2 a h3, st_na h2, st_na h2, st_na h2]
        refine ⟨_, rfl, hm.rows (hm.1.upd (r := r) (fun a h1 h2 h3 h4 => ot a (by omega) h1 h2) (fun k hk => ?_) ?_) st_s ?_ (fun a h1 h2 => ot a h1 (by omega) (by omega)), fun a ha => ot a (by omega) (by omega) (by omega)⟩
        · exact ⟨if_neg hk, if_neg hk, if_neg hk, if_neg hk⟩
        · rw [b0, b0, b0]
          simp only [if_pos]
          refine ⟨?_, ?_, ?_, fun k hk => ?_⟩
          · rw [st_n (Or.inr (by omega)), st_n (Or.inr (by omega)), st_s] <;> rfl
          · rw [st_n (Or.inr (by omega)), st_s]
          · exact st_s
          · rw [st_na (by omega)]; exact a3 k (by omega) hk
        · rw [st_n (Or.inr (by omega)), a2 0 (by omega), st_na (by omega), st_na (by omega), st_na (by omega)]
      · rw [c2, if_pos h40, if_pos h0]
        unfold f_X7_well
        simp only [nm_d]
        obtain ⟨m', a1, a2, a3⟩ := mrow_loop hr (nI z) FU 0 (st_ (st_ m 299 r (nI q)) 300 r (nI z)) (by omega) (by omega)
        rw [show (0 : Int32) = nI 0 from rfl, a1]
        simp only [bd1_d, bd2_d]
        have ot : ∀ a, a ≠ 298 → a ≠ 299 → a ≠ 300 → a ≠ 301 → st_ m' 298 4 (nI 0) a = m a := fun a h1 h2 h3 h4 => by rw [st_na h1, a2 a h4, st_na h3, st_na h2]
        refine ⟨_, rfl, hm.rows (fun k hk => ?_) st_s (fun k hk => ?_) (fun a ha => ot a (by omega) (by omega) (by omega) (by omega)), fun a ha => ot a (by omega) (by omega) (by omega) (by omega)⟩
        · obtain ⟨q1, q2, q3⟩ := hm.1 k hk
          rw [st_na (by omega), st_na (by omega), st_na (by omega), a2 299 (by omega), a2 300 (by omega), st_na (by omega)]
          by_cases hkr : k = r
          · subst hkr
            simp only [if_pos]
            refine ⟨?_, ?_, fun j hj => ?_⟩
            · rw [st_s] <;> rfl
            · rw [st_s]
            · rw [a3, if_pos (by omega)] <;> rfl
          · simp only [if_neg hkr]
            refine ⟨?_, ?_, fun j hj => ?_⟩
            · rw [st_n (Or.inr hkr)]; exact q1
            · rw [st_n (Or.inr hkr), st_na (by omega)]; exact q2
            · rw [a3, if_neg (by omega), st_na (by omega), st_na (by omega)]; exact q3 j hj
        · rw [st_n (Or.inr hk), a2 298 (by omega), st_na (by omega), st_na (by omega)]
    · exact SpAt.found hS 4 (by omega) ((-1000010 : Int32) - 4) (fun m _ => by rw [c1, if_pos h40, if_neg h0]; rfl) (fun m _ => by rw [c2, if_pos h40, if_neg h0]; rfl)
  · exact SpAt.keep hS (-1000001) (fun m _ => by rw [c1, if_neg h40]) (fun m _ => by rw [c2, if_neg h40])
