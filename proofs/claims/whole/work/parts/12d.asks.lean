def lP (f : Mm → Option Int32) : Mm → Option (Int32 × Mm) := fun m => (f m).map fun r => (r, m)
theorem SpAt.keepP {fx fm : Mm → Option Int32} {S : SS} (hS : OkS S) (r : Int32) (h1 : ∀ m, CInv m S → fx m = some r) (h2 : ∀ m, MInv m S → fm m = some r) : SpAt S (lP fx) (lP fm) :=
  SpAt.keep hS r (fun m hm => by unfold lP; rw [h1 m hm]; rfl) (fun m hm => by unfold lP; rw [h2 m hm]; rfl)
theorem sp_fault : Sp2 (fun m => some (f_X6_fault m, m)) (fun m => some (f_X7_fault m, m)) := fun S hS =>
  SpAt.keep hS (nI S.2.2.1.2.2) (fun m hm => by show some (m 2 4, m) = _; rw [hm.2.2.1.2.2]) (fun m hm => by show some (m 298 7, m) = _; rw [hm.2.2.1.2.2])
theorem sp_seat (x1 : Int32) : Sp2 (lP (f_X6_seat x1)) (lP (f_X7_seat x1)) := fun S hS => by
  have hN := hS.2.2.2.1
  have hn := hN.v.n
  rcases gstIx S.2.2.2.1 hn x1 with hb | ⟨p, hp, rfl⟩
  · refine SpAt.keepP hS (-1000001) (fun m hm => ?_) (fun m hm => ?_)
    · unfold f_X6_seat
      rw [(gst_bad hn hb).1 hm.2.2.2.1]; rfl
    · unfold f_X7_seat
      rw [(gst_bad (w := 13) hn hb).2 hm.2.2.2.1]; rfl
  have hV := hN.v
  obtain ⟨g, hg, he⟩ := hV.sur p hp
  refine SpAt.keepP hS (nI g) (fun m hm => ?_) (fun m hm => ?_)
  · unfold f_X6_seat
    have h7 : m 20 p = nI g := by
      have := (hm.2.2.2.1.g hg).2.2.2.2.2.2
      rw [he] at this; exact this
    rw [(gst_ok hn hp).1 hm.2.2.2.1, if_neg (by decide), gdN (by omega) (by omega), ix_nI (by omega), h7]
  · unfold f_X7_seat
    rw [(gst_ok (w := 13) hn hp).2 hm.2.2.2.1, bd1_d, if_neg (by decide), mo_inSeat (nq := 55) (by omega) hV hm.2.2.2.1 hg (by rw [he]), bd1_d]
theorem sp_kind (x1 : Int32) : Sp2 (lP (f_X6_kind x1)) (lP (f_X7_kind x1)) := fun S hS => by
  have hN := hS.2.2.2.1
  have hn := hN.v.n
  rcases gstIx S.2.2.2.1 hn x1 with hb | ⟨g, hg, rfl⟩
  · refine SpAt.keepP hS (-1000001) (fun m hm => ?_) (fun m hm => ?_)
    · unfold f_X6_kind
      rw [(gst_bad hn hb).1 hm.2.2.2.1]; rfl
    · unfold f_X7_kind
      rw [(gst_bad (w := 13) hn hb).2 hm.2.2.2.1]; rfl
  have i0 : ig g 0 < 55 := ig_lt (n := 7) (by omega) (by omega) (by omega)
  refine SpAt.keepP hS (nI (S.2.2.2.1 (ig g 0))) (fun m hm => ?_) (fun m hm => ?_)
  · unfold f_X6_kind
    rw [(gst_ok hn hg).1 hm.2.2.2.1, if_neg (by decide), gdN (by omega) (by omega), ix_nI (by omega), show m 14 g = _ from (hm.2.2.2.1.g hg).1]
  · unfold f_X7_kind f_X7_kindIn
    rw [(gst_ok (w := 13) hn hg).2 hm.2.2.2.1, bd1_d, if_neg (by decide), show (6 : Int32) + (7 : Int32) * nI g = nI (ig g 0) from igE0 g, gdN i0 (by omega), bd1_d, ix_nI (by omega), hm.2.2.2.1.at i0]
set_option maxHeartbeats 1000000 in
theorem sp_guest (x1 x2 : Int32) : Sp2 (lP (f_X6_guest x1 x2)) (lP (f_X7_guest x1 x2)) := fun S hS => by
  have hN := hS.2.2.2.1
  have hn := hN.v.n
  rcases gstIx S.2.2.2.1 hn x1 with hb | ⟨g, hg, rfl⟩
  · refine SpAt.keepP hS (-1000001) (fun m hm => ?_) (fun m hm => ?_)
    · unfold f_X6_guest
      rw [(gst_bad hn hb).1 hm.2.2.2.1]; rfl
    · unfold f_X7_guest
      rw [(gst_bad (w := 13) hn hb).2 hm.2.2.2.1]; rfl
  have hV := hN.v
  have hbt := hV.bits g hg
  rcases btw x2 0 6 (by omega) (by omega) with hb | ⟨k, -, hk, rfl⟩
  · refine SpAt.keepP hS (-1000001) (fun m hm => ?_) (fun m hm => ?_)
    · unfold f_X6_guest
      rw [(gst_ok hn hg).1 hm.2.2.2.1, if_neg (by decide)]
      have ne : ∀ j : Nat, j ≤ 6 → x2 ≠ nI j := fun j hj e => hb (by rw [e, nI_toInt (by omega)]; omega)
      rw [if_neg (c := x2 = (0 : Int32)) (ne 0 (by omega)), if_neg (c := x2 = (1 : Int32)) (ne 1 (by omega)), if_neg (c := x2 = (2 : Int32)) (ne 2 (by omega)), if_neg (c := x2 = (3 : Int32)) (ne 3 (by omega)), if_neg (c := x2 = (4 : Int32)) (ne 4 (by omega)), if_neg (c := x2 = (5 : Int32)) (ne 5 (by omega)), if_neg (c := x2 = (6 : Int32)) (ne 6 (by omega))]
    · unfold f_X7_guest
      rw [(gst_ok (w := 13) hn hg).2 hm.2.2.2.1, bd1_d, if_neg (by decide), show f_X7_in x2 (0 : Int32) (6 : Int32) = 0 from in_bad (lo := 0) (hi := 6) (by omega) (by omega) hb, if_pos rfl]
  refine SpAt.keepP hS (if k = 6 then nI (wouldV S.2.2.2.1 g) else nI (S.2.2.2.1 (ig g (1 + k)))) (fun m hm => ?_) (fun m hm => ?_)
  · obtain ⟨c1, c2, c3, c4, c5, c6, c7⟩ := hm.2.2.2.1.g hg
    have ch := cl_hired hV hm.2.2.2.1 hg
    have cs := cl_sheds hV hm.2.2.2.1 hg
    unfold f_X6_guest
    rw [(gst_ok hn hg).1 hm.2.2.2.1, if_neg (by decide)]
    rcases (show k = 0 ∨ k = 1 ∨ k = 2 ∨ k = 3 ∨ k = 4 ∨ k = 5 ∨ k = 6 by omega) with h | h | h | h | h | h | h <;> subst h
    · rw [if_pos (c := nI 0 = (0 : Int32)) rfl, gdN (by omega) (by omega), ix_nI (by omega), show m 15 g = _ from c2, if_neg (c := 0 = 6) (by decide)]
    · rw [if_neg (c := nI 1 = (0 : Int32)) (by decide), if_pos (c := nI 1 = (1 : Int32)) rfl, gdN (by omega) (by omega), ix_nI (by omega), show m 17 g = _ from c4, if_neg (c := 1 = 6) (by decide)]
    · rw [if_neg (c := nI 2 = (0 : Int32)) (by decide), if_neg (c := nI 2 = (1 : Int32)) (by decide), if_pos (c := nI 2 = (2 : Int32)) rfl, gdN (by omega) (by omega), ix_nI (by omega), show m 16 g = _ from c3, if_neg (c := 2 = 6) (by decide)]
    · rw [if_neg (c := nI 3 = (0 : Int32)) (by decide), if_neg (c := nI 3 = (1 : Int32)) (by decide), if_neg (c := nI 3 = (2 : Int32)) (by decide), if_pos (c := nI 3 = (3 : Int32)) rfl, gdN (by omega) (by omega), ix_nI (by omega), show m 19 g = _ from c6, if_neg (c := 3 = 6) (by decide)]
    · rw [if_neg (c := nI 4 = (0 : Int32)) (by decide), if_neg (c := nI 4 = (1 : Int32)) (by decide), if_neg (c := nI 4 = (2 : Int32)) (by decide), if_neg (c := nI 4 = (3 : Int32)) (by decide), if_pos (c := nI 4 = (4 : Int32)) rfl, ch, if_neg (c := 4 = 6) (by decide)]
      rcases (show S.2.2.2.1 (ig g 5) = 0 ∨ S.2.2.2.1 (ig g 5) = 1 by omega) with h | h <;> rw [h] <;> rfl
    · rw [if_neg (c := nI 5 = (0 : Int32)) (by decide), if_neg (c := nI 5 = (1 : Int32)) (by decide), if_neg (c := nI 5 = (2 : Int32)) (by decide), if_neg (c := nI 5 = (3 : Int32)) (by decide), if_neg (c := nI 5 = (4 : Int32)) (by decide), if_pos (c := nI 5 = (5 : Int32)) rfl, gdN (by omega) (by omega), ix_nI (by omega), show m 18 g = _ from c5, if_neg (c := 5 = 6) (by decide)]
    · rw [if_neg (c := nI 6 = (0 : Int32)) (by decide), if_neg (c := nI 6 = (1 : Int32)) (by decide), if_neg (c := nI 6 = (2 : Int32)) (by decide), if_neg (c := nI 6 = (3 : Int32)) (by decide), if_neg (c := nI 6 = (4 : Int32)) (by decide), if_neg (c := nI 6 = (5 : Int32)) (by decide), if_pos (c := nI 6 = (6 : Int32)) rfl, cs, bd1_d, if_pos (c := 6 = 6) rfl]
  · unfold f_X7_guest
    rw [(gst_ok (w := 13) hn hg).2 hm.2.2.2.1, bd1_d, if_neg (by decide), show f_X7_in (nI k) (0 : Int32) (6 : Int32) = 1 from in_ok (lo := 0) (hi := 6) (by omega) (by omega) hk, if_neg (by decide)]
    have q6 : (nI k = (6 : Int32)) = (k = 6) := nI_eqE (b := 6) (by omega) (by omega)
    simp only [q6]
    by_cases h6 : k = 6
    · rw [if_pos h6, if_pos h6, mo_would (nq := 55) (by omega) hV hm.2.2.2.1 hg, bd1_d]
    · have ik : ig g (1 + k) < 55 := ig_lt (n := 7) (by omega) (by omega) (by omega)
      rw [if_neg h6, if_neg h6, show (6 : Int32) + (7 : Int32) * nI g + (1 : Int32) + nI k = nI (ig g (1 + k)) by
        rw [show (6 : Int32) + (7 : Int32) * nI g + (1 : Int32) = nI (ig g 1) from igE g 1, nI_add]
        apply nI_small; unfold ig; omega, gdN ik (by omega), ix_nI (by omega), hm.2.2.2.1.at ik]
theorem in_n1 {n j : Nat} (hn : n < 1000000) (hj : j < n) : f_X7_in (nI j) (0 : Int32) (nI n - (1 : Int32)) = 1 := by
  have ed : (nI n - (1 : Int32)).toInt = (n : Int) - 1 := pk_sub_toInt (a := n) (b := 1) (by omega) (by omega)
  have ej := nI_toInt (n := j) (by omega)
  unfold f_X7_in
  rw [if_neg (nI_pos (by omega)), if_neg]
  intro h; rw [Int32.lt_iff_toInt_lt] at h; omega
theorem in_n0 {n : Nat} {x : Int32} (hn : n < 1000000) (h : nI n ≤ x) : f_X7_in x (0 : Int32) (nI n - (1 : Int32)) = 0 := by
  have ed : (nI n - (1 : Int32)).toInt = (n : Int) - 1 := pk_sub_toInt (a := n) (b := 1) (by omega) (by omega)
  have ej := nI_toInt (n := n) (by omega)
  unfold f_X7_in
  by_cases h0 : x < 0
  · rw [if_pos h0]
  · rw [if_neg h0, if_pos]
    rw [Int32.lt_iff_toInt_lt]; rw [Int32.le_iff_toInt_le] at h; omega
theorem sp_trace (x1 : Int32) : Sp2 (lP (f_X6_trace x1)) (lP (f_X7_trace x1)) := fun S hS => by
  obtain ⟨ht, hk⟩ := hS.2.2.2.2.2.2
  have e0 : (0 : Int32).toInt = 0 := by decide
  have en := nI_toInt (n := S.2.2.2.2.2.2.1) (by omega)
  have ed : (nI S.2.2.2.2.2.2.1 - (1 : Int32)).toInt = (S.2.2.2.2.2.2.1 : Int) - 1 := pk_sub_toInt (a := S.2.2.2.2.2.2.1) (b := 1) (by omega) (by omega)
  rcases pk_ix x1 (n := S.2.2.2.2.2.2.1) (by omega) with h | h | ⟨j, hj, rfl⟩
  · refine SpAt.keepP hS (-1000000) (fun m hm => ?_) (fun m hm => ?_)
    · unfold f_X6_trace; rw [if_pos h]
    · unfold f_X7_trace f_X7_in; rw [if_pos h]; rfl
  · have h0 : ¬ x1 < 0 := by
      intro h2; rw [Int32.lt_iff_toInt_lt] at h2; rw [Int32.le_iff_toInt_le] at h; omega
    refine SpAt.keepP hS (-1000000) (fun m hm => ?_) (fun m hm => ?_)
    · unfold f_X6_trace
      rw [if_neg h0, hm.2.2.2.2.2.2.1.1, if_neg]
      intro h2; rw [Int32.lt_iff_toInt_lt] at h2; rw [Int32.le_iff_toInt_le] at h; omega
    · unfold f_X7_trace
      rw [hm.2.2.2.2.2.2.1, in_n0 (by omega) h, if_pos rfl]
  · have ej := nI_toInt (n := j) (by omega)
    refine SpAt.keepP hS (nI (S.2.2.2.2.2.2.2 j)) (fun m hm => ?_) (fun m hm => ?_)
    · unfold f_X6_trace
      rw [if_neg (nI_pos (by omega)), hm.2.2.2.2.2.2.1.1, if_pos (by rw [nI_ltE (by omega) (by omega)]; exact hj), gdN (by omega) (by omega), ix_nI (by omega), hm.2.2.2.2.2.2.1.2 j hj]
    · unfold f_X7_trace
      rw [hm.2.2.2.2.2.2.1, in_n1 (by omega) hj, if_neg (by decide), gdN (by omega) (by omega), ix_nI (by omega), hm.2.2.2.2.2.2.2 j hj]
def cntB (n : Nat) (f : Nat → Bool) : Nat := sumTo n fun r => if f r then 1 else 0
theorem cntB_le (n : Nat) (f : Nat → Bool) : cntB n f ≤ n := by
  have := sumTo_le (n := n) (c := 1) (f := fun r => if f r then 1 else 0) (fun r => by
    show (if f r then 1 else 0) ≤ 1
    split <;> omega)
  unfold cntB; omega
theorem cl_rows {m : Mm} {R : RowsT} (h : CR m R) : f_X6_rowsThere m = some (nI (cntB 8 R.1)) := by
  have hF := FU_big
  have key : ∀ (f i : Nat), i ≤ 8 → 8 - i < f → lp_X6_rowsThere_4 f (nI (cntB i R.1)) (nI i) m = some (nI (cntB 8 R.1)) := by
    intro f
    induction f with
    | zero => intro i _ h; omega
    | succ f ih =>
      intro i hi hif
      show lb_X6_rowsThere_4 (lp_X6_rowsThere_4 f) _ (nI i) m = _
      unfold lb_X6_rowsThere_4
      have hc : ((8 : Int32) ≤ nI i) = (8 ≤ i) := nI_leE (a := 8) (by omega) (by omega)
      simp only [hc]
      by_cases h8 : 8 ≤ i
      · rw [if_pos h8, show i = 8 by omega]
      · have hi8 : i < 8 := by omega
        rw [if_neg h8, gdN hi8 (by omega), nm_d, ix_nI (by omega), rf1, (h i hi8).1]
        have e : cntB (i + 1) R.1 = cntB i R.1 + (if R.1 i then 1 else 0) := rfl
        cases hb : R.1 i with
        | false =>
          have e2 : cntB (i + 1) R.1 = cntB i R.1 := by rw [e, hb]; rfl
          have := ih (i + 1) (by omega) (by omega)
          rw [e2] at this
          simp only [nm_d, n1, nI_add]
          exact this
        | true =>
          have e2 : cntB (i + 1) R.1 = cntB i R.1 + 1 := by rw [e, hb]; rfl
          have := ih (i + 1) (by omega) (by omega)
          rw [e2] at this
          simp only [nm_d, n1, nI_add]
          exact this
  unfold f_X6_rowsThere
  have h' : lp_X6_rowsThere_4 FU (0 : Int32) (0 : Int32) m = some (nI (cntB 8 R.1)) := key FU 0 (by omega) (by omega)
  rw [h', bd1_d]
theorem mo_rows {m : Mm} {R : RowsT} (hR : OR R) (h : MR m R) : lp_X7_count_58 FU (0 : Int32) (0 : Int32) m = some (nI (cntB 8 R.1)) := by
  have hF := FU_big
  have key : ∀ (f i : Nat), i ≤ 8 → 8 - i < f → lp_X7_count_58 f (nI (cntB i R.1)) (nI i) m = some (nI (cntB 8 R.1)) := by
    intro f
    induction f with
    | zero => intro i _ h; omega
    | succ f ih =>
      intro i hi hif
      show lb_X7_count_58 (lp_X7_count_58 f) _ (nI i) m = _
      unfold lb_X7_count_58
      have hc : ((8 : Int32) ≤ nI i) = (8 ≤ i) := nI_leE (a := 8) (by omega) (by omega)
      simp only [hc]
      by_cases h8 : 8 ≤ i
      · rw [if_pos h8, show i = 8 by omega]
      · have hi8 : i < 8 := by omega
        rw [if_neg h8, mis hR h hi8, bd1_d]
        simp only [nm_d]
        have e : cntB (i + 1) R.1 = cntB i R.1 + (if R.1 i then 1 else 0) := rfl
        have e3 : nI (cntB i R.1) + (if (if R.1 i then (0 : Int32) else 1) = 0 then (1 : Int32) else 0) = nI (cntB (i + 1) R.1) := by
          rw [e, ← nI_add]
          cases R.1 i <;> rfl
        rw [e3, n1, nI_add]
        exact ih (i + 1) (by omega) (by omega)
  exact key FU 0 (by omega) (by omega)
set_option maxHeartbeats 1000000 in
theorem sp_count (x1 : Int32) : Sp2 (lP (f_X6_count x1)) (lP (f_X7_count x1)) := fun S hS => by
  have hN := hS.2.2.2.1
  have hV := hN.v
  rcases btw x1 0 9 (by omega) (by omega) with hb | ⟨k, -, hk, rfl⟩
  · have ne : ∀ j : Nat, j ≤ 9 → x1 ≠ nI j := fun j hj e => hb (by rw [e, nI_toInt (by omega)]; omega)
    refine SpAt.keepP hS (-1000001) (fun m hm => ?_) (fun m hm => ?_)
    · unfold f_X6_count
      rw [if_neg (c := x1 = (0 : Int32)) (ne 0 (by omega)), if_neg (c := x1 = (1 : Int32)) (ne 1 (by omega)), if_neg (c := x1 = (2 : Int32)) (ne 2 (by omega)), if_neg (c := x1 = (3 : Int32)) (ne 3 (by omega)), if_neg (c := x1 = (4 : Int32)) (ne 4 (by omega)), if_neg (c := x1 = (5 : Int32)) (ne 5 (by omega)), if_neg (c := x1 = (6 : Int32)) (ne 6 (by omega)), if_neg (c := x1 = (7 : Int32)) (ne 7 (by omega)), if_neg (c := x1 = (8 : Int32)) (ne 8 (by omega)), if_neg (c := x1 = (9 : Int32)) (ne 9 (by omega))]
    · unfold f_X7_count
      rw [if_neg (c := x1 = (0 : Int32)) (ne 0 (by omega)), if_neg (c := x1 = (1 : Int32)) (ne 1 (by omega)), if_neg (c := x1 = (2 : Int32)) (ne 2 (by omega)), if_neg (c := x1 = (3 : Int32)) (ne 3 (by omega)), if_neg (c := x1 = (4 : Int32)) (ne 4 (by omega)), if_neg (c := x1 = (5 : Int32)) (ne 5 (by omega)), if_neg (c := x1 = (6 : Int32)) (ne 6 (by omega)), if_neg (c := x1 = (7 : Int32)) (ne 7 (by omega)), if_neg (c := x1 = (8 : Int32)) (ne 8 (by omega)), if_neg (c := x1 = (9 : Int32)) (ne 9 (by omega))]
  have k1 : ∀ m, CInv m S → f_X6_count (nI k) m = if nI k = (0 : Int32) then some (nI (cntB 8 S.1.1)) else if nI k = (1 : Int32) then some (nI (S.2.2.2.1 2)) else if nI k = (2 : Int32) then some (nI (S.2.2.2.1 3)) else if nI k = (3 : Int32) then some (nI (S.2.2.2.1 0)) else if nI k = (4 : Int32) then some (nI (S.2.2.2.1 1)) else if nI k = (5 : Int32) then some (nI (S.2.2.2.1 4)) else if nI k = (6 : Int32) then some (nI (S.2.2.2.1 5)) else if nI k = (7 : Int32) then some (nI (hbV S.2.2.2.1)) else if nI k = (8 : Int32) then some (nI S.2.2.2.2.1.length) else if nI k = (9 : Int32) then some (nI S.2.2.1.1) else some (-1000001) := fun m hm => by
    unfold f_X6_count
    obtain ⟨h0, h1, h2, h3, h4, h5, -, -⟩ := hm.2.2.2.1
    rw [cl_rows hm.1, bd1_d, h0, h1, h2, h3, h4, h5, hm.2.2.2.1.hb, hm.2.2.2.2.1.1, hm.2.2.1.1]
  have k2 : ∀ m, MInv m S → f_X7_count (nI k) m = if nI k = (0 : Int32) then some (nI (cntB 8 S.1.1)) else if nI k = (1 : Int32) then some (nI (S.2.2.2.1 2)) else if nI k = (2 : Int32) then some (nI (S.2.2.2.1 3)) else if nI k = (3 : Int32) then some (nI (S.2.2.2.1 0)) else if nI k = (4 : Int32) then some (nI (S.2.2.2.1 1)) else if nI k = (5 : Int32) then some (nI (S.2.2.2.1 4)) else if nI k = (6 : Int32) then some (nI (S.2.2.2.1 5)) else if nI k = (7 : Int32) then some (nI (hbV S.2.2.2.1)) else if nI k = (8 : Int32) then some (nI S.2.2.2.2.1.length) else if nI k = (9 : Int32) then some (nI S.2.2.1.1) else some (-1000001) := fun m hm => by
    unfold f_X7_count
    have hw := hm.2.2.2.1
    rw [mo_rows hS.1 hm.1, bd1_d, show ix (2 : Int32) = 2 from rfl, show ix (3 : Int32) = 3 from rfl, show ix (0 : Int32) = 0 from rfl, show ix (1 : Int32) = 1 from rfl, show ix (4 : Int32) = 4 from rfl, show ix (5 : Int32) = 5 from rfl, hw.at (show 2 < 55 by omega), hw.at (show 3 < 55 by omega), hw.at (show 0 < 55 by omega), hw.at (show 1 < 55 by omega), hw.at (show 4 < 55 by omega), hw.at (show 5 < 55 by omega), mo_hired hV hw, bd1_d, hm.2.2.2.2.1.1, hm.2.2.1.1]
  obtain ⟨r, hr⟩ : ∃ r, (if nI k = (0 : Int32) then some (nI (cntB 8 S.1.1)) else if nI k = (1 : Int32) then some (nI (S.2.2.2.1 2)) else if nI k = (2 : Int32) then some (nI (S.2.2.2.1 3)) else if nI k = (3 : Int32) then some (nI (S.2.2.2.1 0)) else if nI k = (4 : Int32) then some (nI (S.2.2.2.1 1)) else if nI k = (5 : Int32) then some (nI (S.2.2.2.1 4)) else if nI k = (6 : Int32) then some (nI (S.2.2.2.1 5)) else if nI k = (7 : Int32) then some (nI (hbV S.2.2.2.1)) else if nI k = (8 : Int32) then some (nI S.2.2.2.2.1.length) else if nI k = (9 : Int32) then some (nI S.2.2.1.1) else some (-1000001)) = some r := by
    repeat' split
    all_goals exact ⟨_, rfl⟩
  exact SpAt.keepP hS r (fun m hm => by rw [k1 m hm, hr]) (fun m hm => by rw [k2 m hm, hr])
