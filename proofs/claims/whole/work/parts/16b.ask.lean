def MV (f : Mm → Option (Int32 × Mm)) (V : Wv) (v : Int32) (l : List Nat) : Prop := ∀ m L, MW m 304 0 V → MT m L → L.length + l.length ≤ 16 → ∃ m', f m = some (v, m') ∧ MT m' (L ++ l) ∧ TFm m m'
theorem mo_am1 {V : Wv} {g : Nat} (hV : OkV V) (hg : g < V 2) (hk : V (ig g 0) = 1) : MV (f_X7_auntMark (nI g)) V (nI g + nI (V (ig g 2))) [21, 20] := by
  intro m L hm ht hl
  have hn := hV.n
  simp only [List.length_cons, List.length_append, List.length_nil] at hl
  have i0 : ig g 0 < 55 := ig_lt (n := 7) (by omega) (by omega) (by omega)
  have i1 : ig g 1 < 55 := ig_lt (n := 7) (by omega) (by omega) (by omega)
  have i2 : ig g 2 < 55 := ig_lt (n := 7) (by omega) (by omega) (by omega)
  have hki : f_X7_kindIn (nI g) m = some (nI 1) := by
    unfold f_X7_kindIn
    rw [show (6 : Int32) + (7 : Int32) * nI g = nI (ig g 0) from igE0 g, gdN i0 (by omega), ix_nI (by omega), hm.at i0, hk]
  obtain ⟨m1, a1, t1, f1⟩ := mo_begins 21 ht (by (try simp only [List.length_append, List.length_cons, List.length_nil]); omega)
  have a1' : f_X7_begins (21 : Int32) m = some m1 := a1
  obtain ⟨m2, a2, t2, f2⟩ := mo_begins 20 t1 (by (try simp only [List.length_append, List.length_cons, List.length_nil]); omega)
  have a2' : f_X7_begins (20 : Int32) m1 = some m2 := a2
  simp only [List.append_assoc, List.cons_append, List.nil_append] at t2
  have hm' := (f1.tr f2).mw hm
  unfold f_X7_auntMark
  rw [hki, bd1_d, if_pos (show nI 1 = (1 : Int32) from rfl), bd1_d, a1', bd1_d, a2', bd1_d, show (6 : Int32) + (7 : Int32) * nI g + (2 : Int32) = nI (ig g 2) from igE g 2, gdN i2 (by omega), ix_nI (by omega), hm'.at i2, nm_d, if_neg (show ¬ nI 1 = (2 : Int32) by decide), if_neg (show ¬ nI 1 = (3 : Int32) by decide)]
  exact ⟨m2, rfl, t2, (f1.tr f2)⟩
theorem mo_am2 {V : Wv} {g : Nat} (hV : OkV V) (hg : g < V 2) (hk : V (ig g 0) = 2) : MV (f_X7_auntMark (nI g)) V (2 * (nI g + nI (V (ig g 2)))) [24, 21, 20] := by
  intro m L hm ht hl
  have hn := hV.n
  simp only [List.length_cons, List.length_append, List.length_nil] at hl
  have i0 : ig g 0 < 55 := ig_lt (n := 7) (by omega) (by omega) (by omega)
  have i1 : ig g 1 < 55 := ig_lt (n := 7) (by omega) (by omega) (by omega)
  have i2 : ig g 2 < 55 := ig_lt (n := 7) (by omega) (by omega) (by omega)
  have hki : f_X7_kindIn (nI g) m = some (nI 2) := by
    unfold f_X7_kindIn
    rw [show (6 : Int32) + (7 : Int32) * nI g = nI (ig g 0) from igE0 g, gdN i0 (by omega), ix_nI (by omega), hm.at i0, hk]
  obtain ⟨m1, a1, t1, f1⟩ := mo_begins 24 ht (by (try simp only [List.length_append, List.length_cons, List.length_nil]); omega)
  have a1' : f_X7_begins (24 : Int32) m = some m1 := a1
  obtain ⟨m2, a2, t2, f2⟩ := mo_begins 21 t1 (by (try simp only [List.length_append, List.length_cons, List.length_nil]); omega)
  have a2' : f_X7_begins (21 : Int32) m1 = some m2 := a2
  obtain ⟨m3, a3, t3, f3⟩ := mo_begins 20 t2 (by (try simp only [List.length_append, List.length_cons, List.length_nil]); omega)
  have a3' : f_X7_begins (20 : Int32) m2 = some m3 := a3
  simp only [List.append_assoc, List.cons_append, List.nil_append] at t3
  have hm' := ((f1.tr f2).tr f3).mw hm
  unfold f_X7_auntMark
  rw [hki, bd1_d, if_neg (show ¬ nI 2 = (1 : Int32) by decide), if_pos (show nI 2 = (2 : Int32) from rfl), nm_d, a1', bd1_d, bd1_d, a2', bd1_d, a3', bd1_d, show (6 : Int32) + (7 : Int32) * nI g + (2 : Int32) = nI (ig g 2) from igE g 2, gdN i2 (by omega), ix_nI (by omega), hm'.at i2, nm_d, if_pos (show nI 2 = (2 : Int32) from rfl)]
  exact ⟨m3, rfl, t3, ((f1.tr f2).tr f3)⟩
theorem mo_am3 {V : Wv} {g : Nat} (hV : OkV V) (hg : g < V 2) (hk : V (ig g 0) = 3) : MV (f_X7_auntMark (nI g)) V (nI g + nI (V (ig g 2)) - 1000) [22, 21, 20] := by
  intro m L hm ht hl
  have hn := hV.n
  simp only [List.length_cons, List.length_append, List.length_nil] at hl
  have i0 : ig g 0 < 55 := ig_lt (n := 7) (by omega) (by omega) (by omega)
  have i1 : ig g 1 < 55 := ig_lt (n := 7) (by omega) (by omega) (by omega)
  have i2 : ig g 2 < 55 := ig_lt (n := 7) (by omega) (by omega) (by omega)
  have hki : f_X7_kindIn (nI g) m = some (nI 3) := by
    unfold f_X7_kindIn
    rw [show (6 : Int32) + (7 : Int32) * nI g = nI (ig g 0) from igE0 g, gdN i0 (by omega), ix_nI (by omega), hm.at i0, hk]
  obtain ⟨m1, a1, t1, f1⟩ := mo_begins 22 ht (by (try simp only [List.length_append, List.length_cons, List.length_nil]); omega)
  have a1' : f_X7_begins (22 : Int32) m = some m1 := a1
  obtain ⟨m2, a2, t2, f2⟩ := mo_begins 21 t1 (by (try simp only [List.length_append, List.length_cons, List.length_nil]); omega)
  have a2' : f_X7_begins (21 : Int32) m1 = some m2 := a2
  obtain ⟨m3, a3, t3, f3⟩ := mo_begins 20 t2 (by (try simp only [List.length_append, List.length_cons, List.length_nil]); omega)
  have a3' : f_X7_begins (20 : Int32) m2 = some m3 := a3
  simp only [List.append_assoc, List.cons_append, List.nil_append] at t3
  have hm' := ((f1.tr f2).tr f3).mw hm
  unfold f_X7_auntMark
  rw [hki, bd1_d, if_neg (show ¬ nI 3 = (1 : Int32) by decide), if_neg (show ¬ nI 3 = (2 : Int32) by decide), nm_d, a1', bd1_d, bd1_d, a2', bd1_d, a3', bd1_d, show (6 : Int32) + (7 : Int32) * nI g + (2 : Int32) = nI (ig g 2) from igE g 2, gdN i2 (by omega), ix_nI (by omega), hm'.at i2, nm_d, if_neg (show ¬ nI 3 = (2 : Int32) by decide), if_pos (show nI 3 = (3 : Int32) from rfl)]
  exact ⟨m3, rfl, t3, ((f1.tr f2).tr f3)⟩
theorem mo_ms4 {V : Wv} {g : Nat} (hV : OkV V) (hg : g < V 2) (hk : V (ig g 0) = 4) : MV (f_X7_manSize (nI g)) V (nI (V (ig g 1)) - 100) [13, 10] := by
  intro m L hm ht hl
  have hn := hV.n
  simp only [List.length_cons, List.length_append, List.length_nil] at hl
  have i0 : ig g 0 < 55 := ig_lt (n := 7) (by omega) (by omega) (by omega)
  have i1 : ig g 1 < 55 := ig_lt (n := 7) (by omega) (by omega) (by omega)
  have i2 : ig g 2 < 55 := ig_lt (n := 7) (by omega) (by omega) (by omega)
  have hki : f_X7_kindIn (nI g) m = some (nI 4) := by
    unfold f_X7_kindIn
    rw [show (6 : Int32) + (7 : Int32) * nI g = nI (ig g 0) from igE0 g, gdN i0 (by omega), ix_nI (by omega), hm.at i0, hk]
  obtain ⟨m1, a1, t1, f1⟩ := mo_begins 13 ht (by (try simp only [List.length_append, List.length_cons, List.length_nil]); omega)
  have a1' : f_X7_begins (13 : Int32) m = some m1 := a1
  obtain ⟨m2, a2, t2, f2⟩ := mo_begins 10 t1 (by (try simp only [List.length_append, List.length_cons, List.length_nil]); omega)
  have a2' : f_X7_begins (10 : Int32) m1 = some m2 := a2
  simp only [List.append_assoc, List.cons_append, List.nil_append] at t2
  have hm' := (f1.tr f2).mw hm
  unfold f_X7_manSize
  rw [hki, bd1_d, if_neg (show ¬ nI 4 = (5 : Int32) by decide), nm_d, if_pos (show (0 : Int32) = 0 from rfl), bd1_d, a1', bd1_d, a2', bd1_d, show (6 : Int32) + (7 : Int32) * nI g + (1 : Int32) = nI (ig g 1) from igE g 1, gdN i1 (by omega), ix_nI (by omega), hm'.at i1, nm_d, if_pos (show (0 : Int32) = 0 from rfl)]
  exact ⟨m2, rfl, t2, (f1.tr f2)⟩
theorem mo_ms5 {V : Wv} {g : Nat} (hV : OkV V) (hg : g < V 2) (hk : V (ig g 0) = 5) : MV (f_X7_manSize (nI g)) V (2 * (nI (V (ig g 1)) - 100)) [14, 13, 10] := by
  intro m L hm ht hl
  have hn := hV.n
  simp only [List.length_cons, List.length_append, List.length_nil] at hl
  have i0 : ig g 0 < 55 := ig_lt (n := 7) (by omega) (by omega) (by omega)
  have i1 : ig g 1 < 55 := ig_lt (n := 7) (by omega) (by omega) (by omega)
  have i2 : ig g 2 < 55 := ig_lt (n := 7) (by omega) (by omega) (by omega)
  have hki : f_X7_kindIn (nI g) m = some (nI 5) := by
    unfold f_X7_kindIn
    rw [show (6 : Int32) + (7 : Int32) * nI g = nI (ig g 0) from igE0 g, gdN i0 (by omega), ix_nI (by omega), hm.at i0, hk]
  obtain ⟨m1, a1, t1, f1⟩ := mo_begins 14 ht (by (try simp only [List.length_append, List.length_cons, List.length_nil]); omega)
  have a1' : f_X7_begins (14 : Int32) m = some m1 := a1
  obtain ⟨m2, a2, t2, f2⟩ := mo_begins 13 t1 (by (try simp only [List.length_append, List.length_cons, List.length_nil]); omega)
  have a2' : f_X7_begins (13 : Int32) m1 = some m2 := a2
  obtain ⟨m3, a3, t3, f3⟩ := mo_begins 10 t2 (by (try simp only [List.length_append, List.length_cons, List.length_nil]); omega)
  have a3' : f_X7_begins (10 : Int32) m2 = some m3 := a3
  simp only [List.append_assoc, List.cons_append, List.nil_append] at t3
  have hm' := ((f1.tr f2).tr f3).mw hm
  unfold f_X7_manSize
  rw [hki, bd1_d, if_pos (show nI 5 = (5 : Int32) from rfl), nm_d, if_neg (show ¬ (1 : Int32) = 0 by decide), a1', bd1_d, bd1_d, a2', bd1_d, a3', bd1_d, show (6 : Int32) + (7 : Int32) * nI g + (1 : Int32) = nI (ig g 1) from igE g 1, gdN i1 (by omega), ix_nI (by omega), hm'.at i1, nm_d, if_neg (show ¬ (1 : Int32) = 0 by decide)]
  exact ⟨m3, rfl, t3, ((f1.tr f2).tr f3)⟩
theorem mo_as1 {V : Wv} {g : Nat} (hV : OkV V) (hg : g < V 2) (hk : V (ig g 0) = 1) : MV (f_X7_auntSize (nI g)) V (nI (V (ig g 1)) + (nI g + nI (V (ig g 2)))) [11, 10, 21, 20] := by
  intro m L hm ht hl
  have hn := hV.n
  simp only [List.length_cons, List.length_append, List.length_nil] at hl
  have i0 : ig g 0 < 55 := ig_lt (n := 7) (by omega) (by omega) (by omega)
  have i1 : ig g 1 < 55 := ig_lt (n := 7) (by omega) (by omega) (by omega)
  have i2 : ig g 2 < 55 := ig_lt (n := 7) (by omega) (by omega) (by omega)
  have hki : f_X7_kindIn (nI g) m = some (nI 1) := by
    unfold f_X7_kindIn
    rw [show (6 : Int32) + (7 : Int32) * nI g = nI (ig g 0) from igE0 g, gdN i0 (by omega), ix_nI (by omega), hm.at i0, hk]
  obtain ⟨m1, a1, t1, f1⟩ := mo_begins 11 ht (by (try simp only [List.length_append, List.length_cons, List.length_nil]); omega)
  have a1' : f_X7_begins (11 : Int32) m = some m1 := a1
  obtain ⟨m2, a2, t2, f2⟩ := mo_begins 10 t1 (by (try simp only [List.length_append, List.length_cons, List.length_nil]); omega)
  have a2' : f_X7_begins (10 : Int32) m1 = some m2 := a2
  have hm' := (f1.tr f2).mw hm
  obtain ⟨m', b1, b2, b3⟩ := mo_am1 hV hg hk m2 _ hm' t2 (by simp only [List.length_append, List.length_cons, List.length_nil]; omega)
  simp only [List.append_assoc, List.cons_append, List.nil_append] at b2
  unfold f_X7_auntSize
  rw [hki, bd1_d, if_neg (show ¬ nI 1 = (2 : Int32) by decide), nm_d, if_pos (show (0 : Int32) = 0 from rfl), bd1_d, a1', bd1_d, a2', bd1_d, show (6 : Int32) + (7 : Int32) * nI g + (1 : Int32) = nI (ig g 1) from igE g 1, gdN i1 (by omega), ix_nI (by omega), hm'.at i1, b1, bd2_d, nm_d, if_pos (show (0 : Int32) = 0 from rfl)]
  exact ⟨m', rfl, b2, (f1.tr f2).tr b3⟩
theorem mo_as2 {V : Wv} {g : Nat} (hV : OkV V) (hg : g < V 2) (hk : V (ig g 0) = 2) : MV (f_X7_auntSize (nI g)) V (-(nI (V (ig g 1)) + 2 * (nI g + nI (V (ig g 2))))) [12, 11, 10, 24, 21, 20] := by
  intro m L hm ht hl
  have hn := hV.n
  simp only [List.length_cons, List.length_append, List.length_nil] at hl
  have i0 : ig g 0 < 55 := ig_lt (n := 7) (by omega) (by omega) (by omega)
  have i1 : ig g 1 < 55 := ig_lt (n := 7) (by omega) (by omega) (by omega)
  have i2 : ig g 2 < 55 := ig_lt (n := 7) (by omega) (by omega) (by omega)
  have hki : f_X7_kindIn (nI g) m = some (nI 2) := by
    unfold f_X7_kindIn
    rw [show (6 : Int32) + (7 : Int32) * nI g = nI (ig g 0) from igE0 g, gdN i0 (by omega), ix_nI (by omega), hm.at i0, hk]
  obtain ⟨m1, a1, t1, f1⟩ := mo_begins 12 ht (by (try simp only [List.length_append, List.length_cons, List.length_nil]); omega)
  have a1' : f_X7_begins (12 : Int32) m = some m1 := a1
  obtain ⟨m2, a2, t2, f2⟩ := mo_begins 11 t1 (by (try simp only [List.length_append, List.length_cons, List.length_nil]); omega)
  have a2' : f_X7_begins (11 : Int32) m1 = some m2 := a2
  obtain ⟨m3, a3, t3, f3⟩ := mo_begins 10 t2 (by (try simp only [List.length_append, List.length_cons, List.length_nil]); omega)
  have a3' : f_X7_begins (10 : Int32) m2 = some m3 := a3
  have hm' := ((f1.tr f2).tr f3).mw hm
  obtain ⟨m', b1, b2, b3⟩ := mo_am2 hV hg hk m3 _ hm' t3 (by simp only [List.length_append, List.length_cons, List.length_nil]; omega)
  simp only [List.append_assoc, List.cons_append, List.nil_append] at b2
  unfold f_X7_auntSize
  rw [hki, bd1_d, if_pos (show nI 2 = (2 : Int32) from rfl), nm_d, if_neg (show ¬ (1 : Int32) = 0 by decide), a1', bd1_d, bd1_d, a2', bd1_d, a3', bd1_d, show (6 : Int32) + (7 : Int32) * nI g + (1 : Int32) = nI (ig g 1) from igE g 1, gdN i1 (by omega), ix_nI (by omega), hm'.at i1, b1, bd2_d, nm_d, if_neg (show ¬ (1 : Int32) = 0 by decide)]
  exact ⟨m', rfl, b2, ((f1.tr f2).tr f3).tr b3⟩
theorem mo_as3 {V : Wv} {g : Nat} (hV : OkV V) (hg : g < V 2) (hk : V (ig g 0) = 3) : MV (f_X7_auntSize (nI g)) V (nI (V (ig g 1)) + (nI g + nI (V (ig g 2)) - 1000)) [11, 10, 22, 21, 20] := by
  intro m L hm ht hl
  have hn := hV.n
  simp only [List.length_cons, List.length_append, List.length_nil] at hl
  have i0 : ig g 0 < 55 := ig_lt (n := 7) (by omega) (by omega) (by omega)
  have i1 : ig g 1 < 55 := ig_lt (n := 7) (by omega) (by omega) (by omega)
  have i2 : ig g 2 < 55 := ig_lt (n := 7) (by omega) (by omega) (by omega)
  have hki : f_X7_kindIn (nI g) m = some (nI 3) := by
    unfold f_X7_kindIn
    rw [show (6 : Int32) + (7 : Int32) * nI g = nI (ig g 0) from igE0 g, gdN i0 (by omega), ix_nI (by omega), hm.at i0, hk]
  obtain ⟨m1, a1, t1, f1⟩ := mo_begins 11 ht (by (try simp only [List.length_append, List.length_cons, List.length_nil]); omega)
  have a1' : f_X7_begins (11 : Int32) m = some m1 := a1
  obtain ⟨m2, a2, t2, f2⟩ := mo_begins 10 t1 (by (try simp only [List.length_append, List.length_cons, List.length_nil]); omega)
  have a2' : f_X7_begins (10 : Int32) m1 = some m2 := a2
  have hm' := (f1.tr f2).mw hm
  obtain ⟨m', b1, b2, b3⟩ := mo_am3 hV hg hk m2 _ hm' t2 (by simp only [List.length_append, List.length_cons, List.length_nil]; omega)
  simp only [List.append_assoc, List.cons_append, List.nil_append] at b2
  unfold f_X7_auntSize
  rw [hki, bd1_d, if_neg (show ¬ nI 3 = (2 : Int32) by decide), nm_d, if_pos (show (0 : Int32) = 0 from rfl), bd1_d, a1', bd1_d, a2', bd1_d, show (6 : Int32) + (7 : Int32) * nI g + (1 : Int32) = nI (ig g 1) from igE g 1, gdN i1 (by omega), ix_nI (by omega), hm'.at i1, b1, bd2_d, nm_d, if_pos (show (0 : Int32) = 0 from rfl)]
  exact ⟨m', rfl, b2, (f1.tr f2).tr b3⟩
theorem mo_mm4 {V : Wv} {g : Nat} (hV : OkV V) (hg : g < V 2) (hk : V (ig g 0) = 4) : MV (f_X7_manMark (nI g)) V (nI g - (nI (V (ig g 1)) - 100)) [23, 20, 13, 10] := by
  intro m L hm ht hl
  have hn := hV.n
  simp only [List.length_cons, List.length_append, List.length_nil] at hl
  have i0 : ig g 0 < 55 := ig_lt (n := 7) (by omega) (by omega) (by omega)
  have i1 : ig g 1 < 55 := ig_lt (n := 7) (by omega) (by omega) (by omega)
  have i2 : ig g 2 < 55 := ig_lt (n := 7) (by omega) (by omega) (by omega)
  have hki : f_X7_kindIn (nI g) m = some (nI 4) := by
    unfold f_X7_kindIn
    rw [show (6 : Int32) + (7 : Int32) * nI g = nI (ig g 0) from igE0 g, gdN i0 (by omega), ix_nI (by omega), hm.at i0, hk]
  obtain ⟨m1, a1, t1, f1⟩ := mo_begins 23 ht (by (try simp only [List.length_append, List.length_cons, List.length_nil]); omega)
  have a1' : f_X7_begins (23 : Int32) m = some m1 := a1
  obtain ⟨m2, a2, t2, f2⟩ := mo_begins 20 t1 (by (try simp only [List.length_append, List.length_cons, List.length_nil]); omega)
  have a2' : f_X7_begins (20 : Int32) m1 = some m2 := a2
  have hm' := (f1.tr f2).mw hm
  obtain ⟨m', b1, b2, b3⟩ := mo_ms4 hV hg hk m2 _ hm' t2 (by simp only [List.length_append, List.length_cons, List.length_nil]; omega)
  simp only [List.append_assoc, List.cons_append, List.nil_append] at b2
  unfold f_X7_manMark
  rw [a1', bd1_d, a2', bd1_d, b1, bd2_d]
  exact ⟨m', rfl, b2, (f1.tr f2).tr b3⟩
theorem mo_mm5 {V : Wv} {g : Nat} (hV : OkV V) (hg : g < V 2) (hk : V (ig g 0) = 5) : MV (f_X7_manMark (nI g)) V (nI g - 2 * (nI (V (ig g 1)) - 100)) [23, 20, 14, 13, 10] := by
  intro m L hm ht hl
  have hn := hV.n
  simp only [List.length_cons, List.length_append, List.length_nil] at hl
  have i0 : ig g 0 < 55 := ig_lt (n := 7) (by omega) (by omega) (by omega)
  have i1 : ig g 1 < 55 := ig_lt (n := 7) (by omega) (by omega) (by omega)
  have i2 : ig g 2 < 55 := ig_lt (n := 7) (by omega) (by omega) (by omega)
  have hki : f_X7_kindIn (nI g) m = some (nI 5) := by
    unfold f_X7_kindIn
    rw [show (6 : Int32) + (7 : Int32) * nI g = nI (ig g 0) from igE0 g, gdN i0 (by omega), ix_nI (by omega), hm.at i0, hk]
  obtain ⟨m1, a1, t1, f1⟩ := mo_begins 23 ht (by (try simp only [List.length_append, List.length_cons, List.length_nil]); omega)
  have a1' : f_X7_begins (23 : Int32) m = some m1 := a1
  obtain ⟨m2, a2, t2, f2⟩ := mo_begins 20 t1 (by (try simp only [List.length_append, List.length_cons, List.length_nil]); omega)
  have a2' : f_X7_begins (20 : Int32) m1 = some m2 := a2
  have hm' := (f1.tr f2).mw hm
  obtain ⟨m', b1, b2, b3⟩ := mo_ms5 hV hg hk m2 _ hm' t2 (by simp only [List.length_append, List.length_cons, List.length_nil]; omega)
  simp only [List.append_assoc, List.cons_append, List.nil_append] at b2
  unfold f_X7_manMark
  rw [a1', bd1_d, a2', bd1_d, b1, bd2_d]
  exact ⟨m', rfl, b2, (f1.tr f2).tr b3⟩
theorem SpAt.ask {fx fm : Mm → Option (Int32 × Mm)} {S : SS} (hS : OkS S) (r : Int32) (l : List Nat) (hl : l.length ≤ 16) (hb : ∀ k, l.getD k 0 ≤ 100) (h1 : ∀ m, CInv m S → ∃ m', fx m = some (r, m') ∧ CT m' l ∧ TFc m m') (h2 : ∀ m, MInv m S → ∃ m', fm m = some (r, m') ∧ MT m' l ∧ TFm m m') : SpAt S fx fm := by
  refine ⟨r, (S.1, S.2.1, S.2.2.1, S.2.2.2.1, S.2.2.2.2.1, S.2.2.2.2.2.1, (l.length, fun k => l.getD k 0)), ⟨hS.1, hS.2.1, hS.2.2.1, hS.2.2.2.1, hS.2.2.2.2.1, hS.2.2.2.2.2.1, hl, hb⟩, fun m hm => ?_, fun m hm => ?_⟩
  · obtain ⟨m', e1, e2, e3⟩ := h1 m hm
    obtain ⟨h1, h2, h3, h4, h5, h6, h7, h8⟩ := hm
    refine ⟨m', e1, ⟨h1.frame fun a ha hb => e3.1 a (by omega) (by omega), by rw [e3.2 9 (by omega)]; exact h2, by rw [e3.1 2 (by omega) (by omega), e3.1 12 (by omega) (by omega)]; exact h3, e3.cw h4, h5.frame fun a ha hb => e3.1 a (by omega) (by omega), h6.frame fun a ha hb => e3.1 a (by omega) (by omega), e2, by rw [e3.1 3 (by omega) (by omega)]; exact h8⟩, fun a ha => e3.1 a (by omega) (by omega)⟩
  · obtain ⟨m', e1, e2, e3⟩ := h2 m hm
    obtain ⟨h1, h2, h3, h4, h5, h6, h7⟩ := hm
    refine ⟨m', e1, ⟨h1.frame fun a ha hb => e3.1 a (by omega) (by omega), by rw [e3.2 4 (by omega)]; exact h2, by rw [e3.2 6 (by omega), e3.2 7 (by omega), e3.1 303 (by omega) (by omega)]; exact h3, e3.mw h4, h5.frame (e3.2 17 (by omega)) (e3.1 307 (by omega) (by omega)), h6.frame (e3.1 309 (by omega) (by omega)) (e3.1 308 (by omega) (by omega)), e2⟩, fun a ha => e3.1 a (by omega) (by omega)⟩
theorem getD_b {l : List Nat} (h : ∀ x ∈ l, x ≤ 100) (k : Nat) : l.getD k 0 ≤ 100 := by
  rw [List.getD_eq_getElem?_getD]
  cases hk : l[k]? with
  | none => exact Nat.zero_le _
  | some x => exact h x (List.mem_of_getElem? hk)
set_option maxHeartbeats 1000000 in
theorem sp_ask (x1 x2 : Int32) : Sp2 (f_X6_ask x1 x2) (f_X7_ask x1 x2) := fun S hS => by
  have hN := hS.2.2.2.1
  have hn := hN.v.n
  rcases gstIx S.2.2.2.1 hn x1 with hb | ⟨g, hg, rfl⟩
  · refine SpAt.keep hS (-1000001) (fun m hm => ?_) (fun m hm => ?_)
    · unfold f_X6_ask
      rw [(gst_bad hn hb).1 hm.2.2.2.1]; rfl
    · unfold f_X7_ask
      rw [(gst_bad (w := 13) hn hb).2 hm.2.2.2.1]; rfl
  have hV := hN.v
  obtain ⟨b1, b2, -⟩ := hV.b hg
  have g1 : ∀ m, CInv m S → f_X5_has 13 (nI g) m = 1 := fun m hm => (gst_ok hn hg).1 hm.2.2.2.1
  have g2 : ∀ m, MInv m S → f_X7_isGuest (nI g) m = some 1 := fun m hm => (gst_ok (w := 13) hn hg).2 hm.2.2.2.1
  have i0 : ig g 0 < 55 := ig_lt (n := 7) (by omega) (by omega) (by omega)
  rcases btw x2 0 1 (by omega) (by omega) with hb | ⟨wh, -, hw, rfl⟩
  · have hf : f_X7_in x2 (0 : Int32) (1 : Int32) = 0 := in_bad (lo := 0) (hi := 1) (by omega) (by omega) hb
    exact SpAt.keep hS (-1000001) (fun m hm => by unfold f_X6_ask; rw [g1 m hm, if_neg (by decide), flag_bad hb, if_pos rfl]) (fun m hm => by unfold f_X7_ask; rw [g2 m hm, bd1_d, if_neg (by decide), hf, if_pos rfl])
  have hf : f_X7_in (nI wh) (0 : Int32) (1 : Int32) = 1 := in_ok (lo := 0) (hi := 1) (by omega) (by omega) hw
  have c1 : ∀ m, CInv m S → f_X6_ask (nI g) (nI wh) m = bd2 (f_X6_give 10 (nI (if wh = 0 then tN2 (S.2.2.2.1 (ig g 0)) else tN3 (S.2.2.2.1 (ig g 0)))) (nI g) (nI 0) (st_ m 0 8 (0 : Int32))) fun r11 m10 => some (r11, m10) := fun m hm => by
    have e1 : st_ m 0 8 (0 : Int32) 14 g = nI (S.2.2.2.1 (ig g 0)) := by rw [st_na (by omega)]; exact (hm.2.2.2.1.g hg).1
    unfold f_X6_ask
    rw [g1 m hm, if_neg (by decide), flag_ok hw, if_neg (by decide), nm_d, gdN (by omega) (by omega), ix_nI (by omega), e1, nm_d, gdN (by omega) (by omega), gdN (by omega) (by omega), ix_nI (by omega), tN2E _ (by omega), tN3E _ (by omega)]
    rcases (show wh = 0 ∨ wh = 1 by omega) with h | h <;> subst h
    · rw [if_pos (show nI 0 = (0 : Int32) from rfl), bd1_d]; rfl
    · rw [if_neg (show ¬ nI 1 = (0 : Int32) by decide), bd1_d]; rfl
  have c2 : ∀ m, MInv m S → f_X7_ask (nI g) (nI wh) m = if wh = 0 then (if S.2.2.2.1 (ig g 0) < 4 then f_X7_auntSize (nI g) (st_ m 298 23 (0 : Int32)) else f_X7_manSize (nI g) (st_ m 298 23 (0 : Int32))) else (if S.2.2.2.1 (ig g 0) < 4 then f_X7_auntMark (nI g) (st_ m 298 23 (0 : Int32)) else f_X7_manMark (nI g) (st_ m 298 23 (0 : Int32))) := fun m hm => by
    have hki : f_X7_kindIn (nI g) (st_ m 298 23 (0 : Int32)) = some (nI (S.2.2.2.1 (ig g 0))) := by
      unfold f_X7_kindIn
      rw [show (6 : Int32) + (7 : Int32) * nI g = nI (ig g 0) from igE0 g, gdN i0 (by omega), ix_nI (by omega), st_na (by omega), hm.2.2.2.1.at i0]
    have q : (nI (S.2.2.2.1 (ig g 0)) < (4 : Int32)) = (S.2.2.2.1 (ig g 0) < 4) := nI_ltE (b := 4) (by omega) (by omega)
    have k0 : (nI wh = 0) = (wh = 0) := nI_eqE (b := 0) (by omega) (by omega)
    have bi : ∀ o : Option (Int32 × Mm), (bd2 o fun r m => some (r, m)) = o := fun o => by
      cases o with
      | none => rfl
      | some p => rfl
    unfold f_X7_ask
    rw [g2 m hm, bd1_d, if_neg (by decide), hf, if_neg (by decide), nm_d, hki, bd1_d, nm_d]
    simp only [q, k0, bi]
    by_cases h4 : S.2.2.2.1 (ig g 0) < 4
    · rw [if_pos h4, if_pos h4, if_pos h4, if_pos (show (0 : Int32) = 0 from rfl), if_pos (show (0 : Int32) = 0 from rfl)]
    · rw [if_neg h4, if_neg h4, if_neg h4, if_neg (show ¬ (1 : Int32) = 0 by decide), if_neg (show ¬ (1 : Int32) = 0 by decide)]
  have t1 : ∀ m, CInv m S → CT (st_ m 0 8 (0 : Int32)) [] ∧ TFc m (st_ m 0 8 (0 : Int32)) ∧ CW (st_ m 0 8 (0 : Int32)) 13 S.2.2.2.1 := fun m hm => ⟨⟨st_s, fun k hk => absurd hk (Nat.not_lt_zero k)⟩, ⟨fun a ha _ => st_na ha, fun k hk => st_n (Or.inr hk)⟩, hm.2.2.2.1.frame fun a ha hb => st_na (by omega)⟩
  have t2 : ∀ m, MInv m S → MT (st_ m 298 23 (0 : Int32)) [] ∧ TFm m (st_ m 298 23 (0 : Int32)) ∧ MW (st_ m 298 23 (0 : Int32)) 304 0 S.2.2.2.1 := fun m hm => ⟨⟨st_s, fun k hk => absurd hk (Nat.not_lt_zero k)⟩, ⟨fun a ha _ => st_na ha, fun k hk => st_n (Or.inr hk)⟩, hm.2.2.2.1.frame (st_na (by omega))⟩
  have fin : ∀ (fm : Mm → Option (Int32 × Mm)) (v : Int32) (l : List Nat), l.length ≤ 16 → (∀ x ∈ l, x ≤ 100) → GV S.2.2.2.1 g 10 0 (if wh = 0 then tN2 (S.2.2.2.1 (ig g 0)) else tN3 (S.2.2.2.1 (ig g 0))) v l → MV fm S.2.2.2.1 v l → (∀ m, MInv m S → f_X7_ask (nI g) (nI wh) m = fm (st_ m 298 23 (0 : Int32))) → SpAt S (f_X6_ask (nI g) (nI wh)) (f_X7_ask (nI g) (nI wh)) := by
    intro fm v l hl hx hG hM he
    refine SpAt.ask hS v l hl (getD_b hx) (fun m hm => ?_) (fun m hm => ?_)
    · obtain ⟨u1, u2, u3⟩ := t1 m hm
      obtain ⟨m', z1, z2, z3⟩ := hG _ [] u3 u1 (by simp only [List.length_nil]; omega)
      rw [c1 m hm, z1, bd2_d]
      exact ⟨m', rfl, z2, u2.tr z3⟩
    · obtain ⟨u1, u2, u3⟩ := t2 m hm
      obtain ⟨m', z1, z2, z3⟩ := hM _ [] u3 u1 (by simp only [List.length_nil]; omega)
      rw [he m hm, z1]
      exact ⟨m', rfl, z2, u2.tr z3⟩
  rcases (show S.2.2.2.1 (ig g 0) = 1 ∨ S.2.2.2.1 (ig g 0) = 2 ∨ S.2.2.2.1 (ig g 0) = 3 ∨ S.2.2.2.1 (ig g 0) = 4 ∨ S.2.2.2.1 (ig g 0) = 5 by omega) with hk | hk | hk | hk | hk <;> rcases (show wh = 0 ∨ wh = 1 by omega) with h | h <;> subst h
  · refine fin (f_X7_auntSize (nI g)) _ _ ?_ ?_ ?_ (mo_as1 hV hg hk) (fun m hm => by rw [c2 m hm, if_pos rfl, if_pos (by omega)])
    · simp
    · simp
    · rw [if_pos rfl, hk]
      exact gv_11 hV hg (by omega) (gv_10 hV hg (by omega)) (by rw [hk]; exact (gv_21 hV hg (by omega) (gv_20 hV hg (by omega))))
  · refine fin (f_X7_auntMark (nI g)) _ _ ?_ ?_ ?_ (mo_am1 hV hg hk) (fun m hm => by rw [c2 m hm, if_neg (show ¬ 1 = 0 by omega), if_pos (by omega)])
    · simp
    · simp
    · rw [if_neg (show ¬ 1 = 0 by omega), hk]
      exact gv_21 hV hg (by omega) (gv_20 hV hg (by omega))
  · refine fin (f_X7_auntSize (nI g)) _ _ ?_ ?_ ?_ (mo_as2 hV hg hk) (fun m hm => by rw [c2 m hm, if_pos rfl, if_pos (by omega)])
    · simp
    · simp
    · rw [if_pos rfl, hk]
      exact gv_12 hV hg (by omega) (gv_11 hV hg (by omega) (gv_10 hV hg (by omega)) (by rw [hk]; exact (gv_24 hV hg (by omega) (gv_21 hV hg (by omega) (gv_20 hV hg (by omega))))))
  · refine fin (f_X7_auntMark (nI g)) _ _ ?_ ?_ ?_ (mo_am2 hV hg hk) (fun m hm => by rw [c2 m hm, if_neg (show ¬ 1 = 0 by omega), if_pos (by omega)])
    · simp
    · simp
    · rw [if_neg (show ¬ 1 = 0 by omega), hk]
      exact gv_24 hV hg (by omega) (gv_21 hV hg (by omega) (gv_20 hV hg (by omega)))
  · refine fin (f_X7_auntSize (nI g)) _ _ ?_ ?_ ?_ (mo_as3 hV hg hk) (fun m hm => by rw [c2 m hm, if_pos rfl, if_pos (by omega)])
    · simp
    · simp
    · rw [if_pos rfl, hk]
      exact gv_11 hV hg (by omega) (gv_10 hV hg (by omega)) (by rw [hk]; exact (gv_22 hV hg (by omega) (gv_21 hV hg (by omega) (gv_20 hV hg (by omega)))))
  · refine fin (f_X7_auntMark (nI g)) _ _ ?_ ?_ ?_ (mo_am3 hV hg hk) (fun m hm => by rw [c2 m hm, if_neg (show ¬ 1 = 0 by omega), if_pos (by omega)])
    · simp
    · simp
    · rw [if_neg (show ¬ 1 = 0 by omega), hk]
      exact gv_22 hV hg (by omega) (gv_21 hV hg (by omega) (gv_20 hV hg (by omega)))
  · refine fin (f_X7_manSize (nI g)) _ _ ?_ ?_ ?_ (mo_ms4 hV hg hk) (fun m hm => by rw [c2 m hm, if_pos rfl, if_neg (by omega)])
    · simp
    · simp
    · rw [if_pos rfl, hk]
      exact gv_13 hV hg (by omega) (gv_10 hV hg (by omega))
  · refine fin (f_X7_manMark (nI g)) _ _ ?_ ?_ ?_ (mo_mm4 hV hg hk) (fun m hm => by rw [c2 m hm, if_neg (show ¬ 1 = 0 by omega), if_neg (by omega)])
    · simp
    · simp
    · rw [if_neg (show ¬ 1 = 0 by omega), hk]
      exact gv_23 hV hg (by omega) (gv_20 hV hg (by omega)) (by rw [hk]; exact (gv_13 hV hg (by omega) (gv_10 hV hg (by omega))))
  · refine fin (f_X7_manSize (nI g)) _ _ ?_ ?_ ?_ (mo_ms5 hV hg hk) (fun m hm => by rw [c2 m hm, if_pos rfl, if_neg (by omega)])
    · simp
    · simp
    · rw [if_pos rfl, hk]
      exact gv_14 hV hg (by omega) (gv_13 hV hg (by omega) (gv_10 hV hg (by omega)))
  · refine fin (f_X7_manMark (nI g)) _ _ ?_ ?_ ?_ (mo_mm5 hV hg hk) (fun m hm => by rw [c2 m hm, if_neg (show ¬ 1 = 0 by omega), if_neg (by omega)])
    · simp
    · simp
    · rw [if_neg (show ¬ 1 = 0 by omega), hk]
      exact gv_23 hV hg (by omega) (gv_20 hV hg (by omega)) (by rw [hk]; exact (gv_14 hV hg (by omega) (gv_13 hV hg (by omega) (gv_10 hV hg (by omega)))))
