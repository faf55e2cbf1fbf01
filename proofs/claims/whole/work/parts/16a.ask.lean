/-! what is asked: SIZE and MARK -/
def CT (m : Mm) (L : List Nat) : Prop := m 0 8 = nI L.length ∧ ∀ k, k < L.length → m 263 k = nI (L.getD k 0)
def MT (m : Mm) (L : List Nat) : Prop := m 298 23 = nI L.length ∧ ∀ k, k < L.length → m 312 k = nI (L.getD k 0)
def TFc (m m' : Mm) : Prop := (∀ a, a ≠ 0 → a ≠ 263 → m' a = m a) ∧ ∀ k, k ≠ 8 → m' 0 k = m 0 k
def TFm (m m' : Mm) : Prop := (∀ a, a ≠ 298 → a ≠ 312 → m' a = m a) ∧ ∀ k, k ≠ 23 → m' 298 k = m 298 k
theorem TFc.tr {m m1 m2 : Mm} (h1 : TFc m m1) (h2 : TFc m1 m2) : TFc m m2 := ⟨fun a ha hb => by rw [h2.1 a ha hb, h1.1 a ha hb], fun k hk => by rw [h2.2 k hk, h1.2 k hk]⟩
theorem TFm.tr {m m1 m2 : Mm} (h1 : TFm m m1) (h2 : TFm m1 m2) : TFm m m2 := ⟨fun a ha hb => by rw [h2.1 a ha hb, h1.1 a ha hb], fun k hk => by rw [h2.2 k hk, h1.2 k hk]⟩
theorem TFc.cw {m m' : Mm} {V : Wv} (h : TFc m m') (hc : CW m 13 V) : CW m' 13 V := hc.frame fun a ha hb => h.1 a (by omega) (by omega)
theorem TFm.mw {m m' : Mm} {V : Wv} (h : TFm m m') (hc : MW m 304 0 V) : MW m' 304 0 V := hc.frame (h.1 304 (by omega) (by omega))
theorem getD_l {L : List Nat} {b k : Nat} (h : k < L.length) : (L ++ [b]).getD k 0 = L.getD k 0 := by
  rw [List.getD_eq_getElem?_getD, List.getD_eq_getElem?_getD, List.getElem?_append_left h]
theorem getD_r {L : List Nat} {b : Nat} : (L ++ [b]).getD L.length 0 = b := by
  rw [List.getD_eq_getElem?_getD, List.getElem?_append_right (Nat.le_refl _), Nat.sub_self]
  rfl
theorem cl_leave {m : Mm} {L : List Nat} (b : Nat) (h : CT m L) (hl : L.length < 16) : ∃ m', f_X6_leaveTrace (nI b) m = some m' ∧ CT m' (L ++ [b]) ∧ TFc m m' := by
  unfold f_X6_leaveTrace
  rw [h.1, if_neg (by rw [show (16 : Int32) = nI 16 from rfl, nI_leE (by omega) (by omega)]; omega), gdN hl (by omega), ix_nI (by omega), nm_d, st_na (by omega), h.1, nm_d, nm_d, nI_s1]
  refine ⟨_, rfl, ⟨by rw [st_s, List.length_append]; rfl, fun k hk => ?_⟩, ⟨fun a ha hb => by rw [st_na ha, st_na hb], fun k hk => by rw [st_n (Or.inr hk), st_na (by omega)]⟩⟩
  rw [List.length_append] at hk
  have hk' : k < L.length + 1 := hk
  rw [st_na (by omega)]
  by_cases e : k = L.length
  · subst e; rw [st_s, getD_r]
  · rw [st_n (Or.inr e), getD_l (by omega), h.2 k (by omega)]
theorem mo_begins {m : Mm} {L : List Nat} (b : Nat) (h : MT m L) (hl : L.length < 16) : ∃ m', f_X7_begins (nI b) m = some m' ∧ MT m' (L ++ [b]) ∧ TFm m m' := by
  unfold f_X7_begins
  rw [h.1, if_neg (by rw [show (16 : Int32) = nI 16 from rfl, nI_leE (by omega) (by omega)]; omega), gdN hl (by omega), ix_nI (by omega), nm_d, st_na (by omega), h.1, nm_d, nm_d, nI_s1]
  refine ⟨_, rfl, ⟨by rw [st_s, List.length_append]; rfl, fun k hk => ?_⟩, ⟨fun a ha hb => by rw [st_na ha, st_na hb], fun k hk => by rw [st_n (Or.inr hk), st_na (by omega)]⟩⟩
  rw [List.length_append] at hk
  have hk' : k < L.length + 1 := hk
  rw [st_na (by omega)]
  by_cases e : k = L.length
  · subst e; rw [st_s, getD_r]
  · rw [st_n (Or.inr e), getD_l (by omega), h.2 k (by omega)]
def GV (V : Wv) (g n d b : Nat) (v : Int32) (l : List Nat) : Prop := ∀ m L, CW m 13 V → CT m L → L.length + l.length ≤ 16 → ∃ m', f_X6_give n (nI b) (nI g) (nI d) m = some (v, m') ∧ CT m' (L ++ l) ∧ TFc m m'
def tN2 (k : Nat) : Nat := if k = 0 then 10 else if k = 1 then 11 else if k = 2 then 12 else if k = 3 then 11 else if k = 4 then 13 else 14
def tN3 (k : Nat) : Nat := if k = 0 then 20 else if k = 1 then 21 else if k = 2 then 24 else if k = 3 then 22 else 23
theorem tN2E : ∀ k, k < 6 → tbl2 k = nI (tN2 k) := by decide
theorem tN3E : ∀ k, k < 6 → tbl3 k = nI (tN3 k) := by decide
theorem gv_10 {V : Wv} {g n d : Nat} (hV : OkV V) (hg : g < V 2) (hd : d < 8) : GV V g (n + 1) d 10 (nI (V (ig g 1))) [10] := by
  intro m L hc ht hl
  have hn := hV.n
  obtain ⟨k1, k2, -⟩ := hV.b hg
  simp only [List.length_cons, List.length_append, List.length_nil] at hl
  obtain ⟨m1, a1, a2, a3⟩ := cl_leave 10 ht (by omega)
  have hc1 := a3.cw hc
  obtain ⟨c1, c2, c3, c4, c5, c6, c7⟩ := hc1.g hg
  have c1' : m1 14 g = nI (V (ig g 0)) := c1
  show ∃ m', lb_X6_give (f_X6_give n) (nI 10) (nI g) (nI d) m = _ ∧ _
  unfold lb_X6_give
  rw [if_pos (by rw [show (8 : Int32) = nI 8 from rfl, nI_ltE (by omega) (by omega)]; exact hd), a1, bd1_d]
  simp only [nm_d, nI_s1]
  rw [gdN (by omega) (by omega), if_pos (show nI 10 = (10 : Int32) from rfl)]
  rw [gdN (by omega) (by omega), ix_nI (by omega), show m1 15 g = _ from c2]
  exact ⟨m1, rfl, a2, a3⟩
theorem gv_20 {V : Wv} {g n d : Nat} (hV : OkV V) (hg : g < V 2) (hd : d < 8) : GV V g (n + 1) d 20 (nI g) [20] := by
  intro m L hc ht hl
  have hn := hV.n
  obtain ⟨k1, k2, -⟩ := hV.b hg
  simp only [List.length_cons, List.length_append, List.length_nil] at hl
  obtain ⟨m1, a1, a2, a3⟩ := cl_leave 20 ht (by omega)
  have hc1 := a3.cw hc
  obtain ⟨c1, c2, c3, c4, c5, c6, c7⟩ := hc1.g hg
  have c1' : m1 14 g = nI (V (ig g 0)) := c1
  show ∃ m', lb_X6_give (f_X6_give n) (nI 20) (nI g) (nI d) m = _ ∧ _
  unfold lb_X6_give
  rw [if_pos (by rw [show (8 : Int32) = nI 8 from rfl, nI_ltE (by omega) (by omega)]; exact hd), a1, bd1_d]
  simp only [nm_d, nI_s1]
  rw [gdN (by omega) (by omega), if_neg (show ¬ nI 20 = (10 : Int32) by decide), if_neg (show ¬ nI 20 = (11 : Int32) by decide), if_neg (show ¬ nI 20 = (12 : Int32) by decide), if_neg (show ¬ nI 20 = (13 : Int32) by decide), if_neg (show ¬ nI 20 = (14 : Int32) by decide), if_neg (show ¬ nI 20 = (15 : Int32) by decide), if_neg (show ¬ nI 20 = (16 : Int32) by decide), if_neg (show ¬ nI 20 = (17 : Int32) by decide), if_neg (show ¬ nI 20 = (18 : Int32) by decide), if_neg (show ¬ nI 20 = (19 : Int32) by decide), if_pos (show nI 20 = (20 : Int32) from rfl)]
  exact ⟨m1, rfl, a2, a3⟩
theorem gv_13 {V : Wv} {g n d : Nat} {v1 : Int32} {l1 : List Nat} (hV : OkV V) (hg : g < V 2) (hd : d < 8) (h1 : GV V g n (d + 1) 10 v1 l1) : GV V g (n + 1) d 13 (v1 - 100) (13 :: l1) := by
  intro m L hc ht hl
  have hn := hV.n
  obtain ⟨k1, k2, -⟩ := hV.b hg
  simp only [List.length_cons, List.length_append, List.length_nil] at hl
  obtain ⟨m1, a1, a2, a3⟩ := cl_leave 13 ht (by omega)
  have hc1 := a3.cw hc
  obtain ⟨c1, c2, c3, c4, c5, c6, c7⟩ := hc1.g hg
  have c1' : m1 14 g = nI (V (ig g 0)) := c1
  show ∃ m', lb_X6_give (f_X6_give n) (nI 13) (nI g) (nI d) m = _ ∧ _
  unfold lb_X6_give
  rw [if_pos (by rw [show (8 : Int32) = nI 8 from rfl, nI_ltE (by omega) (by omega)]; exact hd), a1, bd1_d]
  simp only [nm_d, nI_s1]
  rw [gdN (by omega) (by omega), if_neg (show ¬ nI 13 = (10 : Int32) by decide), if_neg (show ¬ nI 13 = (11 : Int32) by decide), if_neg (show ¬ nI 13 = (12 : Int32) by decide), if_pos (show nI 13 = (13 : Int32) from rfl)]
  obtain ⟨m2, b1, t1, f1⟩ := h1 m1 (L ++ [13]) hc1 a2 (by simp only [List.length_append, List.length_cons, List.length_nil]; omega)
  have b1' : f_X6_give n (10 : Int32) (nI g) (nI (d + 1)) m1 = _ := b1
  rw [List.append_assoc] at t1
  rw [b1', bd2_d]
  exact ⟨m2, rfl, t1, a3.tr f1⟩
theorem gv_14 {V : Wv} {g n d : Nat} {v1 : Int32} {l1 : List Nat} (hV : OkV V) (hg : g < V 2) (hd : d < 8) (h1 : GV V g n (d + 1) 13 v1 l1) : GV V g (n + 1) d 14 (2 * v1) (14 :: l1) := by
  intro m L hc ht hl
  have hn := hV.n
  obtain ⟨k1, k2, -⟩ := hV.b hg
  simp only [List.length_cons, List.length_append, List.length_nil] at hl
  obtain ⟨m1, a1, a2, a3⟩ := cl_leave 14 ht (by omega)
  have hc1 := a3.cw hc
  obtain ⟨c1, c2, c3, c4, c5, c6, c7⟩ := hc1.g hg
  have c1' : m1 14 g = nI (V (ig g 0)) := c1
  show ∃ m', lb_X6_give (f_X6_give n) (nI 14) (nI g) (nI d) m = _ ∧ _
  unfold lb_X6_give
  rw [if_pos (by rw [show (8 : Int32) = nI 8 from rfl, nI_ltE (by omega) (by omega)]; exact hd), a1, bd1_d]
  simp only [nm_d, nI_s1]
  rw [gdN (by omega) (by omega), if_neg (show ¬ nI 14 = (10 : Int32) by decide), if_neg (show ¬ nI 14 = (11 : Int32) by decide), if_neg (show ¬ nI 14 = (12 : Int32) by decide), if_neg (show ¬ nI 14 = (13 : Int32) by decide), if_pos (show nI 14 = (14 : Int32) from rfl)]
  obtain ⟨m2, b1, t1, f1⟩ := h1 m1 (L ++ [14]) hc1 a2 (by simp only [List.length_append, List.length_cons, List.length_nil]; omega)
  have b1' : f_X6_give n (13 : Int32) (nI g) (nI (d + 1)) m1 = _ := b1
  rw [List.append_assoc] at t1
  rw [b1', bd2_d]
  exact ⟨m2, rfl, t1, a3.tr f1⟩
theorem gv_12 {V : Wv} {g n d : Nat} {v1 : Int32} {l1 : List Nat} (hV : OkV V) (hg : g < V 2) (hd : d < 8) (h1 : GV V g n (d + 1) 11 v1 l1) : GV V g (n + 1) d 12 (-v1) (12 :: l1) := by
  intro m L hc ht hl
  have hn := hV.n
  obtain ⟨k1, k2, -⟩ := hV.b hg
  simp only [List.length_cons, List.length_append, List.length_nil] at hl
  obtain ⟨m1, a1, a2, a3⟩ := cl_leave 12 ht (by omega)
  have hc1 := a3.cw hc
  obtain ⟨c1, c2, c3, c4, c5, c6, c7⟩ := hc1.g hg
  have c1' : m1 14 g = nI (V (ig g 0)) := c1
  show ∃ m', lb_X6_give (f_X6_give n) (nI 12) (nI g) (nI d) m = _ ∧ _
  unfold lb_X6_give
  rw [if_pos (by rw [show (8 : Int32) = nI 8 from rfl, nI_ltE (by omega) (by omega)]; exact hd), a1, bd1_d]
  simp only [nm_d, nI_s1]
  rw [gdN (by omega) (by omega), if_neg (show ¬ nI 12 = (10 : Int32) by decide), if_neg (show ¬ nI 12 = (11 : Int32) by decide), if_pos (show nI 12 = (12 : Int32) from rfl)]
  obtain ⟨m2, b1, t1, f1⟩ := h1 m1 (L ++ [12]) hc1 a2 (by simp only [List.length_append, List.length_cons, List.length_nil]; omega)
  have b1' : f_X6_give n (11 : Int32) (nI g) (nI (d + 1)) m1 = _ := b1
  rw [List.append_assoc] at t1
  rw [b1', bd2_d]
  exact ⟨m2, rfl, t1, a3.tr f1⟩
theorem gv_22 {V : Wv} {g n d : Nat} {v1 : Int32} {l1 : List Nat} (hV : OkV V) (hg : g < V 2) (hd : d < 8) (h1 : GV V g n (d + 1) 21 v1 l1) : GV V g (n + 1) d 22 (v1 - 1000) (22 :: l1) := by
  intro m L hc ht hl
  have hn := hV.n
  obtain ⟨k1, k2, -⟩ := hV.b hg
  simp only [List.length_cons, List.length_append, List.length_nil] at hl
  obtain ⟨m1, a1, a2, a3⟩ := cl_leave 22 ht (by omega)
  have hc1 := a3.cw hc
  obtain ⟨c1, c2, c3, c4, c5, c6, c7⟩ := hc1.g hg
  have c1' : m1 14 g = nI (V (ig g 0)) := c1
  show ∃ m', lb_X6_give (f_X6_give n) (nI 22) (nI g) (nI d) m = _ ∧ _
  unfold lb_X6_give
  rw [if_pos (by rw [show (8 : Int32) = nI 8 from rfl, nI_ltE (by omega) (by omega)]; exact hd), a1, bd1_d]
  simp only [nm_d, nI_s1]
  rw [gdN (by omega) (by omega), if_neg (show ¬ nI 22 = (10 : Int32) by decide), if_neg (show ¬ nI 22 = (11 : Int32) by decide), if_neg (show ¬ nI 22 = (12 : Int32) by decide), if_neg (show ¬ nI 22 = (13 : Int32) by decide), if_neg (show ¬ nI 22 = (14 : Int32) by decide), if_neg (show ¬ nI 22 = (15 : Int32) by decide), if_neg (show ¬ nI 22 = (16 : Int32) by decide), if_neg (show ¬ nI 22 = (17 : Int32) by decide), if_neg (show ¬ nI 22 = (18 : Int32) by decide), if_neg (show ¬ nI 22 = (19 : Int32) by decide), if_neg (show ¬ nI 22 = (20 : Int32) by decide), if_neg (show ¬ nI 22 = (21 : Int32) by decide), if_pos (show nI 22 = (22 : Int32) from rfl)]
  obtain ⟨m2, b1, t1, f1⟩ := h1 m1 (L ++ [22]) hc1 a2 (by simp only [List.length_append, List.length_cons, List.length_nil]; omega)
  have b1' : f_X6_give n (21 : Int32) (nI g) (nI (d + 1)) m1 = _ := b1
  rw [List.append_assoc] at t1
  rw [b1', bd2_d]
  exact ⟨m2, rfl, t1, a3.tr f1⟩
theorem gv_24 {V : Wv} {g n d : Nat} {v1 : Int32} {l1 : List Nat} (hV : OkV V) (hg : g < V 2) (hd : d < 8) (h1 : GV V g n (d + 1) 21 v1 l1) : GV V g (n + 1) d 24 (2 * v1) (24 :: l1) := by
  intro m L hc ht hl
  have hn := hV.n
  obtain ⟨k1, k2, -⟩ := hV.b hg
  simp only [List.length_cons, List.length_append, List.length_nil] at hl
  obtain ⟨m1, a1, a2, a3⟩ := cl_leave 24 ht (by omega)
  have hc1 := a3.cw hc
  obtain ⟨c1, c2, c3, c4, c5, c6, c7⟩ := hc1.g hg
  have c1' : m1 14 g = nI (V (ig g 0)) := c1
  show ∃ m', lb_X6_give (f_X6_give n) (nI 24) (nI g) (nI d) m = _ ∧ _
  unfold lb_X6_give
  rw [if_pos (by rw [show (8 : Int32) = nI 8 from rfl, nI_ltE (by omega) (by omega)]; exact hd), a1, bd1_d]
  simp only [nm_d, nI_s1]
  rw [gdN (by omega) (by omega), if_neg (show ¬ nI 24 = (10 : Int32) by decide), if_neg (show ¬ nI 24 = (11 : Int32) by decide), if_neg (show ¬ nI 24 = (12 : Int32) by decide), if_neg (show ¬ nI 24 = (13 : Int32) by decide), if_neg (show ¬ nI 24 = (14 : Int32) by decide), if_neg (show ¬ nI 24 = (15 : Int32) by decide), if_neg (show ¬ nI 24 = (16 : Int32) by decide), if_neg (show ¬ nI 24 = (17 : Int32) by decide), if_neg (show ¬ nI 24 = (18 : Int32) by decide), if_neg (show ¬ nI 24 = (19 : Int32) by decide), if_neg (show ¬ nI 24 = (20 : Int32) by decide), if_neg (show ¬ nI 24 = (21 : Int32) by decide), if_neg (show ¬ nI 24 = (22 : Int32) by decide), if_neg (show ¬ nI 24 = (23 : Int32) by decide), if_pos (show nI 24 = (24 : Int32) from rfl)]
  obtain ⟨m2, b1, t1, f1⟩ := h1 m1 (L ++ [24]) hc1 a2 (by simp only [List.length_append, List.length_cons, List.length_nil]; omega)
  have b1' : f_X6_give n (21 : Int32) (nI g) (nI (d + 1)) m1 = _ := b1
  rw [List.append_assoc] at t1
  rw [b1', bd2_d]
  exact ⟨m2, rfl, t1, a3.tr f1⟩
theorem gv_21 {V : Wv} {g n d : Nat} {v1 : Int32} {l1 : List Nat} (hV : OkV V) (hg : g < V 2) (hd : d < 8) (h1 : GV V g n (d + 1) 20 v1 l1) : GV V g (n + 1) d 21 (v1 + nI (V (ig g 2))) (21 :: l1) := by
  intro m L hc ht hl
  have hn := hV.n
  obtain ⟨k1, k2, -⟩ := hV.b hg
  simp only [List.length_cons, List.length_append, List.length_nil] at hl
  obtain ⟨m1, a1, a2, a3⟩ := cl_leave 21 ht (by omega)
  have hc1 := a3.cw hc
  obtain ⟨c1, c2, c3, c4, c5, c6, c7⟩ := hc1.g hg
  have c1' : m1 14 g = nI (V (ig g 0)) := c1
  show ∃ m', lb_X6_give (f_X6_give n) (nI 21) (nI g) (nI d) m = _ ∧ _
  unfold lb_X6_give
  rw [if_pos (by rw [show (8 : Int32) = nI 8 from rfl, nI_ltE (by omega) (by omega)]; exact hd), a1, bd1_d]
  simp only [nm_d, nI_s1]
  rw [gdN (by omega) (by omega), if_neg (show ¬ nI 21 = (10 : Int32) by decide), if_neg (show ¬ nI 21 = (11 : Int32) by decide), if_neg (show ¬ nI 21 = (12 : Int32) by decide), if_neg (show ¬ nI 21 = (13 : Int32) by decide), if_neg (show ¬ nI 21 = (14 : Int32) by decide), if_neg (show ¬ nI 21 = (15 : Int32) by decide), if_neg (show ¬ nI 21 = (16 : Int32) by decide), if_neg (show ¬ nI 21 = (17 : Int32) by decide), if_neg (show ¬ nI 21 = (18 : Int32) by decide), if_neg (show ¬ nI 21 = (19 : Int32) by decide), if_neg (show ¬ nI 21 = (20 : Int32) by decide), if_pos (show nI 21 = (21 : Int32) from rfl)]
  obtain ⟨m2, b1, t1, f1⟩ := h1 m1 (L ++ [21]) hc1 a2 (by simp only [List.length_append, List.length_cons, List.length_nil]; omega)
  have b1' : f_X6_give n (20 : Int32) (nI g) (nI (d + 1)) m1 = _ := b1
  rw [List.append_assoc] at t1
  have e4 : m2 17 g = nI (V (ig g 2)) := ((f1.cw hc1).g hg).2.2.2.1
  rw [b1', bd2_d, gdN (by omega) (by omega), ix_nI (by omega), e4]
  exact ⟨m2, rfl, t1, a3.tr f1⟩
theorem gv_11 {V : Wv} {g n d : Nat} {v1 : Int32} {l1 : List Nat} {v2 : Int32} {l2 : List Nat} (hV : OkV V) (hg : g < V 2) (hd : d < 8) (h1 : GV V g n (d + 1) 10 v1 l1) (h2 : GV V g n (d + 1) (tN3 (V (ig g 0))) v2 l2) : GV V g (n + 1) d 11 (v1 + v2) (11 :: (l1 ++ l2)) := by
  intro m L hc ht hl
  have hn := hV.n
  obtain ⟨k1, k2, -⟩ := hV.b hg
  simp only [List.length_cons, List.length_append, List.length_nil] at hl
  obtain ⟨m1, a1, a2, a3⟩ := cl_leave 11 ht (by omega)
  have hc1 := a3.cw hc
  obtain ⟨c1, c2, c3, c4, c5, c6, c7⟩ := hc1.g hg
  have c1' : m1 14 g = nI (V (ig g 0)) := c1
  show ∃ m', lb_X6_give (f_X6_give n) (nI 11) (nI g) (nI d) m = _ ∧ _
  unfold lb_X6_give
  rw [if_pos (by rw [show (8 : Int32) = nI 8 from rfl, nI_ltE (by omega) (by omega)]; exact hd), a1, bd1_d]
  simp only [nm_d, nI_s1]
  rw [gdN (by omega) (by omega), if_neg (show ¬ nI 11 = (10 : Int32) by decide), if_pos (show nI 11 = (11 : Int32) from rfl)]
  obtain ⟨m2, b1, t1, f1⟩ := h1 m1 (L ++ [11]) hc1 a2 (by simp only [List.length_append, List.length_cons, List.length_nil]; omega)
  have b1' : f_X6_give n (10 : Int32) (nI g) (nI (d + 1)) m1 = _ := b1
  obtain ⟨m3, b2, t2, f2⟩ := h2 m2 (L ++ [11] ++ l1) (f1.cw hc1) t1 (by simp only [List.length_append, List.length_cons, List.length_nil]; omega)
  rw [List.append_assoc, List.append_assoc] at t2
  rw [b1', bd2_d, ix_nI (show g < 2147483648 by omega), c1', gdN (by omega) (by omega), ix_nI (by omega), tN3E _ (by omega), b2, bd2_d]
  exact ⟨m3, rfl, t2, (a3.tr f1).tr f2⟩
theorem gv_23 {V : Wv} {g n d : Nat} {v1 : Int32} {l1 : List Nat} {v2 : Int32} {l2 : List Nat} (hV : OkV V) (hg : g < V 2) (hd : d < 8) (h1 : GV V g n (d + 1) 20 v1 l1) (h2 : GV V g n (d + 1) (tN2 (V (ig g 0))) v2 l2) : GV V g (n + 1) d 23 (v1 - v2) (23 :: (l1 ++ l2)) := by
  intro m L hc ht hl
  have hn := hV.n
  obtain ⟨k1, k2, -⟩ := hV.b hg
  simp only [List.length_cons, List.length_append, List.length_nil] at hl
  obtain ⟨m1, a1, a2, a3⟩ := cl_leave 23 ht (by omega)
  have hc1 := a3.cw hc
  obtain ⟨c1, c2, c3, c4, c5, c6, c7⟩ := hc1.g hg
  have c1' : m1 14 g = nI (V (ig g 0)) := c1
  show ∃ m', lb_X6_give (f_X6_give n) (nI 23) (nI g) (nI d) m = _ ∧ _
  unfold lb_X6_give
  rw [if_pos (by rw [show (8 : Int32) = nI 8 from rfl, nI_ltE (by omega) (by omega)]; exact hd), a1, bd1_d]
  simp only [nm_d, nI_s1]
  rw [gdN (by omega) (by omega), if_neg (show ¬ nI 23 = (10 : Int32) by decide), if_neg (show ¬ nI 23 = (11 : Int32) by decide), if_neg (show ¬ nI 23 = (12 : Int32) by decide), if_neg (show ¬ nI 23 = (13 : Int32) by decide), if_neg (show ¬ nI 23 = (14 : Int32) by decide), if_neg (show ¬ nI 23 = (15 : Int32) by decide), if_neg (show ¬ nI 23 = (16 : Int32) by decide), if_neg (show ¬ nI 23 = (17 : Int32) by decide), if_neg (show ¬ nI 23 = (18 : Int32) by decide), if_neg (show ¬ nI 23 = (19 : Int32) by decide), if_neg (show ¬ nI 23 = (20 : Int32) by decide), if_neg (show ¬ nI 23 = (21 : Int32) by decide), if_neg (show ¬ nI 23 = (22 : Int32) by decide), if_pos (show nI 23 = (23 : Int32) from rfl)]
  obtain ⟨m2, b1, t1, f1⟩ := h1 m1 (L ++ [23]) hc1 a2 (by simp only [List.length_append, List.length_cons, List.length_nil]; omega)
  have b1' : f_X6_give n (20 : Int32) (nI g) (nI (d + 1)) m1 = _ := b1
  obtain ⟨m3, b2, t2, f2⟩ := h2 m2 (L ++ [23] ++ l1) (f1.cw hc1) t1 (by simp only [List.length_append, List.length_cons, List.length_nil]; omega)
  rw [List.append_assoc, List.append_assoc] at t2
  rw [b1', bd2_d, ix_nI (show g < 2147483648 by omega), c1', gdN (by omega) (by omega), ix_nI (by omega), tN2E _ (by omega), b2, bd2_d]
  exact ⟨m3, rfl, t2, (a3.tr f1).tr f2⟩
