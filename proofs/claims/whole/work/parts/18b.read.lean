def CS (T : Bs) (m0 m : Mm) (s : Fa ⊕ Nat) : Prop := CB m T ∧ (∀ a, (a < 2 ∨ 11 < a) → m a = m0 a) ∧ (m 3 3 = 0 ∧ m 3 4 = 0 ∧ m 3 5 = 0) ∧ match s with
  | .inr p => m 2 3 = nI p ∧ m 2 4 = m0 2 4 ∧ p ≤ T.2
  | .inl e => m 2 3 = nI e.2 ∧ m 2 4 = nI e.1
theorem CS.go {T : Bs} {m0 m : Mm} {p p' : Nat} (h : CS T m0 m (.inr p)) (hp : p' ≤ T.2) : CS T m0 (st_ m 2 3 (nI p')) (.inr p') := by
  obtain ⟨⟨h1, h2⟩, h3, h4, h5, h6, h7⟩ := h
  refine ⟨⟨by rw [st_n (Or.inr (by omega))]; exact h1, fun k hk => by rw [st_na (by omega)]; exact h2 k hk⟩, fun a ha => by rw [st_na (by omega)]; exact h3 a ha, by rw [st_na (by omega)]; exact h4, st_s, by rw [st_n (Or.inr (by omega))]; exact h6, hp⟩
theorem CS.bad {T : Bs} {m0 m : Mm} {p : Nat} (k : Nat) (h : CS T m0 m (.inr p)) : CS T m0 (st_ m 2 4 (nI k)) (.inl (k, p)) := by
  obtain ⟨⟨h1, h2⟩, h3, h4, h5, h6, h7⟩ := h
  refine ⟨⟨by rw [st_n (Or.inr (by omega))]; exact h1, fun k hk => by rw [st_na (by omega)]; exact h2 k hk⟩, fun a ha => by rw [st_na (by omega)]; exact h3 a ha, by rw [st_na (by omega)]; exact h4, by rw [st_n (Or.inr (by omega))]; exact h5, st_s⟩
theorem CS.dr {T : Bs} {m0 m : Mm} {s : Fa ⊕ Nat} {a j : Nat} {v : Int32} (h : CS T m0 m s) (ha : 3 ≤ a) (ha2 : a ≤ 11) (hj : a = 3 → j ≠ 3 ∧ j ≠ 4 ∧ j ≠ 5) : CS T m0 (st_ m a j v) s := by
  obtain ⟨⟨h1, h2⟩, h3, h4, h5⟩ := h
  refine ⟨⟨by rw [st_na (by omega)]; exact h1, fun k hk => by rw [st_na (by omega)]; exact h2 k hk⟩, fun b hb => by rw [st_na (by omega)]; exact h3 b hb, ?_, ?_⟩
  · by_cases e : a = 3
    · have := hj e
      subst e
      rw [st_n (Or.inr (by omega)), st_n (Or.inr (by omega)), st_n (Or.inr (by omega))]; exact h4
    · rw [st_na (fun x => e x.symm)]; exact h4
  · cases s with
    | inl e => show st_ m a j v 2 3 = _ ∧ st_ m a j v 2 4 = _; rw [st_na (by omega)]; exact h5
    | inr p => show st_ m a j v 2 3 = _ ∧ st_ m a j v 2 4 = _ ∧ _; rw [st_na (by omega)]; exact h5
/-- a sign: read on, or a fault -/
theorem CS.sign {T : Bs} {m0 m : Mm} {p c : Nat} (hn : T.2 ≤ 110) (hT : ∀ k, T.1 k ≤ 255) (hc : c ≤ 255) (h : CS T m0 m (.inr p)) : (∃ p', aSg T c p = .inr p' ∧ ∃ m', f_X3_sign (nI c) m = some (1, m') ∧ CS T m0 m' (.inr p') ∧ ∀ a, a ≠ 2 → m' a = m a) ∨ (∃ e, aSg T c p = .inl e ∧ ∃ m', f_X3_sign (nI c) m = some (0, m') ∧ CS T m0 m' (.inl e)) := by
  have hs := c_sign hn hT hc h.2.2.2.2.2 h.1 h.2.2.2.1
  cases e : aSg T c p with
  | inl q =>
    rw [e] at hs
    obtain ⟨-, rfl⟩ := aSg_f e
    exact Or.inr ⟨_, rfl, _, hs, h.bad 1⟩
  | inr p' =>
    rw [e] at hs
    obtain ⟨a1, a2, rfl⟩ := aSg_ok e
    exact Or.inl ⟨_, rfl, _, hs, h.go (by omega), fun a ha => st_na ha⟩
theorem CS.num {T : Bs} {m0 m : Mm} {p lo hi : Nat} (hn : T.2 ≤ 110) (hT : ∀ k, T.1 k ≤ 255) (hlo : lo ≤ 1) (hhi : hi ≤ 99) (h : CS T m0 m (.inr p)) : (∃ r, aNm T lo hi p = .inr r ∧ ∃ m', f_X3_number (nI lo) (nI hi) m = some (nI r.1, m') ∧ CS T m0 m' (.inr r.2) ∧ r.1 ≤ hi ∧ lo ≤ r.1 ∧ ∀ a, a ≠ 2 → m' a = m a) ∨ (∃ e, aNm T lo hi p = .inl e ∧ ∃ m', f_X3_number (nI lo) (nI hi) m = some (-1, m') ∧ CS T m0 m' (.inl e) ∧ ∀ a, a ≠ 2 → m' a = m a) := by
  have hs := c_num hn hT hlo hhi h.2.2.2.2.2 h.1 h.2.2.2.1
  cases e : aNm T lo hi p with
  | inl q =>
    rw [e] at hs
    obtain ⟨-, h2⟩ := aNm_f e
    have hb := h.bad q.1
    rw [← h2] at hb
    exact Or.inr ⟨_, rfl, _, hs, hb, fun a ha => st_na ha⟩
  | inr r =>
    rw [e] at hs
    obtain ⟨a1, a2, a3, a4⟩ := aNm_ok (v := r.1) (p' := r.2) e
    exact Or.inl ⟨_, rfl, _, hs, h.go a4, a2, a1, fun a ha => st_na ha⟩
theorem lt0N {v : Nat} (h : v < 2147483648) : (nI v < (0 : Int32)) = False := eq_false (nI_pos h)
theorem c_law {T : Bs} {m0 m : Mm} (hn : T.2 ≤ 110) (hT : ∀ k, T.1 k ≤ 255) (h : CS T m0 m (.inr 0)) :
    (∃ r, aLaw T = .inr r ∧ ∃ m', f_X3_readLaw m = some (1, m') ∧ CS T m0 m' (.inr r.2.2) ∧ (1 ≤ r.1 ∧ r.1 ≤ 99 ∧ r.2.1 ≤ 15) ∧ m' 3 1 = nI r.1 ∧ m' 3 2 = nI r.2.1 ∧ m' 3 0 = m 3 0 ∧ m' 3 6 = m 3 6) ∨
    (∃ e, aLaw T = .inl e ∧ ∃ m', f_X3_readLaw m = some (0, m') ∧ CS T m0 m' (.inl e)) := by
  unfold aLaw f_X3_readLaw
  rcases CS.sign (c := 119) hn hT (by omega) h with ⟨p1, e1, m1, a1, b1, c1⟩ | ⟨e, e1, m1, a1, b1⟩
  rotate_left
  · exact Or.inr ⟨e, by rw [e1]; rfl, m1, by rw [show f_X3_sign (119 : Int32) m = _ from a1]; rfl, b1⟩
  rw [show f_X3_sign (119 : Int32) m = _ from a1, e1]
  simp only [bnd, bd2_d, nm_d]
  rw [if_neg (show ¬ (1 : Int32) = 0 by decide)]
  rcases CS.num (lo := 1) (hi := 99) hn hT (by omega) (by omega) b1 with ⟨r, e2, m2, a2, b2, d2, d2', c2⟩ | ⟨e, e2, m2, a2, b2, c2⟩
  rotate_left
  · have hs : st_ m2 3 1 (-1 : Int32) 3 1 < 0 := by rw [st_s]; decide
    rw [show f_X3_number (1 : Int32) (99 : Int32) m1 = _ from a2, e2]
    exact Or.inr ⟨e, rfl, st_ m2 3 1 (-1 : Int32), by rw [bd2_d, if_pos hs], b2.dr (by omega) (by omega) (by omega)⟩
  rw [show f_X3_number (1 : Int32) (99 : Int32) m1 = _ from a2, e2]
  simp only [bd2_d, st_s, lt0N (show r.1 < 2147483648 by omega), if_false]
  have b3 := b2.dr (a := 3) (j := 1) (v := nI r.1) (by omega) (by omega) (by omega)
  rcases CS.sign (c := 44) hn hT (by omega) b3 with ⟨p3, e3, m3, a3, b4, c3⟩ | ⟨e, e3, m3, a3, b4⟩
  rotate_left
  · rw [show f_X3_sign (44 : Int32) _ = _ from a3, e3]
    exact Or.inr ⟨e, rfl, m3, rfl, b4⟩
  rw [show f_X3_sign (44 : Int32) _ = _ from a3, e3]
  simp only [bd2_d]
  rw [if_neg (show ¬ (1 : Int32) = 0 by decide)]
  rcases CS.num (lo := 0) (hi := 15) hn hT (by omega) (by omega) b4 with ⟨w, e4, m4, a4, b5, d4, d4', c4⟩ | ⟨e, e4, m4, a4, b5, c4⟩
  rotate_left
  · rw [show f_X3_number (0 : Int32) (15 : Int32) m3 = _ from a4, e4]
    exact Or.inr ⟨e, rfl, st_ m4 3 2 (-1 : Int32), by rw [bd2_d, if_pos (by decide)], b5.dr (by omega) (by omega) (by omega)⟩
  rw [show f_X3_number (0 : Int32) (15 : Int32) m3 = _ from a4, e4]
  simp only [bd2_d, st_s, lt0N (show w.1 < 2147483648 by omega), if_false]
  have b6 := b5.dr (a := 3) (j := 2) (v := nI w.1) (by omega) (by omega) (by omega)
  rcases CS.sign (c := 59) hn hT (by omega) b6 with ⟨p5, e5, m5, a5, b7, c5⟩ | ⟨e, e5, m5, a5, b7⟩
  rotate_left
  · rw [show f_X3_sign (59 : Int32) _ = _ from a5, e5]
    exact Or.inr ⟨e, rfl, m5, rfl, b7⟩
  rw [show f_X3_sign (59 : Int32) _ = _ from a5, e5]
  simp only [bd2_d]
  rw [if_neg (show ¬ (1 : Int32) = 0 by decide)]
  refine Or.inl ⟨(r.1, w.1, p5), rfl, m5, rfl, b7, ⟨d2', d2, d4⟩, ?_, ?_, ?_, ?_⟩
  · rw [c5 3 (by omega), st_n (Or.inr (by omega)), c4 3 (by omega), c3 3 (by omega), st_s]
  · rw [c5 3 (by omega), st_s]
  · rw [c5 3 (by omega), st_n (Or.inr (by omega)), c4 3 (by omega), c3 3 (by omega), st_n (Or.inr (by omega)), c2 3 (by omega), c1 3 (by omega)]
  · rw [c5 3 (by omega), st_n (Or.inr (by omega)), c4 3 (by omega), c3 3 (by omega), st_n (Or.inr (by omega)), c2 3 (by omega), c1 3 (by omega)]
def addG (V : Wv) (q : Nat × Nat × Nat × Nat) : Wv := fun k => if k = 2 then V 2 + 1 else if k = ig (V 2) 0 then q.1 else if k = ig (V 2) 1 then q.2.1 else if k = ig (V 2) 2 then q.2.2.1 else if k = ig (V 2) 3 then q.2.2.2 else if k = ig (V 2) 4 then V 2 else if k = ig (V 2) 5 then 1 else V k
/-- a wedding as it is being read: all in their own seats, nothing behind -/
def IdV (V : Wv) : Prop := OkV V ∧ (∀ g, g < V 2 → V (ig g 4) = g) ∧ (∀ k, 6 + 7 * V 2 ≤ k → V k = 0) ∧ V 3 = 0
theorem addG_lo {V : Wv} {q : Nat × Nat × Nat × Nat} {k : Nat} (hk : k < 6) (h2 : k ≠ 2) : addG V q k = V k := by
  unfold addG ig
  rw [if_neg h2, if_neg (by omega), if_neg (by omega), if_neg (by omega), if_neg (by omega), if_neg (by omega), if_neg (by omega)]
theorem addG_2 {V : Wv} {q : Nat × Nat × Nat × Nat} : addG V q 2 = V 2 + 1 := if_pos rfl
theorem addG_old {V : Wv} {q : Nat × Nat × Nat × Nat} {g f : Nat} (hg : g < V 2) (hf : f < 7) : addG V q (ig g f) = V (ig g f) := by
  unfold addG ig
  rw [if_neg (by omega), if_neg (by omega), if_neg (by omega), if_neg (by omega), if_neg (by omega), if_neg (by omega), if_neg (by omega)]
theorem addG_new {V : Wv} {q : Nat × Nat × Nat × Nat} {f : Nat} (hz : ∀ k, 6 + 7 * V 2 ≤ k → V k = 0) (hf : f < 7) : addG V q (ig (V 2) f) = if f = 0 then q.1 else if f = 1 then q.2.1 else if f = 2 then q.2.2.1 else if f = 3 then q.2.2.2 else if f = 4 then V 2 else if f = 5 then 1 else 0 := by
  have z := hz (ig (V 2) f) (by unfold ig; omega)
  unfold addG
  rw [z]
  unfold ig
  rw [if_neg (by omega)]
  rcases (show f = 0 ∨ f = 1 ∨ f = 2 ∨ f = 3 ∨ f = 4 ∨ f = 5 ∨ f = 6 by omega) with h | h | h | h | h | h | h <;> subst h
  · rw [if_pos rfl, if_pos rfl]
  · rw [if_neg (by omega), if_pos rfl]; rfl
  · rw [if_neg (by omega), if_neg (by omega), if_pos rfl]; rfl
  · rw [if_neg (by omega), if_neg (by omega), if_neg (by omega), if_pos rfl]; rfl
  · rw [if_neg (by omega), if_neg (by omega), if_neg (by omega), if_neg (by omega), if_pos rfl]; rfl
  · rw [if_neg (by omega), if_neg (by omega), if_neg (by omega), if_neg (by omega), if_neg (by omega), if_pos rfl]; rfl
  · rw [if_neg (by omega), if_neg (by omega), if_neg (by omega), if_neg (by omega), if_neg (by omega), if_neg (by omega)]; rfl
theorem addG_id {V : Wv} {q : Nat × Nat × Nat × Nat} (h : IdV V) (h7 : V 2 < 7) (hq : 1 ≤ q.1 ∧ q.1 ≤ 5 ∧ q.2.1 ≤ 9 ∧ q.2.2.1 ≤ 99 ∧ q.2.2.2 ≤ 9) : IdV (addG V q) := by
  obtain ⟨hV, hs, hz, h3⟩ := h
  have s4 : ∀ g, g < V 2 + 1 → addG V q (ig g 4) = g := fun g hg => by
    by_cases e : g = V 2
    · subst e; rw [addG_new hz (by omega)]; rfl
    · rw [addG_old (by omega) (by omega), hs g (by omega)]
  refine ⟨⟨by rw [addG_lo (by omega) (by omega)]; exact hV.1, by rw [addG_lo (by omega) (by omega)]; exact hV.2.1, by rw [addG_2]; omega, by rw [addG_lo (by omega) (by omega)]; exact hV.2.2.2.1, by rw [addG_lo (by omega) (by omega)]; exact hV.2.2.2.2.1, by rw [addG_lo (by omega) (by omega)]; exact hV.2.2.2.2.2.1, ?_, ?_, ?_⟩, by rw [addG_2]; exact s4, ?_, by rw [addG_lo (by omega) (by omega)]; exact h3⟩
  · rw [addG_2]
    intro g hg
    unfold GdV
    rw [s4 g hg, addG_2]
    by_cases e : g = V 2
    · subst e
      rw [addG_new hz (f := 0) (by omega), addG_new hz (f := 1) (by omega), addG_new hz (f := 2) (by omega), addG_new hz (f := 3) (by omega), addG_new hz (f := 5) (by omega), addG_new hz (f := 6) (by omega)]
      exact ⟨hq.1, hq.2.1, hq.2.2.1, hq.2.2.2.1, hq.2.2.2.2, by omega, Nat.le_refl 1, Nat.zero_le _, fun _ => rfl⟩
    · obtain ⟨b1, b2, b3, b4, b5, b6, b7, b8, b9⟩ := hV.b (show g < V 2 by omega)
      rw [addG_old (by omega) (by omega), addG_old (by omega) (by omega), addG_old (by omega) (by omega), addG_old (by omega) (by omega), addG_old (by omega) (by omega), addG_old (by omega) (by omega)]
      exact ⟨b1, b2, b3, b4, b5, by omega, b7, b8, b9⟩
  · rw [addG_2]
    intro g h hg hh he
    rw [s4 g hg, s4 h hh] at he
    exact he
  · rw [addG_2]
    intro p hp
    exact ⟨p, hp, s4 p hp⟩
  · rw [addG_2]
    intro k hk
    unfold addG ig
    rw [if_neg (by omega), if_neg (by omega), if_neg (by omega), if_neg (by omega), if_neg (by omega), if_neg (by omega), if_neg (by omega)]
    exact hz k (by omega)
