theorem aSo_le (T : Bs) (p : Nat) : aSo T p ≤ 5 := by
  unfold aSo
  split
  · exact srt_le _
  · omega
theorem aGst_ok {T : Bs} {g p : Nat} {r : (Nat × Nat × Nat × Nat) × Nat} (h : aGst T g p = .inr r) : g < 7 ∧ (1 ≤ r.1.1 ∧ r.1.1 ≤ 5 ∧ r.1.2.1 ≤ 9 ∧ r.1.2.2.1 ≤ 99 ∧ r.1.2.2.2 ≤ 9) := by
  unfold aGst at h
  by_cases h0 : aSo T p = 0
  · rw [if_pos h0] at h; cases h
  rw [if_neg h0] at h
  by_cases h7 : 7 ≤ g
  · rw [if_pos h7] at h; cases h
  rw [if_neg h7] at h
  obtain ⟨s, e1, h⟩ := bnd_inr h
  obtain ⟨p2, e2, h⟩ := bnd_inr h
  obtain ⟨w, e3, h⟩ := bnd_inr h
  obtain ⟨p3, e4, h⟩ := bnd_inr h
  obtain ⟨f, e5, h⟩ := bnd_inr h
  obtain ⟨p4, e6, h⟩ := bnd_inr h
  cases h
  have k1 := (aNm_ok (v := s.1) (p' := s.2) e1).2.1
  have k2 := (aNm_ok (v := w.1) (p' := w.2) e3).2.1
  have k3 := (aNm_ok (v := f.1) (p' := f.2) e5).2.1
  exact ⟨by omega, Nat.pos_of_ne_zero h0, aSo_le T p, k1, k2, k3⟩
theorem aGst_f {T : Bs} {g p : Nat} {e : Fa} (h : aGst T g p = .inl e) : e.1 ≤ 3 := by
  have nm : ∀ {lo hi q : Nat} {e : Fa}, aNm T lo hi q = .inl e → e.1 ≤ 3 := fun h => by
    have := (aNm_f h).1; omega
  have sg : ∀ {c q : Nat} {e : Fa}, aSg T c q = .inl e → e.1 ≤ 3 := fun h => by
    obtain ⟨-, rfl⟩ := aSg_f h; show 1 ≤ 3; omega
  unfold aGst at h
  by_cases h0 : aSo T p = 0
  · rw [if_pos h0] at h; cases h; show 1 ≤ 3; omega
  rw [if_neg h0] at h
  by_cases h7 : 7 ≤ g
  · rw [if_pos h7] at h; cases h; show 3 ≤ 3; omega
  rw [if_neg h7] at h
  rcases bnd_inl h with h | ⟨s, -, h⟩
  · exact nm h
  rcases bnd_inl h with h | ⟨p2, -, h⟩
  · exact sg h
  rcases bnd_inl h with h | ⟨w, -, h⟩
  · exact nm h
  rcases bnd_inl h with h | ⟨p3, -, h⟩
  · exact sg h
  rcases bnd_inl h with h | ⟨f, -, h⟩
  · exact nm h
  rcases bnd_inl h with h | ⟨p4, -, h⟩
  · exact sg h
  cases h
theorem aLaw_f {T : Bs} {e : Fa} (h : aLaw T = .inl e) : e.1 ≤ 3 := by
  have nm : ∀ {lo hi q : Nat} {e : Fa}, aNm T lo hi q = .inl e → e.1 ≤ 3 := fun h => by
    have := (aNm_f h).1; omega
  have sg : ∀ {c q : Nat} {e : Fa}, aSg T c q = .inl e → e.1 ≤ 3 := fun h => by
    obtain ⟨-, rfl⟩ := aSg_f h; show 1 ≤ 3; omega
  unfold aLaw at h
  rcases bnd_inl h with h | ⟨p1, -, h⟩
  · exact sg h
  rcases bnd_inl h with h | ⟨v, -, h⟩
  · exact nm h
  rcases bnd_inl h with h | ⟨p2, -, h⟩
  · exact sg h
  rcases bnd_inl h with h | ⟨w, -, h⟩
  · exact nm h
  rcases bnd_inl h with h | ⟨p3, -, h⟩
  · exact sg h
  cases h
theorem aLaw_ok {T : Bs} {l : Nat × Nat × Nat} (h : aLaw T = .inr l) : 1 ≤ l.1 ∧ l.1 ≤ 99 ∧ l.2.1 ≤ 15 := by
  unfold aLaw at h
  obtain ⟨p1, e1, h⟩ := bnd_inr h
  obtain ⟨v, e2, h⟩ := bnd_inr h
  obtain ⟨p2, e3, h⟩ := bnd_inr h
  obtain ⟨w, e4, h⟩ := bnd_inr h
  obtain ⟨p3, e5, h⟩ := bnd_inr h
  cases h
  have k1 := aNm_ok (v := v.1) (p' := v.2) e2
  have k2 := aNm_ok (v := w.1) (p' := w.2) e4
  exact ⟨k1.1, k1.2.1, k2.2.1⟩
theorem aAll_ok {T : Bs} : ∀ (k : Nat) (V : Wv) (p : Nat), IdV V → 1 ≤ V 2 → 1 ≤ V 0 → (∀ U, aAll T k V p = .inr U → IdV U ∧ 1 ≤ U 2 ∧ 1 ≤ U 0) ∧ ∀ e, aAll T k V p = .inl e → e.1 ≤ 3 := by
  intro k
  induction k with
  | zero => intro V p hV h2 h0; exact ⟨fun U h => (by cases h), fun e h => by cases h; show 1 ≤ 3; omega⟩
  | succ k ih =>
    intro V p hV h2 h0
    unfold aAll
    by_cases e : T.2 ≤ p
    · rw [if_pos e]
      exact ⟨fun U h => by cases h; exact ⟨hV, h2, h0⟩, fun e h => by cases h⟩
    · rw [if_neg e]
      cases hg : aGst T (V 2) p with
      | inl q => exact ⟨fun U h => (by cases h), fun e h => by cases h; exact aGst_f hg⟩
      | inr r =>
        obtain ⟨g7, gq⟩ := aGst_ok hg
        exact ih (addG V r.1) r.2 (addG_id hV g7 gq) (by rw [addG_2]; omega) (by rw [addG_lo (by omega) (by omega)]; exact h0)
theorem aPar_ok {T : Bs} : (∀ U, aPar T = .inr U → IdV U ∧ 1 ≤ U 2 ∧ 1 ≤ U 0) ∧ ∀ e, aPar T = .inl e → e.1 ≤ 3 := by
  unfold aPar
  cases hl : aLaw T with
  | inl q => exact ⟨fun U h => (by cases h), fun e h => by cases h; exact aLaw_f hl⟩
  | inr l =>
    obtain ⟨d1, d2, d3⟩ := aLaw_ok hl
    show (∀ U, bnd (aGst T (V0 l.1 l.2.1 2) l.2.2) (fun r => aAll T 8 (addG (V0 l.1 l.2.1) r.1) r.2) = .inr U → _) ∧ ∀ e, bnd (aGst T (V0 l.1 l.2.1 2) l.2.2) (fun r => aAll T 8 (addG (V0 l.1 l.2.1) r.1) r.2) = .inl e → _
    cases hg : aGst T (V0 l.1 l.2.1 2) l.2.2 with
    | inl q => exact ⟨fun U h => (by cases h), fun e h => by cases h; exact aGst_f hg⟩
    | inr r =>
      obtain ⟨g7, gq⟩ := aGst_ok hg
      exact aAll_ok 8 (addG (V0 l.1 l.2.1) r.1) r.2 (addG_id (V0_id d2 d3) g7 gq) (by rw [addG_2]; omega) (by rw [addG_lo (by omega) (by omega)]; exact d1)
/-- the law's chain in the reference -/
def l2S (T : Bs) : Fa ⊕ (Nat × Nat) := bnd (aSg T 119 0) (aNm T 1 99)
def l3S (T : Bs) : Fa ⊕ (Nat × Nat) := bnd (bnd (nxt (l2S T)) (aSg T 44)) (aNm T 0 15)
def l4S (T : Bs) : Fa ⊕ Nat := bnd (nxt (l3S T)) (aSg T 59)
theorem law_chain (T : Bs) : (∃ e, l4S T = .inl e ∧ aLaw T = .inl e) ∨ ∃ p v h, l4S T = .inr p ∧ l2S T = .inr v ∧ l3S T = .inr h ∧ aLaw T = .inr (v.1, h.1, p) := by
  unfold aLaw l4S l3S l2S nxt
  cases e1 : aSg T 119 0 with
  | inl q => exact Or.inl ⟨q, rfl, rfl⟩
  | inr p1 =>
    simp only [bnd]
    cases e2 : aNm T 1 99 p1 with
    | inl q => exact Or.inl ⟨q, rfl, rfl⟩
    | inr v =>
      simp only
      cases e3 : aSg T 44 v.2 with
      | inl q => exact Or.inl ⟨q, rfl, rfl⟩
      | inr p2 =>
        simp only
        cases e4 : aNm T 0 15 p2 with
        | inl q => exact Or.inl ⟨q, rfl, rfl⟩
        | inr w =>
          simp only
          cases e5 : aSg T 59 w.2 with
          | inl q => exact Or.inl ⟨q, rfl, rfl⟩
          | inr p3 => exact Or.inr ⟨p3, v, w, rfl, rfl, rfl, rfl⟩
theorem m_zero : ∀ (k f i : Nat) (m : Mm), i + k = 55 → k < f → (∀ j, j < i → m 305 j = 0) → ∃ m', lp_X7_wedding_2 f (nI i) m = some m' ∧ (∀ j, j < 55 → m' 305 j = 0) ∧ ∀ a, a ≠ 305 → m' a = m a := by
  intro k
  induction k with
  | zero =>
    intro f i m hi hf hs
    have ei : i = 55 := by omega
    subst ei
    cases f with
    | zero => omega
    | succ f =>
      refine ⟨m, ?_, hs, fun _ _ => rfl⟩
      show lb_X7_wedding_2 (lp_X7_wedding_2 f) (nI 55) m = _
      unfold lb_X7_wedding_2
      rw [if_pos (by decide)]
  | succ k ih =>
    intro f i m hi hf hs
    cases f with
    | zero => omega
    | succ f =>
      have hB : ∀ m', lb_X7_wedding_2 (lp_X7_wedding_2 f) (nI i) m = m' → lp_X7_wedding_2 (f + 1) (nI i) m = m' := fun m' h => h
      unfold lb_X7_wedding_2 at hB
      rw [if_neg (by rw [show (55 : Int32) = nI 55 from rfl, nI_leE (by omega) (by omega)]; omega), gdN (by omega) (by omega), ix_nI (by omega), nm_d, nI_s1, nm_d] at hB
      obtain ⟨m', z1, z2, z3⟩ := ih f (i + 1) (st_ m 305 i 0) (by omega) (by omega) (fun j hj => by
        by_cases e : j = i
        · subst e; exact st_s
        · rw [st_n (Or.inr e)]; exact hs j (by omega))
      exact ⟨m', hB _ z1, z2, fun a ha => by rw [z3 a ha, st_na ha]⟩
theorem TOK.w {m : Mm} {T : Bs} {p : Nat} (hT : ∀ k, T.1 k ≤ 255) (h : TOK m T p) : ((if m 298 11 = (1 : Int32) then (if m 298 12 = (119 : Int32) then (1 : Int32) else (0 : Int32)) else (0 : Int32)) = 1 ∧ p < T.2 ∧ T.1 p = 119 ∧ m 298 9 = nI (p + 1)) ∨ ((if m 298 11 = (1 : Int32) then (if m 298 12 = (119 : Int32) then (1 : Int32) else (0 : Int32)) else (0 : Int32)) = 0 ∧ ¬ (p < T.2 ∧ T.1 p = 119)) := by
  rcases h.2.2 with ⟨h1, h2, h3⟩ | ⟨h1, e, h2, h3, h4, h5, h6, h7, h8⟩ | ⟨h1, h2, h3, h4, h5⟩
  · refine Or.inr ⟨?_, by omega⟩
    rw [h2, if_neg (by decide)]
  · have d := isD_of.mp h1
    refine Or.inr ⟨?_, by omega⟩
    rw [if_neg]
    rw [h7]
    split <;> decide
  · have hb := hT p
    have q : (nI (T.1 p) = (119 : Int32)) = (T.1 p = 119) := nI_eqE (b := 119) (by omega) (by omega)
    rw [h4, h5]
    simp only [q]
    by_cases x : T.1 p = 119
    · refine Or.inl ⟨?_, h1, x, h3⟩
      rw [x, if_pos (by decide), if_pos rfl]
    · refine Or.inr ⟨?_, fun y => x y.2⟩
      rw [if_neg x, ite_self]
theorem TOK.end {m : Mm} {T : Bs} {p : Nat} (hT : ∀ k, T.1 k ≤ 255) (h : TOK m T p) : (T.2 ≤ p → m 298 11 = 0) ∧ (p < T.2 → ¬ m 298 11 = 0) := by
  rcases h.2.2 with ⟨h1, h2, h3⟩ | ⟨h1, e, h2, h3, h4, h5, h6, h7, h8⟩ | ⟨h1, h2, h3, h4, h5⟩
  · exact ⟨fun _ => h2, fun x => by omega⟩
  · have d := isD_of.mp h1
    refine ⟨fun x => by omega, fun _ => ?_⟩
    rw [h7]
    split <;> decide
  · refine ⟨fun x => by omega, fun _ => ?_⟩
    rw [h4]
    exact tkO_ne _ (by have := hT p; omega)
theorem MS.must0 {T : Bs} {m0 m : Mm} {p : Nat} (hn : T.2 ≤ 110) (h : MS T m0 m (.inr p)) : ∃ m', f_X7_must (0 : Int32) m = some m' ∧ MS T m0 m' (.inl (1, p)) := by
  obtain ⟨m', a1, a2, a3⟩ := h.no 1 hn
  unfold f_X7_must
  rw [h.well, if_neg (by decide), if_pos rfl, show f_X7_takes (0 : Int32) (1 : Int32) m = _ from a1, bd2_d]
  exact ⟨m', rfl, a2⟩
theorem must1 (m : Mm) : f_X7_must (1 : Int32) m = some m := by
  unfold f_X7_must
  rw [if_neg (show ¬ (1 : Int32) = 0 by decide), ite_self]
theorem MS.mustI {T : Bs} {m0 m : Mm} {e : Fa} (x : Int32) (h : MS T m0 m (.inl e)) : f_X7_must x m = some m := by
  unfold f_X7_must
  rw [h.ill, if_pos rfl]
