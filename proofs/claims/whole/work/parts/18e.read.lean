def MS (T : Bs) (m0 m : Mm) (s : Fa ⊕ Nat) : Prop := MB m T ∧ (∀ a, a ≠ 298 → a ≠ 305 → m a = m0 a) ∧ (∀ k, (k < 7 ∨ 12 < k) → m 298 k = m0 298 k) ∧ match s with
  | .inr p => m 298 8 = -1 ∧ m 298 7 = m0 298 7 ∧ TOK m T p
  | .inl e => m 298 8 = nI e.2 ∧ e.2 ≤ 110 ∧ m 298 7 = nI e.1
theorem MS.well {T : Bs} {m0 m : Mm} {p : Nat} (h : MS T m0 m (.inr p)) : f_X7_isWell m = 1 := by
  unfold f_X7_isWell
  rw [h.2.2.2.1, if_neg (by decide)]
theorem MS.ill {T : Bs} {m0 m : Mm} {e : Fa} (h : MS T m0 m (.inl e)) : f_X7_isWell m = 0 := by
  unfold f_X7_isWell
  have := h.2.2.2.2.1
  rw [h.2.2.2.1, if_pos (by rw [n0, nI_leE (by omega) (by omega)]; omega)]
theorem MS.dr {T : Bs} {m0 m : Mm} {s : Fa ⊕ Nat} {j : Nat} {v : Int32} (h : MS T m0 m s) : MS T m0 (st_ m 305 j v) s := by
  have e : st_ m 305 j v 298 = m 298 := st_na (by omega)
  have e3 : st_ m 305 j v 303 = m 303 := st_na (by omega)
  obtain ⟨⟨h1, h2⟩, h3, h4, h5⟩ := h
  refine ⟨⟨by rw [e]; exact h1, fun k hk => by rw [e3]; exact h2 k hk⟩, fun a ha hb => by rw [st_na hb]; exact h3 a ha hb, fun k hk => by rw [e]; exact h4 k hk, ?_⟩
  cases s with
  | inl q => show st_ m 305 j v 298 8 = _ ∧ _ ∧ st_ m 305 j v 298 7 = _; rw [e]; exact h5
  | inr p =>
    show st_ m 305 j v 298 8 = _ ∧ st_ m 305 j v 298 7 = _ ∧ TOK _ T p
    unfold TOK
    rw [e]; exact h5
theorem MS.off {T : Bs} {m0 m : Mm} {e : Fa} (x1 x2 : Int32) (h : MS T m0 m (.inl e)) : f_X7_takes x1 x2 m = some (0, m) := by
  unfold f_X7_takes
  rw [h.ill, if_pos rfl]
theorem MS.no {T : Bs} {m0 m : Mm} {p : Nat} (k : Nat) (hn : T.2 ≤ 110) (h : MS T m0 m (.inr p)) : ∃ m', f_X7_takes (0 : Int32) (nI k) m = some (0, m') ∧ MS T m0 m' (.inl (k, p)) ∧ ∀ a, a ≠ 298 → m' a = m a := by
  have hw := h.well
  obtain ⟨⟨h1, h2⟩, h3, h4, h5, h6, h7⟩ := h
  unfold f_X7_takes
  rw [hw, if_neg (by decide), if_pos rfl, nm_d, nm_d, nm_d, h7.1]
  have hp := h7.2.1
  refine ⟨_, rfl, ⟨⟨?_, fun j hj => by rw [st_na (by omega), st_na (by omega)]; exact h2 j hj⟩, fun a ha hb => by rw [st_na ha, st_na ha]; exact h3 a ha hb, fun j hj => ?_, ?_, ?_, st_s⟩, fun a ha => by rw [st_na ha, st_na ha]⟩
  · rw [st_n (Or.inr (by omega)), st_n (Or.inr (by omega))]; exact h1
  · rw [st_n (Or.inr (by omega)), st_n (Or.inr (by omega))]; exact h4 j hj
  · rw [st_n (Or.inr (by omega)), st_s]
  · show p ≤ 110; omega
theorem MS.yes {T : Bs} {m0 m : Mm} {p q : Nat} (x2 : Int32) (hn : T.2 ≤ 110) (hT : ∀ k, T.1 k ≤ 255) (h : MS T m0 m (.inr p)) (hq : q ≤ T.2) (h9 : m 298 9 = nI q) : ∃ m', f_X7_takes (1 : Int32) x2 m = some (m 298 12, m') ∧ MS T m0 m' (.inr q) ∧ ∀ a, a ≠ 298 → m' a = m a := by
  have hw := h.well
  obtain ⟨h1, h3, h4, h5, h6, h7⟩ := h
  obtain ⟨m', a1, a2, a3⟩ := m_adv hn hT hq h1 h9
  unfold f_X7_takes
  rw [hw, if_neg (by decide), if_neg (by decide), nm_d, a1, bd1_d]
  refine ⟨m', rfl, ⟨h1.fr a3, fun a ha hb => by rw [a3.1 a ha]; exact h3 a ha hb, fun j hj => by rw [a3.2 j (by omega)]; exact h4 j hj, by rw [a3.2 8 (by omega)]; exact h5, by rw [a3.2 7 (by omega)]; exact h6, a2⟩, a3.1⟩
theorem tkO_3 : ∀ c, c < 256 → decide (nI (tkO c) = (3 : Int32)) = decide (c = 44) := by decide +kernel
theorem tkO_4 : ∀ c, c < 256 → decide (nI (tkO c) = (4 : Int32)) = decide (c = 59) := by decide +kernel
theorem tkO_1 : ∀ c, c < 256 → decide (nI (tkO c) = (1 : Int32)) = (decide (97 ≤ c) && decide (c ≤ 122)) := by decide +kernel
theorem tkO_2 : ∀ c, c < 256 → ¬ nI (tkO c) = (2 : Int32) := by decide +kernel
/-- what stands at p if it is no figure -/
theorem TOK.other {m : Mm} {T : Bs} {p : Nat} (h : TOK m T p) (hp : p < T.2) (hD : ¬ isD T p = true) : m 298 9 = nI (p + 1) ∧ m 298 11 = nI (tkO (T.1 p)) ∧ m 298 12 = nI (T.1 p) := by
  rcases h.2.2 with ⟨h1, -⟩ | ⟨h1, -⟩ | ⟨-, -, h3⟩
  · omega
  · exact absurd h1 hD
  · exact h3
theorem TOK.is {m : Mm} {T : Bs} {p j c : Nat} (hT : ∀ k, T.1 k ≤ 255) (h : TOK m T p) (hj : (j = 3 ∧ c = 44) ∨ (j = 4 ∧ c = 59)) : (m 298 11 = nI j ∧ p < T.2 ∧ T.1 p = c ∧ m 298 9 = nI (p + 1)) ∨ (¬ m 298 11 = nI j ∧ ¬ (p < T.2 ∧ T.1 p = c)) := by
  have j0 : ¬ (0 : Int32) = nI j := by rcases hj with ⟨rfl, -⟩ | ⟨rfl, -⟩ <;> decide
  have j2 : ¬ (2 : Int32) = nI j := by rcases hj with ⟨rfl, -⟩ | ⟨rfl, -⟩ <;> decide
  have j5 : ¬ (5 : Int32) = nI j := by rcases hj with ⟨rfl, -⟩ | ⟨rfl, -⟩ <;> decide
  rcases h.2.2 with ⟨h1, h2, h3⟩ | ⟨h1, e, h2, h3, h4, h5, h6, h7, h8⟩ | ⟨h1, h2, h3, h4, h5⟩
  · refine Or.inr ⟨by rw [h2]; exact j0, by omega⟩
  · have d := isD_of.mp h1
    refine Or.inr ⟨?_, by omega⟩
    rw [h7]
    split
    · exact j2
    · exact j5
  · have hb := hT p
    have key : decide (nI (tkO (T.1 p)) = nI j) = decide (T.1 p = c) := by
      rcases hj with ⟨rfl, rfl⟩ | ⟨rfl, rfl⟩
      · exact tkO_3 _ (by omega)
      · exact tkO_4 _ (by omega)
    by_cases x : T.1 p = c
    · rw [decide_eq_true x] at key
      exact Or.inl ⟨by rw [h4]; exact of_decide_eq_true key, h1, x, h3⟩
    · rw [decide_eq_false x] at key
      exact Or.inr ⟨by rw [h4]; exact of_decide_eq_false key, fun y => x y.2⟩
theorem m_sg {T : Bs} {m0 m : Mm} {s : Fa ⊕ Nat} {j c : Nat} (hn : T.2 ≤ 110) (hT : ∀ k, T.1 k ≤ 255) (hj : (j = 3 ∧ c = 44) ∨ (j = 4 ∧ c = 59)) (h : MS T m0 m s) : ∃ v m', f_X7_takes (if m 298 11 = nI j then (1 : Int32) else (0 : Int32)) (1 : Int32) m = some (v, m') ∧ MS T m0 m' (bnd s (aSg T c)) ∧ ∀ a, a ≠ 298 → m' a = m a := by
  cases s with
  | inl e => exact ⟨0, m, h.off _ _, h, fun _ _ => rfl⟩
  | inr p =>
    show ∃ v m', _ ∧ MS T m0 m' (aSg T c p) ∧ _
    unfold aSg
    rcases h.2.2.2.2.2.is hT hj with ⟨h1, h2, h3, h4⟩ | ⟨h1, h2⟩
    · obtain ⟨m', a1, a2, a3⟩ := h.yes (q := p + 1) (1 : Int32) hn hT (by omega) h4
      rw [if_pos h1, if_pos ⟨h2, h3⟩]
      exact ⟨_, m', a1, a2, a3⟩
    · obtain ⟨m', a1, a2, a3⟩ := h.no 1 hn
      rw [if_neg h1, if_neg h2]
      exact ⟨_, m', a1, a2, a3⟩
def nxt (x : Fa ⊕ (Nat × Nat)) : Fa ⊕ Nat := bnd x fun r => .inr r.2
theorem dval_le {T : Bs} {p e : Nat} (hT : ∀ k, T.1 k ≤ 255) : dval T p e ≤ 3000 := by
  have h1 := hT p
  have h2 := hT (p + 1)
  unfold dval
  split
  · omega
  split
  · omega
  · omega
theorem m_fig {T : Bs} {m0 m : Mm} {s : Fa ⊕ Nat} {lo hi : Nat} (hn : T.2 ≤ 110) (hT : ∀ k, T.1 k ≤ 255) (hlo : lo ≤ 1) (hhi : hi ≤ 99) (h : MS T m0 m s) : ∃ v m', f_X7_figure (nI lo) (nI hi) m = some (v, m') ∧ MS T m0 m' (nxt (bnd s (aNm T lo hi))) ∧ (∀ r, bnd s (aNm T lo hi) = .inr r → v = nI r.1) ∧ ∀ a, a ≠ 298 → m' a = m a := by
  unfold f_X7_figure
  cases s with
  | inl e =>
    rw [h.ill, if_pos rfl, h.off, bd2_d]
    exact ⟨0, m, rfl, h, fun r hr => (by cases hr), fun _ _ => rfl⟩
  | inr p =>
    show ∃ v m', _ ∧ MS T m0 m' (nxt (aNm T lo hi p)) ∧ (∀ r, aNm T lo hi p = .inr r → v = nI r.1) ∧ _
    rw [h.well, if_neg (by decide)]
    have strange : ¬ m 298 11 = (2 : Int32) → aNm T lo hi p = .inl (1, p) → ∃ v m', (if m 298 11 = (2 : Int32) then (bd2 (f_X7_takes (f_X7_in (m 298 12) (nI lo) (nI hi)) (2 : Int32) m) fun r6 m5 => (some (r6, m5))) else (bd2 (f_X7_takes (0 : Int32) (1 : Int32) m) fun r8 m7 => (some (r8, m7)))) = some (v, m') ∧ MS T m0 m' (nxt (aNm T lo hi p)) ∧ (∀ r, aNm T lo hi p = .inr r → v = nI r.1) ∧ ∀ a, a ≠ 298 → m' a = m a := by
      intro h11 ha
      obtain ⟨m', a1, a2, a3⟩ := h.no 1 hn
      rw [if_neg h11, show f_X7_takes (0 : Int32) (1 : Int32) m = _ from a1, bd2_d, ha]
      exact ⟨0, m', rfl, a2, fun r hr => (by cases hr), a3⟩
    rcases h.2.2.2.2.2.2.2 with ⟨h1, h2, h3⟩ | ⟨h1, e, h2, h3, h4, h5, h6, h7, h8⟩ | ⟨h1, h2, h3, h4, h5⟩
    · refine strange (by rw [h2]; decide) ?_
      unfold aNm
      rw [if_neg (fun x => by have := isD_of.mp x; omega)]
    · by_cases he : e - p < 3
      rotate_left
      · refine strange (by rw [h7, if_neg he]; decide) ?_
        unfold aNm
        rw [if_pos h1, if_pos (h4 _ (by omega) (by omega)), if_pos (h4 _ (by omega) (by omega))]
      · have hv := dval_le (p := p) (e := e) hT
        have ea : aNm T lo hi p = aRng lo hi (dval T p e) p e := by
          unfold aNm dval
          rw [if_pos h1]
          by_cases e1 : e = p + 1
          · subst e1
            rw [if_neg h5, if_neg (by omega), if_pos rfl]
          · have e2 : e = p + 2 := by omega
            subst e2
            rw [if_pos (h4 _ (by omega) (by omega)), if_neg h5, if_neg (by omega), if_neg (by omega)]
        rw [h7, if_pos he, if_pos rfl, h8, ea, inE (by omega) (by omega), nI_toInt (by omega)]
        unfold aRng
        by_cases hr : lo ≤ dval T p e ∧ dval T p e ≤ hi
        · obtain ⟨m', a1, a2, a3⟩ := h.yes (q := e) (2 : Int32) hn hT h3 h6
          rw [if_pos (by omega), if_pos hr, a1, bd2_d, h8]
          exact ⟨_, m', rfl, a2, fun r hr => by cases hr; rfl, a3⟩
        · obtain ⟨m', a1, a2, a3⟩ := h.no 2 hn
          rw [if_neg (by omega), if_neg hr, show f_X7_takes (0 : Int32) (2 : Int32) m = _ from a1, bd2_d]
          exact ⟨0, m', rfl, a2, fun r hr => (by cases hr), a3⟩
    · refine strange (by rw [h4]; exact tkO_2 _ (by have := hT p; omega)) ?_
      unfold aNm
      rw [if_neg h2]
theorem m_fol {T : Bs} {m0 m : Mm} {s : Fa ⊕ Nat} {lo hi : Nat} (hn : T.2 ≤ 110) (hT : ∀ k, T.1 k ≤ 255) (hlo : lo ≤ 1) (hhi : hi ≤ 99) (h : MS T m0 m s) : ∃ v m', f_X7_follows (nI lo) (nI hi) m = some (v, m') ∧ MS T m0 m' (nxt (bnd (bnd s (aSg T 44)) (aNm T lo hi))) ∧ (∀ r, bnd (bnd s (aSg T 44)) (aNm T lo hi) = .inr r → v = nI r.1) ∧ ∀ a, a ≠ 298 → m' a = m a := by
  obtain ⟨v1, m1, a1, a2, a3⟩ := m_sg (j := 3) (c := 44) hn hT (Or.inl ⟨rfl, rfl⟩) h
  obtain ⟨v, m', b1, b2, b3, b4⟩ := m_fig hn hT hlo hhi a2
  unfold f_X7_follows
  have a1' : f_X7_takes (if m 298 11 = (3 : Int32) then (1 : Int32) else (0 : Int32)) (1 : Int32) m = some (v1, m1) := a1
  rw [nm_d, a1', bd2_d, b1, bd2_d]
  exact ⟨v, m', rfl, b2, b3, fun a ha => by rw [b4 a ha, a3 a ha]⟩
/-- the sort of what stands at p, as the reference asks -/
theorem TOK.so {m : Mm} {T : Bs} {p : Nat} (hT : ∀ k, T.1 k ≤ 255) (h : TOK m T p) : (aSo T p = 0 ∧ (m 298 11 = (1 : Int32) → f_X7_kindOf (m 298 12) ≤ 0)) ∨ (aSo T p ≠ 0 ∧ m 298 11 = 1 ∧ f_X7_kindOf (m 298 12) = nI (aSo T p) ∧ m 298 9 = nI (p + 1) ∧ p < T.2) := by
  rcases h.2.2 with ⟨h1, h2, h3⟩ | ⟨h1, e, h2, h3, h4, h5, h6, h7, h8⟩ | ⟨h1, h2, h3, h4, h5⟩
  · refine Or.inl ⟨?_, fun x => ?_⟩
    · unfold aSo; rw [if_neg (by omega)]
    · rw [h2] at x; exact absurd x (by decide)
  · have d := isD_of.mp h1
    refine Or.inl ⟨?_, fun x => ?_⟩
    · unfold aSo srt
      rw [if_pos d.1, if_neg (by omega), if_neg (by omega), if_neg (by omega), if_neg (by omega), if_neg (by omega)]
    · rw [h7] at x
      split at x
      · exact absurd x (by decide)
      · exact absurd x (by decide)
  · have hb := hT p
    have hk : f_X7_kindOf (m 298 12) = nI (aSo T p) := by
      rw [h5, kindE _ (by omega)]
      unfold aSo
      rw [if_pos h1]
    by_cases x : aSo T p = 0
    · refine Or.inl ⟨x, fun _ => ?_⟩
      rw [hk, x]; decide
    · have hl : ∀ c, c < 256 → srt c ≠ 0 → nI (tkO c) = (1 : Int32) := by decide +kernel
      refine Or.inr ⟨x, ?_, hk, h3, h1⟩
      rw [h4]
      refine hl _ (by omega) ?_
      unfold aSo at x
      rw [if_pos h1] at x
      exact x
