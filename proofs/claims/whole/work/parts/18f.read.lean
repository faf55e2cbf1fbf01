theorem bnd_inl {α β : Type} {x : Fa ⊕ α} {f : α → Fa ⊕ β} {e : Fa} (h : bnd x f = .inl e) : x = .inl e ∨ ∃ a, x = .inr a ∧ f a = .inl e := by
  cases x with
  | inl q => exact Or.inl (by cases h; rfl)
  | inr a => exact Or.inr ⟨a, rfl, h⟩
theorem bnd_inr {α β : Type} {x : Fa ⊕ α} {f : α → Fa ⊕ β} {b : β} (h : bnd x f = .inr b) : ∃ a, x = .inr a ∧ f a = .inr b := by
  cases x with
  | inl q => cases h
  | inr a => exact ⟨a, rfl, h⟩
/-- the chain of a guest, step by step -/
def x1S (T : Bs) (s : Fa ⊕ Nat) : Fa ⊕ (Nat × Nat) := bnd s (aNm T 0 9)
def x2S (T : Bs) (s : Fa ⊕ Nat) : Fa ⊕ (Nat × Nat) := bnd (bnd (nxt (x1S T s)) (aSg T 44)) (aNm T 0 99)
def x3S (T : Bs) (s : Fa ⊕ Nat) : Fa ⊕ (Nat × Nat) := bnd (bnd (nxt (x2S T s)) (aSg T 44)) (aNm T 0 9)
def x4S (T : Bs) (s : Fa ⊕ Nat) : Fa ⊕ Nat := bnd (nxt (x3S T s)) (aSg T 59)
theorem chain_inr {T : Bs} {g p p4 : Nat} (h0 : aSo T p ≠ 0) (h7 : g < 7) (h : x4S T (.inr (p + 1)) = .inr p4) : ∃ s w f, x1S T (.inr (p + 1)) = .inr s ∧ x2S T (.inr (p + 1)) = .inr w ∧ x3S T (.inr (p + 1)) = .inr f ∧ aGst T g p = .inr ((aSo T p, s.1, w.1, f.1), p4) := by
  obtain ⟨c3, h3, k4⟩ := bnd_inr (x := nxt (x3S T (.inr (p + 1)))) h
  obtain ⟨f, h3', e3⟩ := bnd_inr (x := x3S T (.inr (p + 1))) h3
  cases e3
  obtain ⟨c2, h2, k3⟩ := bnd_inr (x := bnd (nxt (x2S T (.inr (p + 1)))) (aSg T 44)) h3'
  obtain ⟨d2, h2', k2⟩ := bnd_inr (x := nxt (x2S T (.inr (p + 1)))) h2
  obtain ⟨w, h2'', e2⟩ := bnd_inr (x := x2S T (.inr (p + 1))) h2'
  cases e2
  obtain ⟨c1, h1, k1⟩ := bnd_inr (x := bnd (nxt (x1S T (.inr (p + 1)))) (aSg T 44)) h2''
  obtain ⟨d1, h1', j1⟩ := bnd_inr (x := nxt (x1S T (.inr (p + 1)))) h1
  obtain ⟨s, h1'', e1⟩ := bnd_inr (x := x1S T (.inr (p + 1))) h1'
  cases e1
  refine ⟨s, w, f, h1'', h2'', h3', ?_⟩
  have hs : aNm T 0 9 (p + 1) = .inr s := h1''
  unfold aGst
  rw [if_neg h0, if_neg (by omega), hs]
  simp only [bnd]
  rw [j1]
  simp only [bnd]
  rw [k1]
  simp only [bnd]
  rw [k2]
  simp only [bnd]
  rw [k3]
  simp only [bnd]
  rw [k4]
theorem chain_inl {T : Bs} {g p : Nat} {e : Fa} (h0 : aSo T p ≠ 0) (h7 : g < 7) (h : x4S T (.inr (p + 1)) = .inl e) : aGst T g p = .inl e := by
  unfold aGst
  rw [if_neg h0, if_neg (by omega)]
  cases e1 : aNm T 0 9 (p + 1) with
  | inl q =>
    have : x4S T (.inr (p + 1)) = .inl q := by
      unfold x4S x3S x2S x1S
      simp only [bnd, nxt, e1]
    rw [this] at h; cases h; rfl
  | inr s =>
    simp only [bnd]
    cases e2 : aSg T 44 s.2 with
    | inl q =>
      have : x4S T (.inr (p + 1)) = .inl q := by
        unfold x4S x3S x2S x1S
        simp only [bnd, nxt, e1, e2]
      rw [this] at h; cases h; rfl
    | inr p2 =>
      simp only
      cases e3 : aNm T 0 99 p2 with
      | inl q =>
        have : x4S T (.inr (p + 1)) = .inl q := by
          unfold x4S x3S x2S x1S
          simp only [bnd, nxt, e1, e2, e3]
        rw [this] at h; cases h; rfl
      | inr w =>
        simp only
        cases e4 : aSg T 44 w.2 with
        | inl q =>
          have : x4S T (.inr (p + 1)) = .inl q := by
            unfold x4S x3S x2S x1S
            simp only [bnd, nxt, e1, e2, e3, e4]
          rw [this] at h; cases h; rfl
        | inr p3 =>
          simp only
          cases e5 : aNm T 0 9 p3 with
          | inl q =>
            have : x4S T (.inr (p + 1)) = .inl q := by
              unfold x4S x3S x2S x1S
              simp only [bnd, nxt, e1, e2, e3, e4, e5]
            rw [this] at h; cases h; rfl
          | inr f =>
            simp only
            cases e6 : aSg T 59 f.2 with
            | inl q =>
              have : x4S T (.inr (p + 1)) = .inl q := by
                unfold x4S x3S x2S x1S
                simp only [bnd, nxt, e1, e2, e3, e4, e5, e6]
              rw [this] at h; cases h; rfl
            | inr p4 =>
              have : x4S T (.inr (p + 1)) = .inr p4 := by
                unfold x4S x3S x2S x1S
                simp only [bnd, nxt, e1, e2, e3, e4, e5, e6]
              rw [this] at h; cases h
theorem x4_ill {T : Bs} {e : Fa} : x4S T (.inl e) = .inl e := rfl
set_option maxHeartbeats 1000000 in
theorem m_guest {T : Bs} {m0 m : Mm} {V : Wv} {p : Nat} (hn : T.2 ≤ 110) (hT : ∀ k, T.1 k ≤ 255) (hV : IdV V) (h : MS T m0 m (.inr p)) (h0 : aSo T p ≠ 0) (hm : MW m 305 0 V) :
    (∃ r, aGst T (V 2) p = .inr r ∧ ∃ m', f_X7_readsGuest m = some m' ∧ MS T m0 m' (.inr r.2) ∧ MW m' 305 0 (addG V r.1)) ∨
    (∃ e, aGst T (V 2) p = .inl e ∧ ∃ m', f_X7_readsGuest m = some m' ∧ MS T m0 m' (.inl e)) := by
  have hn7 := hV.1.n
  rcases h.2.2.2.2.2.so hT with ⟨hz, -⟩ | ⟨-, t1, t2, t3, t4⟩
  · exact absurd hz h0
  have e2 : m 305 2 = nI (V 2) := hm.at (by omega)
  have q7 : ((7 : Int32) ≤ nI (V 2)) = (7 ≤ V 2) := nI_leE (a := 7) (by omega) (by omega)
  -- the first token, and the state behind it
  have hs1 : ∃ v m1, f_X7_takes (if 7 ≤ V 2 then (0 : Int32) else (1 : Int32)) (3 : Int32) m = some (v, m1) ∧ MS T m0 m1 (if 7 ≤ V 2 then .inl (3, p) else .inr (p + 1)) ∧ ∀ a, a ≠ 298 → m1 a = m a := by
    by_cases x : 7 ≤ V 2
    · obtain ⟨m', a1, a2, a3⟩ := h.no 3 hn
      rw [if_pos x, if_pos x]
      exact ⟨0, m', a1, a2, a3⟩
    · obtain ⟨m', a1, a2, a3⟩ := h.yes (q := p + 1) (3 : Int32) hn hT (by omega) t3
      rw [if_neg x, if_neg x]
      exact ⟨_, m', a1, a2, a3⟩
  obtain ⟨v1, m1, a1, b1, c1⟩ := hs1
  generalize hs : (if 7 ≤ V 2 then Sum.inl (3, p) else Sum.inr (p + 1) : Fa ⊕ Nat) = s at b1
  obtain ⟨v2, m2, a2, b2, d2, c2⟩ := m_fig (lo := 0) (hi := 9) hn hT (by omega) (by omega) b1
  obtain ⟨v3, m3, a3, b3, d3, c3⟩ := m_fol (lo := 0) (hi := 99) hn hT (by omega) (by omega) b2
  obtain ⟨v4, m4, a4, b4, d4, c4⟩ := m_fol (lo := 0) (hi := 9) hn hT (by omega) (by omega) b3
  obtain ⟨v5, m5, a5, b5, c5⟩ := m_sg (j := 4) (c := 59) hn hT (Or.inr ⟨rfl, rfl⟩) b4
  have b5' : MS T m0 m5 (x4S T s) := b5
  have d2' : ∀ r, x1S T s = .inr r → v2 = nI r.1 := d2
  have d3' : ∀ r, x2S T s = .inr r → v3 = nI r.1 := d3
  have d4' : ∀ r, x3S T s = .inr r → v4 = nI r.1 := d4
  have a1' : f_X7_takes (if 7 ≤ V 2 then (0 : Int32) else (1 : Int32)) (3 : Int32) m = some (v1, m1) := a1
  have a2' : f_X7_figure (0 : Int32) (9 : Int32) m1 = some (v2, m2) := a2
  have a3' : f_X7_follows (0 : Int32) (99 : Int32) m2 = some (v3, m3) := a3
  have a4' : f_X7_follows (0 : Int32) (9 : Int32) m3 = some (v4, m4) := a4
  have a5' : f_X7_takes (if m4 298 11 = (4 : Int32) then (1 : Int32) else (0 : Int32)) (1 : Int32) m4 = some (v5, m5) := a5
  have e2' : m1 305 2 = nI (V 2) := by rw [c1 305 (by omega)]; exact e2
  have hm5 : MW m5 305 0 V := hm.frame (by rw [c5 305 (by omega), c4 305 (by omega), c3 305 (by omega), c2 305 (by omega), c1 305 (by omega)])
  unfold f_X7_readsGuest
  rw [t2, nm_d, show ix (2 : Int32) = 2 from rfl, e2]
  simp only [q7, nm_d]
  rw [a1', bd2_d, e2']
  simp only [q7]
  rw [a2', bd2_d, a3', bd2_d, a4', bd2_d, a5', bd2_d]
  by_cases x : 7 ≤ V 2
  · rw [if_pos x] at hs
    subst hs
    have hill : MS T m0 m5 (.inl (3, p)) := b5'
    rw [hill.ill, if_pos rfl]
    refine Or.inr ⟨(3, p), ?_, m5, rfl, hill⟩
    unfold aGst
    rw [if_neg h0, if_pos x]
  · rw [if_neg x] at hs
    subst hs
    cases hx : x4S T (.inr (p + 1)) with
    | inl e =>
      rw [hx] at b5'
      rw [b5'.ill, if_pos rfl]
      exact Or.inr ⟨e, chain_inl h0 (by omega) hx, m5, rfl, b5'⟩
    | inr p4 =>
      rw [hx] at b5'
      obtain ⟨s, w, f, k1, k2, k3, k4⟩ := chain_inr h0 (show V 2 < 7 by omega) hx
      rw [b5'.well, if_neg (by decide), if_neg x, show (6 : Int32) + (7 : Int32) * nI (V 2) = nI (ig (V 2) 0) from igE0 _, show nI (ig (V 2) 0) + (1 : Int32) = nI (ig (V 2) 1) from nI_add _ 1, show nI (ig (V 2) 0) + (2 : Int32) = nI (ig (V 2) 2) from nI_add _ 2, show nI (ig (V 2) 0) + (3 : Int32) = nI (ig (V 2) 3) from nI_add _ 3, show nI (ig (V 2) 0) + (4 : Int32) = nI (ig (V 2) 4) from nI_add _ 4, show nI (ig (V 2) 0) + (5 : Int32) = nI (ig (V 2) 5) from nI_add _ 5]
      have i0 : ig (V 2) 0 < 55 := ig_lt (n := 7) (by omega) (by omega) (by omega)
      have i1 : ig (V 2) 1 < 55 := ig_lt (n := 7) (by omega) (by omega) (by omega)
      have i2 : ig (V 2) 2 < 55 := ig_lt (n := 7) (by omega) (by omega) (by omega)
      have i3 : ig (V 2) 3 < 55 := ig_lt (n := 7) (by omega) (by omega) (by omega)
      have i4 : ig (V 2) 4 < 55 := ig_lt (n := 7) (by omega) (by omega) (by omega)
      have i5 : ig (V 2) 5 < 55 := ig_lt (n := 7) (by omega) (by omega) (by omega)
      have z0 : ig (V 2) 0 = 6 + 7 * V 2 + 0 := rfl
      have z1 : ig (V 2) 1 = 6 + 7 * V 2 + 1 := rfl
      have z2 : ig (V 2) 2 = 6 + 7 * V 2 + 2 := rfl
      have z3 : ig (V 2) 3 = 6 + 7 * V 2 + 3 := rfl
      have z4 : ig (V 2) 4 = 6 + 7 * V 2 + 4 := rfl
      have z5 : ig (V 2) 5 = 6 + 7 * V 2 + 5 := rfl
      have e25 : m5 305 2 = nI (V 2) := hm5.at (by omega)
      rw [d2' s k1, d3' w k2, d4' f k3]
      simp (disch := omega) only [nm_d, ix_nI, gdM, st_n, e25, nI_s1]
      refine Or.inl ⟨((aSo T p, s.1, w.1, f.1), p4), k4, _, rfl, ((((((b5'.dr).dr).dr).dr).dr).dr).dr, fun k hk => ?_⟩
      rw [Nat.zero_add]
      unfold addG
      by_cases y2 : k = 2
      · subst y2; rw [st_s, if_pos rfl]
      rw [st_n (Or.inr y2), if_neg y2]
      by_cases y5 : k = ig (V 2) 5
      · subst y5
        rw [st_s, if_neg (by omega), if_neg (by omega), if_neg (by omega), if_neg (by omega), if_neg (by omega), if_pos rfl]; rfl
      rw [st_n (Or.inr y5)]
      by_cases y4 : k = ig (V 2) 4
      · subst y4
        rw [st_s, if_neg (by omega), if_neg (by omega), if_neg (by omega), if_neg (by omega), if_pos rfl]
      rw [st_n (Or.inr y4)]
      by_cases y3 : k = ig (V 2) 3
      · subst y3
        rw [st_s, if_neg (by omega), if_neg (by omega), if_neg (by omega), if_pos rfl]
      rw [st_n (Or.inr y3)]
      by_cases y1 : k = ig (V 2) 2
      · subst y1
        rw [st_s, if_neg (by omega), if_neg (by omega), if_pos rfl]
      rw [st_n (Or.inr y1)]
      by_cases y6 : k = ig (V 2) 1
      · subst y6
        rw [st_s, if_neg (by omega), if_pos rfl]
      rw [st_n (Or.inr y6)]
      by_cases y0 : k = ig (V 2) 0
      · subst y0
        rw [st_s, if_pos rfl]
      rw [st_n (Or.inr y0), if_neg y0, if_neg y6, if_neg y1, if_neg y3, if_neg y4, if_neg y5]
      exact hm5.at hk
/-- the reference's loop over the guests -/
theorem m_all {T : Bs} {m0 : Mm} (hn : T.2 ≤ 110) (hT : ∀ k, T.1 k ≤ 255) (hgb : ∀ g p r, aGst T g p = .inr r → g < 7 ∧ (1 ≤ r.1.1 ∧ r.1.1 ≤ 5 ∧ r.1.2.1 ≤ 9 ∧ r.1.2.2.1 ≤ 99 ∧ r.1.2.2.2 ≤ 9)) : ∀ (k f : Nat) (m : Mm) (V : Wv) (p : Nat), 8 ≤ V 2 + k → k + 1 < f → IdV V → MS T m0 m (.inr p) → MW m 305 0 V →
    ∃ m', lp_X7_wedding_135 f m = some m' ∧ ((∃ U p', aAll T k V p = .inr U ∧ MS T m0 m' (.inr p') ∧ T.2 ≤ p' ∧ MW m' 305 0 U) ∨ (∃ e, aAll T k V p = .inl e ∧ (MS T m0 m' (.inl e) ∨ ∃ p', MS T m0 m' (.inr p') ∧ p' < T.2 ∧ e = (1, p')))) := by
  intro k
  induction k with
  | zero => intro f m V p h8 _ hV; have := hV.1.n; omega
  | succ k ih =>
    intro f m V p h8 hf hV h hm
    obtain ⟨f1, rfl⟩ : ∃ f1, f = f1 + 2 := ⟨f - 2, by omega⟩
    have hB : ∀ m', lb_X7_wedding_135 (lp_X7_wedding_135 (f1 + 1)) m = m' → lp_X7_wedding_135 (f1 + 2) m = m' := fun m' h => h
    unfold lb_X7_wedding_135 at hB
    rw [h.well, if_neg (by decide)] at hB
    have hp := h.2.2.2.2.2.2.1
    rcases h.2.2.2.2.2.so hT with ⟨hz, t1⟩ | ⟨h0, t1, t2, t3, t4⟩
    · have hstop : (if m 298 11 = (1 : Int32) then (if (f_X7_kindOf (m 298 12)) ≤ 0 then (some m) else (bd1 (f_X7_readsGuest m) fun m32 => (lp_X7_wedding_135 (f1 + 1) m32))) else (some m)) = some m := by
        by_cases x : m 298 11 = (1 : Int32)
        · rw [if_pos x, if_pos (t1 x)]
        · rw [if_neg x]
      refine ⟨m, hB _ hstop, ?_⟩
      unfold aAll
      by_cases e : T.2 ≤ p
      · rw [if_pos e]
        exact Or.inl ⟨V, p, rfl, h, e, hm⟩
      · rw [if_neg e]
        have : aGst T (V 2) p = .inl (1, p) := by unfold aGst; rw [if_pos hz]
        rw [this]
        exact Or.inr ⟨(1, p), rfl, Or.inr ⟨p, h, by omega, rfl⟩⟩
    · have hk : ¬ f_X7_kindOf (m 298 12) ≤ 0 := by
        have : aSo T p ≤ 5 := by unfold aSo; split; exact srt_le _; omega
        rw [t2, n0, nI_leE (by omega) (by omega)]; omega
      rw [if_pos t1, if_neg hk] at hB
      unfold aAll
      rw [if_neg (by omega)]
      rcases m_guest hn hT hV h h0 hm with ⟨r, e1, m1, a1, b1, c1⟩ | ⟨e', e1, m1, a1, b1⟩
      · rw [a1, bd1_d] at hB
        rw [e1]
        obtain ⟨g7, gq⟩ := hgb _ _ _ e1
        obtain ⟨m', z1, z2⟩ := ih (f1 + 1) m1 (addG V r.1) r.2 (by rw [addG_2]; omega) (by omega) (addG_id hV g7 gq) b1 c1
        exact ⟨m', hB _ z1, z2⟩
      · rw [a1, bd1_d] at hB
        rw [e1]
        have hend : lp_X7_wedding_135 (f1 + 1) m1 = some m1 := by
          show lb_X7_wedding_135 (lp_X7_wedding_135 f1) m1 = _
          unfold lb_X7_wedding_135
          rw [b1.ill, if_pos rfl]
        exact ⟨m1, hB _ hend, Or.inr ⟨e', rfl, Or.inl b1⟩⟩
