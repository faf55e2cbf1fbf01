theorem sortE : ∀ c, c < 256 → f_X3_sortOf (nI c) = nI (srt c) := by decide +kernel
theorem kindE : ∀ c, c < 256 → f_X7_kindOf (nI c) = nI (srt c) := by decide +kernel
theorem srt_le (c : Nat) : srt c ≤ 5 := by
  unfold srt
  repeat' split
  all_goals omega
theorem addBit : ∀ g, g < 7 → ∀ h, h < 128 → h < 2 ^ g → ∀ j, j < 7 → (h + 2 ^ g) / 2 ^ j % 2 = if j = g then 1 else h / 2 ^ j % 2 := by decide +kernel
theorem pow_s (g : Nat) : 2 ^ (g + 1) = 2 ^ g + 2 ^ g := by rw [Nat.pow_succ]; omega
set_option maxHeartbeats 1000000 in
theorem c_welcome {m : Mm} {V : Wv} (q : Nat × Nat × Nat × Nat) (h : IdV V) (h7 : V 2 < 7) (hc : CW m 3 V) : ∃ m', f_X5_welcome 3 (nI q.1) (nI q.2.1) (nI q.2.2.1) (nI q.2.2.2) m = some m' ∧ CW m' 3 (addG V q) ∧ (∀ a, (a < 3 ∨ 11 < a) → m' a = m a) ∧ m' 3 3 = m 3 3 ∧ m' 3 4 = m 3 4 ∧ m' 3 5 = m 3 5 := by
  obtain ⟨hV, hs, hz, h3⟩ := h
  obtain ⟨h0, h1, h2, h3', h4, h5, ⟨b, h6, h7', h8⟩, hg⟩ := hc
  have h128 := two_pow_lt (show V 2 ≤ 7 by omega)
  have hor : nI b ||| ((1 : Int32) <<< (nI (V 2) &&& 31)) = nI (b + 2 ^ V 2) := by
    have := orE (V 2) h7 b (by omega) h7' 1 (by omega)
    rw [Nat.one_mul] at this
    exact this
  unfold f_X5_welcome
  simp (disch := omega) only [nm_d, st_na, st_n, h0, h6, ix_nI, gdM, hor, nI_s1]
  refine ⟨_, rfl, ?_, fun a ha => by simp (disch := omega) only [st_na], by simp (disch := omega) only [st_n], by simp (disch := omega) only [st_n], by simp (disch := omega) only [st_n]⟩
  refine ⟨?_, ?_, ?_, ?_, ?_, ?_, ⟨b + 2 ^ V 2, ?_, ?_, fun g hg2 => ?_⟩, fun g hg2 => ?_⟩
  · rw [addG_2]; simp (disch := omega) only [st_s]
  · rw [addG_lo (by omega) (by omega)]; simp (disch := omega) only [st_n]; exact h1
  · rw [addG_lo (by omega) (by omega)]; simp (disch := omega) only [st_n]; exact h2
  · rw [addG_lo (by omega) (by omega)]; simp (disch := omega) only [st_n]; exact h3'
  · rw [addG_lo (by omega) (by omega)]; simp (disch := omega) only [st_n]; exact h4
  · rw [addG_lo (by omega) (by omega)]; simp (disch := omega) only [st_n]; exact h5
  · simp (disch := omega) only [st_n, st_s]
  · rw [addG_2, pow_s]; omega
  · rw [addG_2] at hg2
    rw [addBit (V 2) h7 b (by omega) h7' g (by omega)]
    by_cases e : g = V 2
    · subst e; rw [if_pos rfl, addG_new hz (by omega)]; rfl
    · rw [if_neg e, addG_old (by omega) (by omega), h8 g (by omega)]
  · rw [addG_2] at hg2
    unfold CwG
    by_cases e : g = V 2
    · subst e
      rw [addG_new hz (f := 0) (by omega), addG_new hz (f := 1) (by omega), addG_new hz (f := 2) (by omega), addG_new hz (f := 3) (by omega), addG_new hz (f := 4) (by omega), addG_new hz (f := 6) (by omega)]
      simp only [Nat.reduceEqDiff, reduceIte]
      refine ⟨?_, ?_, ?_, ?_, ?_, ?_, ?_⟩ <;> simp (disch := omega) only [st_na, st_s] <;> rfl
    · have hgl : g < V 2 := by omega
      obtain ⟨c1, c2, c3, c4, c5, c6, c7⟩ := hg g hgl
      have hs4 := hs g hgl
      rw [addG_old hgl (f := 0) (by omega), addG_old hgl (f := 1) (by omega), addG_old hgl (f := 2) (by omega), addG_old hgl (f := 3) (by omega), addG_old hgl (f := 4) (by omega), addG_old hgl (f := 6) (by omega)]
      refine ⟨?_, ?_, ?_, ?_, ?_, ?_, ?_⟩ <;> simp (disch := omega) only [st_na, st_n]
      · exact c1
      · exact c2
      · exact c3
      · exact c4
      · exact c5
      · exact c6
      · exact c7
theorem CW.c2 {m m' : Mm} {V : Wv} (h : CW m 3 V) (hf : ∀ a, a ≠ 2 → m' a = m a) : CW m' 3 V := h.frame fun a ha hb => hf a (by omega)
set_option maxHeartbeats 1000000 in
theorem c_guest {T : Bs} {m0 m : Mm} {V : Wv} {p : Nat} (hn : T.2 ≤ 110) (hT : ∀ k, T.1 k ≤ 255) (hV : IdV V) (h : CS T m0 m (.inr p)) (hc : CW m 3 V) :
    (∃ r, aGst T (V 2) p = .inr r ∧ ∃ m', f_X3_readGuest m = some (1, m') ∧ CS T m0 m' (.inr r.2) ∧ CW m' 3 (addG V r.1) ∧ V 2 < 7 ∧ (1 ≤ r.1.1 ∧ r.1.1 ≤ 5 ∧ r.1.2.1 ≤ 9 ∧ r.1.2.2.1 ≤ 99 ∧ r.1.2.2.2 ≤ 9)) ∨
    (∃ e, aGst T (V 2) p = .inl e ∧ ∃ m', f_X3_readGuest m = some (0, m') ∧ CS T m0 m' (.inl e)) := by
  have hn7 := hV.1.n
  have hp := h.2.2.2.2.2
  have hso : aSo T p ≤ 5 := by unfold aSo; split; exact srt_le _; omega
  have hj : (if m 2 2 ≤ m 2 3 then some (0 : Int32) else gd_ (¬ ((m 2 3) < 0 ∨ 110 ≤ ix (m 2 3))) (some (f_X3_sortOf (m 12 (ix (m 2 3)))))) = some (nI (aSo T p)) := by
    have q1 : (nI T.2 ≤ nI p) = (T.2 ≤ p) := nI_leE (by omega) (by omega)
    rw [h.1.1, h.2.2.2.1]
    simp only [q1]
    unfold aSo
    by_cases e : T.2 ≤ p
    · rw [if_pos e, if_neg (by omega)]; rfl
    · rw [if_neg e, if_pos (by omega), gdN (by omega) (by omega), ix_nI (by omega), h.1.2 p (by omega), sortE _ (by have := hT p; omega)]
  have qs : (nI (aSo T p) = (0 : Int32)) = (aSo T p = 0) := nI_eqE (b := 0) (by omega) (by omega)
  have q7 : (nI (V 2) < (7 : Int32)) = (V 2 < 7) := nI_ltE (b := 7) (by omega) (by omega)
  unfold aGst f_X3_readGuest f_X3_refuse
  rw [hj, bd1_d, hc.1]
  simp only [qs, q7, nm_d, bd2_d]
  by_cases e0 : aSo T p = 0
  · rw [if_pos e0, if_pos e0]
    exact Or.inr ⟨(1, p), rfl, _, rfl, h.bad 1⟩
  rw [if_neg e0, if_neg e0]
  by_cases e7 : V 2 < 7
  rotate_left
  · rw [if_neg e7, if_pos (by omega)]
    exact Or.inr ⟨(3, p), rfl, _, rfl, h.bad 3⟩
  have hpl : p < T.2 := by
    unfold aSo at e0
    by_cases x : p < T.2
    · exact x
    · rw [if_neg x] at e0; exact absurd rfl e0
  rw [if_pos e7, if_neg (by omega), h.2.2.2.1, nI_s1]
  have h0 := h.go (p' := p + 1) (by omega)
  have k0 : ∀ a, a ≠ 2 → st_ m 2 3 (nI (p + 1)) a = m a := fun a ha => st_na ha
  rcases CS.num (lo := 0) (hi := 9) hn hT (by omega) (by omega) h0 with ⟨s, e1, m1, a1, b1, d1, -, c1⟩ | ⟨e, e1, m1, a1, b1, c1⟩
  rotate_left
  · rw [show f_X3_number (0 : Int32) (9 : Int32) _ = _ from a1, e1]
    exact Or.inr ⟨e, rfl, m1, by rw [bd2_d, if_pos (by decide)], b1⟩
  rw [show f_X3_number (0 : Int32) (9 : Int32) (st_ m 2 3 (nI (p + 1))) = _ from a1, e1]
  simp only [bnd, bd2_d, lt0N (show s.1 < 2147483648 by omega), if_false]
  rcases CS.sign (c := 44) hn hT (by omega) b1 with ⟨p2, e2, m2, a2, b2, c2⟩ | ⟨e, e2, m2, a2, b2⟩
  rotate_left
  · rw [show f_X3_sign (44 : Int32) m1 = _ from a2, e2]
    exact Or.inr ⟨e, rfl, m2, rfl, b2⟩
  rw [show f_X3_sign (44 : Int32) m1 = _ from a2, e2]
  simp only [bd2_d]
  rw [if_neg (show ¬ (1 : Int32) = 0 by decide)]
  rcases CS.num (lo := 0) (hi := 99) hn hT (by omega) (by omega) b2 with ⟨w, e3, m3, a3, b3, d3, -, c3⟩ | ⟨e, e3, m3, a3, b3, c3⟩
  rotate_left
  · rw [show f_X3_number (0 : Int32) (99 : Int32) m2 = _ from a3, e3]
    exact Or.inr ⟨e, rfl, m3, by rw [bd2_d, if_pos (by decide)], b3⟩
  rw [show f_X3_number (0 : Int32) (99 : Int32) m2 = _ from a3, e3]
  simp only [bd2_d, lt0N (show w.1 < 2147483648 by omega), if_false]
  rcases CS.sign (c := 44) hn hT (by omega) b3 with ⟨p4, e4, m4, a4, b4, c4⟩ | ⟨e, e4, m4, a4, b4⟩
  rotate_left
  · rw [show f_X3_sign (44 : Int32) m3 = _ from a4, e4]
    exact Or.inr ⟨e, rfl, m4, rfl, b4⟩
  rw [show f_X3_sign (44 : Int32) m3 = _ from a4, e4]
  simp only [bd2_d]
  rw [if_neg (show ¬ (1 : Int32) = 0 by decide)]
  rcases CS.num (lo := 0) (hi := 9) hn hT (by omega) (by omega) b4 with ⟨f, e5, m5, a5, b5, d5, -, c5⟩ | ⟨e, e5, m5, a5, b5, c5⟩
  rotate_left
  · rw [show f_X3_number (0 : Int32) (9 : Int32) m4 = _ from a5, e5]
    exact Or.inr ⟨e, rfl, m5, by rw [bd2_d, if_pos (by decide)], b5⟩
  rw [show f_X3_number (0 : Int32) (9 : Int32) m4 = _ from a5, e5]
  simp only [bd2_d, lt0N (show f.1 < 2147483648 by omega), if_false]
  rcases CS.sign (c := 59) hn hT (by omega) b5 with ⟨p6, e6, m6, a6, b6, c6⟩ | ⟨e, e6, m6, a6, b6⟩
  rotate_left
  · rw [show f_X3_sign (59 : Int32) m5 = _ from a6, e6]
    exact Or.inr ⟨e, rfl, m6, rfl, b6⟩
  rw [show f_X3_sign (59 : Int32) m5 = _ from a6, e6]
  simp only [bd2_d]
  rw [if_neg (show ¬ (1 : Int32) = 0 by decide)]
  have hc6 : CW m6 3 V := hc.c2 fun a ha => by rw [c6 a ha, c5 a ha, c4 a ha, c3 a ha, c2 a ha, c1 a ha, k0 a ha]
  obtain ⟨m7, w1, w2, w3, w4, w5, w6⟩ := c_welcome (aSo T p, s.1, w.1, f.1) hV e7 hc6
  rw [w1, bd1_d]
  refine Or.inl ⟨((aSo T p, s.1, w.1, f.1), p6), rfl, m7, rfl, ?_, w2, e7, Nat.pos_of_ne_zero e0, hso, d1, d3, d5⟩
  obtain ⟨⟨u1, u2⟩, u3, u4, u5, u6, u7⟩ := b6
  refine ⟨⟨by rw [w3 2 (by omega)]; exact u1, fun k hk => by rw [w3 12 (by omega)]; exact u2 k hk⟩, fun a ha => by rw [w3 a (by omega)]; exact u3 a ha, by rw [w4, w5, w6]; exact u4, by rw [w3 2 (by omega)]; exact u5, by rw [w3 2 (by omega)]; exact u6, u7⟩
def aAll (T : Bs) : Nat → Wv → Nat → Fa ⊕ Wv
  | 0, _, p => .inl (1, p)
  | k + 1, V, p => if T.2 ≤ p then .inr V else bnd (aGst T (V 2) p) fun r => aAll T k (addG V r.1) r.2
def V0 (nd hy : Nat) : Wv := fun k => if k = 0 then nd else if k = 1 then hy else 0
def aPar (T : Bs) : Fa ⊕ Wv := bnd (aLaw T) fun l => bnd (aGst T (V0 l.1 l.2.1 2) l.2.2) fun r => aAll T 8 (addG (V0 l.1 l.2.1) r.1) r.2
theorem V0_id {nd hy : Nat} (h1 : nd ≤ 99) (h2 : hy ≤ 15) : IdV (V0 nd hy) := by
  have z : ∀ k, 2 ≤ k → V0 nd hy k = 0 := fun k hk => by
    unfold V0
    rw [if_neg (by omega), if_neg (by omega)]
  refine ⟨⟨h1, h2, by rw [z 2 (by omega)]; omega, by rw [z 3 (by omega)]; omega, by rw [z 4 (by omega)]; omega, by rw [z 5 (by omega)]; omega, fun g hg => ?_, fun g h hg => ?_, fun p hp => ?_⟩, fun g hg => ?_, fun k hk => z k (by omega), z 3 (by omega)⟩
  · rw [z 2 (by omega)] at hg; omega
  · rw [z 2 (by omega)] at hg; omega
  · rw [z 2 (by omega)] at hp; omega
  · rw [z 2 (by omega)] at hg; omega
theorem c_all {T : Bs} {m0 : Mm} (hn : T.2 ≤ 110) (hT : ∀ k, T.1 k ≤ 255) : ∀ (k f i : Nat) (m : Mm) (V : Wv) (p : Nat), 8 ≤ V 2 + k → i + k ≤ 100 → k + 1 < f → IdV V → 1 ≤ V 2 → 1 ≤ V 0 → CS T m0 m (.inr p) → CW m 3 V →
    (∃ U, aAll T k V p = .inr U ∧ ∃ m' p', lp_X3_read_43 f (1 : Int32) (nI i) m = some (1, m') ∧ CS T m0 m' (.inr p') ∧ CW m' 3 U ∧ IdV U ∧ 1 ≤ U 2 ∧ 1 ≤ U 0) ∨
    (∃ e, aAll T k V p = .inl e ∧ ∃ m', lp_X3_read_43 f (1 : Int32) (nI i) m = some (0, m') ∧ CS T m0 m' (.inl e)) := by
  intro k
  induction k with
  | zero => intro f i m V p h8 _ _ hV; have := hV.1.n; omega
  | succ k ih =>
    intro f i m V p h8 hi hf hV h2 h0 h hc
    obtain ⟨f1, rfl⟩ : ∃ f1, f = f1 + 2 := ⟨f - 2, by omega⟩
    have hp := h.2.2.2.2.2
    have hB : ∀ m', lb_X3_read_43 (lp_X3_read_43 (f1 + 1)) (1 : Int32) (nI i) m = m' → lp_X3_read_43 (f1 + 2) (1 : Int32) (nI i) m = m' := fun m' h => h
    unfold lb_X3_read_43 at hB
    have q1 : (nI T.2 ≤ nI p) = (T.2 ≤ p) := nI_leE (by omega) (by omega)
    rw [if_neg (by rw [show (110 : Int32) = nI 110 from rfl, nI_leE (by omega) (by omega)]; omega), if_neg (show ¬ (1 : Int32) = 0 by decide), h.1.1, h.2.2.2.1] at hB
    simp only [q1, nm_d, nI_s1] at hB
    unfold aAll
    by_cases e : T.2 ≤ p
    · rw [if_pos e] at hB
      rw [if_pos e]
      exact Or.inl ⟨V, rfl, m, p, hB _ rfl, h, hc, hV, h2, h0⟩
    · rw [if_neg e] at hB
      rw [if_neg e]
      rcases c_guest hn hT hV h hc with ⟨r, e1, m1, a1, b1, c1, d1, d2⟩ | ⟨e', e1, m1, a1, b1⟩
      · rw [a1, bd2_d] at hB
        rw [e1]
        have hz := hV.2.2.1
        rcases ih (f1 + 1) (i + 1) m1 (addG V r.1) r.2 (by rw [addG_2]; omega) (by omega) (by omega) (addG_id hV d1 d2) (by rw [addG_2]; omega) (by rw [addG_lo (by omega) (by omega)]; exact h0) b1 c1 with ⟨U, z1, m', p', z2, z3⟩ | ⟨e', z1, m', z2, z3⟩
        · exact Or.inl ⟨U, z1, m', p', hB _ z2, z3⟩
        · exact Or.inr ⟨e', z1, m', hB _ z2, z3⟩
      · rw [a1, bd2_d] at hB
        rw [e1]
        have hend : lp_X3_read_43 (f1 + 1) (0 : Int32) (nI (i + 1)) m1 = some (0, m1) := by
          show lb_X3_read_43 (lp_X3_read_43 f1) (0 : Int32) (nI (i + 1)) m1 = _
          unfold lb_X3_read_43
          rw [if_neg (by rw [show (110 : Int32) = nI 110 from rfl, nI_leE (by omega) (by omega)]; omega), if_pos rfl]
        exact Or.inr ⟨e', rfl, m1, hB _ hend, b1⟩
