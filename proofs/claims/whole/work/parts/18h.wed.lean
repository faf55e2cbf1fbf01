set_option maxHeartbeats 1000000 in
theorem m_wed {T : Bs} {m : Mm} (hn : T.2 ≤ 110) (hT : ∀ k, T.1 k ≤ 255) (hB : MB m T) :
    (∃ U, aPar T = .inr U ∧ ∃ m1 p m2 m', f_X7_wedding m = some (nI (U 2), m') ∧ MS T m m1 (.inr p) ∧ MW m1 305 0 U ∧ (MW m2 304 0 U ∧ ∀ a, a ≠ 304 → m2 a = st_ m1 298 6 0 a) ∧ m' = st_ m2 298 17 0) ∨
    (∃ e, aPar T = .inl e ∧ ∃ m1, f_X7_wedding m = some ((-1000100 : Int32) - nI e.2, st_ m1 298 6 0) ∧ MS T m m1 (.inl e)) := by
  have hF := FU_big
  obtain ⟨mz, zz1, zz2, zz3⟩ := m_zero 55 FU 0 m (by omega) (by omega) (fun j hj => by omega)
  have zz1' : lp_X7_wedding_2 FU (0 : Int32) m = some mz := zz1
  have hBz : MB (st_ (st_ mz 298 9 (0 : Int32)) 298 8 (-1 : Int32)) T := ⟨by rw [st_n (Or.inr (by omega)), st_n (Or.inr (by omega)), zz3 298 (by omega)]; exact hB.1, fun k hk => by rw [st_na (by omega), st_na (by omega), zz3 303 (by omega)]; exact hB.2 k hk⟩
  obtain ⟨ma, aa1, aa2, aa3⟩ := m_adv hn hT (Nat.zero_le _) hBz (by rw [st_n (Or.inr (by omega)), st_s]; rfl)
  have hsa : MS T m ma (.inr 0) := by
    refine ⟨hBz.fr aa3, fun a ha hb => by rw [aa3.1 a ha, st_na ha, st_na ha, zz3 a hb], fun k hk => by rw [aa3.2 k (by omega), st_n (Or.inr (by omega)), st_n (Or.inr (by omega)), zz3 298 (by omega)], by rw [aa3.2 8 (by omega), st_s], by rw [aa3.2 7 (by omega), st_n (Or.inr (by omega)), st_n (Or.inr (by omega)), zz3 298 (by omega)], aa2⟩
  have d0 : ∀ j, j < 55 → ma 305 j = 0 := fun j hj => by rw [aa3.1 305 (by omega), st_na (by omega), st_na (by omega)]; exact zz2 j hj
  -- w
  have hw : ∃ v m1, f_X7_takes (if ma 298 11 = (1 : Int32) then (if ma 298 12 = (119 : Int32) then (1 : Int32) else (0 : Int32)) else (0 : Int32)) (1 : Int32) ma = some (v, m1) ∧ MS T m m1 (aSg T 119 0) ∧ ∀ a, a ≠ 298 → m1 a = ma a := by
    unfold aSg
    rcases aa2.w hT with ⟨h1, h2, h3, h4⟩ | ⟨h1, h2⟩
    · obtain ⟨m', a1, a2, a3⟩ := hsa.yes (q := 1) (1 : Int32) hn hT (by omega) h4
      rw [h1, if_pos ⟨h2, h3⟩]
      exact ⟨_, m', a1, a2, a3⟩
    · obtain ⟨m', a1, a2, a3⟩ := hsa.no 1 hn
      rw [h1, if_neg h2]
      exact ⟨_, m', a1, a2, a3⟩
  obtain ⟨v1, m1, a1, b1, c1⟩ := hw
  obtain ⟨v2, m2, a2, b2, d2, c2⟩ := m_fig (lo := 1) (hi := 99) hn hT (by omega) (by omega) b1
  obtain ⟨v3, m3, a3, b3, d3, c3⟩ := m_fol (lo := 0) (hi := 15) hn hT (by omega) (by omega) (b2.dr (j := 0) (v := v2))
  obtain ⟨v4, m4, a4, b4, c4⟩ := m_sg (j := 4) (c := 59) hn hT (Or.inr ⟨rfl, rfl⟩) (b3.dr (j := 1) (v := v3))
  have b4' : MS T m m4 (l4S T) := b4
  have d2' : ∀ r, l2S T = .inr r → v2 = nI r.1 := d2
  have d3' : ∀ r, l3S T = .inr r → v3 = nI r.1 := d3
  have a2' : f_X7_figure (1 : Int32) (99 : Int32) m1 = some (v2, m2) := a2
  have a3' : f_X7_follows (0 : Int32) (15 : Int32) (st_ m2 305 0 v2) = some (v3, m3) := a3
  have a4' : f_X7_takes (if st_ m3 305 1 v3 298 11 = (4 : Int32) then (1 : Int32) else (0 : Int32)) (1 : Int32) (st_ m3 305 1 v3) = some (v4, m4) := a4
  unfold f_X7_wedding
  rw [zz1', bd1_d, nm_d, nm_d, aa1, bd1_d, nm_d, a1, bd2_d, a2', bd2_d, ix0, nm_d, a3', bd2_d, show ix (1 : Int32) = 1 from rfl, nm_d, nm_d, a4', bd2_d, nm_d]
  -- what follows when there is a fault
  have bad : ∀ (mm : Mm) (e : Fa), MS T m mm (.inl e) → (bd1 (lp_X7_wedding_135 FU mm) fun m33 => (nm_ ((if (m33 298 11) = 0 then (1 : Int32) else (0 : Int32)) : Int32) fun j36 => (bd1 (f_X7_must j36 m33) fun m37 => (nm_ ((st_ m37 298 6 (0 : Int32)) : Mm) fun m38 => (if (f_X7_isWell m38) = 0 then (some (((-1000100 : Int32) - (m38 298 8)), m38)) else (bd1 (f_X7_copies 305 55 (0 : Int32) 304 55 (0 : Int32) m38) fun m40 => (nm_ ((st_ m40 298 17 (0 : Int32)) : Mm) fun m41 => (some ((m41 304 (ix (2 : Int32))), m41)))))))) ) = some ((-1000100 : Int32) - nI e.2, st_ mm 298 6 0) := by
    intro mm e h
    have hl : lp_X7_wedding_135 FU mm = some mm := by
      obtain ⟨f, hf⟩ : ∃ f, FU = f + 1 := ⟨FU - 1, by omega⟩
      rw [hf]
      show lb_X7_wedding_135 (lp_X7_wedding_135 f) mm = _
      unfold lb_X7_wedding_135
      rw [h.ill, if_pos rfl]
    have hi : f_X7_isWell (st_ mm 298 6 (0 : Int32)) = 0 := by
      have := h.ill
      unfold f_X7_isWell at *
      rw [st_n (Or.inr (by omega))]
      exact this
    rw [hl, bd1_d, nm_d, h.mustI, bd1_d, nm_d, hi, if_pos rfl, st_n (Or.inr (by omega)), h.2.2.2.1]
  rcases law_chain T with ⟨e, k1, k2⟩ | ⟨p, v, w, k1, k2, k3, k4⟩
  · rw [k1] at b4'
    rw [b4'.mustI, bd1_d, bad m4 e b4']
    refine Or.inr ⟨e, ?_, m4, rfl, b4'⟩
    unfold aPar
    rw [k2]; rfl
  rw [k1] at b4'
  obtain ⟨q1, q2, q3⟩ := aLaw_ok k4
  have hid := V0_id (nd := v.1) (hy := w.1) q2 q3
  have hm4 : MW m4 305 0 (V0 v.1 w.1) := by
    intro j hj
    rw [Nat.zero_add, c4 305 (by omega)]
    unfold V0
    by_cases j1 : j = 1
    · subst j1
      rw [st_s, if_neg (by omega), if_pos rfl, d3' w k3]
    · rw [st_n (Or.inr j1), c3 305 (by omega)]
      by_cases j0 : j = 0
      · subst j0
        rw [st_s, if_pos rfl, d2' v k2]
      · rw [st_n (Or.inr j0), c2 305 (by omega), c1 305 (by omega), d0 j hj, if_neg j0, if_neg j1]; rfl
  rcases b4'.2.2.2.2.2.so hT with ⟨hz, t1⟩ | ⟨h0, t1, t2, t3, t4⟩
  · have hj : (if m4 298 11 = (1 : Int32) then (if f_X7_kindOf (m4 298 12) ≤ 0 then (0 : Int32) else (1 : Int32)) else (0 : Int32)) = 0 := by
      by_cases x : m4 298 11 = (1 : Int32)
      · rw [if_pos x, if_pos (t1 x)]
      · rw [if_neg x]
    obtain ⟨m5, f1, f2⟩ := b4'.must0 hn
    rw [hj, f1, bd1_d, bad m5 (1, p) f2]
    refine Or.inr ⟨(1, p), ?_, m5, rfl, f2⟩
    unfold aPar
    rw [k4]
    show bnd (aGst T _ p) _ = _
    have : aGst T (V0 v.1 w.1 2) p = .inl (1, p) := by unfold aGst; rw [if_pos hz]
    rw [this]; rfl
  have hj : (if m4 298 11 = (1 : Int32) then (if f_X7_kindOf (m4 298 12) ≤ 0 then (0 : Int32) else (1 : Int32)) else (0 : Int32)) = 1 := by
    have hk : ¬ f_X7_kindOf (m4 298 12) ≤ 0 := by
      have := aSo_le T p
      rw [t2, n0, nI_leE (by omega) (by omega)]; omega
    rw [if_pos t1, if_neg hk]
  have hpar : aPar T = aAll T 9 (V0 v.1 w.1) p := by
    unfold aPar
    rw [k4]
    show bnd (aGst T (V0 v.1 w.1 2) p) _ = if T.2 ≤ p then _ else bnd (aGst T (V0 v.1 w.1 2) p) _
    rw [if_neg (by omega)]
  obtain ⟨m5, f1, f2⟩ := m_all hn hT (fun g p r h => aGst_ok h) 9 FU m4 (V0 v.1 w.1) p (by omega) (by omega) hid b4' hm4
  rw [hj, must1, bd1_d, f1, bd1_d, nm_d, hpar]
  rcases f2 with ⟨U, p', g1, g2, g3, g4⟩ | ⟨e, g1, g2⟩
  · rw [if_pos ((g2.2.2.2.2.2.end hT).1 g3), must1, bd1_d, nm_d]
    have hwl : f_X7_isWell (st_ m5 298 6 (0 : Int32)) = 1 := by
      have := g2.well
      unfold f_X7_isWell at *
      rw [st_n (Or.inr (by omega))]
      exact this
    obtain ⟨m6, h1, h2, h3, h4⟩ := mo_copy (m := st_ m5 298 6 (0 : Int32)) (q1 := 305) (z1 := 55) (o1 := 0) (q3 := 304) (z3 := 55) (o3 := 0) (V := U) (by omega) (by omega) (by omega) (by omega) (by omega) (g4.frame (st_na (by omega)))
    have h1' : f_X7_copies 305 55 (0 : Int32) 304 55 (0 : Int32) (st_ m5 298 6 (0 : Int32)) = some m6 := h1
    rw [hwl, if_neg (by decide), h1', bd1_d, nm_d, show ix (2 : Int32) = 2 from rfl, st_na (by omega), h2.at (by omega)]
    exact Or.inl ⟨U, g1, m5, p', m6, _, rfl, g2, g4, ⟨h2, h3⟩, rfl⟩
  · rcases g2 with g2 | ⟨p', g2, g3, rfl⟩
    · rw [g2.mustI, bd1_d, nm_d]
      have hi : f_X7_isWell (st_ m5 298 6 (0 : Int32)) = 0 := by
        have := g2.ill
        unfold f_X7_isWell at *
        rw [st_n (Or.inr (by omega))]
        exact this
      rw [hi, if_pos rfl, st_n (Or.inr (by omega)), g2.2.2.2.1]
      exact Or.inr ⟨e, g1, m5, rfl, g2⟩
    · obtain ⟨m6, h1, h2⟩ := g2.must0 hn
      rw [if_neg ((g2.2.2.2.2.2.end hT).2 g3), h1, bd1_d, nm_d]
      have hi : f_X7_isWell (st_ m6 298 6 (0 : Int32)) = 0 := by
        have := h2.ill
        unfold f_X7_isWell at *
        rw [st_n (Or.inr (by omega))]
        exact this
      rw [hi, if_pos rfl, st_n (Or.inr (by omega)), h2.2.2.2.1]
      exact Or.inr ⟨(1, p'), g1, m6, rfl, h2⟩
set_option maxHeartbeats 1000000 in
theorem sp_wedding : Sp2 f_X6_wedding f_X7_wedding := fun S hS => by
  obtain ⟨hn, hT, hft⟩ := hS.2.2.1
  obtain ⟨pk1, pk2⟩ := aPar_ok (T := (S.2.2.1.2.1, S.2.2.1.1))
  cases hp : aPar (S.2.2.1.2.1, S.2.2.1.1) with
  | inl e =>
    refine ⟨(-1000100 : Int32) - nI e.2, (S.1, S.2.1, (0, S.2.2.1.2.1, e.1), S.2.2.2), ⟨hS.1, hS.2.1, ⟨Nat.zero_le _, hT, pk2 e hp⟩, hS.2.2.2⟩, fun m hm => ?_, fun m hm => ?_⟩
    · obtain ⟨h1, h2, h3, h4, h5, h6, h7, h8⟩ := hm
      rcases c_read (T := (S.2.2.1.2.1, S.2.2.1.1)) hn hT ⟨h3.1, h3.2.1⟩ h8 with ⟨U, e1, -⟩ | ⟨e', e1, m', m1, a1, rfl, a2⟩
      · rw [hp] at e1; cases e1
      rw [hp] at e1; cases e1
      obtain ⟨u1, u2, u3, u4, u5⟩ := a2
      unfold f_X6_wedding
      rw [a1, bd2_d, if_pos rfl, st_n (Or.inr (by omega)), u4]
      have ot : ∀ a, (a < 2 ∨ 11 < a) → st_ m1 2 2 (0 : Int32) a = m a := fun a ha => by rw [st_na (by omega)]; exact u2 a ha
      refine ⟨_, rfl, ⟨h1.frame fun a ha hb => ot a (by omega), by rw [ot 0 (by omega)]; exact h2, ⟨st_s, fun k hk => absurd hk (Nat.not_lt_zero k), by rw [st_n (Or.inr (by omega))]; exact u5⟩, h4.frame fun a ha hb => ot a (by omega), h5.frame fun a ha hb => ot a (by omega), h6.frame fun a ha hb => ot a (by omega), by rw [ot 0 (by omega), ot 263 (by omega)]; exact h7, by rw [st_na (by omega)]; exact u3⟩, fun a ha => ot a (by omega)⟩
    · obtain ⟨h1, h2, h3, h4, h5, h6, h7⟩ := hm
      rcases m_wed (T := (S.2.2.1.2.1, S.2.2.1.1)) hn hT ⟨h3.1, h3.2.1⟩ with ⟨U, e1, -⟩ | ⟨e', e1, m1, a1, a2⟩
      · rw [hp] at e1; cases e1
      rw [hp] at e1; cases e1
      obtain ⟨u1, u2, u3, u4, u5, u6⟩ := a2
      have ot : ∀ a, a ≠ 298 → a ≠ 305 → st_ m1 298 6 (0 : Int32) a = m a := fun a ha hb => by rw [st_na ha]; exact u2 a ha hb
      have o8 : ∀ k, k ≠ 6 → (k < 7 ∨ 12 < k) → st_ m1 298 6 (0 : Int32) 298 k = m 298 k := fun k hk hk2 => by rw [st_n (Or.inr hk)]; exact u3 k hk2
      refine ⟨_, a1, ⟨h1.frame fun a ha hb => ot a (by omega) (by omega), by rw [o8 4 (by omega) (by omega)]; exact h2, ⟨st_s, fun k hk => absurd hk (Nat.not_lt_zero k), by rw [st_n (Or.inr (by omega))]; exact u6⟩, h4.frame (ot 304 (by omega) (by omega)), h5.frame (o8 17 (by omega) (by omega)) (ot 307 (by omega) (by omega)), h6.frame (ot 309 (by omega) (by omega)) (ot 308 (by omega) (by omega)), by rw [o8 23 (by omega) (by omega), ot 312 (by omega) (by omega)]; exact h7⟩, fun a ha => ot a (by omega) (by omega)⟩
  | inr U =>
    obtain ⟨w1, w2, w3⟩ := pk1 U hp
    have hUW : OkW U := ⟨w1.1, by rw [w1.2.2.2]; omega, w3, w2⟩
    have hn7 := w1.1.n
    refine ⟨nI (U 2), (S.1, S.2.1, (0, S.2.2.1.2.1, S.2.2.1.2.2), U, [], S.2.2.2.2.2), ⟨hS.1, hS.2.1, ⟨Nat.zero_le _, hT, hft⟩, Or.inl hUW, ⟨by show 0 ≤ 24; omega, fun V hV => by cases hV⟩, hS.2.2.2.2.2⟩, fun m hm => ?_, fun m hm => ?_⟩
    · obtain ⟨h1, h2, h3, h4, h5, h6, h7, h8⟩ := hm
      rcases c_read (T := (S.2.2.1.2.1, S.2.2.1.1)) hn hT ⟨h3.1, h3.2.1⟩ h8 with ⟨U', e1, m', m1, p, a1, rfl, a2, a3, -⟩ | ⟨e', e1, -⟩
      rotate_left
      · rw [hp] at e1; cases e1
      rw [hp] at e1; cases e1
      obtain ⟨u1, u2, u3, u4, u5, u6⟩ := a2
      have ot : ∀ a, (a < 2 ∨ 11 < a) → st_ m1 2 2 (0 : Int32) a = m a := fun a ha => by rw [st_na (by omega)]; exact u2 a ha
      obtain ⟨m2, b1, b2, b3⟩ := cl_become (m := st_ m1 2 2 (0 : Int32)) (w0 := 13) (w1 := 3) (by omega) hn7 w1.1.seats (a3.frame fun a ha hb => st_na (by omega))
      unfold f_X6_wedding f_X0_forget
      rw [a1, bd2_d, if_neg (by decide), b1, bd1_d, nm_d, bd1_d, st_na (by omega), b2.1]
      have o2 : ∀ a, a ≠ 2 → (a < 3 ∨ 20 < a) → a ≠ 22 → st_ m2 22 2 (0 : Int32) a = m a := fun a ha hb hc => by rw [st_na hc, b3 a (by omega), ot a (by omega)]
      obtain ⟨-, nx, hnx, hx1, -⟩ := h5
      have e22 : m2 22 = m 22 := by rw [b3 22 (by omega), ot 22 (by omega)]
      have e2 : st_ m2 22 2 (0 : Int32) 2 = st_ m1 2 2 (0 : Int32) 2 := by rw [st_na (by omega), b3 2 (by omega)]
      have e3 : st_ m2 22 2 (0 : Int32) 3 = m1 3 := by rw [st_na (by omega), b3 3 (by omega), st_na (by omega)]
      refine ⟨_, rfl, ⟨h1.frame fun a ha hb => o2 a (by omega) (by omega) (by omega), by rw [o2 0 (by omega) (by omega) (by omega)]; exact h2, ⟨by rw [e2, st_s]; rfl, fun k hk => absurd hk (Nat.not_lt_zero k), by rw [e2, st_n (Or.inr (by omega)), u5]; exact h3.2.2⟩, b2.frame fun a ha hb => st_na (by omega), ⟨st_s, nx, hnx, by rw [st_n (Or.inr (by omega)), e22]; exact hx1, fun j V hV => by cases hV⟩, h6.frame fun a ha hb => o2 a (by omega) (by omega) (by omega), by rw [o2 0 (by omega) (by omega) (by omega), o2 263 (by omega) (by omega) (by omega)]; exact h7, by rw [e3]; exact u3⟩, fun a ha => o2 a (by omega) (by omega) (by omega)⟩
    · obtain ⟨h1, h2, h3, h4, h5, h6, h7⟩ := hm
      rcases m_wed (T := (S.2.2.1.2.1, S.2.2.1.1)) hn hT ⟨h3.1, h3.2.1⟩ with ⟨U', e1, m1, p, m2, m', a1, a2, a3, ⟨a4, a5⟩, rfl⟩ | ⟨e', e1, -⟩
      rotate_left
      · rw [hp] at e1; cases e1
      rw [hp] at e1; cases e1
      obtain ⟨u1, u2, u3, u4, u5, u6⟩ := a2
      have ot : ∀ a, a ≠ 298 → a ≠ 304 → a ≠ 305 → st_ m2 298 17 (0 : Int32) a = m a := fun a ha hb hc => by rw [st_na ha, a5 a hb, st_na ha]; exact u2 a ha hc
      have o8 : ∀ k, k ≠ 6 → k ≠ 17 → (k < 7 ∨ 12 < k) → st_ m2 298 17 (0 : Int32) 298 k = m 298 k := fun k hk hk1 hk2 => by rw [st_n (Or.inr hk1), a5 298 (by omega), st_n (Or.inr hk)]; exact u3 k hk2
      refine ⟨_, a1, ⟨h1.frame fun a ha hb => ot a (by omega) (by omega) (by omega), by rw [o8 4 (by omega) (by omega) (by omega)]; exact h2, ⟨by rw [st_n (Or.inr (by omega)), a5 298 (by omega), st_s]; rfl, fun k hk => absurd hk (Nat.not_lt_zero k), by rw [st_n (Or.inr (by omega)), a5 298 (by omega), st_n (Or.inr (by omega)), u5]; exact h3.2.2⟩, a4.frame (st_na (by omega)), ⟨st_s, fun j V hV => by cases hV⟩, h6.frame (ot 309 (by omega) (by omega) (by omega)) (ot 308 (by omega) (by omega) (by omega)), by rw [o8 23 (by omega) (by omega) (by omega), ot 312 (by omega) (by omega) (by omega)]; exact h7⟩, fun a ha => ot a (by omega) (by omega) (by omega)⟩
