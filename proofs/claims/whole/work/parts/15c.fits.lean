theorem SpAt.scr0 {fx fm : Mm → Option (Int32 × Mm)} {S : SS} (hS : OkS S) (r : Int32) (h1 : ∀ m, CInv m S → ∃ m', fx m = some (r, m') ∧ ∀ a, (a < 240 ∨ 262 ≤ a) → m' a = st_ m 0 9 (nI 0) a) (h2 : ∀ m, MInv m S → ∃ m', fm m = some (r, m') ∧ ∀ a, a ≠ 302 → a ≠ 306 → a ≠ 310 → a ≠ 311 → m' a = st_ m 298 4 (nI 0) a) : SpAt S fx fm := by
  refine ⟨r, setSt S 0, setSt_ok hS (by omega), fun m hm => ?_, fun m hm => ?_⟩
  · obtain ⟨m', e1, e2⟩ := h1 m hm
    exact ⟨m', e1, (setSt_C hm).frame (fun a _ ha => e2 a (by omega)) ⟨by rw [e2 3 (by omega)], by rw [e2 3 (by omega)], by rw [e2 3 (by omega)]⟩, fun a ha => by rw [e2 a (by omega), st_na (by omega)]⟩
  · obtain ⟨m', e1, e2⟩ := h2 m hm
    exact ⟨m', e1, (setSt_M hm).frame (fun a _ ha => e2 a (by omega) (by omega) (by omega) (by omega)) (fun k _ => by rw [e2 298 (by omega) (by omega) (by omega) (by omega)]), fun a ha => by rw [e2 a (by omega) (by omega) (by omega) (by omega), st_na (by omega)]⟩
/-- what fits answers -/
def fitA (V : Wv) (g n : Nat) (T : Nat → Int32) (what : Nat) : Int32 :=
  if what = 0 then bitL (fun v => asT g T n 0 (setP V (ig g 0) v)) 5 1 0
  else if what = 1 then bitL (fun v => asT g T n 0 (setP V (ig g 1) v)) 10 0 0
  else if what = 2 then bitL (fun v => asT g T n 0 (setP V 1 v)) 16 0 0
  else if what = 3 then nI (cntB 100 fun v => asT g T n 0 (setP V (ig g 2) v))
  else oE (fndO (fun v => asT g T n 0 (setP V (ig g 2) v)) 100 0) (-1000000)
theorem cl_fitA {m : Mm} {V : Wv} {g n what : Nat} {T : Nat → Int32} (hn : n ≤ 12) (hV : OkV V) (h3 : V 3 ≤ 9999) (hg : g < V 2) (hw : what ≤ 4) (hG : GH m g n T) (hc : CW m 13 V) : ∃ m', (if nI what = (0 : Int32) then (bd2 (f_X2_sorts 13 m) fun r16 m15 => (some (r16, m15)))
  else (if nI what = (1 : Int32) then (bd2 (f_X2_starts 13 m) fun r18 m17 => (some (r18, m17)))
  else (if nI what = (2 : Int32) then (bd2 (f_X2_hymnsHeard 13 m) fun r20 m19 => (some (r20, m19)))
  else (if nI what = (3 : Int32) then (bd2 (f_X2_wells 13 m) fun r22 m21 => (some (r22, m21)))
  else (bd2 (f_X2_leastWell 13 m) fun r24 m23 => (some (r24, m23))))))) = some (fitA V g n T what, m') ∧ ∀ a, (a < 252 ∨ 260 < a) → m' a = m a := by
  have hF := FU_big
  rcases (show what = 0 ∨ what = 1 ∨ what = 2 ∨ what = 3 ∨ what = 4 by omega) with h | h | h | h | h <;> subst h
  · obtain ⟨m', a1, a2⟩ := cl_sorts hn hV h3 hg 5 FU 1 m 0 (by omega) (by omega) (by omega) hG hc
    have a1' : lp_X2_sorts_4 13 FU (0 : Int32) (1 : Int32) m = _ := a1
    refine ⟨m', ?_, a2⟩
    rw [if_pos (show nI 0 = (0 : Int32) from rfl)]
    unfold f_X2_sorts
    rw [a1']; rfl
  · obtain ⟨m', a1, a2⟩ := cl_starts hn hV h3 hg 10 FU 0 m 0 (by omega) (by omega) hG hc
    have a1' : lp_X2_starts_4 13 FU (0 : Int32) (0 : Int32) m = _ := a1
    refine ⟨m', ?_, a2⟩
    rw [if_neg (show ¬ nI 1 = (0 : Int32) by decide), if_pos (show nI 1 = (1 : Int32) from rfl)]
    unfold f_X2_starts
    rw [a1']; rfl
  · obtain ⟨m', a1, a2⟩ := cl_heard hn hV h3 hg 16 FU 0 m 0 (by omega) (by omega) hG hc
    have a1' : lp_X2_hymnsHeard_4 13 FU (0 : Int32) (0 : Int32) m = _ := a1
    refine ⟨m', ?_, a2⟩
    rw [if_neg (show ¬ nI 2 = (0 : Int32) by decide), if_neg (show ¬ nI 2 = (1 : Int32) by decide), if_pos (show nI 2 = (2 : Int32) from rfl)]
    unfold f_X2_hymnsHeard
    rw [a1']; rfl
  · obtain ⟨m', a1, a2⟩ := cl_wells hn hV h3 hg 100 FU 0 m (by omega) (by omega) hG hc
    have a1' : lp_X2_wells_4 13 FU (0 : Int32) (0 : Int32) m = _ := a1
    refine ⟨m', ?_, a2⟩
    rw [if_neg (show ¬ nI 3 = (0 : Int32) by decide), if_neg (show ¬ nI 3 = (1 : Int32) by decide), if_neg (show ¬ nI 3 = (2 : Int32) by decide), if_pos (show nI 3 = (3 : Int32) from rfl)]
    unfold f_X2_wells
    rw [a1']; rfl
  · obtain ⟨m', a1, a2⟩ := cl_least hn hV h3 hg 100 FU 0 m (by omega) (by omega) hG hc
    have a1' : lp_X2_leastWell_2 13 FU (0 : Int32) m = _ := a1
    refine ⟨m', ?_, a2⟩
    rw [if_neg (show ¬ nI 4 = (0 : Int32) by decide), if_neg (show ¬ nI 4 = (1 : Int32) by decide), if_neg (show ¬ nI 4 = (2 : Int32) by decide), if_neg (show ¬ nI 4 = (3 : Int32) by decide)]
    unfold f_X2_leastWell
    rw [a1']
    show _ = some (oE (fndO (fun v => asT g T n 0 (setP V (ig g 2) v)) 100 0) (-1000000), m')
    cases fndO (fun v => asT g T n 0 (setP V (ig g 2) v)) 100 0 <;> rfl
theorem mo_fitA {m : Mm} {V : Wv} {g n i0 what : Nat} {T : Nat → Int32} (hn : n ≤ 12) (hi0 : i0 + n ≤ 320) (hV : OkV V) (h3 : V 3 ≤ 9999) (hg : g < V 2) (hw : what ≤ 4) (hT : ∀ k, k < n → m 301 (i0 + k) = T k) (hm : MW m 304 0 V) : ∃ m', (if (3 : Int32) ≤ nI what then (bd3 (lp_X7_fits_205 FU (nI g) (nI n) (nI what) (nI i0) (nI (ig g 0)) (0 : Int32) (-1000000 : Int32) (99 : Int32) m) fun z23 z24 m25 => (nm_ ((if nI what = (3 : Int32) then z23 else z24) : Int32) fun j28 => (bd2 (f_X7_well j28 m25) fun r30 m29 => (some (r30, m29)))))
  else (nm_ ((if nI what = 0 then (5 : Int32) else (if nI what = (1 : Int32) then (9 : Int32) else (15 : Int32))) : Int32) fun j33 => (nm_ ((if nI what = 0 then (1 : Int32) else (0 : Int32)) : Int32) fun j35 => (bd2 (lp_X7_fits_139 FU (nI g) (nI n) (nI what) (nI i0) (nI (ig g 0)) (0 : Int32) j33 j35 m) fun z45 m46 => (bd2 (f_X7_well z45 m46) fun r49 m48 => (some (r49, m48))))))) = some (fitA V g n T what, st_ m' 298 4 (nI 0)) ∧ ∀ a, a ≠ 306 → a ≠ 310 → m' a = m a := by
  have hF := FU_big
  have hn7 := hV.n
  have i0' : ig g 0 < 55 := ig_lt (n := 7) (by omega) (by omega) (by omega)
  have i1' : ig g 1 < 55 := ig_lt (n := 7) (by omega) (by omega) (by omega)
  have z : ig g 0 = 6 + 7 * g + 0 := rfl
  have z1 : ig g 1 = 6 + 7 * g + 1 := rfl
  rcases (show what = 0 ∨ what = 1 ∨ what = 2 ∨ what = 3 ∨ what = 4 by omega) with h | h | h | h | h <;> subst h
  · obtain ⟨m', a1, a2⟩ := mo_bits (p := ig g 0) (lo := 1) (hi := 5) (what := 0) (T := T) hn hi0 hg h3 i0' (by omega) (by omega) (by rw [if_neg (by decide)]; exact nI_add (ig g 0) 0) (by omega) (fun v h1 h2 => setP_ok (f := 0) hV hg (Or.inl ⟨rfl, h1, h2⟩)) 5 FU 1 m 0 (by omega) (by omega) (by omega) hT hm
    have a1' : lp_X7_fits_139 FU (nI g) (nI n) (nI 0) (nI i0) (nI (ig g 0)) (0 : Int32) (5 : Int32) (1 : Int32) m = _ := a1
    refine ⟨m', ?_, a2⟩
    rw [if_neg (by decide), if_pos (show nI 0 = (0 : Int32) from rfl), nm_d, if_pos (show nI 0 = (0 : Int32) from rfl), nm_d, a1']
    rfl
  · obtain ⟨m', a1, a2⟩ := mo_bits (p := ig g 1) (lo := 0) (hi := 9) (what := 1) (T := T) hn hi0 hg h3 i1' (by omega) (by omega) (by rw [if_neg (by decide)]; exact nI_add (ig g 0) 1) (by omega) (fun v h1 h2 => setP_ok (f := 1) hV hg (Or.inr (Or.inl ⟨rfl, h2⟩))) 10 FU 0 m 0 (by omega) (by omega) (by omega) hT hm
    have a1' : lp_X7_fits_139 FU (nI g) (nI n) (nI 1) (nI i0) (nI (ig g 0)) (0 : Int32) (9 : Int32) (0 : Int32) m = _ := a1
    refine ⟨m', ?_, a2⟩
    rw [if_neg (by decide), if_neg (show ¬ nI 1 = (0 : Int32) by decide), if_pos (show nI 1 = (1 : Int32) from rfl), nm_d, if_neg (show ¬ nI 1 = (0 : Int32) by decide), nm_d, a1']
    rfl
  · obtain ⟨m', a1, a2⟩ := mo_bits (p := 1) (lo := 0) (hi := 15) (what := 2) (T := T) hn hi0 hg h3 (by omega) (by omega) (by omega) (by rw [if_pos (by decide)]; rfl) (by omega) (fun v h1 h2 => hymV_ok hV h2) 16 FU 0 m 0 (by omega) (by omega) (by omega) hT hm
    have a1' : lp_X7_fits_139 FU (nI g) (nI n) (nI 2) (nI i0) (nI (ig g 0)) (0 : Int32) (15 : Int32) (0 : Int32) m = _ := a1
    refine ⟨m', ?_, a2⟩
    rw [if_neg (by decide), if_neg (show ¬ nI 2 = (0 : Int32) by decide), if_neg (show ¬ nI 2 = (1 : Int32) by decide), nm_d, if_neg (show ¬ nI 2 = (0 : Int32) by decide), nm_d, a1']
    rfl
  · obtain ⟨m', a1, a2⟩ := mo_wells (T := T) (nI 3) hn hi0 hV hg h3 100 FU m 0 (-1000000) (by omega) (by omega) hT hm
    have a1' : lp_X7_fits_205 FU (nI g) (nI n) (nI 3) (nI i0) (nI (ig g 0)) (0 : Int32) (-1000000 : Int32) (99 : Int32) m = _ := a1
    refine ⟨m', ?_, a2⟩
    rw [if_pos (by decide), a1', bd3_d, if_pos (show nI 3 = (3 : Int32) from rfl), nm_d, Nat.zero_add]
    rfl
  · obtain ⟨m', a1, a2⟩ := mo_wells (T := T) (nI 4) hn hi0 hV hg h3 100 FU m 0 (-1000000) (by omega) (by omega) hT hm
    have a1' : lp_X7_fits_205 FU (nI g) (nI n) (nI 4) (nI i0) (nI (ig g 0)) (0 : Int32) (-1000000 : Int32) (99 : Int32) m = _ := a1
    refine ⟨m', ?_, a2⟩
    rw [if_pos (by decide), a1', bd3_d, if_neg (show ¬ nI 4 = (3 : Int32) by decide), nm_d]
    rfl
set_option maxHeartbeats 1000000 in
theorem sp_fits (x1 x2 x3 x4 x5 : Int32) : Sp2 (f_X6_fits x1 x2 x3 x4 x5) (f_X7_fits x1 x2 x3 x4 x5) := fun S hS => by
  have hN := hS.2.2.2.1
  have hn := hN.v.n
  rcases gstIx S.2.2.2.1 hn x1 with hb | ⟨g, hg, rfl⟩
  · refine SpAt.keep hS (-1000001) (fun m hm => ?_) (fun m hm => ?_)
    · unfold f_X6_fits
      rw [(gst_bad hn hb).1 hm.2.2.2.1]; rfl
    · unfold f_X7_fits
      rw [(gst_bad (w := 13) hn hb).2 hm.2.2.2.1]; rfl
  have hW := hN.w (by omega)
  have hV := hW.1
  have h3 := hW.2.1
  have g1 : ∀ m, CInv m S → f_X5_has 13 (nI g) m = 1 := fun m hm => (gst_ok hn hg).1 hm.2.2.2.1
  have g2 : ∀ m, MInv m S → f_X7_isGuest (nI g) m = some 1 := fun m hm => (gst_ok (w := 13) hn hg).2 hm.2.2.2.1
  rcases rowIx x2 with hb | ⟨r, hr, rfl⟩
  · obtain ⟨e1, e2⟩ := isRow_bad hb
    exact SpAt.keep hS (-1000001) (fun m hm => by unfold f_X6_fits; rw [g1 m hm, e1]; rfl) (fun m hm => by unfold f_X7_fits; rw [g2 m hm, e2]; rfl)
  obtain ⟨e1, e2⟩ := isRow_ok hr
  rcases btw x4 1 12 (by omega) (by omega) with hb | ⟨n, hn1, hn2, rfl⟩
  · have hz : f_X7_in x4 (1 : Int32) (12 : Int32) = 0 := in_bad (lo := 1) (hi := 12) (by omega) (by omega) hb
    exact SpAt.keep hS (-1000001) (fun m hm => by unfold f_X6_fits; rw [g1 m hm, e1, withinE, hz]; rfl) (fun m hm => by unfold f_X7_fits; rw [g2 m hm, e2, hz]; rfl)
  have hz : f_X7_in (nI n) (1 : Int32) (12 : Int32) = 1 := in_ok (lo := 1) (hi := 12) (by omega) hn1 hn2
  rcases btw x5 0 4 (by omega) (by omega) with hb | ⟨wh, -, hw, rfl⟩
  · have hz5 : f_X7_in x5 (0 : Int32) (4 : Int32) = 0 := in_bad (lo := 0) (hi := 4) (by omega) (by omega) hb
    exact SpAt.keep hS (-1000001) (fun m hm => by unfold f_X6_fits; rw [g1 m hm, e1, withinE, hz, withinE, hz5]; rfl) (fun m hm => by unfold f_X7_fits; rw [g2 m hm, e2, hz, hz5]; rfl)
  have hz5 : f_X7_in (nI wh) (0 : Int32) (4 : Int32) = 1 := in_ok (lo := 0) (hi := 4) (by omega) (by omega) hw
  obtain ⟨hla, hsa⟩ := hS.1 r hr
  have c1 : ∀ m, CInv m S → f_X6_fits (nI g) (nI r) x3 (nI n) (nI wh) m = if S.1.1 r = true then (if fitB (S.1.2.2.1 r) x3 (nI n) = true then (bd1 (f_X2_listen (nI g) (264 + 2 * r + 1) 40 x3 (nI n) m) fun m13 => (nm_ ((st_ m13 0 9 (0 : Int32)) : Mm) fun m14 => (if nI wh = (0 : Int32) then (bd2 (f_X2_sorts 13 m14) fun r16 m15 => (some (r16, m15)))
      else (if nI wh = (1 : Int32) then (bd2 (f_X2_starts 13 m14) fun r18 m17 => (some (r18, m17)))
      else (if nI wh = (2 : Int32) then (bd2 (f_X2_hymnsHeard 13 m14) fun r20 m19 => (some (r20, m19)))
      else (if nI wh = (3 : Int32) then (bd2 (f_X2_wells 13 m14) fun r22 m21 => (some (r22, m21)))
      else (bd2 (f_X2_leastWell 13 m14) fun r24 m23 => (some (r24, m23)))))))))
      else some ((-1000010 : Int32) - 2, st_ m 0 9 (nI 2))) else some ((-1000010 : Int32) - 1, st_ m 0 9 (nI 1)) := fun m hm => by
    obtain ⟨q1, q2, q3, q4⟩ := hm.1 r hr
    unfold f_X6_fits f_X6_find
    rw [g1 m hm, e1, withinE, hz, withinE, hz5, if_neg (by decide), if_neg (by decide), if_neg (by decide), if_neg (by decide), gdN (by omega) (by omega), gdN (by omega) (by omega), gdN (by omega) (by omega), ix_nI (show r < 2147483648 by omega), rf1, nm_d, nm_d, nm_d, q1, fitIf, spansE q3 hsa, fitIf, nm_d, bd2_d, nm_d, bd2_d]
    rfl
  have c2 : ∀ m, MInv m S → f_X7_fits (nI g) (nI r) x3 (nI n) (nI wh) m = if S.1.1 r = true then (if fitB (S.1.2.2.1 r) x3 (nI n) = true then (nm_ ((((40 : Int32) * nI r) + x3) : Int32) fun v11 => (nm_ (((6 : Int32) + ((7 : Int32) * nI g)) : Int32) fun v12 => (if (3 : Int32) ≤ nI wh then (bd3 (lp_X7_fits_205 FU (nI g) (nI n) (nI wh) v11 v12 (0 : Int32) (-1000000 : Int32) (99 : Int32) m) fun z23 z24 m25 => (nm_ ((if nI wh = (3 : Int32) then z23 else z24) : Int32) fun j28 => (bd2 (f_X7_well j28 m25) fun r30 m29 => (some (r30, m29)))))
      else (nm_ ((if nI wh = 0 then (5 : Int32) else (if nI wh = (1 : Int32) then (9 : Int32) else (15 : Int32))) : Int32) fun j33 => (nm_ ((if nI wh = 0 then (1 : Int32) else (0 : Int32)) : Int32) fun j35 => (bd2 (lp_X7_fits_139 FU (nI g) (nI n) (nI wh) v11 v12 (0 : Int32) j33 j35 m) fun z45 m46 => (bd2 (f_X7_well z45 m46) fun r49 m48 => (some (r49, m48)))))))))
      else some ((-1000010 : Int32) - 2, st_ m 298 4 (nI 2))) else some ((-1000010 : Int32) - 1, st_ m 298 4 (nI 1)) := fun m hm => by
    obtain ⟨q1, q2, q3⟩ := hm.1 r hr
    unfold f_X7_fits f_X7_found
    rw [g2 m hm, bd1_d, e2, bd1_d, hz, hz5, if_neg (by decide), if_neg (by decide), if_neg (by decide), if_neg (by decide), mis hS.1 hm.1 hr, bd1_d, misIf2, partE hr q2 hsa, bd1_d, fitIf]
    rfl
  by_cases ta : S.1.1 r = true
  rotate_left
  · exact SpAt.found hS 1 (by omega) ((-1000010 : Int32) - 1) (fun m hm => by rw [c1 m hm, if_neg ta]) (fun m hm => by rw [c2 m hm, if_neg ta])
  by_cases fa : fitB (S.1.2.2.1 r) x3 (nI n) = true
  rotate_left
  · exact SpAt.found hS 2 (by omega) ((-1000010 : Int32) - 2) (fun m hm => by rw [c1 m hm, if_pos ta, if_neg fa]) (fun m hm => by rw [c2 m hm, if_pos ta, if_neg fa])
  obtain ⟨i, n', rfl, hn', hin⟩ := fitB_of hsa fa
  have hnn : n = n' := (nI_eq (a := n) (b := n') (by omega) (by omega)).mp hn'
  subst hnn
  refine SpAt.scr0 hS (fitA S.2.2.2.1 g n (fun k => S.1.2.2.2 r (i + k)) wh) (fun m hm => ?_) (fun m hm => ?_)
  · obtain ⟨q1, q2, q3, q4⟩ := hm.1 r hr
    rw [c1 m hm, if_pos ta, if_pos fa]
    unfold f_X2_listen
    rw [ix0, gd_t ⟨nI_pos (by omega), by decide, nI_pos (by omega), by rw [ix_nI (by omega), ix_nI (by omega)]; omega, by rw [ix_nI (by omega)]; omega⟩, ix_nI (show i < 2147483648 by omega), ix_nI (show n < 2147483648 by omega), nm_d, nm_d, nm_d, bd1_d, nm_d]
    have fr : ∀ a, (a < 240 ∨ 262 ≤ a) → st_ (st_ (st_ (cp_ m (264 + 2 * r + 1) i 261 0 n) 251 2 (nI n)) 251 3 (nI g)) 0 9 (0 : Int32) a = st_ m 0 9 (nI 0) a := fun a ha => by
      by_cases h0 : a = 0
      · subst h0
        funext k
        unfold st_
        rw [show cp_ m (264 + 2 * r + 1) i 261 0 n 0 = m 0 from cp_na (by omega)]
        simp
        rfl
      · rw [st_na h0, st_na h0, st_na (by omega), st_na (by omega), cp_na (by omega)]
    obtain ⟨m', z1, z2⟩ := cl_fitA (m := st_ (st_ (st_ (cp_ m (264 + 2 * r + 1) i 261 0 n) 251 2 (nI n)) 251 3 (nI g)) 0 9 (0 : Int32)) (V := S.2.2.2.1) (g := g) (n := n) (what := wh) (T := fun k => S.1.2.2.2 r (i + k)) hn2 hV h3 hg hw ⟨by rw [st_na (by omega), st_n (Or.inr (by omega)), st_s], by rw [st_na (by omega), st_s], fun k hk => by
      rw [st_na (by omega), st_na (by omega), st_na (by omega), cp_at (by omega) (by omega), Nat.sub_zero]
      exact q4 _ (by omega)⟩ (hm.2.2.2.1.frame fun a ha hb => by rw [fr a (by omega), st_na (by omega)])
    exact ⟨m', z1, fun a ha => by rw [z2 a (by omega), fr a ha]⟩
  · obtain ⟨q1, q2, q3⟩ := hm.1 r hr
    rw [c2 m hm, if_pos ta, if_pos fa, nm_d, nm_d, show (40 : Int32) * nI r = nI (40 * r) from nI_mulE 40 r, nI_add, show (6 : Int32) + (7 : Int32) * nI g = nI (ig g 0) from igE0 g]
    obtain ⟨m', z1, z2⟩ := mo_fitA (m := m) (V := S.2.2.2.1) (g := g) (n := n) (i0 := 40 * r + i) (what := wh) (T := fun k => S.1.2.2.2 r (i + k)) hn2 (by omega) hV h3 hg hw (fun k hk => by
      rw [show 40 * r + i + k = 40 * r + (i + k) by omega]
      exact q3 _ (by omega)) hm.2.2.2.1
    refine ⟨_, z1, fun a _ h1 h2 _ => ?_⟩
    unfold st_
    rw [z2 a h1 h2]
