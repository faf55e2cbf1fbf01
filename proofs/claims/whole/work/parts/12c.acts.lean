def sgm (a b g : Nat) : Nat := if g = a then b else if g = b then a else g
def swapV (V : Wv) (a b : Nat) : Wv := fun k => if k = ig a 4 then V (ig b 4) else if k = ig b 4 then V (ig a 4) else V k
theorem ig4 {a b : Nat} : (ig a 4 = ig b 4) = (a = b) := by unfold ig; exact propext ⟨fun h => by omega, fun h => by omega⟩
theorem swapV_4 (V : Wv) (a b g : Nat) : swapV V a b (ig g 4) = V (ig (sgm a b g) 4) := by
  unfold swapV sgm
  simp only [ig4]
  by_cases h : g = a
  · rw [if_pos h, if_pos h]
  · rw [if_neg h, if_neg h]
    by_cases h2 : g = b
    · rw [if_pos h2, if_pos h2]
    · rw [if_neg h2, if_neg h2]
theorem swapV_o {V : Wv} {a b k : Nat} (h : k < 6 ∨ (k - 6) % 7 ≠ 4) : swapV V a b k = V k := by
  unfold swapV ig
  rw [if_neg (by omega), if_neg (by omega)]
theorem swapV_f {V : Wv} {a b g f : Nat} (hf : f < 7) (h : f ≠ 4) : swapV V a b (ig g f) = V (ig g f) := swapV_o (by unfold ig; omega)
theorem sgm_lt {a b g n : Nat} (ha : a < n) (hb : b < n) (hg : g < n) : sgm a b g < n := by
  unfold sgm
  split
  · exact hb
  split
  · exact ha
  · exact hg
theorem sgm_inv (a b g : Nat) : sgm a b (sgm a b g) = g := by
  unfold sgm
  by_cases h : g = a
  · rw [if_pos h]
    by_cases h2 : b = a
    · rw [if_pos h2, h, h2]
    · rw [if_neg h2, if_pos rfl, h]
  · rw [if_neg h]
    by_cases h2 : g = b
    · rw [if_pos h2, if_pos rfl, h2]
    · rw [if_neg h2, if_neg h, if_neg h2]
theorem swapV_ok {V : Wv} {a b : Nat} (hV : OkV V) (ha : a < V 2) (hb : b < V 2) : OkV (swapV V a b) := by
  have e : ∀ k, k < 6 → swapV V a b k = V k := fun k hk => swapV_o (Or.inl hk)
  obtain ⟨h0, h1, h2, h3, h4, h5, h6, h7, h8⟩ := hV
  refine ⟨by rw [e 0 (by omega)]; exact h0, by rw [e 1 (by omega)]; exact h1, by rw [e 2 (by omega)]; exact h2, by rw [e 3 (by omega)]; exact h3, by rw [e 4 (by omega)]; exact h4, by rw [e 5 (by omega)]; exact h5, ?_, ?_, ?_⟩
  · rw [e 2 (by omega)]
    intro g hg
    obtain ⟨b1, b2, b3, b4, b5, b6, b7, b8, b9⟩ := h6 g hg
    unfold GdV
    rw [swapV_4, e 2 (by omega), swapV_f (f := 0) (by omega) (by omega), swapV_f (f := 1) (by omega) (by omega), swapV_f (f := 2) (by omega) (by omega), swapV_f (f := 3) (by omega) (by omega), swapV_f (f := 5) (by omega) (by omega), swapV_f (f := 6) (by omega) (by omega)]
    exact ⟨b1, b2, b3, b4, b5, (h6 _ (sgm_lt ha hb hg)).2.2.2.2.2.1, b7, b8, b9⟩
  · rw [e 2 (by omega)]
    intro g g' hg hg' he
    rw [swapV_4, swapV_4] at he
    have := h7 _ _ (sgm_lt ha hb hg) (sgm_lt ha hb hg') he
    rw [← sgm_inv a b g, this, sgm_inv]
  · rw [e 2 (by omega)]
    intro p hp
    obtain ⟨g, hg, he⟩ := h8 p hp
    exact ⟨sgm a b g, sgm_lt ha hb hg, by rw [swapV_4, sgm_inv]; exact he⟩
set_option maxHeartbeats 1000000 in
theorem cl_trade {m : Mm} {w a b : Nat} {V : Wv} (hV : OkV V) (hc : CW m w V) (ha : a < V 2) (hb : b < V 2) (hab : a ≠ b) : ∃ m', f_X5_trade w (nI a) (nI b) m = some m' ∧ CW m' w (swapV V a b) ∧ ∀ q, (q < w ∨ w + 7 < q) → m' q = m q := by
  have hn := hV.n
  have sa := hV.seats a ha
  have sb := hV.seats b hb
  have hsab : V (ig a 4) ≠ V (ig b 4) := fun h => hab (hV.inj a b ha hb h)
  have ea := (hc.g ha).2.2.2.2.2.1
  have eb := (hc.g hb).2.2.2.2.2.1
  unfold f_X5_trade f_X5_sit
  simp (disch := omega) only [nm_d, gdM, ix_nI, ea, eb, bd1_d]
  refine ⟨_, rfl, ?_, fun q hq => by simp (disch := omega) only [st_na]⟩
  have e : ∀ k, k < 6 → swapV V a b k = V k := fun k hk => swapV_o (Or.inl hk)
  obtain ⟨h0, h1, h2, h3, h4, h5, ⟨h, h6, h7, h8⟩, hg⟩ := hc
  have ot : ∀ q, q ≠ w + 6 → q ≠ w + 7 → st_ (st_ (st_ (st_ m (w + 6) a (nI (V (ig b 4)))) (w + 7) (V (ig b 4)) (nI a)) (w + 6) b (nI (V (ig a 4)))) (w + 7) (V (ig a 4)) (nI b) q = m q := fun q h6 h7 => by rw [st_na h7, st_na h6, st_na h7, st_na h6]
  refine ⟨by rw [ot w (by omega) (by omega), e 2 (by omega)]; exact h0, by rw [ot w (by omega) (by omega), e 0 (by omega)]; exact h1, by rw [ot w (by omega) (by omega), e 1 (by omega)]; exact h2, by rw [ot w (by omega) (by omega), e 3 (by omega)]; exact h3, by rw [ot w (by omega) (by omega), e 4 (by omega)]; exact h4, by rw [ot w (by omega) (by omega), e 5 (by omega)]; exact h5, ⟨h, by rw [ot w (by omega) (by omega)]; exact h6, by rw [e 2 (by omega)]; exact h7, fun g hg2 => by rw [e 2 (by omega)] at hg2; rw [swapV_f (by omega) (by omega)]; exact h8 g hg2⟩, fun g hg2 => ?_⟩
  rw [e 2 (by omega)] at hg2
  obtain ⟨c1, c2, c3, c4, c5, c6, c7⟩ := hg g hg2
  have sg := hV.seats g hg2
  unfold CwG
  rw [ot (w + 1) (by omega) (by omega), ot (w + 2) (by omega) (by omega), ot (w + 3) (by omega) (by omega), ot (w + 4) (by omega) (by omega), ot (w + 5) (by omega) (by omega), swapV_4, swapV_f (f := 0) (by omega) (by omega), swapV_f (f := 1) (by omega) (by omega), swapV_f (f := 2) (by omega) (by omega), swapV_f (f := 3) (by omega) (by omega), swapV_f (f := 6) (by omega) (by omega)]
  refine ⟨c1, c2, c3, c4, c5, ?_, ?_⟩
  · rw [st_n (Or.inl (by omega))]
    unfold sgm
    by_cases h1 : g = b
    · subst h1
      rw [st_s, if_neg (Ne.symm hab), if_pos rfl]
    · rw [st_n (Or.inr h1), st_n (Or.inl (by omega))]
      by_cases h2 : g = a
      · subst h2; rw [st_s, if_pos rfl]
      · rw [st_n (Or.inr h2), if_neg h2, if_neg h1]; exact c6
  · unfold sgm
    by_cases h1 : g = a
    · subst h1
      rw [if_pos rfl, st_n (Or.inr (Ne.symm hsab)), st_n (Or.inl (by omega)), st_s]
    · rw [if_neg h1]
      by_cases h2 : g = b
      · subst h2; rw [if_pos rfl, st_s]
      · rw [if_neg h2, st_n (Or.inr (fun h => h1 (hV.inj g a hg2 ha h))), st_n (Or.inl (by omega)), st_n (Or.inr (fun h => h2 (hV.inj g b hg2 hb h))), st_n (Or.inl (by omega))]
        exact c7
theorem mo_changes {m : Mm} {q nq a b : Nat} {V : Wv} (hq : 55 ≤ nq) (hn : V 2 ≤ 7) (hm : MW m q 0 V) (ha : a < V 2) (hb : b < V 2) (hab : a ≠ b) : ∃ m', f_X7_changes q nq (nI a) (nI b) m = some m' ∧ MW m' q 0 (swapV V a b) ∧ (∀ c, c ≠ q → m' c = m c) ∧ ∀ k, 55 ≤ k → m' q k = m q k := by
  have i4 : ig a 4 < 55 := ig_lt (n := 7) (by omega) (by omega) (by omega)
  have j4 : ig b 4 < 55 := ig_lt (n := 7) (by omega) (by omega) (by omega)
  have hne : ig a 4 ≠ ig b 4 := by rw [Ne, ig4]; exact hab
  unfold f_X7_changes
  rw [show (6 : Int32) + (7 : Int32) * nI a + (4 : Int32) = nI (ig a 4) from igE a 4, show (6 : Int32) + (7 : Int32) * nI b + (4 : Int32) = nI (ig b 4) from igE b 4]
  simp (disch := omega) only [nm_d, gdM, ix_nI, hm.at i4, hm.at j4]
  refine ⟨_, rfl, fun k hk => ?_, fun c hc => by rw [st_na hc, st_na hc], fun k hk => by rw [st_n (Or.inr (by omega)), st_n (Or.inr (by omega))]⟩
  rw [Nat.zero_add]
  show _ = nI (if k = ig a 4 then V (ig b 4) else if k = ig b 4 then V (ig a 4) else V k)
  by_cases h1 : k = ig b 4
  · subst h1; rw [st_s, if_neg (Ne.symm hne), if_pos rfl]
  · rw [st_n (Or.inr h1)]
    by_cases h2 : k = ig a 4
    · subst h2; rw [st_s, if_pos rfl]
    · rw [st_n (Or.inr h2), if_neg h2, if_neg h1, hm.at hk]
theorem swapV_okW {V : Wv} {a b : Nat} (hW : OkW V) (ha : a < V 2) (hb : b < V 2) : OkW (swapV V a b) := ⟨swapV_ok hW.1 ha hb, by rw [swapV_o (by omega)]; exact hW.2.1, by rw [swapV_o (by omega)]; exact hW.2.2.1, by rw [swapV_o (by omega)]; exact hW.2.2.2⟩
set_option maxHeartbeats 1000000 in
theorem sp_swap (x1 x2 : Int32) : Sp2 (f_X6_swap x1 x2) (f_X7_swap x1 x2) := fun S hS => by
  have hN := hS.2.2.2.1
  have hn := hN.v.n
  rcases gstIx S.2.2.2.1 hn x1 with hb | ⟨a, ha, rfl⟩
  · refine SpAt.keep hS (-1000001) (fun m hm => ?_) (fun m hm => ?_)
    · unfold f_X6_swap
      rw [(gst_bad hn hb).1 hm.2.2.2.1]; rfl
    · unfold f_X7_swap
      rw [(gst_bad (w := 13) hn hb).2 hm.2.2.2.1]; rfl
  rcases gstIx S.2.2.2.1 hn x2 with hb | ⟨b, hb, rfl⟩
  · refine SpAt.keep hS (-1000001) (fun m hm => ?_) (fun m hm => ?_)
    · unfold f_X6_swap
      rw [(gst_ok hn ha).1 hm.2.2.2.1, (gst_bad hn hb).1 hm.2.2.2.1]; rfl
    · unfold f_X7_swap
      rw [(gst_ok (w := 13) hn ha).2 hm.2.2.2.1, (gst_bad (w := 13) hn hb).2 hm.2.2.2.1]; rfl
  have hW := hN.w (by omega)
  have hV := hW.1
  have qe : (nI a = nI b) = (a = b) := nI_eqE (by omega) (by omega)
  have i4 : ig a 4 < 55 := ig_lt (n := 7) (by omega) (by omega) (by omega)
  have c1 : ∀ m, CInv m S → f_X6_swap (nI a) (nI b) m = if a = b then some ((-1000001 : Int32), m) else (bd1 (f_X0_keep 13 m) fun m4 => (bd1 (f_X5_trade 13 (nI a) (nI b) m4) fun m5 => some (m5 19 a, m5))) := fun m hm => by
    unfold f_X6_swap
    rw [(gst_ok hn ha).1 hm.2.2.2.1, (gst_ok hn hb).1 hm.2.2.2.1, if_neg (by decide), if_neg (by decide)]
    simp only [qe, gdN (show a < 7 by omega) (show a < 2147483648 by omega)]
    simp only [ix_nI (show a < 2147483648 by omega)]
    try simp (disch := omega) only [gdM]
  have c2 : ∀ m, MInv m S → f_X7_swap (nI a) (nI b) m = if a = b then some ((-1000001 : Int32), m) else (bd1 (f_X7_notes m) fun m6 => (bd1 (f_X7_changes 304 55 (nI a) (nI b) m6) fun m7 => some (m7 304 (ig a 4), m7))) := fun m hm => by
    unfold f_X7_swap
    rw [(gst_ok (w := 13) hn ha).2 hm.2.2.2.1, bd1_d, if_neg (by decide), (gst_ok (w := 13) hn hb).2 hm.2.2.2.1, bd1_d, if_neg (by decide), show (6 : Int32) + (7 : Int32) * nI a + (4 : Int32) = nI (ig a 4) from igE a 4]
    simp (disch := omega) only [qe, ix_nI, gdM]
  by_cases hab : a = b
  · exact SpAt.keep hS (-1000001) (fun m hm => by rw [c1 m hm, if_pos hab]) (fun m hm => by rw [c2 m hm, if_pos hab])
  obtain ⟨hl, hA⟩ := hS.2.2.2.2.1
  refine ⟨nI (swapV S.2.2.2.1 a b (ig a 4)), setVA S (swapV S.2.2.2.1 a b) (pushA S.2.2.2.1 S.2.2.2.2.1), setVA_ok hS (Or.inl (swapV_okW hW ha hb)) (by rw [pushA_len]; omega) (pushA_mem hW hA), fun m hm => ?_, fun m hm => ?_⟩
  · obtain ⟨m1, a1, a2, a3, a4⟩ := cl_keep hV hm.2.2.2.1 hl hm.2.2.2.2.1
    obtain ⟨m2, b1, b2, b3⟩ := cl_trade hV a2 ha hb hab
    rw [c1 m hm, if_neg hab, a1, bd1_d, b1, bd1_d]
    refine ⟨m2, ?_, hm.wed b2 (a3.frame fun c hc hd => b3 c (by omega)) (fun c hc => by rw [b3 c (by omega), a4 c (by omega)]), fun c hc => by rw [b3 c (by omega), a4 c (by omega)]⟩
    rw [show m2 19 a = nI (swapV S.2.2.2.1 a b (ig a 4)) from (b2.g (g := a) (by rw [swapV_o (by omega)]; exact ha)).2.2.2.2.2.1]
  · obtain ⟨m1, a1, a2, a3, a4, a5⟩ := mo_notes hm.2.2.2.1 hl hm.2.2.2.2.1
    obtain ⟨m2, b1, b2, b3, b4⟩ := mo_changes (q := 304) (nq := 55) (by omega) hn a2 ha hb hab
    rw [c2 m hm, if_neg hab, a1, bd1_d, b1, bd1_d]
    exact ⟨m2, by rw [b2.at i4], hm.wed b2 (a3.frame (by rw [b3 298 (by omega)]) (b3 307 (by omega))) (fun c h1 h2 => by rw [b3 c (by omega), a4 c (by omega) (by omega)]) (fun k hk => by rw [b3 298 (by omega), a5 k (by omega)]), fun c hc => by rw [b3 c (by omega), a4 c (by omega) (by omega)]⟩
set_option maxHeartbeats 1000000 in
theorem sp_undo : Sp2 f_X6_undo f_X7_undo := fun S hS => by
  obtain ⟨hl, hA⟩ := hS.2.2.2.2.1
  cases hAe : S.2.2.2.2.1 with
  | nil =>
    refine SpAt.keep hS (-1000002) (fun m hm => ?_) (fun m hm => ?_)
    · unfold f_X6_undo
      rw [hm.2.2.2.2.1.1, hAe]; rfl
    · unfold f_X7_undo
      rw [hm.2.2.2.2.1.1, hAe]; rfl
  | cons V0 A =>
    rw [hAe] at hl hA
    have hl' : A.length + 1 ≤ 24 := hl
    have hW := hA V0 List.mem_cons_self
    have q0 : (nI (A.length + 1) = 0) = (A.length + 1 = 0) := nI_eqE (b := 0) (by omega) (by omega)
    refine ⟨nI A.length, setVA S V0 A, setVA_ok hS (Or.inl hW) (by omega) (fun U hU => hA U (List.mem_cons_of_mem _ hU)), fun m hm => ?_, fun m hm => ?_⟩
    · obtain ⟨h1, nx, h2, h3, h4⟩ := hm.2.2.2.2.1
      rw [hAe] at h1 h4
      have h1' : m 22 2 = nI (A.length + 1) := h1
      have hnx : (if m 22 1 = 0 then (23 : Int32) else m 22 1 - (1 : Int32)) = nI ((nx + 23) % 24) := by
        have qq : (nI nx = 0) = (nx = 0) := nI_eqE (b := 0) (by omega) (by omega)
        rw [h3]
        simp only [qq]
        by_cases h : nx = 0
        · rw [if_pos h, h]; rfl
        · rw [if_neg h, n1, nI_subE (by omega)]; apply nI_small; omega
      have hc0 := h4 0 V0 rfl
      have hr0 : ringAt nx 0 = 24 + 9 * ((nx + 23) % 24) := by unfold ringAt; rw [Nat.sub_zero]
      rw [hr0] at hc0
      have hc1 : CW (st_ (st_ m 22 1 (nI ((nx + 23) % 24))) 22 2 (nI A.length)) (24 + 9 * ((nx + 23) % 24)) V0 := hc0.frame fun a ha hb => by rw [st_na (by omega), st_na (by omega)]
      obtain ⟨m2, b1, b2, b3⟩ := cl_become (w0 := 13) (w1 := 24 + 9 * ((nx + 23) % 24)) (by omega) hW.1.n hW.1.seats hc1
      unfold f_X6_undo f_X0_takeBack
      rw [h1']
      simp only [q0, nm_d]
      have s2 : ∀ v, st_ m 22 1 v 22 2 = nI (A.length + 1) := fun v => by rw [st_n (Or.inr (by omega)), h1']
      have s1 : ∀ v u, st_ (st_ m 22 1 v) 22 2 u 22 1 = v := fun v u => by rw [st_n (Or.inr (by omega)), st_s]
      have s3 : nI (A.length + 1) - (1 : Int32) = nI A.length := nI_subE (a := A.length + 1) (b := 1) (by omega)
      rw [if_neg (by omega), hnx, s2, s3, s1, gdN (by omega) (by omega), ix_nI (by omega), rf23, b1, bd1_d, bd1_d]
      have e22 : m2 22 = st_ (st_ m 22 1 (nI ((nx + 23) % 24))) 22 2 (nI A.length) 22 := b3 22 (by omega)
      have ot : ∀ a, (a < 13 ∨ 20 < a) → a ≠ 22 → m2 a = m a := fun a h h2 => by rw [b3 a (by omega), st_na h2, st_na h2]
      refine ⟨m2, by rw [e22, st_s], hm.wed b2 ⟨by rw [e22, st_s], (nx + 23) % 24, by omega, by rw [e22, st_n (Or.inr (by omega)), st_s], fun j U hU => ?_⟩ (fun a ha => ot a (by omega) (by omega)), fun a ha => ot a (by omega) (by omega)⟩
      have hj : j < A.length := (List.getElem?_eq_some_iff.mp hU).1
      rw [show ringAt ((nx + 23) % 24) j = ringAt nx (j + 1) by unfold ringAt; omega]
      refine (h4 (j + 1) U hU).frame fun a ha hb => ot a ?_ ?_
      · have : 24 ≤ ringAt nx (j + 1) := by unfold ringAt; omega
        omega
      · have : 24 ≤ ringAt nx (j + 1) := by unfold ringAt; omega
        omega
    · obtain ⟨h1, h2⟩ := hm.2.2.2.2.1
      rw [hAe] at h1 h2
      have h1' : m 298 17 = nI (A.length + 1) := h1
      have hm0 := h2 0 V0 rfl
      have hm1 : MW (st_ m 298 17 (nI A.length)) 307 (55 * A.length) V0 := by
        intro k hk
        rw [st_na (by omega)]
        have := hm0 k hk
        rw [show (V0 :: A).length - 1 - 0 = A.length from rfl] at this
        exact this
      obtain ⟨m2, b1, b2, b3, b4⟩ := mo_copy (q1 := 307) (z1 := 1320) (o1 := 55 * A.length) (q3 := 304) (z3 := 55) (o3 := 0) (by omega) (by omega) (by omega) (by omega) (by omega) hm1
      unfold f_X7_undo
      rw [h1']
      simp only [q0, nm_d]
      have b1' : f_X7_copies 307 1320 (nI (55 * A.length)) 304 55 (0 : Int32) (st_ m 298 17 (nI A.length)) = some m2 := b1
      rw [if_neg (by omega), n1, nI_subE (by omega), show A.length + 1 - 1 = A.length by omega, st_s, show (55 : Int32) * nI A.length = nI (55 * A.length) from nI_mulE 55 _, b1', bd1_d]
      have e17 : m2 298 17 = nI A.length := by rw [b3 298 (by omega), st_s]
      refine ⟨m2, by rw [e17], hm.wed b2 ⟨e17, fun j U hU => ?_⟩ (fun a h1 h2 => by rw [b3 a (by omega), st_na (by omega)]) (fun k hk => by rw [b3 298 (by omega), st_n (Or.inr (by omega))]), fun a ha => by rw [b3 a (by omega), st_na (by omega)]⟩
      have := h2 (j + 1) U hU
      rw [show (V0 :: A).length - 1 - (j + 1) = A.length - 1 - j by show A.length + 1 - 1 - (j + 1) = _; omega] at this
      exact this.frame (by rw [b3 307 (by omega), st_na (by omega)])
