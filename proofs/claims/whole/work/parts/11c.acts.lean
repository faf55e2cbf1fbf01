theorem gst_bad {m : Mm} {w : Nat} {V : Wv} {x : Int32} (hn : V 2 ≤ 7) (h : x < 0 ∨ nI (V 2) ≤ x) : (CW m w V → f_X5_has w x m = 0) ∧ (MW m 304 0 V → f_X7_isGuest x m = some 0) := by
  have e0 : (0 : Int32).toInt = 0 := by decide
  have ed : (nI (V 2) - (1 : Int32)).toInt = (V 2 : Int) - 1 := pk_sub_toInt (a := V 2) (b := 1) (by omega) (by omega)
  have en := nI_toInt (n := V 2) (by omega)
  constructor
  · intro hc
    unfold f_X5_has
    rw [hc.1]
    rcases h with h | h
    · rw [if_pos h]
    · by_cases h0 : x < 0
      · rw [if_pos h0]
      · rw [if_neg h0, if_pos h]
  · intro hm
    unfold f_X7_isGuest f_X7_in
    rw [nm_d, show ix (2 : Int32) = 2 from rfl, hm.at (by omega)]
    rcases h with h | h
    · rw [if_pos h]; rfl
    · by_cases h0 : x < 0
      · rw [if_pos h0]; rfl
      · rw [if_neg h0, if_pos]
        · rfl
        · rw [Int32.le_iff_toInt_le] at h; rw [Int32.lt_iff_toInt_lt]; omega
theorem gst_ok {m : Mm} {w : Nat} {V : Wv} {g : Nat} (hn : V 2 ≤ 7) (h : g < V 2) : (CW m w V → f_X5_has w (nI g) m = 1) ∧ (MW m 304 0 V → f_X7_isGuest (nI g) m = some 1) := by
  have e0 : (0 : Int32).toInt = 0 := by decide
  have ed : (nI (V 2) - (1 : Int32)).toInt = (V 2 : Int) - 1 := pk_sub_toInt (a := V 2) (b := 1) (by omega) (by omega)
  have en := nI_toInt (n := V 2) (by omega)
  have eg := nI_toInt (n := g) (by omega)
  constructor
  · intro hc
    unfold f_X5_has
    rw [hc.1, if_neg (nI_pos (by omega)), if_neg (by rw [nI_leE (by omega) (by omega)]; omega)]
  · intro hm
    unfold f_X7_isGuest f_X7_in
    rw [nm_d, show ix (2 : Int32) = 2 from rfl, hm.at (by omega), if_neg (nI_pos (by omega)), if_neg (by rw [Int32.lt_iff_toInt_lt]; omega)]
    rfl
theorem gstIx (V : Wv) (hn : V 2 ≤ 7) (x : Int32) : (x < 0 ∨ nI (V 2) ≤ x) ∨ ∃ g, g < V 2 ∧ x = nI g := by
  rcases pk_ix x (n := V 2) (by omega) with h | h | h
  · exact Or.inl (Or.inl h)
  · exact Or.inl (Or.inr h)
  · exact Or.inr h
theorem OkW.v {V : Wv} (h : OkW V) : OkV V := h.1
theorem OkN.v {V : Wv} (h : OkN V) : OkV V := by
  rcases h with h | h
  · exact h.1
  · refine ⟨by rw [h]; omega, by rw [h]; omega, by rw [h]; omega, by rw [h]; omega, by rw [h]; omega, by rw [h]; omega, fun g hg => ?_, fun g h' hg => ?_, fun p hp => ?_⟩
    · rw [h] at hg; omega
    · rw [h] at hg; omega
    · rw [h] at hp; omega
theorem OkN.w {V : Wv} (h : OkN V) (hg : 1 ≤ V 2) : OkW V := by
  rcases h with h | h
  · exact h
  · rw [h] at hg; omega
theorem isNoneE {m : Mm} {V : Wv} (hn : V 2 ≤ 7) (hc : CW m 13 V) : f_X6_isNone m = if V 2 = 0 then 1 else 0 := by
  unfold f_X6_isNone
  rw [hc.1]
  have h0 : (nI (V 2) = 0) = (V 2 = 0) := nI_eqE (b := 0) (by omega) (by omega)
  simp only [h0]
theorem isWedE {m : Mm} {V : Wv} (hV : OkN V) (hm : MW m 304 0 V) : f_X7_isWedding m = if V 2 = 0 then 0 else 1 := by
  unfold f_X7_isWedding
  have h99 := hV.v.1
  rw [show ix (0 : Int32) = 0 from rfl, hm.at (by omega)]
  have h0 : (nI (V 0) ≤ 0) = (V 0 ≤ 0) := nI_leE (b := 0) (by omega) (by omega)
  simp only [h0]
  rcases hV with h | h
  · rw [if_neg (by have := h.2.2.1; omega), if_neg (by have := h.2.2.2; omega)]
  · rw [if_pos (by rw [h]; omega), if_pos (h 2)]
def setVA (S : SS) (V : Wv) (A : List Wv) : SS := (S.1, S.2.1, S.2.2.1, V, A, S.2.2.2.2.2)
theorem setVA_ok {S : SS} {V : Wv} {A : List Wv} (h : OkS S) (hV : OkN V) (hl : A.length ≤ 24) (hA : ∀ U ∈ A, OkW U) : OkS (setVA S V A) := ⟨h.1, h.2.1, h.2.2.1, hV, ⟨hl, hA⟩, h.2.2.2.2.2⟩
theorem CInv.wed {m m' : Mm} {S : SS} {V : Wv} {A : List Wv} (h : CInv m S) (hW : CW m' 13 V) (hA : CA m' A) (hf : ∀ a, (a < 13 ∨ (262 ≤ a ∧ a < 298)) → m' a = m a) : CInv m' (setVA S V A) := by
  obtain ⟨h1, h2, h3, h4, h5, h6, h7, h8⟩ := h
  refine ⟨h1.frame fun a ha hb => hf a (by omega), ?_, ?_, hW, hA, h6.frame fun a ha hb => hf a (by omega), ?_, ?_⟩
  · rw [hf 0 (by omega)]; exact h2
  · rw [hf 2 (by omega), hf 12 (by omega)]; exact h3
  · rw [hf 0 (by omega), hf 263 (by omega)]; exact h7
  · rw [hf 3 (by omega)]; exact h8
theorem MInv.wed {m m' : Mm} {S : SS} {V : Wv} {A : List Wv} (h : MInv m S) (hW : MW m' 304 0 V) (hA : MA m' A) (hf : ∀ a, 299 ≤ a → (a < 302 ∨ a = 303 ∨ a = 308 ∨ a = 309 ∨ a = 312) → m' a = m a) (hd : ∀ k, (k = 4 ∨ k = 6 ∨ k = 7 ∨ k = 23) → m' 298 k = m 298 k) : MInv m' (setVA S V A) := by
  obtain ⟨h1, h2, h3, h4, h5, h6, h7⟩ := h
  refine ⟨h1.frame fun a ha hb => hf a (by omega) (by omega), ?_, ?_, hW, hA, h6.frame (hf 309 (by omega) (by omega)) (hf 308 (by omega) (by omega)), ?_⟩
  · rw [hd 4 (by omega)]; exact h2
  · rw [hd 6 (by omega), hd 7 (by omega), hf 303 (by omega) (by omega)]; exact h3
  · rw [hd 23 (by omega), hf 312 (by omega) (by omega)]; exact h7
def pushA (V : Wv) (A : List Wv) : List Wv := (V :: A).take 24
theorem pushA_len (V : Wv) (A : List Wv) : (pushA V A).length = min 24 (A.length + 1) := by unfold pushA; rw [List.length_take]; rfl
theorem pushA_mem {V : Wv} {A : List Wv} {P : Wv → Prop} (hV : P V) (hA : ∀ U ∈ A, P U) : ∀ U ∈ pushA V A, P U := fun U hU => by
  have := List.mem_of_mem_take hU
  rcases List.mem_cons.mp this with h | h
  · rw [h]; exact hV
  · exact hA U h
theorem pushA_at {V U : Wv} {A : List Wv} {j : Nat} (h : (pushA V A)[j]? = some U) : j < 24 ∧ ((j = 0 ∧ U = V) ∨ ∃ i, j = i + 1 ∧ A[i]? = some U) := by
  unfold pushA at h
  rw [List.getElem?_take] at h
  by_cases hj : j < 24
  · rw [if_pos hj] at h
    refine ⟨hj, ?_⟩
    cases j with
    | zero => exact Or.inl ⟨rfl, (Option.some.inj h).symm⟩
    | succ i => exact Or.inr ⟨i, rfl, h⟩
  · rw [if_neg hj] at h; cases h
theorem rf23 (k : Nat) : rf 23 k = 24 + 9 * k := rfl
set_option maxHeartbeats 1000000 in
theorem cl_keep {m : Mm} {V : Wv} {A : List Wv} (hV : OkV V) (hc : CW m 13 V) (hl : A.length ≤ 24) (hA : CA m A) : ∃ m', f_X0_keep 13 m = some m' ∧ CW m' 13 V ∧ CA m' (pushA V A) ∧ ∀ a, (a < 22 ∨ 240 ≤ a) → m' a = m a := by
  obtain ⟨h1, nx, h2, h3, h4⟩ := hA
  have hn := hV.n
  obtain ⟨m1, a1, a2, a3⟩ := cl_become (w0 := 24 + 9 * nx) (w1 := 13) (by omega) hn hV.seats hc
  have e22 : m1 22 = m 22 := a3 22 (by omega)
  have hq : (nI nx = (23 : Int32)) = (nx = 23) := nI_eqE (b := 23) (by omega) (by omega)
  have hj : (if m1 22 1 = (23 : Int32) then (0 : Int32) else m1 22 1 + (1 : Int32)) = nI ((nx + 1) % 24) := by
    rw [e22, h3]
    simp only [hq]
    by_cases h : nx = 23
    · rw [if_pos h, h]; rfl
    · rw [if_neg h, n1, nI_add, Nat.mod_eq_of_lt (by omega)]
  have hs : ∀ v, (if (st_ m1 22 1 v 22 2) + (1 : Int32) < (24 : Int32) then (st_ m1 22 1 v 22 2) + (1 : Int32) else (24 : Int32)) = nI (min 24 (A.length + 1)) := fun v => by
    rw [st_n (Or.inr (by omega)), e22, h1, n1, nI_add, n24, minE (by omega) (by omega)]
  unfold f_X0_keep
  simp only [nm_d]
  rw [h3, gdN h2 (by omega), ix_nI (by omega), rf23, a1, bd1_d, hj, hs]
  have ot : ∀ a, a ≠ 22 → st_ (st_ m1 22 1 (nI ((nx + 1) % 24))) 22 2 (nI (min 24 (A.length + 1))) a = m1 a := fun a ha => by rw [st_na ha, st_na ha]
  refine ⟨_, rfl, ?_, ?_, fun a ha => by rw [ot a (by omega), a3 a (by omega)]⟩
  · refine hc.frame fun a ha hb => ?_
    rw [ot a (by omega), a3 a (by omega)]
  · refine ⟨by rw [st_s, pushA_len], (nx + 1) % 24, by omega, by rw [st_n (Or.inr (by omega)), st_s], fun j U hU => ?_⟩
    obtain ⟨hj24, h⟩ := pushA_at hU
    rcases h with ⟨rfl, rfl⟩ | ⟨i, rfl, hi⟩
    · rw [show ringAt ((nx + 1) % 24) 0 = 24 + 9 * nx by unfold ringAt; omega]
      exact a2.frame fun a ha hb => ot a (by omega)
    · rw [show ringAt ((nx + 1) % 24) (i + 1) = ringAt nx i by unfold ringAt; omega]
      refine (h4 i U hi).frame fun a ha hb => ?_
      have hr : ringAt nx i + 8 < 24 + 9 * nx ∨ 24 + 9 * nx + 8 < ringAt nx i := by unfold ringAt; omega
      have hr2 : 24 ≤ ringAt nx i := by unfold ringAt; omega
      rw [ot a (by omega), a3 a (by omega)]
theorem shift_loop : ∀ (f i : Nat) (m : Mm), i ≤ 1265 → 1265 - i < f → ∃ m', lp_X7_notes_11 f (nI i) m = some m' ∧ (∀ a, a ≠ 307 → m' a = m a) ∧ ∀ k, m' 307 k = if i ≤ k ∧ k < 1265 then m 307 (k + 55) else m 307 k := by
  intro f
  induction f with
  | zero => intro i m _ h; omega
  | succ f ih =>
    intro i m hi hif
    show ∃ m', lb_X7_notes_11 (lp_X7_notes_11 f) (nI i) m = some m' ∧ _
    unfold lb_X7_notes_11
    have hc : ((1265 : Int32) ≤ nI i) = (1265 ≤ i) := nI_leE (a := 1265) (by omega) (by omega)
    have hx : nI i + (55 : Int32) = nI (i + 55) := by rw [n55, nI_add]
    simp only [hc, hx]
    by_cases h : 1265 ≤ i
    · rw [if_pos h]
      exact ⟨m, rfl, fun _ _ => rfl, fun k => by rw [if_neg (by omega)]⟩
    · rw [if_neg h, gdN (by omega) (by omega), nm_d, gdN (by omega) (by omega), nm_d, nm_d, ix_nI (by omega), ix_nI (by omega), n1, nI_add]
      obtain ⟨m', e1, e2, e3⟩ := ih (i + 1) (st_ m 307 i (m 307 (i + 55))) (by omega) (by omega)
      refine ⟨m', e1, fun a ha => by rw [e2 a ha, st_na ha], fun k => ?_⟩
      rw [e3 k]
      by_cases hk : k = i
      · subst hk; rw [if_neg (by omega), if_pos (by omega), st_s]
      · by_cases hl : i + 1 ≤ k ∧ k < 1265
        · rw [if_pos hl, if_pos (by omega), st_n (Or.inr (by omega))]
        · rw [if_neg hl, if_neg (by omega), st_n (Or.inr hk)]
set_option maxHeartbeats 1000000 in
theorem mo_notes {m : Mm} {V : Wv} {A : List Wv} (hm : MW m 304 0 V) (hl : A.length ≤ 24) (hA : MA m A) : ∃ m', f_X7_notes m = some m' ∧ MW m' 304 0 V ∧ MA m' (pushA V A) ∧ (∀ a, a ≠ 298 → a ≠ 307 → m' a = m a) ∧ ∀ k, k ≠ 17 → m' 298 k = m 298 k := by
  have hF := FU_big
  obtain ⟨h1, h2⟩ := hA
  have key : ∃ m1, (if m 298 17 = (24 : Int32) then (bd1 (lp_X7_notes_11 FU (0 : Int32) m) fun m8 => some (st_ m8 298 17 (m8 298 17 - (1 : Int32)))) else some m) = some m1 ∧ m1 298 17 = nI (min 23 A.length) ∧ (∀ a, a ≠ 298 → a ≠ 307 → m1 a = m a) ∧ (∀ k, k ≠ 17 → m1 298 k = m 298 k) ∧ ∀ j U, j < 23 → A[j]? = some U → MW m1 307 (55 * (min 23 A.length - 1 - j)) U := by
    have hq : (nI A.length = (24 : Int32)) = (A.length = 24) := nI_eqE (b := 24) (by omega) (by omega)
    rw [h1]
    simp only [hq]
    by_cases h : A.length = 24
    · obtain ⟨m1, a1, a2, a3⟩ := shift_loop FU 0 m (by omega) (by omega)
      have a1' : lp_X7_notes_11 FU (0 : Int32) m = some m1 := a1
      rw [if_pos h, a1', bd1_d]
      refine ⟨_, rfl, ?_, fun a ha hb => by rw [st_na ha, a2 a hb], fun k hk => by rw [st_n (Or.inr hk), a2 298 (by omega)], fun j U hj hU => ?_⟩
      · rw [st_s, a2 298 (by omega), h1, h, show min 23 24 = 23 from rfl]; rfl
      · intro k hk
        rw [st_na (by omega), a3, if_pos (by omega)]
        have := h2 j U hU k hk
        rw [h] at this
        rw [show 55 * (min 23 A.length - 1 - j) + k + 55 = 55 * (24 - 1 - j) + k by omega]
        exact this
    · rw [if_neg h]
      refine ⟨m, rfl, ?_, fun _ _ _ => rfl, fun _ _ => rfl, fun j U hj hU => ?_⟩
      · rw [h1, Nat.min_eq_right (by omega)]
      · rw [Nat.min_eq_right (by omega)]; exact h2 j U hU
  obtain ⟨m1, k1, k2, k3, k4, k5⟩ := key
  obtain ⟨m2, b1, b2, b3, b4⟩ := mo_copy (q1 := 304) (z1 := 55) (o1 := 0) (q3 := 307) (z3 := 1320) (o3 := 55 * min 23 A.length) (by omega) (by omega) (by omega) (by omega) (by omega) (hm.frame (k3 304 (by omega) (by omega)))
  unfold f_X7_notes
  simp only [nm_d]
  rw [k1, bd1_d, k2, show (55 : Int32) * nI (min 23 A.length) = nI (55 * min 23 A.length) from nI_mulE 55 _, show (0 : Int32) = nI 0 from rfl, b1, bd1_d]
  have e17 : m2 298 17 = nI (min 23 A.length) := by rw [b3 298 (by omega), k2]
  refine ⟨_, rfl, ?_, ⟨?_, fun j U hU => ?_⟩, fun a ha hb => by rw [st_na ha, b3 a hb, k3 a ha hb], fun k hk => by rw [st_n (Or.inr hk), b3 298 (by omega), k4 k hk]⟩
  · exact hm.frame (by rw [st_na (by omega), b3 304 (by omega), k3 304 (by omega) (by omega)])
  · rw [st_s, e17, n1, nI_add, pushA_len]; apply nI_small; omega
  · obtain ⟨hj24, h⟩ := pushA_at hU
    rw [pushA_len]
    rcases h with ⟨rfl, rfl⟩ | ⟨i, rfl, hi⟩
    · rw [show 55 * (min 24 (A.length + 1) - 1 - 0) = 55 * min 23 A.length by omega]
      exact b2.frame (st_na (by omega))
    · have hil : i < A.length := (List.getElem?_eq_some_iff.mp hi).1
      intro k hk
      have := k5 i U (by omega) hi k hk
      rw [st_na (by omega), b4 _ (by omega), show 55 * (min 24 (A.length + 1) - 1 - (i + 1)) + k = 55 * (min 23 A.length - 1 - i) + k by omega]
      exact this
