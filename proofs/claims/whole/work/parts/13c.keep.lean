set_option maxHeartbeats 1000000 in
theorem sp_feed (x1 : Int32) : Sp2 (f_X6_feed x1) (f_X7_feed x1) := fun S hS => by
  obtain ⟨hl, hb255, hft⟩ := hS.2.2.1
  have e0 : (0 : Int32).toInt = 0 := by decide
  have e255 : (255 : Int32).toInt = 255 := by decide
  rcases btw x1 0 255 (by omega) (by omega) with hb | ⟨c, -, hc, rfl⟩
  · refine SpAt.keep hS (-1000001) (fun m hm => ?_) (fun m hm => ?_)
    · unfold f_X6_feed
      by_cases h : x1 < 0
      · rw [if_pos h]
      · rw [if_neg h, if_neg]
        rw [Int32.lt_iff_toInt_lt] at h; rw [Int32.le_iff_toInt_le]; omega
    · unfold f_X7_feed
      rw [show f_X7_in x1 (0 : Int32) (255 : Int32) = 0 from in_bad (lo := 0) (hi := 255) (by omega) (by omega) hb, if_pos rfl]
  have q1 : (nI c ≤ (255 : Int32)) = (c ≤ 255) := nI_leE (b := 255) (by omega) (by omega)
  have q2 : (nI S.2.2.1.1 < (110 : Int32)) = (S.2.2.1.1 < 110) := nI_ltE (b := 110) (by omega) (by omega)
  have q3 : (nI S.2.2.1.1 = (110 : Int32)) = (S.2.2.1.1 = 110) := nI_eqE (b := 110) (by omega) (by omega)
  have c1 : ∀ m, CInv m S → f_X6_feed (nI c) m = if S.2.2.1.1 < 110 then some (nI (S.2.2.1.1 + 1), st_ (st_ m 12 S.2.2.1.1 (nI c)) 2 2 (nI (S.2.2.1.1 + 1))) else some ((-1000003 : Int32), m) := fun m hm => by
    have h2 := hm.2.2.1.1
    unfold f_X6_feed f_X3_take
    rw [if_neg (nI_pos (by omega)), if_pos (by rw [q1]; exact hc), h2]
    simp only [q2, nm_d]
    by_cases h : S.2.2.1.1 < 110
    · rw [if_pos h, if_pos h, gdN h (by omega), ix_nI (by omega), st_na (a' := 2) (by omega), h2, n1, nI_add]
      simp only [bd2_d, ← n1]
      rw [if_neg (by decide), st_s]
    · rw [if_neg h, if_neg h]; rfl
  have c2 : ∀ m, MInv m S → f_X7_feed (nI c) m = if S.2.2.1.1 < 110 then some (nI (S.2.2.1.1 + 1), st_ (st_ m 303 S.2.2.1.1 (nI c)) 298 6 (nI (S.2.2.1.1 + 1))) else some ((-1000003 : Int32), m) := fun m hm => by
    have h2 := hm.2.2.1.1
    unfold f_X7_feed
    rw [show f_X7_in (nI c) (0 : Int32) (255 : Int32) = 1 from in_ok (lo := 0) (hi := 255) (by omega) (by omega) hc, if_neg (by decide), h2]
    simp only [q3, nm_d]
    by_cases h : S.2.2.1.1 < 110
    · have s6 : st_ m 303 S.2.2.1.1 (nI c) 298 6 = nI S.2.2.1.1 := by rw [st_na (by omega), h2]
      rw [if_neg (show ¬ S.2.2.1.1 = 110 by omega), if_pos h, gdN h (by omega), ix_nI (by omega), st_s, s6, n1, nI_add]
    · rw [if_pos (show S.2.2.1.1 = 110 by omega), if_neg h]
  by_cases h : S.2.2.1.1 < 110
  rotate_left
  · exact SpAt.keep hS (-1000003) (fun m hm => by rw [c1 m hm, if_neg h]) (fun m hm => by rw [c2 m hm, if_neg h])
  refine ⟨nI (S.2.2.1.1 + 1), (S.1, S.2.1, (S.2.2.1.1 + 1, fun k => if k = S.2.2.1.1 then c else S.2.2.1.2.1 k, S.2.2.1.2.2), S.2.2.2), ⟨hS.1, hS.2.1, ⟨by show S.2.2.1.1 + 1 ≤ 110; omega, fun k => ?_, hft⟩, hS.2.2.2⟩, fun m hm => ?_, fun m hm => ?_⟩
  · show (if k = S.2.2.1.1 then c else S.2.2.1.2.1 k) ≤ 255
    split
    · exact hc
    · exact hb255 k
  · obtain ⟨h1, h2, h3, h4, h5, h6, h7, h8⟩ := hm
    rw [c1 m ⟨h1, h2, h3, h4, h5, h6, h7, h8⟩, if_pos h]
    have ot : ∀ a, a ≠ 2 → a ≠ 12 → st_ (st_ m 12 S.2.2.1.1 (nI c)) 2 2 (nI (S.2.2.1.1 + 1)) a = m a := fun a ha hb => by rw [st_na ha, st_na hb]
    refine ⟨_, rfl, ⟨h1.frame fun a ha hb => ot a (by omega) (by omega), by rw [ot 0 (by omega) (by omega)]; exact h2, ⟨st_s, fun k hk => ?_, ?_⟩, h4.frame fun a ha hb => ot a (by omega) (by omega), h5.frame fun a ha hb => ot a (by omega) (by omega), h6.frame fun a ha hb => ot a (by omega) (by omega), ?_, ?_⟩, fun a ha => ot a (by omega) (by omega)⟩
    · rw [st_na (by omega)]
      show _ = nI (if k = S.2.2.1.1 then c else S.2.2.1.2.1 k)
      by_cases hk2 : k = S.2.2.1.1
      · rw [hk2, st_s, if_pos rfl]
      · rw [st_n (Or.inr hk2), if_neg hk2]
        have hk3 : k < S.2.2.1.1 + 1 := hk
        exact h3.2.1 k (by omega)
    · rw [st_n (Or.inr (by omega)), st_na (by omega)]; exact h3.2.2
    · rw [ot 0 (by omega) (by omega), ot 263 (by omega) (by omega)]; exact h7
    · rw [ot 3 (by omega) (by omega)]; exact h8
  · obtain ⟨h1, h2, h3, h4, h5, h6, h7⟩ := hm
    rw [c2 m ⟨h1, h2, h3, h4, h5, h6, h7⟩, if_pos h]
    have ot : ∀ a, a ≠ 298 → a ≠ 303 → st_ (st_ m 303 S.2.2.1.1 (nI c)) 298 6 (nI (S.2.2.1.1 + 1)) a = m a := fun a ha hb => by rw [st_na ha, st_na hb]
    have o8 : ∀ k, k ≠ 6 → st_ (st_ m 303 S.2.2.1.1 (nI c)) 298 6 (nI (S.2.2.1.1 + 1)) 298 k = m 298 k := fun k hk => by rw [st_n (Or.inr hk), st_na (by omega)]
    refine ⟨_, rfl, ⟨h1.frame fun a ha hb => ot a (by omega) (by omega), by rw [o8 4 (by omega)]; exact h2, ⟨st_s, fun k hk => ?_, by rw [o8 7 (by omega)]; exact h3.2.2⟩, h4.frame (ot 304 (by omega) (by omega)), h5.frame (o8 17 (by omega)) (ot 307 (by omega) (by omega)), h6.frame (ot 309 (by omega) (by omega)) (ot 308 (by omega) (by omega)), ?_⟩, fun a ha => ot a (by omega) (by omega)⟩
    · rw [st_na (by omega)]
      show _ = nI (if k = S.2.2.1.1 then c else S.2.2.1.2.1 k)
      by_cases hk2 : k = S.2.2.1.1
      · rw [hk2, st_s, if_pos rfl]
      · rw [st_n (Or.inr hk2), if_neg hk2]
        have hk3 : k < S.2.2.1.1 + 1 := hk
        exact h3.2.1 k (by omega)
    · rw [o8 23 (by omega), ot 312 (by omega) (by omega)]; exact h7
theorem rf262 (k : Nat) : rf 262 k = 280 + 9 * k := rfl
set_option maxHeartbeats 1000000 in
theorem sp_image (x1 : Int32) : Sp2 (f_X6_image x1) (f_X7_image x1) := fun S hS => by
  have hN := hS.2.2.2.1
  have hn := hN.v.n
  have e0 : (0 : Int32).toInt = 0 := by decide
  have e2 : (2 : Int32).toInt = 2 := by decide
  rcases btw x1 0 1 (by omega) (by omega) with hb | ⟨k, -, hk, rfl⟩
  · refine SpAt.keep hS (-1000001) (fun m hm => ?_) (fun m hm => ?_)
    · unfold f_X6_image
      by_cases h : x1 < 0
      · rw [if_pos h]
      · rw [if_neg h, if_neg]
        rw [Int32.lt_iff_toInt_lt] at h; rw [Int32.lt_iff_toInt_lt]; omega
    · unfold f_X7_image
      rw [show f_X7_in x1 (0 : Int32) (1 : Int32) = 0 from in_bad (lo := 0) (hi := 1) (by omega) (by omega) hb, if_pos rfl]
  have q2 : nI k < (2 : Int32) := by rw [show (2 : Int32) = nI 2 from rfl, nI_ltE (by omega) (by omega)]; omega
  have hin : f_X7_in (nI k) (0 : Int32) (1 : Int32) = 1 := in_ok (lo := 0) (hi := 1) (by omega) (by omega) hk
  by_cases hz : S.2.2.2.1 2 = 0
  · refine SpAt.keep hS (-1000002) (fun m hm => ?_) (fun m hm => ?_)
    · unfold f_X6_image
      rw [if_neg (nI_pos (by omega)), if_pos q2, isNoneE hn hm.2.2.2.1, if_pos hz, if_neg (by decide)]
    · unfold f_X7_image
      rw [hin, if_neg (by decide), isWedE hN hm.2.2.2.1, if_pos hz, if_pos rfl]
  have hW := hN.w (by omega)
  have hV := hW.1
  refine ⟨1, (S.1, S.2.1, S.2.2.1, S.2.2.2.1, S.2.2.2.2.1, fun j => if j = k then some S.2.2.2.1 else S.2.2.2.2.2.1 j, S.2.2.2.2.2.2), ⟨hS.1, hS.2.1, hS.2.2.1, hN, hS.2.2.2.2.1, fun j U hU => ?_, hS.2.2.2.2.2.2⟩, fun m hm => ?_, fun m hm => ?_⟩
  · by_cases hj : j = k
    · have h' : (if j = k then some S.2.2.2.1 else S.2.2.2.2.2.1 j) = some U := hU
      rw [if_pos hj] at h'
      cases h'; exact hW
    · have h' : (if j = k then some S.2.2.2.1 else S.2.2.2.2.2.1 j) = some U := hU
      rw [if_neg hj] at h'
      exact hS.2.2.2.2.2.1 j U h'
  · obtain ⟨m', a1, a2, a3⟩ := cl_become (w0 := 280 + 9 * k) (w1 := 13) (by omega) hn hV.seats hm.2.2.2.1
    unfold f_X6_image
    rw [if_neg (nI_pos (by omega)), if_pos q2, isNoneE hn hm.2.2.2.1, if_neg hz, if_pos rfl, gdN (by omega) (by omega), nm_d, ix_nI (by omega), rf262, a1, bd1_d]
    obtain ⟨h1, h2, h3, h4, h5, h6, h7, h8⟩ := hm
    refine ⟨m', rfl, ⟨h1.frame fun a ha hb => a3 a (by omega), by rw [a3 0 (by omega)]; exact h2, by rw [a3 2 (by omega), a3 12 (by omega)]; exact h3, h4.frame fun a ha hb => a3 a (by omega), h5.frame fun a ha hb => a3 a (by omega), fun j hj => ?_, by rw [a3 0 (by omega), a3 263 (by omega)]; exact h7, by rw [a3 3 (by omega)]; exact h8⟩, fun a ha => a3 a (by omega)⟩
    by_cases hjk : j = k
    · subst hjk
      simp only [if_pos]
      exact a2
    · simp only [if_neg hjk]
      have := h6 j hj
      cases hI : S.2.2.2.2.2.1 j with
      | none => rw [hI] at this; show m' (280 + 9 * j) 0 = 0; rw [a3 _ (by omega)]; exact this
      | some V => rw [hI] at this; exact CW.frame this fun a ha hb => a3 a (by omega)
  · obtain ⟨m', a1, a2, a3, a4⟩ := mo_copy (q1 := 304) (z1 := 55) (o1 := 0) (q3 := 308) (z3 := 110) (o3 := 55 * k) (by omega) (by omega) (by omega) (by omega) (by omega) hm.2.2.2.1
    have a1' : f_X7_copies 304 55 (0 : Int32) 308 110 (nI (55 * k)) m = some m' := a1
    unfold f_X7_image
    rw [hin, if_neg (by decide), isWedE hN hm.2.2.2.1, if_neg hz, if_neg (by decide), show (55 : Int32) * nI k = nI (55 * k) from nI_mulE 55 _, a1', bd1_d, gdN (by omega) (by omega), nm_d, ix_nI (by omega)]
    obtain ⟨h1, h2, h3, h4, h5, h6, h7⟩ := hm
    have ot : ∀ a, a ≠ 308 → a ≠ 309 → st_ m' 309 k (1 : Int32) a = m a := fun a ha hb => by rw [st_na hb, a3 a ha]
    refine ⟨_, rfl, ⟨h1.frame fun a ha hb => ot a (by omega) (by omega), by rw [ot 298 (by omega) (by omega)]; exact h2, by rw [ot 298 (by omega) (by omega), ot 303 (by omega) (by omega)]; exact h3, h4.frame (ot 304 (by omega) (by omega)), h5.frame (by rw [ot 298 (by omega) (by omega)]) (ot 307 (by omega) (by omega)), fun j hj => ?_, by rw [ot 298 (by omega) (by omega), ot 312 (by omega) (by omega)]; exact h7⟩, fun a ha => ot a (by omega) (by omega)⟩
    by_cases hjk : j = k
    · subst hjk
      simp only [if_pos]
      exact ⟨st_s, a2.frame (st_na (by omega))⟩
    · simp only [if_neg hjk]
      have := h6 j hj
      cases hI : S.2.2.2.2.2.1 j with
      | none => rw [hI] at this; show st_ m' 309 k (1 : Int32) 309 j = 0; rw [st_n (Or.inr hjk), a3 309 (by omega)]; exact this
      | some V =>
        rw [hI] at this
        refine ⟨by rw [st_n (Or.inr hjk), a3 309 (by omega)]; exact this.1, fun q hq => ?_⟩
        rw [st_na (by omega), a4 _ (by omega)]
        exact this.2 q hq
set_option maxHeartbeats 1000000 in
theorem sp_restore (x1 : Int32) : Sp2 (f_X6_restore x1) (f_X7_restore x1) := fun S hS => by
  have e0 : (0 : Int32).toInt = 0 := by decide
  have e2 : (2 : Int32).toInt = 2 := by decide
  rcases btw x1 0 1 (by omega) (by omega) with hb | ⟨k, -, hk, rfl⟩
  · refine SpAt.keep hS (-1000001) (fun m hm => ?_) (fun m hm => ?_)
    · unfold f_X6_restore
      by_cases h : x1 < 0
      · rw [if_pos h]
      · rw [if_neg h, if_neg]
        rw [Int32.lt_iff_toInt_lt] at h; rw [Int32.lt_iff_toInt_lt]; omega
    · unfold f_X7_restore
      rw [show f_X7_in x1 (0 : Int32) (1 : Int32) = 0 from in_bad (lo := 0) (hi := 1) (by omega) (by omega) hb, if_pos rfl]
  have q2 : nI k < (2 : Int32) := by rw [show (2 : Int32) = nI 2 from rfl, nI_ltE (by omega) (by omega)]; omega
  have hin : f_X7_in (nI k) (0 : Int32) (1 : Int32) = 1 := in_ok (lo := 0) (hi := 1) (by omega) (by omega) hk
  have c1 : ∀ m, f_X6_restore (nI k) m = if m (280 + 9 * k) 0 = 0 then some ((-1000002 : Int32), m) else (bd1 (f_X5_become 13 (280 + 9 * k) m) fun m8 => some ((1 : Int32), st_ m8 22 2 (0 : Int32))) := fun m => by
    unfold f_X6_restore f_X0_forget
    rw [if_neg (nI_pos (by omega)), if_pos q2, gdN (by omega) (by omega), ix_nI (by omega), rf262]
    simp (disch := omega) only [nm_d, gdM, bd1_d]
  have c2 : ∀ m, f_X7_restore (nI k) m = if m 309 k = 0 then some ((-1000002 : Int32), m) else (bd1 (f_X7_copies 308 110 (nI (55 * k)) 304 55 (0 : Int32) m) fun m4 => some ((1 : Int32), st_ m4 298 17 (0 : Int32))) := fun m => by
    unfold f_X7_restore
    rw [hin, if_neg (by decide), gdN (by omega) (by omega), ix_nI (by omega), show (55 : Int32) * nI k = nI (55 * k) from nI_mulE 55 _]
    rfl
  cases hI : S.2.2.2.2.2.1 k with
  | none =>
    refine SpAt.keep hS (-1000002) (fun m hm => ?_) (fun m hm => ?_)
    · have := hm.2.2.2.2.2.1 k (by omega)
      rw [hI] at this
      rw [c1, if_pos this]
    · have := hm.2.2.2.2.2.1 k (by omega)
      rw [hI] at this
      rw [c2, if_pos this]
  | some V =>
    have hW := hS.2.2.2.2.2.1 k V hI
    have hV := hW.1
    have hg1 := hW.2.2.2
    have hn := hV.n
    refine ⟨1, setVA S V [], setVA_ok hS (Or.inl hW) (by show 0 ≤ 24; omega) (fun U hU => by cases hU), fun m hm => ?_, fun m hm => ?_⟩
    · have hc := hm.2.2.2.2.2.1 k (by omega)
      rw [hI] at hc
      have hc' : CW m (280 + 9 * k) V := hc
      have hq : (nI (V 2) = 0) = (V 2 = 0) := nI_eqE (b := 0) (by omega) (by omega)
      obtain ⟨m', a1, a2, a3⟩ := cl_become (w0 := 13) (w1 := 280 + 9 * k) (by omega) hn hV.seats hc'
      rw [c1, hc'.1]
      simp only [hq]
      rw [if_neg (by omega), a1, bd1_d]
      obtain ⟨-, nx, hnx, h1, -⟩ := hm.2.2.2.2.1
      refine ⟨_, rfl, hm.wed (a2.frame fun a ha hb => st_na (by omega)) ⟨st_s, nx, hnx, by rw [st_n (Or.inr (by omega)), a3 22 (by omega)]; exact h1, fun j U hU => by cases hU⟩ (fun a ha => by rw [st_na (by omega), a3 a (by omega)]), fun a ha => by rw [st_na (by omega), a3 a (by omega)]⟩
    · have hc := hm.2.2.2.2.2.1 k (by omega)
      rw [hI] at hc
      obtain ⟨m', a1, a2, a3, a4⟩ := mo_copy (q1 := 308) (z1 := 110) (o1 := 55 * k) (q3 := 304) (z3 := 55) (o3 := 0) (by omega) (by omega) (by omega) (by omega) (by omega) hc.2
      have a1' : f_X7_copies 308 110 (nI (55 * k)) 304 55 (0 : Int32) m = some m' := a1
      rw [c2, hc.1, if_neg (by decide), a1', bd1_d]
      refine ⟨_, rfl, hm.wed (a2.frame (st_na (by omega))) ⟨st_s, fun j U hU => by cases hU⟩ (fun a h1 h2 => by rw [st_na (by omega), a3 a (by omega)]) (fun q hq => by rw [st_n (Or.inr (by omega)), a3 298 (by omega)]), fun a ha => by rw [st_na (by omega), a3 a (by omega)]⟩
/-- whether a kind is one of another -/
def isK (k c : Nat) : Bool := c == 0 || c == k || (c == 1 && k < 4) || (c == 4 && k == 5)
theorem isOfE : ∀ k, k < 6 → ∀ c, c < 6 → 1 ≤ k → f_X6_isOf (nI k) (nI c) = some (if isK k c then 1 else 0) := by
  intro k hk c hc h1
  have hF := FU_big
  unfold f_X6_isOf
  obtain ⟨f, hf⟩ : ∃ f, FU = f + 4 := ⟨FU - 4, by omega⟩
  rw [hf]
  rcases (show k = 1 ∨ k = 2 ∨ k = 3 ∨ k = 4 ∨ k = 5 by omega) with h | h | h | h | h <;> subst h <;> rcases (show c = 0 ∨ c = 1 ∨ c = 2 ∨ c = 3 ∨ c = 4 ∨ c = 5 by omega) with h | h | h | h | h | h <;> subst h <;> rfl
set_option maxHeartbeats 1000000 in
theorem sp_as (x1 x2 : Int32) : Sp2 (f_X6_as x1 x2) (f_X7_as x1 x2) := fun S hS => by
  have hN := hS.2.2.2.1
  have hn := hN.v.n
  rcases gstIx S.2.2.2.1 hn x1 with hb | ⟨g, hg, rfl⟩
  · refine SpAt.keep hS (-1000001) (fun m hm => ?_) (fun m hm => ?_)
    · unfold f_X6_as
      rw [(gst_bad hn hb).1 hm.2.2.2.1]; rfl
    · unfold f_X7_as
      rw [(gst_bad (w := 13) hn hb).2 hm.2.2.2.1]; rfl
  have hV := hN.v
  obtain ⟨b1, b2, -⟩ := hV.b hg
  have i0 : ig g 0 < 55 := ig_lt (n := 7) (by omega) (by omega) (by omega)
  have e0 : (0 : Int32).toInt = 0 := by decide
  have e5 : (5 : Int32).toInt = 5 := by decide
  rcases btw x2 0 5 (by omega) (by omega) with hb | ⟨c, -, hc, rfl⟩
  · refine SpAt.keep hS (-1000001) (fun m hm => ?_) (fun m hm => ?_)
    · unfold f_X6_as
      rw [(gst_ok hn hg).1 hm.2.2.2.1, if_neg (by decide)]
      by_cases h : x2 < 0
      · rw [if_pos h]
      · rw [if_neg h, if_neg]
        rw [Int32.lt_iff_toInt_lt] at h; rw [Int32.le_iff_toInt_le]; omega
    · unfold f_X7_as
      rw [(gst_ok (w := 13) hn hg).2 hm.2.2.2.1, bd1_d, if_neg (by decide), show f_X7_in x2 (0 : Int32) (5 : Int32) = 0 from in_bad (lo := 0) (hi := 5) (by omega) (by omega) hb, if_pos rfl]
  have c1 : ∀ m, CInv m S → f_X6_as (nI g) (nI c) m = if isK (S.2.2.2.1 (ig g 0)) c then some (nI g, st_ m 0 9 (nI 0)) else some ((-1000010 : Int32) - 3, st_ m 0 9 (nI 3)) := fun m hm => by
    unfold f_X6_as f_X6_find f_X6_findNothing
    rw [(gst_ok hn hg).1 hm.2.2.2.1, if_neg (by decide), if_neg (nI_pos (by omega)), if_pos (by rw [show (5 : Int32) = nI 5 from rfl, nI_leE (by omega) (by omega)]; exact hc), gdN (by omega) (by omega), ix_nI (by omega), show m 14 g = _ from (hm.2.2.2.1.g hg).1, isOfE _ (by omega) _ (by omega) b1, bd1_d]
    simp only [nm_d, bd2_d, fitIf]
    rfl
  have c2 : ∀ m, MInv m S → f_X7_as (nI g) (nI c) m = if isK (S.2.2.2.1 (ig g 0)) c then some (nI g, st_ m 298 4 (nI 0)) else some ((-1000010 : Int32) - 3, st_ m 298 4 (nI 3)) := fun m hm => by
    unfold f_X7_as f_X7_found f_X7_well f_X7_kindIn
    rw [(gst_ok (w := 13) hn hg).2 hm.2.2.2.1, bd1_d, if_neg (by decide), show f_X7_in (nI c) (0 : Int32) (5 : Int32) = 1 from in_ok (lo := 0) (hi := 5) (by omega) (by omega) hc, if_neg (by decide), show (6 : Int32) + (7 : Int32) * nI g = nI (ig g 0) from igE0 g, gdN i0 (by omega), bd1_d, ix_nI (by omega), hm.2.2.2.1.at i0]
    simp only [nm_d, bd2_d]
    generalize S.2.2.2.1 (ig g 0) = k at b1 b2
    have key : (if nI c = 0 then (1 : Int32) else if nI c = nI k then (1 : Int32) else if nI c = (1 : Int32) then (if nI k < (4 : Int32) then (1 : Int32) else if nI c = (4 : Int32) then (if nI k = (5 : Int32) then (1 : Int32) else (0 : Int32)) else (0 : Int32)) else if nI c = (4 : Int32) then (if nI k = (5 : Int32) then (1 : Int32) else (0 : Int32)) else (0 : Int32)) = if isK k c then 1 else 0 := by
      rcases (show k = 1 ∨ k = 2 ∨ k = 3 ∨ k = 4 ∨ k = 5 by omega) with h | h | h | h | h <;> subst h <;> rcases (show c = 0 ∨ c = 1 ∨ c = 2 ∨ c = 3 ∨ c = 4 ∨ c = 5 by omega) with h | h | h | h | h | h <;> subst h <;> rfl
    rw [key]
    simp only [fitIf]
    rfl
  cases hb : isK (S.2.2.2.1 (ig g 0)) c with
  | true => exact SpAt.found hS 0 (by omega) (nI g) (fun m hm => by rw [c1 m hm, hb, if_pos rfl]) (fun m hm => by rw [c2 m hm, hb, if_pos rfl])
  | false => exact SpAt.found hS 3 (by omega) ((-1000010 : Int32) - 3) (fun m hm => by rw [c1 m hm, hb, if_neg (by decide)]) (fun m hm => by rw [c2 m hm, hb, if_neg (by decide)])
