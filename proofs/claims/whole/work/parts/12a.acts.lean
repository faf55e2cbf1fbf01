theorem passV_okW {V : Wv} (h : OkW V) (h3 : V 3 < 9999) : OkW (passV V) := ⟨passV_ok h.1 (by omega), by show V 3 + 1 ≤ 9999; omega, by rw [passV_lo (by omega)]; exact h.2.2.1, by rw [passV_lo (by omega)]; exact h.2.2.2⟩
def minV (n : Nat) (V : Wv) (A : List Wv) : Wv × List Wv := match n with
  | 0 => (V, A)
  | n + 1 => minV n (passV V) (pushA V A)
theorem minV_ok : ∀ (n : Nat) (V : Wv) (A : List Wv), OkW V → V 3 + n ≤ 9999 → A.length ≤ 24 → (∀ U ∈ A, OkW U) → OkW (minV n V A).1 ∧ (minV n V A).2.length ≤ 24 ∧ ∀ U ∈ (minV n V A).2, OkW U := by
  intro n
  induction n with
  | zero => intro V A hV _ hl hA; exact ⟨hV, hl, hA⟩
  | succ n ih =>
    intro V A hV h3 hl hA
    exact ih (passV V) (pushA V A) (passV_okW hV (by omega)) (by show V 3 + 1 + n ≤ 9999; omega) (by rw [pushA_len]; omega) (pushA_mem hV hA)
theorem cl_minutes {n : Nat} (hn : n ≤ 24) : ∀ (f i : Nat) (m : Mm) (V : Wv) (A : List Wv), OkW V → V 3 + (n - i) ≤ 9999 → A.length ≤ 24 → CW m 13 V → CA m A → i ≤ n → n - i < f →
    ∃ m', lp_X6_minutes_44 f (nI n) (nI i) m = some m' ∧ CW m' 13 (minV (n - i) V A).1 ∧ CA m' (minV (n - i) V A).2 ∧ ∀ a, (a < 13 ∨ 240 ≤ a) → m' a = m a := by
  intro f
  induction f with
  | zero => intro i m V A _ _ _ _ _ _ h; omega
  | succ f ih =>
    intro i m V A hV h3 hl hc hA hi hif
    show ∃ m', lb_X6_minutes_44 (lp_X6_minutes_44 f) (nI n) (nI i) m = some m' ∧ _
    unfold lb_X6_minutes_44
    have hcc : (nI n ≤ nI i) = (n ≤ i) := nI_leE (by omega) (by omega)
    simp only [hcc]
    by_cases h : n ≤ i
    · rw [if_pos h, show n - i = 0 by omega]
      exact ⟨m, rfl, hc, hA, fun _ _ => rfl⟩
    · rw [if_neg h]
      obtain ⟨m1, a1, a2, a3, a4⟩ := cl_keep hV.1 hc hl hA
      obtain ⟨m2, b1, b2, b3⟩ := cl_pass hV.1 a2
      rw [a1, bd1_d, b1, bd1_d, nm_d, n1, nI_add]
      obtain ⟨m', e1, e2, e3, e4⟩ := ih (i + 1) m2 (passV V) (pushA V A) (passV_okW hV (by omega)) (by show V 3 + 1 + (n - (i + 1)) ≤ 9999; omega) (by rw [pushA_len]; omega) b2 (a3.frame fun a ha hb => b3 a (by omega)) (by omega) (by omega)
      rw [show n - i = n - (i + 1) + 1 by omega]
      exact ⟨m', e1, e2, e3, fun a ha => by rw [e4 a ha, b3 a (by omega), a4 a (by omega)]⟩
theorem mo_minutes {n : Nat} (hn : n ≤ 24) : ∀ (f i : Nat) (m : Mm) (V : Wv) (A : List Wv), OkW V → V 3 + (n - i) ≤ 9999 → A.length ≤ 24 → MW m 304 0 V → MA m A → i ≤ n → n - i < f →
    ∃ m', lp_X7_minutes_42 f (nI n) (nI i) m = some m' ∧ MW m' 304 0 (minV (n - i) V A).1 ∧ MA m' (minV (n - i) V A).2 ∧ (∀ a, a ≠ 298 → a ≠ 304 → a ≠ 307 → a ≠ 310 → m' a = m a) ∧ ∀ k, k ≠ 17 → m' 298 k = m 298 k := by
  intro f
  induction f with
  | zero => intro i m V A _ _ _ _ _ _ h; omega
  | succ f ih =>
    intro i m V A hV h3 hl hc hA hi hif
    show ∃ m', lb_X7_minutes_42 (lp_X7_minutes_42 f) (nI n) (nI i) m = some m' ∧ _
    unfold lb_X7_minutes_42
    have hcc : (nI n ≤ nI i) = (n ≤ i) := nI_leE (by omega) (by omega)
    simp only [hcc]
    by_cases h : n ≤ i
    · rw [if_pos h, show n - i = 0 by omega]
      exact ⟨m, rfl, hc, hA, fun _ _ _ _ _ => rfl, fun _ _ => rfl⟩
    · rw [if_neg h]
      obtain ⟨m1, a1, a2, a3, a4, a5⟩ := mo_notes hc hl hA
      obtain ⟨m2, b1, b2, b3, b4⟩ := mo_pass (q := 304) (nq := 55) (by omega) (by omega) hV.1 a2
      rw [a1, bd1_d, b1, bd1_d, nm_d, n1, nI_add]
      obtain ⟨m', e1, e2, e3, e4, e5⟩ := ih (i + 1) m2 (passV V) (pushA V A) (passV_okW hV (by omega)) (by show V 3 + 1 + (n - (i + 1)) ≤ 9999; omega) (by rw [pushA_len]; omega) b2 (a3.frame (by rw [b3 298 (by omega) (by omega)]) (b3 307 (by omega) (by omega))) (by omega) (by omega)
      rw [show n - i = n - (i + 1) + 1 by omega]
      exact ⟨m', e1, e2, e3, fun a h1 h2 h3 h4 => by rw [e4 a h1 h2 h3 h4, b3 a h2 h4, a4 a h1 h3], fun k hk => by rw [e5 k hk, b3 298 (by omega) (by omega), a5 k hk]⟩
/-- a number between two bounds, or not -/
theorem btw (x : Int32) (lo hi : Nat) (h : lo ≤ hi) (hh : hi < 1000000) : (¬ ((lo : Int) ≤ x.toInt ∧ x.toInt ≤ hi)) ∨ ∃ n, lo ≤ n ∧ n ≤ hi ∧ x = nI n := by
  by_cases hb : (lo : Int) ≤ x.toInt ∧ x.toInt ≤ hi
  · right
    have e0 : (0 : Int32).toInt = 0 := by decide
    obtain ⟨j, hj, rfl⟩ := nI_of (x := x) (by rw [Int32.lt_iff_toInt_lt]; omega)
    have ej := nI_toInt (n := j) hj
    exact ⟨j, by omega, by omega, rfl⟩
  · exact Or.inl hb
theorem in_bad {x : Int32} {lo hi : Nat} (hh : hi < 1000000) (hl : lo < 1000000) (h : ¬ ((lo : Int) ≤ x.toInt ∧ x.toInt ≤ hi)) : f_X7_in x (nI lo) (nI hi) = 0 := by rw [inE hh hl, if_neg h]
theorem in_ok {n lo hi : Nat} (hh : hi < 1000000) (h1 : lo ≤ n) (h2 : n ≤ hi) : f_X7_in (nI n) (nI lo) (nI hi) = 1 := by
  have := nI_toInt (n := n) (by omega)
  rw [inE hh (by omega), if_pos (by omega)]
theorem sp_minutes (x1 : Int32) : Sp2 (f_X6_minutes x1) (f_X7_minutes x1) := fun S hS => by
  have hN := hS.2.2.2.1
  have hn := hN.v.n
  by_cases hz : S.2.2.2.1 2 = 0
  · refine SpAt.keep hS (-1000002) (fun m hm => ?_) (fun m hm => ?_)
    · unfold f_X6_minutes
      rw [isNoneE hn hm.2.2.2.1, if_pos hz]; rfl
    · unfold f_X7_minutes
      rw [isWedE hN hm.2.2.2.1, if_pos hz]; rfl
  have hW := hN.w (by omega)
  have c1 : ∀ m, CInv m S → f_X6_minutes x1 m = if x1 < (1 : Int32) then some ((-1000001 : Int32), m) else if x1 ≤ (24 : Int32) then (if nI (S.2.2.2.1 3) ≤ (9999 : Int32) - x1 then (bd1 (lp_X6_minutes_44 FU x1 (0 : Int32) m) fun m9 => some (m9 13 4, m9)) else some ((-1000003 : Int32), m)) else some ((-1000001 : Int32), m) := fun m hm => by
    unfold f_X6_minutes
    rw [isNoneE hn hm.2.2.2.1, if_neg hz, if_pos rfl, hm.2.2.2.1.2.2.2.1]
  have c2 : ∀ m, MInv m S → f_X7_minutes x1 m = if f_X7_in x1 (1 : Int32) (24 : Int32) = 0 then some ((-1000001 : Int32), m) else if nI (S.2.2.2.1 3) + x1 ≤ (9999 : Int32) then (bd1 (lp_X7_minutes_42 FU x1 (0 : Int32) m) fun m8 => some (m8 304 4, m8)) else some ((-1000003 : Int32), m) := fun m hm => by
    unfold f_X7_minutes
    rw [isWedE hN hm.2.2.2.1, if_neg hz, if_neg (by decide), show ix (3 : Int32) = 3 from rfl, show ix (4 : Int32) = 4 from rfl, hm.2.2.2.1.at (by omega)]
  have e1 : (1 : Int32).toInt = 1 := by decide
  have e24 : (24 : Int32).toInt = 24 := by decide
  rcases btw x1 1 24 (by omega) (by omega) with hb | ⟨n, hn1, hn2, rfl⟩
  · refine SpAt.keep hS (-1000001) (fun m hm => ?_) (fun m hm => ?_)
    · rw [c1 m hm]
      by_cases h : x1 < 1
      · rw [if_pos h]
      · rw [if_neg h, if_neg]
        rw [Int32.lt_iff_toInt_lt] at h; rw [Int32.le_iff_toInt_le]; omega
    · rw [c2 m hm, show f_X7_in x1 (1 : Int32) (24 : Int32) = 0 from in_bad (lo := 1) (hi := 24) (by omega) (by omega) hb, if_pos rfl]
  have h3 : S.2.2.2.1 3 ≤ 9999 := hW.2.1
  have q1 : (nI n < (1 : Int32)) = (n < 1) := nI_ltE (b := 1) (by omega) (by omega)
  have q2 : (nI n ≤ (24 : Int32)) = (n ≤ 24) := nI_leE (b := 24) (by omega) (by omega)
  have q3 : (9999 : Int32) - nI n = nI (9999 - n) := nI_subE (a := 9999) (by omega)
  have q4 : (nI (S.2.2.2.1 3) ≤ nI (9999 - n)) = (S.2.2.2.1 3 ≤ 9999 - n) := nI_leE (by omega) (by omega)
  have q5 : (nI (S.2.2.2.1 3 + n) ≤ (9999 : Int32)) = (S.2.2.2.1 3 + n ≤ 9999) := nI_leE (b := 9999) (by omega) (by omega)
  have d1 : ∀ m, CInv m S → f_X6_minutes (nI n) m = if S.2.2.2.1 3 ≤ 9999 - n then (bd1 (lp_X6_minutes_44 FU (nI n) (0 : Int32) m) fun m9 => some (m9 13 4, m9)) else some ((-1000003 : Int32), m) := fun m hm => by
    rw [c1 m hm]
    simp only [q1, q2, q3, q4]
    rw [if_neg (by omega), if_pos hn2]
  have d2 : ∀ m, MInv m S → f_X7_minutes (nI n) m = if S.2.2.2.1 3 + n ≤ 9999 then (bd1 (lp_X7_minutes_42 FU (nI n) (0 : Int32) m) fun m8 => some (m8 304 4, m8)) else some ((-1000003 : Int32), m) := fun m hm => by
    rw [c2 m hm, show f_X7_in (nI n) (1 : Int32) (24 : Int32) = 1 from in_ok (lo := 1) (hi := 24) (by omega) hn1 hn2, if_neg (by decide)]
    simp only [nI_add, q5]
  by_cases hf : S.2.2.2.1 3 + n ≤ 9999
  rotate_left
  · exact SpAt.keep hS (-1000003) (fun m hm => by rw [d1 m hm, if_neg (by omega)]) (fun m hm => by rw [d2 m hm, if_neg hf])
  have hF := FU_big
  obtain ⟨hl, hA⟩ := hS.2.2.2.2.1
  obtain ⟨o1, o2, o3⟩ := minV_ok n _ _ hW hf hl hA
  refine ⟨nI ((minV n S.2.2.2.1 S.2.2.2.2.1).1 4), setVA S (minV n S.2.2.2.1 S.2.2.2.2.1).1 (minV n S.2.2.2.1 S.2.2.2.2.1).2, setVA_ok hS (Or.inl o1) o2 o3, fun m hm => ?_, fun m hm => ?_⟩
  · obtain ⟨m', a1, a2, a3, a4⟩ := cl_minutes hn2 FU 0 m _ _ hW (by omega) hl hm.2.2.2.1 hm.2.2.2.2.1 (by omega) (by omega)
    have a1' : lp_X6_minutes_44 FU (nI n) (0 : Int32) m = some m' := a1
    rw [d1 m hm, if_pos (by omega), a1', bd1_d]
    exact ⟨m', by rw [a2.2.2.2.2.1]; rfl, hm.wed a2 a3 fun a ha => a4 a (by omega), fun a ha => a4 a (by omega)⟩
  · obtain ⟨m', a1, a2, a3, a4, a5⟩ := mo_minutes hn2 FU 0 m _ _ hW (by omega) hl hm.2.2.2.1 hm.2.2.2.2.1 (by omega) (by omega)
    have a1' : lp_X7_minutes_42 FU (nI n) (0 : Int32) m = some m' := a1
    rw [d2 m hm, if_pos hf, a1', bd1_d]
    exact ⟨m', by rw [a2.at (by omega)]; rfl, hm.wed a2 a3 (fun a h1 h2 => a4 a (by omega) (by omega) (by omega) (by omega)) (fun k hk => a5 k (by omega)), fun a ha => a4 a (by omega) (by omega) (by omega) (by omega)⟩
def hymV (V : Wv) (h : Nat) : Wv := fun k => if k = 1 then h else V k
theorem hymV_ok {V : Wv} {h : Nat} (hV : OkV V) (hh : h ≤ 15) : OkV (hymV V h) := by
  have e : ∀ k, k ≠ 1 → hymV V h k = V k := fun k hk => if_neg hk
  have ei : ∀ g f, hymV V h (ig g f) = V (ig g f) := fun g f => e _ (by unfold ig; omega)
  obtain ⟨h0, h1, h2, h3, h4, h5, h6, h7, h8⟩ := hV
  refine ⟨by rw [e 0 (by omega)]; exact h0, hh, by rw [e 2 (by omega)]; exact h2, by rw [e 3 (by omega)]; exact h3, by rw [e 4 (by omega)]; exact h4, by rw [e 5 (by omega)]; exact h5, ?_, ?_, ?_⟩
  · rw [e 2 (by omega)]
    intro g hg
    have := h6 g hg
    unfold GdV at *
    simp only [ei]
    rw [e 2 (by omega)]
    exact this
  · rw [e 2 (by omega)]
    intro g g' hg hg' he
    rw [ei, ei] at he
    exact h7 g g' hg hg' he
  · rw [e 2 (by omega)]
    intro p hp
    obtain ⟨g, hg, he⟩ := h8 p hp
    exact ⟨g, hg, by rw [ei]; exact he⟩
theorem cl_hym {m : Mm} {w h : Nat} {V : Wv} (hc : CW m w V) : CW (st_ m w 2 (nI h)) w (hymV V h) := by
  have e : ∀ k, k ≠ 1 → hymV V h k = V k := fun k hk => if_neg hk
  have ei : ∀ g f, hymV V h (ig g f) = V (ig g f) := fun g f => e _ (by unfold ig; omega)
  obtain ⟨h0, h1, h2, h3, h4, h5, ⟨b, h6, h7, h8⟩, hg⟩ := hc
  refine ⟨by rw [st_n (Or.inr (by omega)), e 2 (by omega)]; exact h0, by rw [st_n (Or.inr (by omega)), e 0 (by omega)]; exact h1, by rw [st_s]; rfl, by rw [st_n (Or.inr (by omega)), e 3 (by omega)]; exact h3, by rw [st_n (Or.inr (by omega)), e 4 (by omega)]; exact h4, by rw [st_n (Or.inr (by omega)), e 5 (by omega)]; exact h5, ⟨b, by rw [st_n (Or.inr (by omega))]; exact h6, by rw [e 2 (by omega)]; exact h7, fun g hg2 => by rw [e 2 (by omega)] at hg2; rw [ei]; exact h8 g hg2⟩, fun g hg2 => ?_⟩
  rw [e 2 (by omega)] at hg2
  have := hg g hg2
  unfold CwG at *
  simp only [ei]
  rw [st_na (by omega), st_na (by omega), st_na (by omega), st_na (by omega), st_na (by omega), st_na (by omega), st_na (by omega)]
  exact this
theorem sp_hymns (x1 : Int32) : Sp2 (f_X6_hymns x1) (f_X7_hymns x1) := fun S hS => by
  have hN := hS.2.2.2.1
  have hn := hN.v.n
  by_cases hz : S.2.2.2.1 2 = 0
  · refine SpAt.keep hS (-1000002) (fun m hm => ?_) (fun m hm => ?_)
    · unfold f_X6_hymns
      rw [isNoneE hn hm.2.2.2.1, if_pos hz]; rfl
    · unfold f_X7_hymns
      rw [isWedE hN hm.2.2.2.1, if_pos hz]; rfl
  have hW := hN.w (by omega)
  have c1 : ∀ m, CInv m S → f_X6_hymns x1 m = if x1 < 0 then some ((-1000001 : Int32), m) else if x1 < (16 : Int32) then (bd1 (f_X0_keep 13 m) fun m4 => some (m4 13 2, st_ m4 13 2 x1)) else some ((-1000001 : Int32), m) := fun m hm => by
    unfold f_X6_hymns
    rw [isNoneE hn hm.2.2.2.1, if_neg hz, if_pos rfl]
    rfl
  have c2 : ∀ m, MInv m S → f_X7_hymns x1 m = if f_X7_in x1 (0 : Int32) (15 : Int32) = 0 then some ((-1000001 : Int32), m) else (bd1 (f_X7_notes m) fun m3 => some (m3 304 1, st_ m3 304 1 x1)) := fun m hm => by
    unfold f_X7_hymns
    rw [isWedE hN hm.2.2.2.1, if_neg hz, if_neg (by decide), show ix (1 : Int32) = 1 from rfl]
    rfl
  have e0 : (0 : Int32).toInt = 0 := by decide
  have e16 : (16 : Int32).toInt = 16 := by decide
  rcases btw x1 0 15 (by omega) (by omega) with hb | ⟨n, hn1, hn2, rfl⟩
  · refine SpAt.keep hS (-1000001) (fun m hm => ?_) (fun m hm => ?_)
    · rw [c1 m hm]
      by_cases h : x1 < 0
      · rw [if_pos h]
      · rw [if_neg h, if_neg]
        rw [Int32.lt_iff_toInt_lt] at h; rw [Int32.lt_iff_toInt_lt]; omega
    · rw [c2 m hm, show f_X7_in x1 (0 : Int32) (15 : Int32) = 0 from in_bad (lo := 0) (hi := 15) (by omega) (by omega) hb, if_pos rfl]
  obtain ⟨hl, hA⟩ := hS.2.2.2.2.1
  refine ⟨nI (S.2.2.2.1 1), setVA S (hymV S.2.2.2.1 n) (pushA S.2.2.2.1 S.2.2.2.2.1), setVA_ok hS (Or.inl ⟨hymV_ok hW.1 hn2, hW.2.1, hW.2.2.1, hW.2.2.2⟩) (by rw [pushA_len]; omega) (pushA_mem hW hA), fun m hm => ?_, fun m hm => ?_⟩
  · obtain ⟨m1, a1, a2, a3, a4⟩ := cl_keep hW.1 hm.2.2.2.1 hl hm.2.2.2.2.1
    rw [c1 m hm, if_neg (nI_pos (by omega)), if_pos (by rw [show (16 : Int32) = nI 16 from rfl, nI_ltE (by omega) (by omega)]; omega), a1, bd1_d]
    exact ⟨_, by rw [a2.2.2.1], hm.wed (cl_hym a2) (a3.frame fun a ha hb => st_na (by omega)) (fun a ha => by rw [st_na (by omega), a4 a (by omega)]), fun a ha => by rw [st_na (by omega), a4 a (by omega)]⟩
  · obtain ⟨m1, a1, a2, a3, a4, a5⟩ := mo_notes hm.2.2.2.1 hl hm.2.2.2.2.1
    rw [c2 m hm, show f_X7_in (nI n) (0 : Int32) (15 : Int32) = 1 from in_ok (lo := 0) (hi := 15) (by omega) hn1 hn2, if_neg (by decide), a1, bd1_d]
    refine ⟨_, by rw [a2.at (by omega)], hm.wed (fun k hk => ?_) (a3.frame (by rw [st_na (by omega)]) (st_na (by omega))) (fun a h1 h2 => by rw [st_na (by omega), a4 a (by omega) (by omega)]) (fun k hk => by rw [st_na (by omega), a5 k (by omega)]), fun a ha => by rw [st_na (by omega), a4 a (by omega) (by omega)]⟩
    rw [Nat.zero_add]
    by_cases hk1 : k = 1
    · subst hk1; rw [st_s]; rfl
    · rw [st_n (Or.inr hk1), a2.at hk]; exact congrArg nI (if_neg hk1).symm
