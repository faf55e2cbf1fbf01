/-! copying a wedding, hiring, changing seats -/
theorem cp_at {m : Mm} {a0 sp a1 dp n k : Nat} (h1 : dp ≤ k) (h2 : k < dp + n) : cp_ m a0 sp a1 dp n a1 k = m a0 (sp + (k - dp)) := if_pos ⟨rfl, h1, h2⟩
theorem ix0 : ix (0 : Int32) = 0 := rfl
theorem ix7 : ix (7 : Int32) = 7 := rfl
theorem cp7 {m : Mm} {a0 a1 k : Nat} (h2 : k < 7) : cp_ m a0 0 a1 0 7 a1 k = m a0 k := by rw [cp_at (by omega) (by omega), Nat.zero_add, Nat.sub_zero]
set_option maxHeartbeats 2000000 in
theorem cl_become {m : Mm} {w0 w1 : Nat} {V : Wv} (hd : w0 + 8 < w1 ∨ w1 + 8 < w0) (hn : V 2 ≤ 7) (hs : ∀ g, g < V 2 → V (ig g 4) < V 2) (hc : CW m w1 V) : ∃ m', f_X5_become w0 w1 m = some m' ∧ CW m' w0 V ∧ ∀ a, (a < w0 ∨ w0 + 7 < a) → m' a = m a := by
  unfold f_X5_become
  simp only [nm_d, ix0, ix7]
  refine ⟨_, rfl, ?_, fun a ha => by simp (disch := omega) only [cp_na, st_na]⟩
  obtain ⟨h0, h1, h2, h3, h4, h5, ⟨h, h6, h7, h8⟩, hg⟩ := hc
  refine ⟨?_, ?_, ?_, ?_, ?_, ?_, ⟨h, ?_, h7, h8⟩, fun g hgl => ?_⟩
  · simp (disch := omega) only [cp_na, st_n, st_s]; exact h0
  · simp (disch := omega) only [cp_na, st_n, st_s]; exact h1
  · simp (disch := omega) only [cp_na, st_n, st_s]; exact h2
  · simp (disch := omega) only [cp_na, st_n, st_s]; exact h3
  · simp (disch := omega) only [cp_na, st_n, st_s]; exact h4
  · simp (disch := omega) only [cp_na, st_n, st_s]; exact h5
  · simp (disch := omega) only [cp_na, st_n, st_s]; exact h6
  · obtain ⟨c1, c2, c3, c4, c5, c6, c7⟩ := hg g hgl
    have hsg := hs g hgl
    unfold CwG
    refine ⟨?_, ?_, ?_, ?_, ?_, ?_, ?_⟩
    · simp (disch := omega) only [cp7, cp_na, st_na]; exact c1
    · simp (disch := omega) only [cp7, cp_na, st_na]; exact c2
    · simp (disch := omega) only [cp7, cp_na, st_na]; exact c3
    · simp (disch := omega) only [cp7, cp_na, st_na]; exact c4
    · simp (disch := omega) only [cp7, cp_na, st_na]; exact c5
    · simp (disch := omega) only [cp7, cp_na, st_na]; exact c6
    · simp (disch := omega) only [cp7, cp_na, st_na]; exact c7
theorem OkV.seats {V : Wv} (h : OkV V) : ∀ g, g < V 2 → V (ig g 4) < V 2 := fun _ hg => (h.b hg).2.2.2.2.2.1
theorem mo_copies {q1 z1 o1 q3 z3 o3 : Nat} (hq : q1 ≠ q3) (h1 : o1 + 55 ≤ z1) (h3 : o3 + 55 ≤ z3) (b1 : z1 ≤ 2000) (b3 : z3 ≤ 2000) : ∀ (f i : Nat) (m : Mm), i ≤ 55 → 55 - i < f → ∃ m', lp_X7_copies_3 q1 z1 q3 z3 f (nI o1) (nI o3) (nI i) m = some m' ∧ (∀ a, a ≠ q3 → m' a = m a) ∧ ∀ k, m' q3 k = if o3 + i ≤ k ∧ k < o3 + 55 then m q1 (o1 + (k - o3)) else m q3 k := by
  intro f
  induction f with
  | zero => intro i m _ h; omega
  | succ f ih =>
    intro i m hi hif
    show ∃ m', lb_X7_copies_3 (lp_X7_copies_3 q1 z1 q3 z3 f) q1 z1 q3 z3 (nI o1) (nI o3) (nI i) m = some m' ∧ _
    unfold lb_X7_copies_3
    have hc : ((55 : Int32) ≤ nI i) = (55 ≤ i) := nI_leE (a := 55) (by omega) (by omega)
    simp only [hc, nI_add]
    by_cases h : 55 ≤ i
    · rw [if_pos h]
      exact ⟨m, rfl, fun _ _ => rfl, fun k => by rw [if_neg (by omega)]⟩
    · rw [if_neg h, gdN (by omega) (by omega), nm_d, gdN (by omega) (by omega), nm_d, nm_d, ix_nI (by omega), ix_nI (by omega), n1, nI_add]
      obtain ⟨m', e1, e2, e3⟩ := ih (i + 1) (st_ m q3 (o3 + i) (m q1 (o1 + i))) (by omega) (by omega)
      refine ⟨m', e1, fun a ha => by rw [e2 a ha, st_na ha], fun k => ?_⟩
      rw [e3 k, st_na (a' := q1) hq]
      by_cases hk : k = o3 + i
      · subst hk; rw [if_neg (by omega), if_pos (by omega), st_s, show o1 + (o3 + i - o3) = o1 + i by omega]
      · rw [st_n (Or.inr hk)]
        by_cases hl : o3 + (i + 1) ≤ k ∧ k < o3 + 55
        · rw [if_pos hl, if_pos (by omega)]
        · rw [if_neg hl, if_neg (by omega)]
theorem mo_copy {q1 z1 o1 q3 z3 o3 : Nat} {m : Mm} {V : Wv} (hq : q1 ≠ q3) (h1 : o1 + 55 ≤ z1) (h3 : o3 + 55 ≤ z3) (b1 : z1 ≤ 2000) (b3 : z3 ≤ 2000) (hm : MW m q1 o1 V) : ∃ m', f_X7_copies q1 z1 (nI o1) q3 z3 (nI o3) m = some m' ∧ MW m' q3 o3 V ∧ (∀ a, a ≠ q3 → m' a = m a) ∧ ∀ k, (k < o3 ∨ o3 + 55 ≤ k) → m' q3 k = m q3 k := by
  have hF := FU_big
  obtain ⟨m', e1, e2, e3⟩ := mo_copies hq h1 h3 b1 b3 FU 0 m (by omega) (by omega)
  have e1' : lp_X7_copies_3 q1 z1 q3 z3 FU (nI o1) (nI o3) (0 : Int32) m = some m' := e1
  unfold f_X7_copies
  rw [e1', bd1_d]
  refine ⟨m', rfl, fun k hk => ?_, e2, fun k hk => ?_⟩
  · rw [e3, if_pos (by omega), show o1 + (o3 + k - o3) = o1 + k by omega]; exact hm k hk
  · rw [e3, if_neg (by omega)]
/-- hired just those of the bits h -/
def setHV (V : Wv) (h : Nat) : Wv := fun k => if 6 ≤ k ∧ k < 6 + 7 * V 2 then (if (k - 6) % 7 = 5 then h / 2 ^ ((k - 6) / 7) % 2 else if (k - 6) % 7 = 6 ∧ h / 2 ^ ((k - 6) / 7) % 2 = 0 then 0 else V k) else V k
theorem setHV_ig {V : Wv} {h g f : Nat} (hg : g < V 2) (hf : f < 7) : setHV V h (ig g f) = if f = 5 then h / 2 ^ g % 2 else if f = 6 ∧ h / 2 ^ g % 2 = 0 then 0 else V (ig g f) := by
  unfold setHV ig
  have e1 : (6 + 7 * g + f - 6) % 7 = f := by omega
  have e2 : (6 + 7 * g + f - 6) / 7 = g := by omega
  rw [if_pos (by omega), e1, e2]
theorem setHV_lo {V : Wv} {h k : Nat} (hk : k < 6) : setHV V h k = V k := by unfold setHV; rw [if_neg (by omega)]
theorem setHV_ok {V : Wv} {h : Nat} (hV : OkV V) : OkV (setHV V h) := by
  have e : ∀ k, k < 6 → setHV V h k = V k := fun k hk => setHV_lo hk
  have p4 : ∀ g, g < V 2 → setHV V h (ig g 4) = V (ig g 4) := fun g hg => by rw [setHV_ig hg (by omega), if_neg (by omega), if_neg (by omega)]
  refine ⟨by rw [e 0 (by omega)]; exact hV.1, by rw [e 1 (by omega)]; exact hV.2.1, by rw [e 2 (by omega)]; exact hV.n, by rw [e 3 (by omega)]; exact hV.2.2.2.1, by rw [e 4 (by omega)]; exact hV.2.2.2.2.1, by rw [e 5 (by omega)]; exact hV.2.2.2.2.2.1, ?_, ?_, ?_⟩
  · rw [e 2 (by omega)]
    intro g hg
    obtain ⟨b1, b2, b3, b4, b5, b6, b7, b8, b9⟩ := hV.b hg
    have hm2 : h / 2 ^ g % 2 < 2 := Nat.mod_lt _ (by omega)
    unfold GdV
    rw [p4 g hg, e 2 (by omega), setHV_ig hg (f := 0) (by omega), setHV_ig hg (f := 1) (by omega), setHV_ig hg (f := 2) (by omega), setHV_ig hg (f := 3) (by omega), setHV_ig hg (f := 5) (by omega), setHV_ig hg (f := 6) (by omega)]
    simp only [Nat.reduceEqDiff, reduceIte, false_and, true_and]
    refine ⟨b1, b2, b3, b4, b5, b6, by omega, ?_, fun h0 => if_pos h0⟩
    split <;> omega
  · rw [e 2 (by omega)]
    intro g g' hg hg' he
    rw [p4 g hg, p4 g' hg'] at he
    exact hV.inj g g' hg hg' he
  · rw [e 2 (by omega)]
    intro p hp
    obtain ⟨g, hg, he⟩ := hV.sur p hp
    exact ⟨g, hg, by rw [p4 g hg]; exact he⟩
theorem cl_hiredB {m : Mm} {w h : Nat} (he : m w 6 = nI h) (hh : h < 128) {g : Nat} (hg : g < 7) : f_X5_isHired w (nI g) m = nI (h / 2 ^ g % 2) := by
  unfold f_X5_isHired
  rw [he, bitE h hh g hg]
  have h2 : h / 2 ^ g % 2 < 2 := Nat.mod_lt _ (by omega)
  rcases (show h / 2 ^ g % 2 = 0 ∨ h / 2 ^ g % 2 = 1 by omega) with h | h <;> rw [h] <;> rfl
theorem engage_loop {w n h : Nat} (hn : n ≤ 7) (hh : h < 128) : ∀ (f i : Nat) (m : Mm), m w 0 = nI n → m w 6 = nI h → i ≤ n → n - i < f → ∃ m', lp_X5_engage_7 w f (nI i) m = some m' ∧ (∀ a, a ≠ w + 5 → m' a = m a) ∧ ∀ k, m' (w + 5) k = if i ≤ k ∧ k < n ∧ h / 2 ^ k % 2 = 0 then 0 else m (w + 5) k := by
  intro f
  induction f with
  | zero => intro i m _ _ _ h; omega
  | succ f ih =>
    intro i m h0 h6 hi hif
    show ∃ m', lb_X5_engage_7 (lp_X5_engage_7 w f) w (nI i) m = some m' ∧ _
    unfold lb_X5_engage_7
    have hc : (nI n ≤ nI i) = (n ≤ i) := nI_leE (by omega) (by omega)
    simp only [h0, hc]
    by_cases hl : n ≤ i
    · rw [if_pos hl]
      exact ⟨m, rfl, fun _ _ => rfl, fun k => by rw [if_neg (by omega)]⟩
    · rw [if_neg hl]
      have hb2 : h / 2 ^ i % 2 < 2 := Nat.mod_lt _ (by omega)
      have hif0 : (nI (h / 2 ^ i % 2) = 0) = (h / 2 ^ i % 2 = 0) := nI_eqE (b := 0) (by omega) (by omega)
      rw [gdN (show i < 7 by omega) (by omega), nm_d, ix_nI (by omega)]
      simp only [nm_d, cl_hiredB h6 hh (show i < 7 by omega), hif0]
      by_cases hb : h / 2 ^ i % 2 = 0
      · rw [if_pos hb, bd1_d, n1, nI_add]
        obtain ⟨m', e1, e2, e3⟩ := ih (i + 1) (st_ m (w + 5) i (0 : Int32)) (by rw [st_na (by omega)]; exact h0) (by rw [st_na (by omega)]; exact h6) (by omega) (by omega)
        refine ⟨m', e1, fun a ha => by rw [e2 a ha, st_na ha], fun k => ?_⟩
        rw [e3 k]
        by_cases hk : k = i
        · subst hk; rw [if_neg (by omega), st_s, if_pos (by omega)]
        · rw [st_n (Or.inr hk)]
          by_cases h1 : i + 1 ≤ k ∧ k < n ∧ h / 2 ^ k % 2 = 0
          · rw [if_pos h1, if_pos (by omega)]
          · rw [if_neg h1, if_neg (by omega)]
      · rw [if_neg hb, bd1_d, n1, nI_add]
        obtain ⟨m', e1, e2, e3⟩ := ih (i + 1) m h0 h6 (by omega) (by omega)
        refine ⟨m', e1, e2, fun k => ?_⟩
        rw [e3 k]
        by_cases hk : k = i
        · subst hk; rw [if_neg (by omega), if_neg (by omega)]
        · by_cases h1 : i + 1 ≤ k ∧ k < n ∧ h / 2 ^ k % 2 = 0
          · rw [if_pos h1, if_pos (by omega)]
          · rw [if_neg h1, if_neg (by omega)]
theorem cl_engage {m : Mm} {w h : Nat} {V : Wv} (hV : OkV V) (hc : CW m w V) (hh : h < 2 ^ V 2) : ∃ m', f_X5_engage w (nI h) m = some m' ∧ CW m' w (setHV V h) ∧ ∀ a, (a < w ∨ w + 7 < a) → m' a = m a := by
  have hF := FU_big
  have hn := hV.n
  have h128 := two_pow_lt hn
  obtain ⟨m', e1, e2, e3⟩ := engage_loop (w := w) (n := V 2) (h := h) hn (by omega) FU 0 (st_ m w 6 (nI h)) (by rw [st_n (Or.inr (by omega))]; exact hc.1) st_s (by omega) (by omega)
  have e1' : lp_X5_engage_7 w FU (0 : Int32) (st_ m w 6 (nI h)) = some m' := e1
  unfold f_X5_engage
  rw [nm_d, e1', bd1_d]
  refine ⟨m', rfl, ?_, fun a ha => by rw [e2 a (by omega), st_na (by omega)]⟩
  have ew : ∀ k, k ≠ 6 → m' w k = m w k := fun k hk => by rw [e2 w (by omega), st_n (Or.inr hk)]
  have ea : ∀ a, a ≠ w → a ≠ w + 5 → m' a = m a := fun a h1 h5 => by rw [e2 a h5, st_na h1]
  obtain ⟨h0, h1, h2, h3, h4, h5, -, hg⟩ := hc
  have l2 : setHV V h 2 = V 2 := setHV_lo (by omega)
  refine ⟨by rw [ew 0 (by omega), l2]; exact h0, by rw [ew 1 (by omega), setHV_lo (by omega)]; exact h1, by rw [ew 2 (by omega), setHV_lo (by omega)]; exact h2, by rw [ew 3 (by omega), setHV_lo (by omega)]; exact h3, by rw [ew 4 (by omega), setHV_lo (by omega)]; exact h4, by rw [ew 5 (by omega), setHV_lo (by omega)]; exact h5, ⟨h, by rw [e2 w (by omega), st_s], by rw [l2]; exact hh, fun g hg2 => ?_⟩, fun g hg2 => ?_⟩
  · rw [l2] at hg2
    rw [setHV_ig hg2 (by omega), if_pos rfl]
  · rw [l2] at hg2
    obtain ⟨c1, c2, c3, c4, c5, c6, c7⟩ := hg g hg2
    unfold CwG
    rw [ea (w + 1) (by omega) (by omega), ea (w + 2) (by omega) (by omega), ea (w + 3) (by omega) (by omega), ea (w + 4) (by omega) (by omega), ea (w + 6) (by omega) (by omega), ea (w + 7) (by omega) (by omega)]
    rw [setHV_ig hg2 (f := 0) (by omega), setHV_ig hg2 (f := 1) (by omega), setHV_ig hg2 (f := 2) (by omega), setHV_ig hg2 (f := 3) (by omega), setHV_ig hg2 (f := 4) (by omega), setHV_ig hg2 (f := 6) (by omega)]
    simp only [Nat.reduceEqDiff, reduceIte, false_and, true_and]
    refine ⟨c1, c2, c3, c4, ?_, c6, c7⟩
    rw [e3, st_na (by omega)]
    by_cases hb : h / 2 ^ g % 2 = 0
    · rw [if_pos ⟨by omega, hg2, hb⟩, if_pos hb]; rfl
    · rw [if_neg (by omega), if_neg hb]; exact c5
