/-! what a guest may be like, by what it is told to shed -/
def asT (g : Nat) (T : Nat → Int32) : Nat → Nat → Wv → Bool
  | 0, _, _ => true
  | k + 1, j, V => if nI (passV V (ig g 6)) = T j then asT g T k (j + 1) (passV V) else false
def setP (V : Wv) (p v : Nat) : Wv := fun k => if k = p then v else V k
theorem setP_ne {V : Wv} {p v k : Nat} (h : k ≠ p) : setP V p v k = V k := if_neg h
theorem setP_eq {V : Wv} {p v : Nat} : setP V p v p = v := if_pos rfl
/-- the places that may be set: a guest's kind, start, well -/
theorem setP_ok {V : Wv} {g f v : Nat} (hV : OkV V) (hg : g < V 2) (hf : (f = 0 ∧ 1 ≤ v ∧ v ≤ 5) ∨ (f = 1 ∧ v ≤ 9) ∨ (f = 2 ∧ v ≤ 99)) : OkV (setP V (ig g f) v) := by
  have e : ∀ k, k < 6 → setP V (ig g f) v k = V k := fun k hk => setP_ne (by unfold ig; omega)
  have ei : ∀ h f', f' < 7 → (h ≠ g ∨ f' ≠ f) → setP V (ig g f) v (ig h f') = V (ig h f') := fun h f' h7 hh => setP_ne (by unfold ig; omega)
  have e4 : ∀ h, setP V (ig g f) v (ig h 4) = V (ig h 4) := fun h => ei h 4 (by omega) (Or.inr (by omega))
  refine ⟨by rw [e 0 (by omega)]; exact hV.1, by rw [e 1 (by omega)]; exact hV.2.1, by rw [e 2 (by omega)]; exact hV.n, by rw [e 3 (by omega)]; exact hV.2.2.2.1, by rw [e 4 (by omega)]; exact hV.2.2.2.2.1, by rw [e 5 (by omega)]; exact hV.2.2.2.2.2.1, ?_, ?_, ?_⟩
  · rw [e 2 (by omega)]
    intro h hh
    obtain ⟨b1, b2, b3, b4, b5, b6, b7, b8, b9⟩ := hV.b hh
    unfold GdV
    rw [e4, e 2 (by omega), ei h 3 (by omega) (Or.inr (by omega)), ei h 5 (by omega) (Or.inr (by omega)), ei h 6 (by omega) (Or.inr (by omega))]
    by_cases hgh : h = g
    · subst hgh
      rcases hf with ⟨rfl, h1, h2⟩ | ⟨rfl, h1⟩ | ⟨rfl, h1⟩
      · rw [setP_eq, ei h 1 (by omega) (Or.inr (by omega)), ei h 2 (by omega) (Or.inr (by omega))]
        exact ⟨h1, h2, b3, b4, b5, b6, b7, b8, b9⟩
      · rw [setP_eq, ei h 0 (by omega) (Or.inr (by omega)), ei h 2 (by omega) (Or.inr (by omega))]
        exact ⟨b1, b2, h1, b4, b5, b6, b7, b8, b9⟩
      · rw [setP_eq, ei h 0 (by omega) (Or.inr (by omega)), ei h 1 (by omega) (Or.inr (by omega))]
        exact ⟨b1, b2, b3, h1, b5, b6, b7, b8, b9⟩
    · rw [ei h 0 (by omega) (Or.inl hgh), ei h 1 (by omega) (Or.inl hgh), ei h 2 (by omega) (Or.inl hgh)]
      exact ⟨b1, b2, b3, b4, b5, b6, b7, b8, b9⟩
  · rw [e 2 (by omega)]
    intro h h' hh hh' he
    rw [e4, e4] at he
    exact hV.inj h h' hh hh' he
  · rw [e 2 (by omega)]
    intro p hp
    obtain ⟨h, hh, he⟩ := hV.sur p hp
    exact ⟨h, hh, by rw [e4]; exact he⟩
theorem cl_setP {m : Mm} {w g f r v : Nat} {V : Wv} (hf : (f = 0 ∧ r = 1) ∨ (f = 1 ∧ r = 2) ∨ (f = 2 ∧ r = 4)) (hc : CW m w V) : CW (st_ m (w + r) g (nI v)) w (setP V (ig g f) v) := by
  have e : ∀ k, k < 6 → setP V (ig g f) v k = V k := fun k hk => setP_ne (by unfold ig; omega)
  have ei : ∀ h f', f' < 7 → (h ≠ g ∨ f' ≠ f) → setP V (ig g f) v (ig h f') = V (ig h f') := fun h f' h7 hh => setP_ne (by unfold ig; omega)
  obtain ⟨h0, h1, h2, h3, h4, h5, ⟨b, h6, h7, h8⟩, hg⟩ := hc
  unfold CW
  rw [st_na (show w ≠ w + r by omega), e 0 (by omega), e 1 (by omega), e 2 (by omega), e 3 (by omega), e 4 (by omega), e 5 (by omega)]
  refine ⟨h0, h1, h2, h3, h4, h5, ⟨b, h6, h7, fun h hh => by rw [ei h 5 (by omega) (Or.inr (by omega))]; exact h8 h hh⟩, fun h hh => ?_⟩
  obtain ⟨c1, c2, c3, c4, c5, c6, c7⟩ := hg h hh
  unfold CwG
  rw [ei h 4 (by omega) (Or.inr (by omega)), ei h 3 (by omega) (Or.inr (by omega)), ei h 6 (by omega) (Or.inr (by omega)), st_na (show w + 3 ≠ w + r by omega), st_na (show w + 5 ≠ w + r by omega), st_na (show w + 6 ≠ w + r by omega), st_na (show w + 7 ≠ w + r by omega)]
  by_cases hgh : h = g
  · subst hgh
    rcases hf with ⟨rfl, rfl⟩ | ⟨rfl, rfl⟩ | ⟨rfl, rfl⟩
    · rw [setP_eq, st_s, ei h 1 (by omega) (Or.inr (by omega)), ei h 2 (by omega) (Or.inr (by omega)), st_na (by omega), st_na (by omega)]
      exact ⟨rfl, c2, c3, c4, c5, c6, c7⟩
    · rw [setP_eq, st_s, ei h 0 (by omega) (Or.inr (by omega)), ei h 2 (by omega) (Or.inr (by omega)), st_na (by omega), st_na (by omega)]
      exact ⟨c1, rfl, c3, c4, c5, c6, c7⟩
    · rw [setP_eq, st_s, ei h 0 (by omega) (Or.inr (by omega)), ei h 1 (by omega) (Or.inr (by omega)), st_na (by omega), st_na (by omega)]
      exact ⟨c1, c2, c3, rfl, c5, c6, c7⟩
  · rw [ei h 0 (by omega) (Or.inl hgh), ei h 1 (by omega) (Or.inl hgh), ei h 2 (by omega) (Or.inl hgh), st_n (Or.inr hgh), st_n (Or.inr hgh), st_n (Or.inr hgh)]
    exact ⟨c1, c2, c3, c4, c5, c6, c7⟩
/-- what the Guess holds -/
def GH (m : Mm) (g n : Nat) (T : Nat → Int32) : Prop := m 251 2 = nI n ∧ m 251 3 = nI g ∧ ∀ k, k < n → m 261 k = T k
theorem GH.frame {m m' : Mm} {g n : Nat} {T : Nat → Int32} (h : GH m g n T) (hf : ∀ a, (a < 252 ∨ 260 < a) → m' a = m a) : GH m' g n T := by
  obtain ⟨h1, h2, h3⟩ := h
  unfold GH
  rw [hf 251 (by omega), hf 261 (by omega)]
  exact ⟨h1, h2, h3⟩
theorem cl_told_loop {g n : Nat} {T : Nat → Int32} (hn : n ≤ 12) : ∀ (k f j : Nat) (m : Mm) (V : Wv), j + k = n → k < f → OkV V → g < V 2 → V 3 + k ≤ 20000 → GH m g n T → CW m 252 V →
    ∃ m', lp_X2_isAsTold_2 f (nI j) m = some (if asT g T k j V = true then .inr m' else .inl (0, m')) ∧ ∀ a, (a < 252 ∨ 260 < a) → m' a = m a := by
  intro k
  induction k with
  | zero =>
    intro f j m V hj hf hV hg h3 hG hc
    cases f with
    | zero => omega
    | succ f =>
      refine ⟨m, ?_, fun _ _ => rfl⟩
      show lb_X2_isAsTold_2 (lp_X2_isAsTold_2 f) (nI j) m = _
      unfold lb_X2_isAsTold_2
      rw [hG.1, if_pos (by rw [nI_leE (by omega) (by omega)]; omega), if_pos (show asT g T 0 j V = true from rfl)]
  | succ k ih =>
    intro f j m V hj hf hV hg h3 hG hc
    cases f with
    | zero => omega
    | succ f =>
      have hn7 := hV.n
      have hB : ∀ m', lb_X2_isAsTold_2 (lp_X2_isAsTold_2 f) (nI j) m = m' → lp_X2_isAsTold_2 (f + 1) (nI j) m = m' := fun m' h => h
      unfold lb_X2_isAsTold_2 at hB
      obtain ⟨m1, a1, a2, a3⟩ := cl_pass hV hc
      have hG1 : GH m1 g n T := hG.frame fun a ha => a3 a (by omega)
      have hg1 : g < passV V 2 := by rw [passV_lo (by omega)]; exact hg
      have e5 : m1 257 g = nI (passV V (ig g 6)) := (a2.g hg1).2.2.2.2.1
      rw [hG.1, if_neg (by rw [nI_leE (by omega) (by omega)]; omega), a1, bd1_d, hG1.2.1, gdN (by omega) (by omega), gdN (by omega) (by omega), ix_nI (by omega), ix_nI (by omega), e5, hG1.2.2 j (by omega), nm_d, nI_s1] at hB
      unfold asT
      by_cases h : nI (passV V (ig g 6)) = T j
      · rw [if_pos h] at hB
        rw [if_pos h]
        obtain ⟨m', z1, z2⟩ := ih f (j + 1) m1 (passV V) (by omega) (by omega) (passV_ok hV (by omega)) hg1 (by show V 3 + 1 + k ≤ 20000; omega) hG1 a2
        exact ⟨m', hB _ z1, fun a ha => by rw [z2 a ha, a3 a (by omega)]⟩
      · rw [if_neg h] at hB
        rw [if_neg h]
        exact ⟨m1, hB _ rfl, fun a ha => a3 a (by omega)⟩
theorem cl_told {m : Mm} {g n : Nat} {T : Nat → Int32} {V : Wv} (hn : n ≤ 12) (hV : OkV V) (hg : g < V 2) (h3 : V 3 ≤ 9999) (hG : GH m g n T) (hc : CW m 252 V) : ∃ m', f_X2_isAsTold m = some ((if asT g T n 0 V = true then 1 else 0), m') ∧ ∀ a, (a < 252 ∨ 260 < a) → m' a = m a := by
  have hF := FU_big
  obtain ⟨m', z1, z2⟩ := cl_told_loop hn n FU 0 m V (by omega) (by omega) hV hg (by omega) hG hc
  have z1' : lp_X2_isAsTold_2 FU (0 : Int32) m = _ := z1
  refine ⟨m', ?_, z2⟩
  unfold f_X2_isAsTold
  rw [z1']
  by_cases h : asT g T n 0 V = true
  · rw [if_pos h, if_pos h]; rfl
  · rw [if_neg h, if_neg h]; rfl
theorem mo_told_loop {g n i0 : Nat} {T : Nat → Int32} (hn : n ≤ 12) (hi0 : i0 + n ≤ 320) : ∀ (k f j : Nat) (m : Mm) (V : Wv) (b : Bool), j + k = n → k < f → OkV V → g < V 2 → V 3 + k ≤ 20000 → (∀ k, k < n → m 301 (i0 + k) = T k) → MW m 306 0 V →
    ∃ m', lp_X7_shedsSo_28 f (nI g) (nI i0) (nI n) (if b = true then 1 else 0) (nI j) m = some ((if (b && asT g T k j V) = true then 1 else 0), m') ∧ ∀ a, a ≠ 306 → a ≠ 310 → m' a = m a := by
  intro k
  induction k with
  | zero =>
    intro f j m V b hj hf hV hg h3 hT hc
    cases f with
    | zero => omega
    | succ f =>
      refine ⟨m, ?_, fun _ _ _ => rfl⟩
      show lb_X7_shedsSo_28 (lp_X7_shedsSo_28 f) (nI g) (nI i0) (nI n) _ (nI j) m = _
      unfold lb_X7_shedsSo_28
      rw [if_pos (by rw [nI_leE (by omega) (by omega)]; omega)]
      show some ((if b = true then (1 : Int32) else 0), m) = some ((if (b && true) = true then (1 : Int32) else 0), m)
      rw [Bool.and_true]
  | succ k ih =>
    intro f j m V b hj hf hV hg h3 hT hc
    cases f with
    | zero => omega
    | succ f =>
      have hn7 := hV.n
      have hB : ∀ m', lb_X7_shedsSo_28 (lp_X7_shedsSo_28 f) (nI g) (nI i0) (nI n) (if b = true then 1 else 0) (nI j) m = m' → lp_X7_shedsSo_28 (f + 1) (nI g) (nI i0) (nI n) (if b = true then 1 else 0) (nI j) m = m' := fun m' h => h
      unfold lb_X7_shedsSo_28 at hB
      obtain ⟨m1, a1, a2, a3, a4⟩ := mo_pass (q := 306) (nq := 55) (by omega) (by omega) hV hc
      have i6 : ig g 6 < 55 := ig_lt (n := 7) (by omega) (by omega) (by omega)
      have hT1 : ∀ k, k < n → m1 301 (i0 + k) = T k := fun k hk => by rw [a3 301 (by omega) (by omega)]; exact hT k hk
      have hg1 : g < passV V 2 := by rw [passV_lo (by omega)]; exact hg
      rw [if_neg (by rw [nI_leE (by omega) (by omega)]; omega), a1, bd1_d, show (6 : Int32) + (7 : Int32) * nI g + (6 : Int32) = nI (ig g 6) from igE g 6, nI_add, gdN i6 (by omega), gdN (by omega) (by omega), ix_nI (by omega), ix_nI (by omega), a2.at i6, hT1 j (by omega), fitIf] at hB
      simp only [nm_d, nI_s1] at hB
      have fin : ∀ b', (b && asT g T (k + 1) j V) = (b' && asT g T k (j + 1) (passV V)) → (if b = true then (if nI (passV V (ig g 6)) = T j then some (1 : Int32) else some (0 : Int32)) else some (0 : Int32)) = some (if b' = true then (1 : Int32) else 0) → ∃ m', lp_X7_shedsSo_28 (f + 1) (nI g) (nI i0) (nI n) (if b = true then 1 else 0) (nI j) m = some ((if (b && asT g T (k + 1) j V) = true then 1 else 0), m') ∧ ∀ a, a ≠ 306 → a ≠ 310 → m' a = m a := by
        intro b' e1 e2
        rw [e2, bd1_d] at hB
        obtain ⟨m', z1, z2⟩ := ih f (j + 1) m1 (passV V) b' (by omega) (by omega) (passV_ok hV (by omega)) hg1 (by show V 3 + 1 + k ≤ 20000; omega) hT1 a2
        exact ⟨m', hB _ (by rw [e1]; exact z1), fun a h1 h2 => by rw [z2 a h1 h2, a3 a h1 h2]⟩
      have ea : asT g T (k + 1) j V = if nI (passV V (ig g 6)) = T j then asT g T k (j + 1) (passV V) else false := rfl
      cases b with
      | false => exact fin false rfl rfl
      | true =>
        by_cases h : nI (passV V (ig g 6)) = T j
        · exact fin true (by rw [ea, if_pos h]) (by rw [if_pos h]; rfl)
        · exact fin false (by rw [ea, if_neg h]; rfl) (by rw [if_neg h]; rfl)
theorem mo_told {m : Mm} {g n i0 p v : Nat} {T : Nat → Int32} {V : Wv} (hn : n ≤ 12) (hi0 : i0 + n ≤ 320) (hV : OkV (setP V p v)) (hp : p < 55) (hp6 : p ≠ 2 ∧ p ≠ 3) (hg : g < V 2) (h3 : V 3 ≤ 9999) (hT : ∀ k, k < n → m 301 (i0 + k) = T k) (hm : MW m 304 0 V) : ∃ m', f_X7_shedsSo (nI g) (nI i0) (nI n) (nI p) (nI v) m = some ((if asT g T n 0 (setP V p v) = true then 1 else 0), m') ∧ ∀ a, a ≠ 306 → a ≠ 310 → m' a = m a := by
  have hF := FU_big
  obtain ⟨m1, a1, a2, a3, a4⟩ := mo_copy (q1 := 304) (z1 := 55) (o1 := 0) (q3 := 306) (z3 := 55) (o3 := 0) (by omega) (by omega) (by omega) (by omega) (by omega) hm
  have a1' : f_X7_copies 304 55 (0 : Int32) 306 55 (0 : Int32) m = some m1 := a1
  have hM : MW (st_ m1 306 p (nI v)) 306 0 (setP V p v) := fun k hk => by
    rw [Nat.zero_add]
    by_cases h : k = p
    · subst h; rw [st_s, setP_eq]
    · rw [st_n (Or.inr h), setP_ne h, a2.at hk]
  obtain ⟨m', z1, z2⟩ := mo_told_loop (T := T) hn hi0 n FU 0 (st_ m1 306 p (nI v)) _ true (by omega) (by omega) hV (by rw [setP_ne (by omega)]; exact hg) (by rw [setP_ne (by omega)]; omega) (fun k hk => by rw [st_na (by omega), a3 301 (by omega)]; exact hT k hk) hM
  have z1' : lp_X7_shedsSo_28 FU (nI g) (nI i0) (nI n) (1 : Int32) (0 : Int32) (st_ m1 306 p (nI v)) = some ((if asT g T n 0 (setP V p v) = true then 1 else 0), m') := z1
  unfold f_X7_shedsSo
  rw [a1', bd1_d, gdN hp (by omega), ix_nI (by omega), nm_d, z1', bd2_d, gd_t (by split <;> decide)]
  exact ⟨m', rfl, fun a h1 h2 => by rw [z2 a h1 h2, st_na h1, a3 a h1]⟩
