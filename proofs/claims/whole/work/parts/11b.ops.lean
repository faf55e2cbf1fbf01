def setHP (V : Wv) (h i : Nat) : Wv := fun k => if 6 ≤ k ∧ k < 6 + 7 * i then (if (k - 6) % 7 = 5 then h / 2 ^ ((k - 6) / 7) % 2 else if (k - 6) % 7 = 6 ∧ h / 2 ^ ((k - 6) / 7) % 2 = 0 then 0 else V k) else V k
theorem setHP_hi {V : Wv} {h i k : Nat} (hk : 6 + 7 * i ≤ k) : setHP V h i k = V k := by unfold setHP; rw [if_neg (by omega)]
theorem setHP_step {V : Wv} {h i : Nat} (k : Nat) : setHP V h (i + 1) k = if k = ig i 5 then h / 2 ^ i % 2 else if k = ig i 6 ∧ h / 2 ^ i % 2 = 0 then 0 else setHP V h i k := by
  unfold setHP ig
  by_cases h5 : k = 6 + 7 * i + 5
  · rw [if_pos h5, if_pos (by omega), if_pos (by omega), show (k - 6) / 7 = i by omega]
  · rw [if_neg h5]
    by_cases h6 : k = 6 + 7 * i + 6
    · rw [if_pos (by omega), if_neg (by omega), show (k - 6) / 7 = i by omega, if_neg (c := 6 ≤ k ∧ k < 6 + 7 * i) (by omega)]
      by_cases hb : h / 2 ^ i % 2 = 0
      · rw [if_pos ⟨by omega, hb⟩, if_pos ⟨h6, hb⟩]
      · rw [if_neg (by omega), if_neg (by omega)]
    · rw [if_neg (c := k = 6 + 7 * i + 6 ∧ _) (by omega)]
      by_cases hl : 6 ≤ k ∧ k < 6 + 7 * i
      · rw [if_pos hl, if_pos (by omega)]
      · rw [if_neg hl]
        by_cases hl2 : 6 ≤ k ∧ k < 6 + 7 * (i + 1)
        · rw [if_pos hl2, if_neg (by omega), if_neg (by omega)]
        · rw [if_neg hl2]
theorem bit1 : ∀ h, h < 128 → ∀ g, g < 7 → (nI h >>> (nI g &&& 31)) &&& (1 : Int32) = nI (h / 2 ^ g % 2) := bitE
theorem mo_hires {m : Mm} {q nq : Nat} {V U : Wv} {g on : Nat} (hq : 55 ≤ nq) (hg : g < 7) (hon : on ≤ 1) (hm : MW m q 0 U) (h5 : U (ig g 5) = V (ig g 5)) (h6 : U (ig g 6) = V (ig g 6)) (hh : V (ig g 5) ≤ 1) (hz : V (ig g 5) = 0 → V (ig g 6) = 0) :
    ∃ m', f_X7_hires q nq (nI g) (nI on) m = some m' ∧ MW m' q 0 (fun k => if k = ig g 5 then on else if k = ig g 6 ∧ on = 0 then 0 else U k) ∧ (∀ a, a ≠ q → m' a = m a) ∧ ∀ k, 55 ≤ k → m' q k = m q k := by
  have i5 : ig g 5 < 55 := ig_lt (n := 7) (by omega) (by omega) (by omega)
  have i6 : ig g 6 < 55 := ig_lt (n := 7) (by omega) (by omega) (by omega)
  have hne : ig g 5 ≠ ig g 6 := by unfold ig; omega
  unfold f_X7_hires
  rw [show (6 : Int32) + (7 : Int32) * nI g + (5 : Int32) = nI (ig g 5) from igE g 5, show (6 : Int32) + (7 : Int32) * nI g + (6 : Int32) = nI (ig g 6) from igE g 6]
  have hc : (nI (V (ig g 5)) = nI on) = (V (ig g 5) = on) := nI_eqE (by omega) (by omega)
  simp (disch := omega) only [gdM, ix_nI, hm.at i5, h5, hc, nm_d]
  by_cases h : V (ig g 5) = on
  · rw [if_pos h]
    refine ⟨m, rfl, fun k hk => ?_, fun _ _ => rfl, fun _ _ => rfl⟩
    rw [hm k hk]
    show nI (U k) = nI (if k = ig g 5 then on else if k = ig g 6 ∧ on = 0 then 0 else U k)
    by_cases e5 : k = ig g 5
    · rw [if_pos e5, e5, h5, h]
    · rw [if_neg e5]
      by_cases e6 : k = ig g 6 ∧ on = 0
      · rw [if_pos e6, e6.1, h6, hz (by omega)]
      · rw [if_neg e6]
  · rw [if_neg h]
    refine ⟨_, rfl, fun k hk => ?_, fun a ha => by rw [st_na ha, st_na ha], fun k hk => by rw [st_n (Or.inr (by omega)), st_n (Or.inr (by omega))]⟩
    show st_ (st_ m q (ig g 5) (nI on)) q (ig g 6) (0 : Int32) q (0 + k) = nI (if k = ig g 5 then on else if k = ig g 6 ∧ on = 0 then 0 else U k)
    rw [Nat.zero_add]
    by_cases e6 : k = ig g 6
    · subst e6
      rw [st_s, if_neg (Ne.symm hne)]
      by_cases ho : on = 0
      · rw [if_pos ⟨rfl, ho⟩]; rfl
      · rw [if_neg (by omega), h6, hz (by omega)]; rfl
    · rw [st_n (Or.inr e6)]
      by_cases e5 : k = ig g 5
      · subst e5; rw [st_s, if_pos rfl]
      · rw [st_n (Or.inr e5), if_neg e5, if_neg (by omega), hm.at hk]
theorem tries_loop {V : Wv} {h : Nat} (hV : OkV V) (hh : h < 128) : ∀ (f i : Nat) (m : Mm), MW m 304 0 V → MW m 306 0 (setHP V h i) → i ≤ V 2 → V 2 - i < f → ∃ m', lp_X7_triesBy_15 f (nI h) (nI i) m = some m' ∧ MW m' 306 0 (setHV V h) ∧ ∀ a, a ≠ 306 → m' a = m a := by
  have hn := hV.n
  intro f
  induction f with
  | zero => intro i m _ _ _ h; omega
  | succ f ih =>
    intro i m hm ht hi hif
    show ∃ m', lb_X7_triesBy_15 (lp_X7_triesBy_15 f) (nI h) (nI i) m = some m' ∧ _
    unfold lb_X7_triesBy_15
    have x2 : ix (2 : Int32) = 2 := rfl
    have hc : (nI (V 2) ≤ nI i) = (V 2 ≤ i) := nI_leE (by omega) (by omega)
    simp only [x2, hm.at (show 2 < 55 by omega), hc]
    by_cases hl : V 2 ≤ i
    · have hi2 : i = V 2 := by omega
      rw [if_pos hl]
      subst hi2
      exact ⟨m, rfl, ht, fun _ _ => rfl⟩
    · rw [if_neg hl]
      have hg : i < V 2 := by omega
      obtain ⟨b1, b2, b3, b4, b5, b6, b7, b8, b9⟩ := hV.b hg
      have hb2 : h / 2 ^ i % 2 < 2 := Nat.mod_lt _ (by omega)
      rw [bit1 h hh i (by omega)]
      obtain ⟨m1, a1, a2, a3, a4⟩ := mo_hires (V := V) (nq := 55) (g := i) (on := h / 2 ^ i % 2) (by omega) (by omega) (by omega) ht (setHP_hi (by unfold ig; omega)) (setHP_hi (by unfold ig; omega)) b7 b9
      rw [a1, bd1_d, nm_d, n1, nI_add]
      obtain ⟨m', e1, e2, e3⟩ := ih (i + 1) m1 (hm.frame (a3 304 (by omega))) (fun k hk => by
        rw [a2 k hk, setHP_step]) (by omega) (by omega)
      exact ⟨m', e1, e2, fun a ha => by rw [e3 a ha, a3 a ha]⟩
theorem mo_triesBy {m : Mm} {V : Wv} {h : Nat} (hV : OkV V) (hm : MW m 304 0 V) (hh : h < 128) : ∃ m', f_X7_triesBy (nI h) m = some m' ∧ MW m' 306 0 (setHV V h) ∧ ∀ a, a ≠ 306 → m' a = m a := by
  have hF := FU_big
  have hn := hV.n
  obtain ⟨m1, a1, a2, a3, a4⟩ := mo_copy (q1 := 304) (z1 := 55) (o1 := 0) (q3 := 306) (z3 := 55) (o3 := 0) (by omega) (by omega) (by omega) (by omega) (by omega) hm
  obtain ⟨m2, b1, b2, b3⟩ := tries_loop hV hh FU 0 m1 (hm.frame (a3 304 (by omega))) (fun k hk => by rw [a2 k hk]; unfold setHP; rw [if_neg (by omega)]) (by omega) (by omega)
  have a1' : f_X7_copies 304 55 (0 : Int32) 306 55 (0 : Int32) m = some m1 := a1
  have b1' : lp_X7_triesBy_15 FU (nI h) (0 : Int32) m1 = some m2 := b1
  unfold f_X7_triesBy
  rw [a1', bd1_d, b1', bd1_d]
  exact ⟨m2, rfl, b2, fun a ha => by rw [b3 a ha, a3 a ha]⟩
def runV (n : Nat) (V : Wv) : Wv := match n with
  | 0 => V
  | n + 1 => runV n (passV V)
theorem runV_ok {V : Wv} (hV : OkV V) : ∀ n, V 3 + n ≤ 20000 → OkV (runV n V) := by
  intro n
  induction n generalizing V with
  | zero => intro _; exact hV
  | succ n ih => intro h; exact ih (passV_ok hV (by omega)) (by show V 3 + 1 + n ≤ 20000; omega)
theorem runV_lo {V : Wv} {k : Nat} (hk : k < 3) : ∀ n, runV n V k = V k := by
  intro n
  induction n generalizing V with
  | zero => rfl
  | succ n ih => show runV n (passV V) k = V k; rw [ih, passV_lo hk]
theorem cl_run_loop {w n : Nat} (hn : n ≤ 100) : ∀ (f i : Nat) (m : Mm) (V : Wv), OkV V → V 3 + (n - i) ≤ 20000 → CW m w V → i ≤ n → n - i < f → ∃ m', lp_X5_run_2 w f (nI n) (nI i) m = some m' ∧ CW m' w (runV (n - i) V) ∧ ∀ a, (a < w ∨ w + 8 < a) → m' a = m a := by
  intro f
  induction f with
  | zero => intro i m V _ _ _ _ h; omega
  | succ f ih =>
    intro i m V hV h3 hc hi hif
    show ∃ m', lb_X5_run_2 (lp_X5_run_2 w f) w (nI n) (nI i) m = some m' ∧ _
    unfold lb_X5_run_2
    have hcc : (nI n ≤ nI i) = (n ≤ i) := nI_leE (by omega) (by omega)
    simp only [hcc]
    by_cases h : n ≤ i
    · rw [if_pos h, show n - i = 0 by omega]
      exact ⟨m, rfl, hc, fun _ _ => rfl⟩
    · rw [if_neg h]
      obtain ⟨m1, a1, a2, a3⟩ := cl_pass hV hc
      rw [a1, bd1_d, nm_d, n1, nI_add]
      obtain ⟨m', e1, e2, e3⟩ := ih (i + 1) m1 (passV V) (passV_ok hV (by omega)) (by show V 3 + 1 + (n - (i + 1)) ≤ 20000; omega) a2 (by omega) (by omega)
      refine ⟨m', e1, ?_, fun a ha => by rw [e3 a ha, a3 a ha]⟩
      rw [show n - i = n - (i + 1) + 1 by omega]
      exact e2
theorem cl_run {m : Mm} {w n : Nat} {V : Wv} (hn : n ≤ 100) (hV : OkV V) (h3 : V 3 + n ≤ 20000) (hc : CW m w V) : ∃ m', f_X5_run w (nI n) m = some m' ∧ CW m' w (runV n V) ∧ ∀ a, (a < w ∨ w + 8 < a) → m' a = m a := by
  have hF := FU_big
  obtain ⟨m', e1, e2, e3⟩ := cl_run_loop (w := w) hn FU 0 m V hV (by omega) hc (by omega) (by omega)
  have e1' : lp_X5_run_2 w FU (nI n) (0 : Int32) m = some m' := e1
  unfold f_X5_run
  rw [e1', bd1_d]
  exact ⟨m', rfl, e2, e3⟩
theorem mo_goes_loop {n : Nat} (hn : n ≤ 100) : ∀ (f i : Nat) (m : Mm) (V : Wv), OkV V → V 3 + (n - i) ≤ 20000 → MW m 306 0 V → i ≤ n → n - i < f → ∃ m', lp_X7_goesOn_2 f (nI n) (nI i) m = some m' ∧ MW m' 306 0 (runV (n - i) V) ∧ ∀ a, a ≠ 306 → a ≠ 310 → m' a = m a := by
  intro f
  induction f with
  | zero => intro i m V _ _ _ _ h; omega
  | succ f ih =>
    intro i m V hV h3 hc hi hif
    show ∃ m', lb_X7_goesOn_2 (lp_X7_goesOn_2 f) (nI n) (nI i) m = some m' ∧ _
    unfold lb_X7_goesOn_2
    have hcc : (nI n ≤ nI i) = (n ≤ i) := nI_leE (by omega) (by omega)
    simp only [hcc]
    by_cases h : n ≤ i
    · rw [if_pos h, show n - i = 0 by omega]
      exact ⟨m, rfl, hc, fun _ _ _ => rfl⟩
    · rw [if_neg h]
      obtain ⟨m1, a1, a2, a3, a4⟩ := mo_pass (q := 306) (nq := 55) (by omega) (by omega) hV hc
      rw [a1, bd1_d, nm_d, n1, nI_add]
      obtain ⟨m', e1, e2, e3⟩ := ih (i + 1) m1 (passV V) (passV_ok hV (by omega)) (by show V 3 + 1 + (n - (i + 1)) ≤ 20000; omega) a2 (by omega) (by omega)
      refine ⟨m', e1, ?_, fun a h1 h2 => by rw [e3 a h1 h2, a3 a h1 h2]⟩
      rw [show n - i = n - (i + 1) + 1 by omega]
      exact e2
theorem mo_goesOn {m : Mm} {n : Nat} {V : Wv} (hn : n ≤ 100) (hV : OkV V) (h3 : V 3 + n ≤ 20000) (hc : MW m 306 0 V) : ∃ m', f_X7_goesOn (nI n) m = some m' ∧ MW m' 306 0 (runV n V) ∧ ∀ a, a ≠ 306 → a ≠ 310 → m' a = m a := by
  have hF := FU_big
  obtain ⟨m', e1, e2, e3⟩ := mo_goes_loop hn FU 0 m V hV (by omega) hc (by omega) (by omega)
  have e1' : lp_X7_goesOn_2 FU (nI n) (0 : Int32) m = some m' := e1
  unfold f_X7_goesOn
  rw [e1', bd1_d]
  exact ⟨m', rfl, e2, e3⟩
