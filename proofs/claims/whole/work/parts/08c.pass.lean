theorem two_pow_lt {n : Nat} (h : n ≤ 7) : 2 ^ n ≤ 128 := by
  rcases (show n = 0 ∨ n = 1 ∨ n = 2 ∨ n = 3 ∨ n = 4 ∨ n = 5 ∨ n = 6 ∨ n = 7 by omega) with h | h | h | h | h | h | h | h <;> subst h <;> decide
theorem cl_hired {m : Mm} {w : Nat} {V : Wv} (hV : OkV V) (hc : CW m w V) {g : Nat} (hg : g < V 2) : f_X5_isHired w (nI g) m = nI (V (ig g 5)) := by
  have hn := hV.n
  obtain ⟨h, e, hl, hb⟩ := hc.2.2.2.2.2.2.1
  have := two_pow_lt hn
  unfold f_X5_isHired
  rw [e, bitE h (by omega) g (by omega), hb g hg]
  have b := (hV.b hg).2.2.2.2.2.2.1
  rcases (show V (ig g 5) = 0 ∨ V (ig g 5) = 1 by omega) with h | h <;> rw [h] <;> rfl
theorem cl_pass1 {w : Nat} {V : Wv} (hV : OkV V) : ∀ (n i : Nat) (m : Mm), CW m w V → (∀ g, g < i → m (w + 8) g = nI (shedV V g)) → i ≤ V 2 → V 2 - i < n →
    ∃ m', lp_X5_pass_2 w n (nI i) m = some m' ∧ CW m' w V ∧ (∀ g, g < V 2 → m' (w + 8) g = nI (shedV V g)) ∧ ∀ a, a ≠ w + 8 → m' a = m a := by
  have hn := hV.n
  intro n
  induction n with
  | zero => intro i m _ _ _ h; omega
  | succ n ih =>
    intro i m hc hs hi hin
    show ∃ m', lb_X5_pass_2 (lp_X5_pass_2 w n) w (nI i) m = some m' ∧ _
    unfold lb_X5_pass_2
    simp only [hc.1, nI_leE (show V 2 < 2147483648 by omega) (show i < 2147483648 by omega)]
    by_cases h : V 2 ≤ i
    · rw [if_pos h]
      exact ⟨m, rfl, hc, fun g hg => hs g (by omega), fun _ _ => rfl⟩
    · rw [if_neg h]
      have hg : i < V 2 := by omega
      have hsh : (if f_X5_isHired w (nI i) m = 0 then some (0 : Int32) else bd1 (f_X5_sheds w (nI i) m) fun r3 => some r3) = some (nI (shedV V i)) := by
        rw [cl_hired hV hc hg, cl_sheds hV hc hg, bd1_d]
        have b := (hV.b hg).2.2.2.2.2.2.1
        unfold shedV
        rcases (show V (ig i 5) = 0 ∨ V (ig i 5) = 1 by omega) with h | h <;> rw [h] <;> rfl
      rw [hsh, bd1_d, gdN (by omega) (by omega), nm_d, nm_d, ix_nI (by omega), n1, nI_add]
      obtain ⟨m', e1, e2, e3, e4⟩ := ih (i + 1) (st_ m (w + 8) i (nI (shedV V i))) (hc.frame fun a h1 h2 => st_na (by omega)) (fun g hg => by
        by_cases h : g = i
        · subst h; exact st_s
        · rw [st_n (Or.inr h)]; exact hs g (by omega)) (by omega) (by omega)
      exact ⟨m', e1, e2, e3, fun a ha => by rw [e4 a ha, st_na ha]⟩
theorem sumTo_le {n c : Nat} {f : Nat → Nat} (h : ∀ g, f g ≤ c) : sumTo n f ≤ n * c := by
  induction n with
  | zero => exact Nat.zero_le _
  | succ n ih =>
    have := h n
    show sumTo n f + f n ≤ (n + 1) * c
    rw [Nat.succ_mul]; omega
theorem comesV_le (V : Wv) {n : Nat} (h : n ≤ 7) : comesV V n ≤ 63 := by
  have := sumTo_le (n := n) (c := 9) (f := fun g => if V (ig g 0) = 5 then 0 else shedV V g) (fun g => by
    show (if _ then 0 else shedV V g) ≤ 9
    split
    · omega
    · exact shedV_le g)
  unfold comesV; omega
theorem onionsV_le (V : Wv) {n : Nat} (h : n ≤ 7) : onionsV V n ≤ 63 := by
  have := sumTo_le (n := n) (c := 9) (f := fun g => if V (ig g 0) = 5 then shedV V g else 0) (fun g => by
    show (if _ then shedV V g else 0) ≤ 9
    split
    · exact shedV_le g
    · omega)
  unfold onionsV; omega
theorem dueV_le {V : Wv} (hV : OkV V) : ∀ n, n ≤ V 2 → dueV V n ≤ n * 81 := by
  intro n
  induction n with
  | zero => intro _; exact Nat.zero_le _
  | succ n ih =>
    intro h
    have h1 := ih (by omega)
    have h2 := (hV.b (g := n) (by omega)).2.2.2.2.1
    have h3 := shedV_le (V := V) n
    have h4 : V (ig n 3) * shedV V n ≤ 9 * 9 := Nat.mul_le_mul h2 h3
    show dueV V n + (if V (ig n 0) = 5 then 0 else V (ig n 3) * shedV V n) ≤ (n + 1) * 81
    split <;> omega
/-- what the second loop keeps: the rest of the Wedding, LAST and WELL of those done and of the others -/
def P2 (m : Mm) (w : Nat) (V : Wv) (i : Nat) (m1 : Mm) : Prop := (∀ a, a ≠ w + 4 → a ≠ w + 5 → m1 a = m a) ∧ ∀ g, g < V 2 → m1 (w + 5) g = nI (if g < i then shedV V g else V (ig g 6)) ∧ m1 (w + 4) g = nI (if g < i then V (ig g 2) - shedV V g else V (ig g 2))
set_option maxHeartbeats 1000000 in
theorem cl_pass2 {w : Nat} {V : Wv} {m : Mm} (hV : OkV V) (hc : CW m w V) (hs : ∀ g, g < V 2 → m (w + 8) g = nI (shedV V g)) : ∀ (n i : Nat) (m1 : Mm), P2 m w V i m1 → i ≤ V 2 → V 2 - i < n →
    ∃ m', lp_X5_pass_48 w n (nI (comesV V i)) (nI (onionsV V i)) (nI (dueV V i)) (nI i) m1 = some (nI (comesV V (V 2)), nI (onionsV V (V 2)), nI (dueV V (V 2)), m') ∧ P2 m w V (V 2) m' := by
  have hn := hV.n
  intro n
  induction n with
  | zero => intro i m _ _ h; omega
  | succ n ih =>
    intro i m1 hp hi hin
    show ∃ m', lb_X5_pass_48 (lp_X5_pass_48 w n) w _ _ _ (nI i) m1 = _ ∧ _
    unfold lb_X5_pass_48
    have e0 : m1 w = m w := hp.1 w (by omega) (by omega)
    simp only [e0, hc.1, nI_leE (show V 2 < 2147483648 by omega) (show i < 2147483648 by omega)]
    by_cases h : V 2 ≤ i
    · have hi2 : i = V 2 := by omega
      rw [if_pos h]
      subst hi2
      exact ⟨m1, rfl, hp⟩
    · rw [if_neg h]
      have hg : i < V 2 := by omega
      obtain ⟨b1, b2, b3, b4, b5, b6, b7, b8, b9⟩ := hV.b hg
      have s9 := shedV_le (V := V) i
      have sw := shedV_well (V := V) i
      have e8 : m1 (w + 8) i = nI (shedV V i) := by rw [hp.1 (w + 8) (by omega) (by omega)]; exact hs i hg
      have e4 : m1 (w + 4) i = nI (V (ig i 2)) := by rw [(hp.2 i hg).2, if_neg (by omega)]
      have e1 : m1 (w + 1) i = nI (V (ig i 0)) := by rw [hp.1 (w + 1) (by omega) (by omega)]; exact (hc.g hg).1
      have e3 : m1 (w + 3) i = nI (V (ig i 3)) := by rw [hp.1 (w + 3) (by omega) (by omega)]; exact (hc.g hg).2.2.1
      have k1 := comesV_le V (n := i) (by omega)
      have k2 := onionsV_le V (n := i) (by omega)
      have k3 := dueV_le hV i (by omega)
      have k4 : V (ig i 3) * shedV V i ≤ 9 * 9 := Nat.mul_le_mul b5 s9
      have s5 : ∀ k, st_ m1 (w + 5) i (nI (shedV V i)) (w + 4) k = m1 (w + 4) k := fun k => st_n (Or.inl (by omega))
      have s1 : ∀ v, st_ (st_ m1 (w + 5) i (nI (shedV V i))) (w + 4) i v (w + 1) i = m1 (w + 1) i := fun v => by rw [st_n (Or.inl (by omega)), st_n (Or.inl (by omega))]
      have s3 : ∀ v, st_ (st_ m1 (w + 5) i (nI (shedV V i))) (w + 4) i v (w + 3) i = m1 (w + 3) i := fun v => by rw [st_n (Or.inl (by omega)), st_n (Or.inl (by omega))]
      simp (disch := omega) only [nm_d, gdM, ix_nI, e8, s5, e4, nI_subE, s1, s3, e1, e3, nI_mulE, nI_add, n5, nI_eqE, n1]
      have hp2 : P2 m w V (i + 1) (st_ (st_ m1 (w + 5) i (nI (shedV V i))) (w + 4) i (nI (V (ig i 2) - shedV V i))) := by
        refine ⟨fun a h1 h2 => by rw [st_na h1, st_na h2]; exact hp.1 a h1 h2, fun g hg2 => ?_⟩
        by_cases hgi : g = i
        · subst hgi
          rw [st_n (Or.inl (by omega)), st_s, st_s, if_pos (by omega), if_pos (by omega)]
          exact ⟨rfl, rfl⟩
        · rw [st_n (Or.inl (by omega)), st_n (Or.inr hgi), st_n (Or.inr hgi), st_n (Or.inl (by omega)), (hp.2 g hg2).1, (hp.2 g hg2).2]
          by_cases hl : g < i
          · rw [if_pos hl, if_pos hl, if_pos (by omega), if_pos (by omega)]
            exact ⟨rfl, rfl⟩
          · rw [if_neg hl, if_neg hl, if_neg (by omega), if_neg (by omega)]
            exact ⟨rfl, rfl⟩
      have hih := ih (i + 1) _ hp2 (by omega) (by omega)
      by_cases h5 : V (ig i 0) = 5
      · rw [if_pos h5, bd3_d]
        have q1 : comesV V (i + 1) = comesV V i := by show comesV V i + (if V (ig i 0) = 5 then 0 else shedV V i) = _; rw [if_pos h5]; omega
        have q2 : onionsV V (i + 1) = onionsV V i + shedV V i := by show onionsV V i + (if V (ig i 0) = 5 then shedV V i else 0) = _; rw [if_pos h5]
        have q3 : dueV V (i + 1) = dueV V i := by show dueV V i + (if V (ig i 0) = 5 then 0 else V (ig i 3) * shedV V i) = _; rw [if_pos h5]; omega
        rw [q1, q2, q3] at hih
        exact hih
      · rw [if_neg h5, bd3_d]
        have q1 : comesV V (i + 1) = comesV V i + shedV V i := by show comesV V i + (if V (ig i 0) = 5 then 0 else shedV V i) = _; rw [if_neg h5]
        have q2 : onionsV V (i + 1) = onionsV V i := by show onionsV V i + (if V (ig i 0) = 5 then shedV V i else 0) = _; rw [if_neg h5]; omega
        have q3 : dueV V (i + 1) = dueV V i + V (ig i 3) * shedV V i := by show dueV V i + (if V (ig i 0) = 5 then 0 else V (ig i 3) * shedV V i) = _; rw [if_neg h5]
        rw [q1, q2, q3] at hih
        exact hih
theorem passV_ig {V : Wv} {g f : Nat} (hg : g < V 2) (hf : f < 7) : passV V (ig g f) = if f = 6 then shedV V g else if f = 2 then V (ig g 2) - shedV V g else V (ig g f) := by
  unfold passV ig
  have e1 : (6 + 7 * g + f - 6) % 7 = f := by omega
  have e2 : (6 + 7 * g + f - 6) / 7 = g := by omega
  rw [if_neg (by omega), if_neg (by omega), if_neg (by omega), if_pos (by omega), e1, e2]
  by_cases h6 : f = 6
  · rw [if_pos h6, if_pos h6]
  · rw [if_neg h6, if_neg h6]
    by_cases h2 : f = 2
    · rw [if_pos h2, if_pos h2, h2]
    · rw [if_neg h2, if_neg h2]
theorem passV_lo {V : Wv} {k : Nat} (hk : k < 3) : passV V k = V k := by
  unfold passV
  rw [if_neg (by omega), if_neg (by omega), if_neg (by omega), if_neg (by omega)]
theorem passV_hi {V : Wv} {k : Nat} (hk : 6 + 7 * V 2 ≤ k) : passV V k = V k := by
  unfold passV
  rw [if_neg (by omega), if_neg (by omega), if_neg (by omega), if_neg (by omega)]
theorem passV_ok {V : Wv} (hV : OkV V) (h3 : V 3 < 20000) : OkV (passV V) := by
  have e2 : passV V 2 = V 2 := passV_lo (by omega)
  have e4 : passV V 4 = min 999 (V 4 + comesV V (V 2)) - onionsV V (V 2) := rfl
  have e5 : passV V 5 = min 99999 (V 5 + dueV V (V 2)) := rfl
  have e3 : passV V 3 = V 3 + 1 := rfl
  have p4 : ∀ g, g < V 2 → passV V (ig g 4) = V (ig g 4) := fun g hg => passV_ig hg (by omega)
  refine ⟨by rw [passV_lo (by omega)]; exact hV.1, by rw [passV_lo (by omega)]; exact hV.2.1, by rw [e2]; exact hV.n, by omega, by omega, by omega, fun g hg => ?_, fun g h hg hh e => ?_, fun p hp => ?_⟩
  · rw [e2] at hg
    obtain ⟨b1, b2, b3, b4, b5, b6, b7, b8, b9⟩ := hV.b hg
    have s9 := shedV_le (V := V) g
    unfold GdV
    rw [p4 g hg, e2, show passV V (ig g 0) = V (ig g 0) from passV_ig hg (by omega), show passV V (ig g 1) = V (ig g 1) from passV_ig hg (by omega), show passV V (ig g 2) = V (ig g 2) - shedV V g from passV_ig hg (by omega), show passV V (ig g 3) = V (ig g 3) from passV_ig hg (by omega), show passV V (ig g 5) = V (ig g 5) from passV_ig hg (by omega), show passV V (ig g 6) = shedV V g from passV_ig hg (by omega)]
    refine ⟨b1, b2, b3, by omega, b5, b6, b7, by omega, fun h => ?_⟩
    unfold shedV
    rw [h]; rfl
  · rw [e2] at hg hh
    rw [p4 g hg, p4 h hh] at e
    exact hV.inj g h hg hh e
  · rw [e2] at hp
    obtain ⟨g, hg, e⟩ := hV.sur p hp
    exact ⟨g, by rw [e2]; exact hg, by rw [p4 g hg]; exact e⟩
theorem max0E {a b : Nat} (ha : a < 1000000) (hb : b < 1000000) : (if (0 : Int32) < nI a - nI b then nI a - nI b else (0 : Int32)) = nI (a - b) := by
  by_cases h : b < a
  · rw [nI_subE (by omega), if_pos (by rw [n0, nI_ltE (by omega) (by omega)]; omega)]
  · by_cases h2 : a = b
    · subst h2
      rw [nI_subE (by omega), Nat.sub_self]; rfl
    · have h3 := pk_sneg (a := a) (b := b) (by omega) (by omega)
      rw [if_neg, show a - b = 0 by omega]
      · rfl
      · intro h4
        rw [Int32.lt_iff_toInt_lt] at h3 h4
        have : (0 : Int32).toInt = 0 := by decide
        omega
set_option maxHeartbeats 1000000 in
theorem cl_pass {m : Mm} {w : Nat} {V : Wv} (hV : OkV V) (hc : CW m w V) : ∃ m', f_X5_pass w m = some m' ∧ CW m' w (passV V) ∧ ∀ a, (a < w ∨ w + 8 < a) → m' a = m a := by
  have hF := FU_big
  have hn := hV.n
  obtain ⟨m1, a1, a2, a3, a4⟩ := cl_pass1 hV FU 0 m hc (fun g h => by omega) (by omega) (by omega)
  obtain ⟨m2, b1, b2⟩ := cl_pass2 hV a2 a3 FU 0 m1 ⟨fun _ _ _ => rfl, fun g hg => by
    rw [if_neg (by omega), if_neg (by omega)]; exact ⟨(a2.g hg).2.2.2.2.1, (a2.g hg).2.2.2.1⟩⟩ (by omega) (by omega)
  have k1 := comesV_le V (n := V 2) (by omega)
  have k2 := onionsV_le V (n := V 2) (by omega)
  have k3 := dueV_le hV (V 2) (by omega)
  have hB := hV.2.2.2.2.1
  have hP := hV.2.2.2.2.2.1
  have hM := hV.2.2.2.1
  have e0 : m2 w = m w := by rw [b2.1 w (by omega) (by omega), a4 w (by omega)]
  have a1' : lp_X5_pass_2 w FU (0 : Int32) m = some m1 := a1
  have b1' : lp_X5_pass_48 w FU (0 : Int32) (0 : Int32) (0 : Int32) (0 : Int32) m1 = some (nI (comesV V (V 2)), nI (onionsV V (V 2)), nI (dueV V (V 2)), m2) := b1
  unfold f_X5_pass
  rw [a1', bd1_d, b1', bd4_d]
  simp only [nm_d]
  have v4 : m2 w 4 = nI (V 4) := by rw [e0]; exact hc.2.2.2.2.1
  have v5 : ∀ x, st_ m2 w 4 x w 5 = nI (V 5) := fun x => by rw [st_n (Or.inr (by omega)), e0]; exact hc.2.2.2.2.2.1
  have v3 : ∀ x y, st_ (st_ m2 w 4 x) w 5 y w 3 = nI (V 3) := fun x y => by rw [st_n (Or.inr (by omega)), st_n (Or.inr (by omega)), e0]; exact hc.2.2.2.1
  rw [v4, nI_add, n999, minE (by omega) (by omega), max0E (by omega) (by omega), v5, nI_add, n99999, minE (by omega) (by omega), v3, n1, nI_add]
  refine ⟨_, rfl, ?_, ?_⟩
  · have w0 : ∀ k, k ≠ 3 → k ≠ 4 → k ≠ 5 → st_ (st_ (st_ m2 w 4 (nI (min 999 (V 4 + comesV V (V 2)) - onionsV V (V 2)))) w 5 (nI (min 99999 (V 5 + dueV V (V 2))))) w 3 (nI (V 3 + 1)) w k = m w k := fun k h3 h4 h5 => by
      rw [st_n (Or.inr h3), st_n (Or.inr h5), st_n (Or.inr h4), e0]
    have wa : ∀ a, a ≠ w → st_ (st_ (st_ m2 w 4 (nI (min 999 (V 4 + comesV V (V 2)) - onionsV V (V 2)))) w 5 (nI (min 99999 (V 5 + dueV V (V 2))))) w 3 (nI (V 3 + 1)) a = m2 a := fun a ha => by
      rw [st_na ha, st_na ha, st_na ha]
    refine ⟨?_, ?_, ?_, ?_, ?_, ?_, ?_, ?_⟩
    · rw [w0 0 (by omega) (by omega) (by omega), passV_lo (by omega)]; exact hc.1
    · rw [w0 1 (by omega) (by omega) (by omega), passV_lo (by omega)]; exact hc.2.1
    · rw [w0 2 (by omega) (by omega) (by omega), passV_lo (by omega)]; exact hc.2.2.1
    · rw [st_s]; rfl
    · rw [st_n (Or.inr (by omega)), st_n (Or.inr (by omega)), st_s]; rfl
    · rw [st_n (Or.inr (by omega)), st_s]; rfl
    · rw [w0 6 (by omega) (by omega) (by omega), passV_lo (k := 2) (by omega)]
      obtain ⟨h, q1, q2, q3⟩ := hc.2.2.2.2.2.2.1
      exact ⟨h, q1, q2, fun g hg => by rw [q3 g hg, show passV V (ig g 5) = V (ig g 5) from passV_ig hg (by omega)]⟩
    · rw [passV_lo (k := 2) (by omega)]
      intro g hg
      obtain ⟨c1, c2, c3, c4, c5, c6, c7⟩ := hc.g hg
      have mm : ∀ a, a ≠ w → a ≠ w + 4 → a ≠ w + 5 → a ≠ w + 8 → m2 a = m a := fun a _ h4 h5 h8 => by rw [b2.1 a h4 h5, a4 a h8]
      unfold CwG
      rw [wa (w + 1) (by omega), wa (w + 2) (by omega), wa (w + 3) (by omega), wa (w + 4) (by omega), wa (w + 5) (by omega), wa (w + 6) (by omega), wa (w + 7) (by omega), mm (w + 1) (by omega) (by omega) (by omega) (by omega), mm (w + 2) (by omega) (by omega) (by omega) (by omega), mm (w + 3) (by omega) (by omega) (by omega) (by omega), mm (w + 6) (by omega) (by omega) (by omega) (by omega), mm (w + 7) (by omega) (by omega) (by omega) (by omega), (b2.2 g hg).1, (b2.2 g hg).2, if_pos hg, if_pos hg]
      rw [show passV V (ig g 4) = V (ig g 4) from passV_ig hg (by omega), show passV V (ig g 0) = V (ig g 0) from passV_ig hg (by omega), show passV V (ig g 1) = V (ig g 1) from passV_ig hg (by omega), show passV V (ig g 2) = V (ig g 2) - shedV V g from passV_ig hg (by omega), show passV V (ig g 3) = V (ig g 3) from passV_ig hg (by omega), show passV V (ig g 6) = shedV V g from passV_ig hg (by omega)]
      exact ⟨c1, c2, c3, rfl, rfl, c6, c7⟩
  · intro a ha
    rw [st_na (by omega), st_na (by omega), st_na (by omega), b2.1 a (by omega) (by omega), a4 a (by omega)]
