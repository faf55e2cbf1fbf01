/-! a wedding, read from the tape: what is read, said once -/
abbrev Bs : Type := (Nat → Nat) × Nat
abbrev Fa : Type := Nat × Nat
def isD (T : Bs) (q : Nat) : Bool := decide (q < T.2) && (decide (48 ≤ T.1 q) && decide (T.1 q ≤ 57))
theorem isD_of {T : Bs} {q : Nat} : isD T q = true ↔ q < T.2 ∧ 48 ≤ T.1 q ∧ T.1 q ≤ 57 := by
  unfold isD
  simp only [Bool.and_eq_true, decide_eq_true_eq]
def aSg (T : Bs) (c p : Nat) : Fa ⊕ Nat := if p < T.2 ∧ T.1 p = c then .inr (p + 1) else .inl (1, p)
def aRng (lo hi v p p' : Nat) : Fa ⊕ (Nat × Nat) := if lo ≤ v ∧ v ≤ hi then .inr (v, p') else .inl (2, p)
def aNm (T : Bs) (lo hi p : Nat) : Fa ⊕ (Nat × Nat) :=
  if isD T p = true then (if isD T (p + 1) = true then (if isD T (p + 2) = true then .inl (1, p)
    else aRng lo hi (10 * (T.1 p - 48) + (T.1 (p + 1) - 48)) p (p + 2))
    else aRng lo hi (T.1 p - 48) p (p + 1))
  else .inl (1, p)
def srt (c : Nat) : Nat := if c = 97 then 1 else if c = 114 then 2 else if c = 99 then 3 else if c = 109 then 4 else if c = 111 then 5 else 0
def aSo (T : Bs) (p : Nat) : Nat := if p < T.2 then srt (T.1 p) else 0
def bnd {α β : Type} (x : Fa ⊕ α) (f : α → Fa ⊕ β) : Fa ⊕ β := match x with
  | .inl e => .inl e
  | .inr a => f a
def aLaw (T : Bs) : Fa ⊕ (Nat × Nat × Nat) :=
  bnd (aSg T 119 0) fun p1 => bnd (aNm T 1 99 p1) fun v => bnd (aSg T 44 v.2) fun p2 => bnd (aNm T 0 15 p2) fun h => bnd (aSg T 59 h.2) fun p3 => .inr (v.1, h.1, p3)
def aGst (T : Bs) (g p : Nat) : Fa ⊕ ((Nat × Nat × Nat × Nat) × Nat) :=
  if aSo T p = 0 then .inl (1, p) else if 7 ≤ g then .inl (3, p) else
  bnd (aNm T 0 9 (p + 1)) fun s => bnd (aSg T 44 s.2) fun p2 => bnd (aNm T 0 99 p2) fun w => bnd (aSg T 44 w.2) fun p3 => bnd (aNm T 0 9 p3) fun f => bnd (aSg T 59 f.2) fun p4 => .inr ((aSo T p, s.1, w.1, f.1), p4)
theorem aNm_ok {T : Bs} {lo hi p v p' : Nat} (h : aNm T lo hi p = .inr (v, p')) : lo ≤ v ∧ v ≤ hi ∧ p < p' ∧ p' ≤ T.2 := by
  unfold aNm aRng at h
  by_cases h0 : isD T p = true
  · have d0 := isD_of.mp h0
    rw [if_pos h0] at h
    by_cases h1 : isD T (p + 1) = true
    · have d1 := isD_of.mp h1
      rw [if_pos h1] at h
      by_cases h2 : isD T (p + 2) = true
      · rw [if_pos h2] at h; cases h
      · rw [if_neg h2] at h
        by_cases h3 : lo ≤ 10 * (T.1 p - 48) + (T.1 (p + 1) - 48) ∧ 10 * (T.1 p - 48) + (T.1 (p + 1) - 48) ≤ hi
        · rw [if_pos h3] at h
          cases h; omega
        · rw [if_neg h3] at h; cases h
    · rw [if_neg h1] at h
      by_cases h3 : lo ≤ T.1 p - 48 ∧ T.1 p - 48 ≤ hi
      · rw [if_pos h3] at h
        cases h; omega
      · rw [if_neg h3] at h; cases h
  · rw [if_neg h0] at h; cases h
theorem aNm_f {T : Bs} {lo hi p : Nat} {e : Fa} (h : aNm T lo hi p = .inl e) : (e.1 = 1 ∨ e.1 = 2) ∧ e.2 = p := by
  unfold aNm aRng at h
  repeat' split at h
  all_goals first | (cases h; exact ⟨Or.inl rfl, rfl⟩) | (cases h; exact ⟨Or.inr rfl, rfl⟩) | cases h
theorem aSg_ok {T : Bs} {c p p' : Nat} (h : aSg T c p = .inr p') : p < T.2 ∧ T.1 p = c ∧ p' = p + 1 := by
  unfold aSg at h
  split at h
  · rename_i hh
    cases h; exact ⟨hh.1, hh.2, rfl⟩
  · cases h
theorem aSg_f {T : Bs} {c p : Nat} {e : Fa} (h : aSg T c p = .inl e) : ¬ (p < T.2 ∧ T.1 p = c) ∧ e = (1, p) := by
  unfold aSg at h
  split at h
  · cases h
  · rename_i hh
    cases h; exact ⟨hh, rfl⟩
/-- the class, while it reads: m0 is what was when it began -/
def CB (m : Mm) (T : Bs) : Prop := m 2 2 = nI T.2 ∧ ∀ k, k < T.2 → m 12 k = nI (T.1 k)
theorem c_sign {m : Mm} {T : Bs} {p c : Nat} (hn : T.2 ≤ 110) (hT : ∀ k, T.1 k ≤ 255) (hc : c ≤ 255) (hp : p ≤ T.2) (hB : CB m T) (h3 : m 2 3 = nI p) : f_X3_sign (nI c) m = match aSg T c p with
    | .inr p' => some (1, st_ m 2 3 (nI p'))
    | .inl _ => some (0, st_ m 2 4 1) := by
  unfold f_X3_sign f_X3_refuse aSg
  rw [hB.1, h3]
  have q1 : (nI T.2 ≤ nI p) = (T.2 ≤ p) := nI_leE (by omega) (by omega)
  simp only [q1, nm_d, bd2_d]
  by_cases h : T.2 ≤ p
  · rw [if_pos h, if_neg (by omega)]
    rfl
  · have hb := hT p
    have q2 : (nI (T.1 p) = nI c) = (T.1 p = c) := nI_eqE (by omega) (by omega)
    rw [if_neg h, gdN (by omega) (by omega), ix_nI (by omega), hB.2 p (by omega)]
    simp only [q2, nI_s1]
    by_cases e : T.1 p = c
    · rw [if_pos e, if_pos ⟨by omega, e⟩]
    · rw [if_neg e, if_neg (fun x => e x.2)]
      rfl
theorem figE {m : Mm} {T : Bs} {q : Nat} (hT : ∀ k, T.1 k ≤ 255) (hq : q < T.2) : f_X3_isFigure (nI (T.1 q)) = if isD T q = true then 1 else 0 := by
  have hb := hT q
  unfold f_X3_isFigure
  have q1 : (nI (T.1 q) < (48 : Int32)) = (T.1 q < 48) := nI_ltE (b := 48) (by omega) (by omega)
  have q2 : ((57 : Int32) < nI (T.1 q)) = (57 < T.1 q) := nI_ltE (a := 57) (by omega) (by omega)
  simp only [q1, q2]
  by_cases h : isD T q = true
  · have := isD_of.mp h
    rw [if_pos h, if_neg (by omega), if_neg (by omega)]
  · rw [if_neg h]
    have h' : ¬ (q < T.2 ∧ 48 ≤ T.1 q ∧ T.1 q ≤ 57) := fun x => h (isD_of.mpr x)
    by_cases h1 : T.1 q < 48
    · rw [if_pos h1]
    · rw [if_neg h1, if_pos (by omega)]
/-- one turn of the loop of number -/
theorem num_st {m : Mm} {T : Bs} {p q : Nat} (f : Nat) (x1 x2 y4 : Int32) (hn : T.2 ≤ 110) (hT : ∀ k, T.1 k ≤ 255) (hB : CB m T) (h3 : m 2 3 = nI p) (hp : p ≤ T.2) (hq : q ≤ p + 3) : lp_X3_number_8 (f + 1) x1 x2 (nI q) y4 m = if isD T q = true ∧ q < p + 3 then lp_X3_number_8 f x1 x2 (nI (q + 1)) (y4 * 10 + nI (T.1 q) - 48) m else some (nI q, y4) := by
  show lb_X3_number_8 (lp_X3_number_8 f) x1 x2 (nI q) y4 m = _
  unfold lb_X3_number_8
  rw [hB.1, h3, show nI p + (3 : Int32) = nI (p + 3) from nI_add p 3]
  have q1 : (nI T.2 ≤ nI q) = (T.2 ≤ q) := nI_leE (by omega) (by omega)
  have q2 : (nI (p + 3) ≤ nI q) = (p + 3 ≤ q) := nI_leE (by omega) (by omega)
  simp only [q1, q2, nm_d, nI_s1]
  by_cases h1 : T.2 ≤ q
  · rw [if_pos h1, if_neg (fun x => by have := isD_of.mp x.1; omega)]
  · rw [if_neg h1]
    by_cases h2 : p + 3 ≤ q
    · rw [if_pos h2, if_neg (by omega)]
    · rw [if_neg h2, gdN (by omega) (by omega), gdN (by omega) (by omega), ix_nI (by omega), hB.2 q (by omega), figE (m := m) hT (by omega), fitIf3]
      by_cases h3 : isD T q = true
      · rw [if_pos h3, if_pos ⟨h3, by omega⟩]
      · rw [if_neg h3, if_neg (fun x => h3 x.1)]
theorem dv1 {a : Nat} (h : 48 ≤ a) : (0 : Int32) * 10 + nI a - 48 = nI (a - 48) := by
  rw [show (0 : Int32) * 10 = nI 0 from rfl, nI_add, Nat.zero_add, show (48 : Int32) = nI 48 from rfl, nI_subE h]
theorem dv2 {a b : Nat} (hb : 48 ≤ b) : nI a * 10 + nI b - 48 = nI (10 * a + (b - 48)) := by
  rw [show (10 : Int32) = nI 10 from rfl, nI_mulE, nI_add, show (48 : Int32) = nI 48 from rfl, nI_subE (by omega)]
  apply nI_small; omega
theorem c_num {m : Mm} {T : Bs} {p lo hi : Nat} (hn : T.2 ≤ 110) (hT : ∀ k, T.1 k ≤ 255) (hlo : lo ≤ 1) (hhi : hi ≤ 99) (hp : p ≤ T.2) (hB : CB m T) (h3 : m 2 3 = nI p) : f_X3_number (nI lo) (nI hi) m = match aNm T lo hi p with
    | .inr r => some (nI r.1, st_ m 2 3 (nI r.2))
    | .inl e => some (-1, st_ m 2 4 (nI e.1)) := by
  have hF := FU_big
  obtain ⟨f, hf⟩ : ∃ f, FU = f + 4 := ⟨FU - 4, by omega⟩
  have q1 : (nI (p + 1) = nI p) = False := eq_false (by rw [nI_eqE (by omega) (by omega)]; omega)
  have q2 : (nI (p + 2) = nI p) = False := eq_false (by rw [nI_eqE (by omega) (by omega)]; omega)
  have q3 : (nI (p + 3) = nI p) = False := eq_false (by rw [nI_eqE (by omega) (by omega)]; omega)
  have r1 : (nI (p + 1) = nI (p + 3)) = False := eq_false (by rw [nI_eqE (by omega) (by omega)]; omega)
  have r2 : (nI (p + 2) = nI (p + 3)) = False := eq_false (by rw [nI_eqE (by omega) (by omega)]; omega)
  have rng : ∀ (v p' : Nat), v ≤ 1000 → (if nI v < nI lo then (some ((-1 : Int32), st_ m 2 4 (2 : Int32))) else (if nI v ≤ nI hi then some (nI v, st_ m 2 3 (nI p')) else some ((-1 : Int32), st_ m 2 4 (2 : Int32)))) = match aRng lo hi v p p' with
      | .inr r => some (nI r.1, st_ m 2 3 (nI r.2))
      | .inl e => some (-1, st_ m 2 4 (nI e.1)) := by
    intro v p' hv
    have s1 : (nI v < nI lo) = (v < lo) := nI_ltE (by omega) (by omega)
    have s2 : (nI v ≤ nI hi) = (v ≤ hi) := nI_leE (by omega) (by omega)
    simp only [s1, s2]
    unfold aRng
    by_cases h1 : v < lo
    · rw [if_pos h1, if_neg (by omega)]; rfl
    · rw [if_neg h1]
      by_cases h2 : v ≤ hi
      · rw [if_pos h2, if_pos ⟨by omega, h2⟩]
      · rw [if_neg h2, if_neg (by omega)]; rfl
  unfold f_X3_number f_X3_refuse
  rw [h3, nm_d, hf, num_st (f + 3) (nI lo) (nI hi) 0 hn hT hB h3 hp (by omega), show nI p + (3 : Int32) = nI (p + 3) from nI_add p 3]
  unfold aNm
  by_cases h0 : isD T p = true
  · have d0 := isD_of.mp h0
    have b0 := hT p
    rw [if_pos ⟨h0, by omega⟩, if_pos h0, dv1 d0.2.1, num_st (f + 2) (nI lo) (nI hi) _ hn hT hB h3 hp (by omega)]
    by_cases h1 : isD T (p + 1) = true
    · have d1 := isD_of.mp h1
      have b1 := hT (p + 1)
      rw [if_pos ⟨h1, by omega⟩, if_pos h1, dv2 d1.2.1, num_st (f + 1) (nI lo) (nI hi) _ hn hT hB h3 hp (by omega)]
      by_cases h2 : isD T (p + 2) = true
      · rw [if_pos ⟨h2, by omega⟩, if_pos h2, num_st f (nI lo) (nI hi) _ hn hT hB h3 hp (by omega), if_neg (by omega), bd2_d]
        simp only [q3, if_false, if_true, nm_d, bd2_d]
        rfl
      · rw [if_neg (fun x => h2 x.1), if_neg h2, bd2_d]
        simp only [q2, r2, if_false, nm_d, bd2_d]
        exact rng _ _ (by omega)
    · rw [if_neg (fun x => h1 x.1), if_neg h1, bd2_d]
      simp only [q1, r1, if_false, nm_d, bd2_d]
      exact rng _ _ (by omega)
  · rw [if_neg (fun x => h0 x.1), if_neg h0, bd2_d]
    simp only [if_true, nm_d, bd2_d]
    rfl
