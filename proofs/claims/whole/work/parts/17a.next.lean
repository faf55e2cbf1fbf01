/-! orders: the next one -/
abbrev Pf : Type := Nat → Nat
def fk (P : Pf) : Nat → Option Nat
  | 0 => none
  | c + 1 => if P c ≤ P (c + 1) then some c else fk P c
def fj (P : Pf) (k : Nat) : Nat → Nat
  | 0 => 0
  | c + 1 => if P k ≤ P (c + 1) then c + 1 else fj P k c
def swp (P : Pf) (a b : Nat) : Pf := fun k => if k = b then P a else if k = a then P b else P k
def rv : Nat → Pf → Nat → Nat → Pf
  | 0, P, _, _ => P
  | f + 1, P, lo, hi => if hi ≤ lo then P else rv f (swp P lo hi) (lo + 1) (hi - 1)
def nextP (n : Nat) (P : Pf) : Option Pf := match fk P (n - 1) with
  | none => none
  | some k => some (rv 7 (swp P k (fj P k (n - 1))) (k + 1) (n - 1))
def AH (m : Mm) (a n : Nat) (P : Pf) : Prop := ∀ k, k < n → m a k = nI (P k) ∧ P k < 1000
theorem fk_lt (P : Pf) : ∀ c k, fk P c = some k → k < c := by
  intro c
  induction c with
  | zero => intro k h; cases h
  | succ c ih =>
    intro k h
    unfold fk at h
    split at h
    · cases h; omega
    · have := ih k h; omega
theorem fj_ge (P : Pf) (k : Nat) : ∀ c, k ≤ c → k ≤ fj P k c ∧ fj P k c ≤ c := by
  intro c
  induction c with
  | zero => intro h; exact ⟨h, Nat.le_refl 0⟩
  | succ c ih =>
    intro h
    unfold fj
    split
    · omega
    · rename_i hn
      by_cases e : k = c + 1
      · rw [e] at hn; exact absurd (Nat.le_refl _) hn
      · have := ih (by omega); omega
theorem m1E {c : Nat} : nI (c + 1) + (-1 : Int32) = nI c := by
  rw [← nI_s1, Int32.add_assoc]
  show nI c + 0 = nI c
  rw [Int32.add_zero]
theorem m2S : ∀ k, k < 8 → nI (k + 1) - (2 : Int32) = nI k + (-1 : Int32) := by decide
theorem m1S : ∀ k, k < 8 → nI (k + 1) - (1 : Int32) = nI k := by decide
theorem neg1 : (nI 0 + (-1 : Int32)) < 0 := by decide
theorem c_fk {m : Mm} {n : Nat} {P : Pf} (y1 : Int32) (hn : n ≤ 7) (hA : AH m 250 n P) : ∀ (c f : Nat), c + 1 ≤ n → c < f → lp_X1_nextOrder_4 f y1 (nI c + (-1 : Int32)) m = some (match fk P c with | none => nI 0 + (-1 : Int32) | some k => nI k) := by
  intro c
  induction c with
  | zero =>
    intro f hc hf
    cases f with
    | zero => omega
    | succ f =>
      show lb_X1_nextOrder_4 (lp_X1_nextOrder_4 f) y1 (nI 0 + (-1 : Int32)) m = _
      unfold lb_X1_nextOrder_4
      rw [if_pos neg1]
      rfl
  | succ c ih =>
    intro f hc hf
    cases f with
    | zero => omega
    | succ f =>
      obtain ⟨e1, b1⟩ := hA c (by omega)
      obtain ⟨e2, b2⟩ := hA (c + 1) (by omega)
      have q : (nI (P c) ≤ nI (P (c + 1))) = (P c ≤ P (c + 1)) := nI_leE (by omega) (by omega)
      rw [m1E]
      show lb_X1_nextOrder_4 (lp_X1_nextOrder_4 f) y1 (nI c) m = _
      unfold lb_X1_nextOrder_4
      rw [if_neg (nI_pos (by omega)), nI_s1, gdN (by omega) (by omega), gdN (by omega) (by omega), ix_nI (by omega), ix_nI (by omega), e1, e2, nm_d, ih f (by omega) (by omega)]
      simp only [q]
      rw [show fk P (c + 1) = if P c ≤ P (c + 1) then some c else fk P c from rfl]
      by_cases h : P c ≤ P (c + 1)
      · rw [if_pos h, if_pos h]
      · rw [if_neg h, if_neg h]
theorem m_fk {m : Mm} {n : Nat} {P : Pf} (hn : n ≤ 7) (hA : AH m 311 n P) : ∀ (c f : Nat), c + 1 ≤ n → c < f → lp_X7_orders_9 f (nI c + (-1 : Int32)) m = some (match fk P c with | none => nI 0 + (-1 : Int32) | some k => nI k) := by
  intro c
  induction c with
  | zero =>
    intro f hc hf
    cases f with
    | zero => omega
    | succ f =>
      show lb_X7_orders_9 (lp_X7_orders_9 f) (nI 0 + (-1 : Int32)) m = _
      unfold lb_X7_orders_9
      rw [if_pos neg1]
      rfl
  | succ c ih =>
    intro f hc hf
    cases f with
    | zero => omega
    | succ f =>
      obtain ⟨e1, b1⟩ := hA c (by omega)
      obtain ⟨e2, b2⟩ := hA (c + 1) (by omega)
      have q : (nI (P c) ≤ nI (P (c + 1))) = (P c ≤ P (c + 1)) := nI_leE (by omega) (by omega)
      rw [m1E]
      show lb_X7_orders_9 (lp_X7_orders_9 f) (nI c) m = _
      unfold lb_X7_orders_9
      rw [if_neg (nI_pos (by omega)), nI_s1, gdN (by omega) (by omega), gdN (by omega) (by omega), ix_nI (by omega), ix_nI (by omega), e1, e2, nm_d, ih f (by omega) (by omega)]
      simp only [q]
      rw [show fk P (c + 1) = if P c ≤ P (c + 1) then some c else fk P c from rfl]
      by_cases h : P c ≤ P (c + 1)
      · rw [if_pos h, if_pos h]
      · rw [if_neg h, if_neg h]
theorem c_fj {m : Mm} {n k : Nat} {P : Pf} (y1 : Int32) (hn : n ≤ 7) (hA : AH m 250 n P) : ∀ (c f : Nat), k ≤ c → c < n → c < f → lp_X1_nextOrder_40 f y1 (nI k) (nI c) m = some (nI (fj P k c)) := by
  intro c
  induction c with
  | zero =>
    intro f hk hc hf
    cases f with
    | zero => omega
    | succ f =>
      show lb_X1_nextOrder_40 (lp_X1_nextOrder_40 f) y1 (nI k) (nI 0) m = _
      unfold lb_X1_nextOrder_40
      rw [if_pos (by rw [nI_leE (by omega) (by omega)]; omega)]
      rfl
  | succ c ih =>
    intro f hk hc hf
    cases f with
    | zero => omega
    | succ f =>
      obtain ⟨e1, b1⟩ := hA k (by omega)
      obtain ⟨e2, b2⟩ := hA (c + 1) (by omega)
      have q : (nI (P k) ≤ nI (P (c + 1))) = (P k ≤ P (c + 1)) := nI_leE (by omega) (by omega)
      have q2 : (nI (c + 1) ≤ nI k) = (c + 1 ≤ k) := nI_leE (by omega) (by omega)
      show lb_X1_nextOrder_40 (lp_X1_nextOrder_40 f) y1 (nI k) (nI (c + 1)) m = _
      unfold lb_X1_nextOrder_40
      rw [gdN (by omega) (by omega), gdN (by omega) (by omega), ix_nI (by omega), ix_nI (by omega), e1, e2, nm_d, m1E]
      simp only [q, q2]
      unfold fj
      by_cases hk2 : c + 1 ≤ k
      · have ek : k = c + 1 := by omega
        rw [if_pos hk2, if_pos (by rw [ek]; exact Nat.le_refl _)]
      · rw [if_neg hk2]
        by_cases h : P k ≤ P (c + 1)
        · rw [if_pos h, if_pos h]
        · rw [if_neg h, if_neg h]; exact ih f (by omega) (by omega) (by omega)
theorem m_fj {m : Mm} {n k : Nat} {P : Pf} (hn : n ≤ 7) (hA : AH m 311 n P) : ∀ (c f : Nat), k ≤ c → c < n → c < f → lp_X7_orders_51 f (nI k) (nI c) m = some (nI (fj P k c)) := by
  intro c
  induction c with
  | zero =>
    intro f hk hc hf
    cases f with
    | zero => omega
    | succ f =>
      have k0 : k = 0 := by omega
      subst k0
      obtain ⟨e1, b1⟩ := hA 0 (by omega)
      show lb_X7_orders_51 (lp_X7_orders_51 f) (nI 0) (nI 0) m = _
      unfold lb_X7_orders_51
      rw [gdN (by omega) (by omega), gdN (by omega) (by omega), if_pos (by rw [ix_nI (by omega), e1, nI_leE (by omega) (by omega)]; omega)]
      rfl
  | succ c ih =>
    intro f hk hc hf
    cases f with
    | zero => omega
    | succ f =>
      obtain ⟨e1, b1⟩ := hA k (by omega)
      obtain ⟨e2, b2⟩ := hA (c + 1) (by omega)
      have q : (nI (P k) ≤ nI (P (c + 1))) = (P k ≤ P (c + 1)) := nI_leE (by omega) (by omega)
      show lb_X7_orders_51 (lp_X7_orders_51 f) (nI k) (nI (c + 1)) m = _
      unfold lb_X7_orders_51
      rw [gdN (by omega) (by omega), gdN (by omega) (by omega), ix_nI (by omega), ix_nI (by omega), e1, e2, nm_d, m1E]
      simp only [q]
      unfold fj
      by_cases h : P k ≤ P (c + 1)
      · rw [if_pos h, if_pos h]
      · have hk2 : k ≠ c + 1 := fun e => h (by rw [e]; exact Nat.le_refl _)
        rw [if_neg h, if_neg h]; exact ih f (by omega) (by omega) (by omega)
theorem swp_st {m : Mm} {a n x y : Nat} {P : Pf} (hx : x < n) (hy : y < n) (hA : AH m a n P) : AH (st_ (st_ m a x (nI (P y))) a y (nI (P x))) a n (swp P x y) := by
  intro k hk
  unfold swp
  by_cases h1 : k = y
  · subst h1
    rw [if_pos rfl, st_s]
    exact ⟨rfl, (hA x hx).2⟩
  · rw [if_neg h1, st_n (Or.inr h1)]
    by_cases h2 : k = x
    · subst h2
      rw [if_pos rfl, st_s]
      exact ⟨rfl, (hA y hy).2⟩
    · rw [if_neg h2, st_n (Or.inr h2)]
      exact hA k hk
theorem c_ex {m : Mm} {n x y : Nat} {P : Pf} (hn : n ≤ 7) (hx : x < n) (hy : y < n) (hA : AH m 250 n P) : ∃ m', f_X1_exchange (nI x) (nI y) m = some m' ∧ AH m' 250 n (swp P x y) ∧ ∀ a, a ≠ 250 → m' a = m a := by
  unfold f_X1_exchange
  simp only [nm_d]
  rw [gdN (by omega) (by omega), gdN (by omega) (by omega), gdN (by omega) (by omega), gdN (by omega) (by omega), ix_nI (by omega), ix_nI (by omega), (hA x hx).1, (hA y hy).1]
  exact ⟨_, rfl, swp_st hx hy hA, fun a ha => by rw [st_na ha, st_na ha]⟩
theorem m_ex {m : Mm} {n x y : Nat} {P : Pf} (hn : n ≤ 7) (hx : x < n) (hy : y < n) (hA : AH m 311 n P) : ∃ m', f_X7_trades (nI x) (nI y) m = some m' ∧ AH m' 311 n (swp P x y) ∧ ∀ a, a ≠ 311 → m' a = m a := by
  unfold f_X7_trades
  simp only [nm_d]
  rw [gdN (by omega) (by omega), gdN (by omega) (by omega), gdN (by omega) (by omega), gdN (by omega) (by omega), ix_nI (by omega), ix_nI (by omega), (hA x hx).1, (hA y hy).1]
  exact ⟨_, rfl, swp_st hx hy hA, fun a ha => by rw [st_na ha, st_na ha]⟩
theorem c_rv {n : Nat} (hn : n ≤ 7) : ∀ (k f lo hi : Nat) (m : Mm) (P : Pf), hi ≤ lo + k → k < f → hi < n → lo ≤ n → AH m 250 n P → ∃ m', lp_X1_nextOrder_82 f (nI hi) (nI lo) m = some m' ∧ AH m' 250 n (rv k P lo hi) ∧ ∀ a, a ≠ 250 → m' a = m a := by
  intro k
  induction k with
  | zero =>
    intro f lo hi m P h1 hf h2 h3 hA
    cases f with
    | zero => omega
    | succ f =>
      refine ⟨m, ?_, hA, fun _ _ => rfl⟩
      show lb_X1_nextOrder_82 (lp_X1_nextOrder_82 f) (nI hi) (nI lo) m = _
      unfold lb_X1_nextOrder_82
      rw [if_pos (by rw [nI_leE (by omega) (by omega)]; omega)]
  | succ k ih =>
    intro f lo hi m P h1 hf h2 h3 hA
    cases f with
    | zero => omega
    | succ f =>
      have q : (nI hi ≤ nI lo) = (hi ≤ lo) := nI_leE (by omega) (by omega)
      have hB : ∀ m', lb_X1_nextOrder_82 (lp_X1_nextOrder_82 f) (nI hi) (nI lo) m = m' → lp_X1_nextOrder_82 (f + 1) (nI hi) (nI lo) m = m' := fun m' h => h
      unfold lb_X1_nextOrder_82 at hB
      simp only [q] at hB
      unfold rv
      by_cases h : hi ≤ lo
      · rw [if_pos h] at hB
        rw [if_pos h]
        exact ⟨m, hB _ rfl, hA, fun _ _ => rfl⟩
      · obtain ⟨m1, a1, a2, a3⟩ := c_ex hn (show lo < n by omega) h2 hA
        obtain ⟨h0, rfl⟩ : ∃ h0, hi = h0 + 1 := ⟨hi - 1, by omega⟩
        rw [if_neg h, a1, bd1_d, nm_d, nm_d, nI_s1, m1E] at hB
        rw [if_neg h]
        obtain ⟨m', z1, z2, z3⟩ := ih f (lo + 1) h0 m1 (swp P lo (h0 + 1)) (by omega) (by omega) (by omega) (by omega) a2
        exact ⟨m', hB _ z1, z2, fun a ha => by rw [z3 a ha, a3 a ha]⟩
theorem m_rv {n : Nat} (hn : n ≤ 7) : ∀ (k f lo hi : Nat) (m : Mm) (P : Pf), hi ≤ lo + k → k < f → hi < n → lo ≤ n → AH m 311 n P → ∃ m', lp_X7_orders_92 f (nI lo) (nI hi) m = some m' ∧ AH m' 311 n (rv k P lo hi) ∧ ∀ a, a ≠ 311 → m' a = m a := by
  intro k
  induction k with
  | zero =>
    intro f lo hi m P h1 hf h2 h3 hA
    cases f with
    | zero => omega
    | succ f =>
      refine ⟨m, ?_, hA, fun _ _ => rfl⟩
      show lb_X7_orders_92 (lp_X7_orders_92 f) (nI lo) (nI hi) m = _
      unfold lb_X7_orders_92
      rw [if_pos (by rw [nI_leE (by omega) (by omega)]; omega)]
  | succ k ih =>
    intro f lo hi m P h1 hf h2 h3 hA
    cases f with
    | zero => omega
    | succ f =>
      have q : (nI hi ≤ nI lo) = (hi ≤ lo) := nI_leE (by omega) (by omega)
      have hB : ∀ m', lb_X7_orders_92 (lp_X7_orders_92 f) (nI lo) (nI hi) m = m' → lp_X7_orders_92 (f + 1) (nI lo) (nI hi) m = m' := fun m' h => h
      unfold lb_X7_orders_92 at hB
      simp only [q] at hB
      unfold rv
      by_cases h : hi ≤ lo
      · rw [if_pos h] at hB
        rw [if_pos h]
        exact ⟨m, hB _ rfl, hA, fun _ _ => rfl⟩
      · obtain ⟨m1, a1, a2, a3⟩ := m_ex hn (show lo < n by omega) h2 hA
        obtain ⟨h0, rfl⟩ : ∃ h0, hi = h0 + 1 := ⟨hi - 1, by omega⟩
        rw [if_neg h, a1, bd1_d, nm_d, nm_d, nI_s1, m1E] at hB
        rw [if_neg h]
        obtain ⟨m', z1, z2, z3⟩ := ih f (lo + 1) h0 m1 (swp P lo (h0 + 1)) (by omega) (by omega) (by omega) (by omega) a2
        exact ⟨m', hB _ z1, z2, fun a ha => by rw [z3 a ha, a3 a ha]⟩
theorem c_next {m : Mm} {n : Nat} {P : Pf} (hn : n ≤ 7) (h1 : 1 ≤ n) (hA : AH m 250 n P) : ∃ m', f_X1_nextOrder (nI n) m = some m' ∧ (∀ Q, nextP n P = some Q → AH m' 250 n Q) ∧ ∀ a, a ≠ 250 → m' a = m a := by
  have hF := FU_big
  obtain ⟨n', rfl⟩ : ∃ n', n = n' + 1 := ⟨n - 1, by omega⟩
  have e1 := c_fk (nI (n' + 1)) hn hA n' FU (by omega) (by omega)
  unfold f_X1_nextOrder nextP
  rw [m2S n' (by omega), nm_d, e1, bd1_d, m1S n' (by omega)]
  cases hk : fk P n' with
  | none =>
    simp only [show n' + 1 - 1 = n' from rfl, hk]
    rw [if_neg (by decide)]
    exact ⟨m, rfl, fun Q h => (by cases h), fun _ _ => rfl⟩
  | some k =>
    have hkl := fk_lt P n' k hk
    obtain ⟨j1, j2⟩ := fj_ge P k n' (by omega)
    simp only [show n' + 1 - 1 = n' from rfl, hk, nm_d]
    rw [if_pos (by rw [n0, nI_leE (by omega) (by omega)]; omega), c_fj (nI (n' + 1)) hn hA n' FU (by omega) (by omega) (by omega), bd1_d]
    obtain ⟨m1, a1, a2, a3⟩ := c_ex hn (show k < n' + 1 by omega) (show fj P k n' < n' + 1 by omega) hA
    obtain ⟨m', z1, z2, z3⟩ := c_rv hn 7 FU (k + 1) n' m1 _ (by omega) (by omega) (by omega) (by omega) a2
    rw [a1, bd1_d, nI_s1, z1, bd1_d]
    exact ⟨m', rfl, fun Q h => by cases h; exact z2, fun a ha => by rw [z3 a ha, a3 a ha]⟩
theorem m_next {m : Mm} {n : Nat} {P : Pf} (hn : n ≤ 7) (h1 : 1 ≤ n) (h2 : m 304 2 = nI n) (hA : AH m 311 n P) : ∃ m', f_X7_orders m = some ((match nextP n P with | none => 0 | some _ => 1), m') ∧ (∀ Q, nextP n P = some Q → AH m' 311 n Q) ∧ ∀ a, a ≠ 311 → m' a = m a := by
  have hF := FU_big
  obtain ⟨n', rfl⟩ : ∃ n', n = n' + 1 := ⟨n - 1, by omega⟩
  have e1 := m_fk hn hA n' FU (by omega) (by omega)
  unfold f_X7_orders nextP
  rw [show ix (2 : Int32) = 2 from rfl, h2, m2S n' (by omega), nm_d, e1, bd1_d, m1S n' (by omega)]
  cases hk : fk P n' with
  | none =>
    simp only [show n' + 1 - 1 = n' from rfl, hk]
    rw [if_neg (by decide)]
    exact ⟨m, rfl, fun Q h => (by cases h), fun _ _ => rfl⟩
  | some k =>
    have hkl := fk_lt P n' k hk
    obtain ⟨j1, j2⟩ := fj_ge P k n' (by omega)
    simp only [show n' + 1 - 1 = n' from rfl, hk, nm_d]
    rw [if_pos (by rw [n0, nI_leE (by omega) (by omega)]; omega), m_fj hn hA n' FU (by omega) (by omega) (by omega), bd1_d]
    obtain ⟨m1, a1, a2, a3⟩ := m_ex hn (show k < n' + 1 by omega) (show fj P k n' < n' + 1 by omega) hA
    obtain ⟨m', z1, z2, z3⟩ := m_rv hn 7 FU (k + 1) n' m1 _ (by omega) (by omega) (by omega) (by omega) a2
    rw [a1, bd1_d, a3 304 (by omega), h2, m1S n' (by omega), nI_s1, z1, bd1_d]
    exact ⟨m', rfl, fun Q h => by cases h; exact z2, fun a ha => by rw [z3 a ha, a3 a ha]⟩
