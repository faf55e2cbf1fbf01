theorem chk7_0 : ∀ a, a < 10 → ∀ b, b < 72 → (72 * (0 + a) + b == 5039 || chkN 7 (72 * (0 + a) + b)) = true := by decide +kernel
theorem chk7_1 : ∀ a, a < 10 → ∀ b, b < 72 → (72 * (10 + a) + b == 5039 || chkN 7 (72 * (10 + a) + b)) = true := by decide +kernel
theorem chk7_2 : ∀ a, a < 10 → ∀ b, b < 72 → (72 * (20 + a) + b == 5039 || chkN 7 (72 * (20 + a) + b)) = true := by decide +kernel
theorem chk7_3 : ∀ a, a < 10 → ∀ b, b < 72 → (72 * (30 + a) + b == 5039 || chkN 7 (72 * (30 + a) + b)) = true := by decide +kernel
theorem chk7_4 : ∀ a, a < 10 → ∀ b, b < 72 → (72 * (40 + a) + b == 5039 || chkN 7 (72 * (40 + a) + b)) = true := by decide +kernel
theorem chk7_5 : ∀ a, a < 10 → ∀ b, b < 72 → (72 * (50 + a) + b == 5039 || chkN 7 (72 * (50 + a) + b)) = true := by decide +kernel
theorem chk7_6 : ∀ a, a < 10 → ∀ b, b < 72 → (72 * (60 + a) + b == 5039 || chkN 7 (72 * (60 + a) + b)) = true := by decide +kernel
theorem chk7 (i : Nat) (h : i + 1 < 5040) : chkN 7 i = true := by
  have key : ∀ a b, a < 70 → b < 72 → (72 * a + b == 5039 || chkN 7 (72 * a + b)) = true := by
    intro a b ha hb
    by_cases h0 : a < 10
    · have := chk7_0 (a - 0) (by omega) b hb
      rw [show 0 + (a - 0) = a by omega] at this; exact this
    by_cases h1 : a < 20
    · have := chk7_1 (a - 10) (by omega) b hb
      rw [show 10 + (a - 10) = a by omega] at this; exact this
    by_cases h2 : a < 30
    · have := chk7_2 (a - 20) (by omega) b hb
      rw [show 20 + (a - 20) = a by omega] at this; exact this
    by_cases h3 : a < 40
    · have := chk7_3 (a - 30) (by omega) b hb
      rw [show 30 + (a - 30) = a by omega] at this; exact this
    by_cases h4 : a < 50
    · have := chk7_4 (a - 40) (by omega) b hb
      rw [show 40 + (a - 40) = a by omega] at this; exact this
    by_cases h5 : a < 60
    · have := chk7_5 (a - 50) (by omega) b hb
      rw [show 50 + (a - 50) = a by omega] at this; exact this
    by_cases h6 : a < 70
    · have := chk7_6 (a - 60) (by omega) b hb
      rw [show 60 + (a - 60) = a by omega] at this; exact this
    omega
  have := key (i / 72) (i % 72) (by omega) (by omega)
  rw [show 72 * (i / 72) + i % 72 = i by omega] at this
  rw [Bool.or_eq_true] at this
  rcases this with e | e
  · have := of_decide_eq_true (p := i = 5039) (by simpa using e)
    omega
  · exact e
theorem nx_some {n i : Nat} (h1 : 1 ≤ n) (hn : n ≤ 7) (hi : i + 1 < facN n) : ∃ Q, nextP n (pO n i) = some Q ∧ ∀ k, k < n → Q k = pO n (i + 1) k := by
  by_cases h7 : n = 7
  · subst h7
    exact nx_of (chk7 i hi)
  · refine nx_of (chk1 n (by omega) (by omega) i ?_ hi)
    have : facN n ≤ 720 := by
      rcases (show n = 1 ∨ n = 2 ∨ n = 3 ∨ n = 4 ∨ n = 5 ∨ n = 6 by omega) with h | h | h | h | h | h <;> subst h <;> decide
    omega
theorem nx_none {n : Nat} (h1 : 1 ≤ n) (hn : n ≤ 7) : nextP n (pO n (facN n - 1)) = none := by
  have := nx_last n (by omega) (by omega)
  cases h : nextP n (pO n (facN n - 1)) with
  | none => rfl
  | some Q => rw [h] at this; cases this
