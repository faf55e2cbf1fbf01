/-! how likely it is full when guests stay away -/
theorem nI_rem {a b : Nat} (ha : a < 2147483648) (hb : b < 2147483648) (h0 : 0 < b) : nI a - nI a / nI b * nI b = nI (a % b) ∧ nI a / nI b = nI (a / b) := by
  have hd : a / b * b ≤ a := Nat.div_mul_le_self a b
  have hd2 : a / b ≤ a := Nat.div_le_self a b
  have e1 : nI a / nI b = nI (a / b) := by
    apply Int32.toInt_inj.mp
    rw [Int32.toInt_div, nI_toInt ha, nI_toInt hb, nI_toInt (by omega)]
    show Int.bmod ((a : Int).tdiv b) (2 ^ 32) = _
    rw [Int.tdiv_eq_ediv_of_nonneg (by omega), ← Int.natCast_ediv]
    generalize a / b = q at hd2
    apply Int.bmod_eq_of_le <;> omega
  refine ⟨?_, e1⟩
  have := Nat.div_add_mod a b
  rw [Nat.mul_comm] at this
  rw [e1, nI_mulE, nI_subE hd]
  apply nI_small; omega
theorem mod_half {a b : Nat} (h0 : 0 < b) (h : b ≤ a) : 2 * (a % b) < a := by
  by_cases h2 : 2 * b ≤ a
  · have := Nat.mod_lt a h0; omega
  · rw [Nat.mod_eq_sub_mod h, Nat.mod_eq_of_lt (by omega)]; omega
theorem gcd_st (a b : Nat) : Nat.gcd a b = Nat.gcd b (a % b) := by rw [Nat.gcd_comm a b, Nat.gcd_rec b a, Nat.gcd_comm]
theorem cl_gcd : ∀ (j f y a b : Nat), a < 2147483648 → b < 2 ^ j → j ≤ 31 → y + 2 * j < 64 → 2 * j < f → lp_X1_commonDivisor_7 f (nI a) (nI b) (nI y) = some (nI (Nat.gcd a b)) := by
  intro j
  induction j with
  | zero =>
    intro f y a b ha hb hj hy hf
    have hb0 : b = 0 := by omega
    subst hb0
    cases f with
    | zero => omega
    | succ f =>
      show lb_X1_commonDivisor_7 (lp_X1_commonDivisor_7 f) (nI a) (nI 0) (nI y) = _
      unfold lb_X1_commonDivisor_7
      rw [if_neg (by rw [show (64 : Int32) = nI 64 from rfl, nI_leE (by omega) (by omega)]; omega), if_pos (show nI 0 = (0 : Int32) from rfl), Nat.gcd_zero_right]
  | succ j ih =>
    intro f y a b ha hb hj hy hf
    have hp : 2 ^ (j + 1) ≤ 2147483648 := by
      have : 2 ^ (j + 1) ≤ 2 ^ 31 := Nat.pow_le_pow_right (by omega) hj
      omega
    have hpj : 2 ^ (j + 1) = 2 * 2 ^ j := by rw [Nat.pow_succ]; omega
    have q : (nI b = (0 : Int32)) = (b = 0) := nI_eqE (b := 0) (by omega) (by omega)
    obtain ⟨f1, rfl⟩ : ∃ f1, f = f1 + 2 := ⟨f - 2, by omega⟩
    show lb_X1_commonDivisor_7 (lp_X1_commonDivisor_7 (f1 + 1)) (nI a) (nI b) (nI y) = _
    unfold lb_X1_commonDivisor_7
    rw [if_neg (by rw [show (64 : Int32) = nI 64 from rfl, nI_leE (by omega) (by omega)]; omega)]
    by_cases h0 : b = 0
    · subst h0
      rw [if_pos (show nI 0 = (0 : Int32) from rfl), Nat.gcd_zero_right]
    · have hq : ¬ nI b = 0 := by rw [q]; exact h0
      have hr := Nat.mod_lt a (show 0 < b by omega)
      rw [if_neg hq, gd_t hq, (nI_rem ha (by omega) (by omega)).1, nm_d, nm_d, nI_s1]
      show lb_X1_commonDivisor_7 (lp_X1_commonDivisor_7 f1) (nI b) (nI (a % b)) (nI (y + 1)) = _
      unfold lb_X1_commonDivisor_7
      rw [if_neg (by rw [show (64 : Int32) = nI 64 from rfl, nI_leE (by omega) (by omega)]; omega)]
      have q2 : (nI (a % b) = (0 : Int32)) = (a % b = 0) := nI_eqE (b := 0) (by omega) (by omega)
      by_cases h1 : a % b = 0
      · rw [if_pos (by rw [q2]; exact h1), gcd_st a b, h1, Nat.gcd_zero_right]
      · have hq2 : ¬ nI (a % b) = 0 := by rw [q2]; exact h1
        have hh := mod_half (show 0 < a % b by omega) (show a % b ≤ b by omega)
        rw [if_neg hq2, gd_t hq2, (nI_rem (by omega) (by omega) (by omega)).1, nm_d, nm_d, nI_s1, ih f1 (y + 2) (a % b) (b % (a % b)) (by omega) (by omega) (by omega) (by omega) (by omega), gcd_st a b, gcd_st b (a % b)]
theorem mo_gcd (x3 y5 y6 : Int32) (m : Mm) : ∀ (j f a b : Nat), a < 2147483648 → b < 2 ^ j → j ≤ 31 → 2 * j < f → lp_X7_away_216 f x3 y5 y6 (nI a) (nI b) m = some (nI (Nat.gcd a b)) := by
  intro j
  induction j with
  | zero =>
    intro f a b ha hb hj hf
    have hb0 : b = 0 := by omega
    subst hb0
    cases f with
    | zero => omega
    | succ f =>
      show lb_X7_away_216 (lp_X7_away_216 f) x3 y5 y6 (nI a) (nI 0) m = _
      unfold lb_X7_away_216
      rw [if_pos (show nI 0 = (0 : Int32) from rfl), Nat.gcd_zero_right]
  | succ j ih =>
    intro f a b ha hb hj hf
    have hp : 2 ^ (j + 1) ≤ 2147483648 := by
      have : 2 ^ (j + 1) ≤ 2 ^ 31 := Nat.pow_le_pow_right (by omega) hj
      omega
    have hpj : 2 ^ (j + 1) = 2 * 2 ^ j := by rw [Nat.pow_succ]; omega
    have q : (nI b = (0 : Int32)) = (b = 0) := nI_eqE (b := 0) (by omega) (by omega)
    obtain ⟨f1, rfl⟩ : ∃ f1, f = f1 + 2 := ⟨f - 2, by omega⟩
    show lb_X7_away_216 (lp_X7_away_216 (f1 + 1)) x3 y5 y6 (nI a) (nI b) m = _
    unfold lb_X7_away_216
    by_cases h0 : b = 0
    · subst h0
      rw [if_pos (show nI 0 = (0 : Int32) from rfl), Nat.gcd_zero_right]
    · have hq : ¬ nI b = 0 := by rw [q]; exact h0
      have hr := Nat.mod_lt a (show 0 < b by omega)
      rw [if_neg hq, gd_t hq, (nI_rem ha (by omega) (by omega)).1, nm_d]
      show lb_X7_away_216 (lp_X7_away_216 f1) x3 y5 y6 (nI b) (nI (a % b)) m = _
      unfold lb_X7_away_216
      have q2 : (nI (a % b) = (0 : Int32)) = (a % b = 0) := nI_eqE (b := 0) (by omega) (by omega)
      by_cases h1 : a % b = 0
      · rw [if_pos (by rw [q2]; exact h1), gcd_st a b, h1, Nat.gcd_zero_right]
      · have hq2 : ¬ nI (a % b) = 0 := by rw [q2]; exact h1
        have hh := mod_half (show 0 < a % b by omega) (show a % b ≤ b by omega)
        rw [if_neg hq2, gd_t hq2, (nI_rem (by omega) (by omega) (by omega)).1, nm_d, ih f1 (a % b) (b % (a % b)) (by omega) (by omega) (by omega) (by omega), gcd_st a b, gcd_st b (a % b)]
/-! sets within the set of those hired -/
theorem subE : ∀ h, h < 128 → ∀ x, x < 128 → decide ((nI x &&& (nI h ^^^ (-1 : Int32))) = 0) = decide (x &&& h = x) := by decide +kernel
theorem subD : ∀ h, h < 128 → ∀ x, x < 128 → x &&& h = x → nI h &&& (nI x ^^^ (-1 : Int32)) = nI (h - x) := by decide +kernel
theorem subR : ∀ h, h < 128 → ∀ x, x < 128 → x ≤ h → decide ((h - x) &&& h = h - x) = decide (x &&& h = x) := by decide +kernel
theorem subB : ∀ h, h < 128 → ∀ x, x < 128 → x &&& h = x → ∀ g, g < 7 → (h - x) / 2 ^ g % 2 = h / 2 ^ g % 2 - x / 2 ^ g % 2 := by decide +kernel
def prodTo (n : Nat) (f : Nat → Nat) : Nat := match n with
  | 0 => 1
  | n + 1 => prodTo n f * f n
theorem prodTo_le {c : Nat} {f : Nat → Nat} (h : ∀ g, f g ≤ c) : ∀ n, prodTo n f ≤ c ^ n
  | 0 => Nat.le_refl 1
  | n + 1 => by
    show prodTo n f * f n ≤ c ^ n * c
    exact Nat.mul_le_mul (prodTo_le h n) (h n)
theorem prodTo_cong {f f' : Nat → Nat} : ∀ n, (∀ g, g < n → f g = f' g) → prodTo n f = prodTo n f'
  | 0, _ => rfl
  | n + 1, h => by
    show prodTo n f * f n = prodTo n f' * f' n
    rw [prodTo_cong n fun g hg => h g (by omega), h n (by omega)]
theorem sumTo_cong {f f' : Nat → Nat} : ∀ n, (∀ g, g < n → f g = f' g) → sumTo n f = sumTo n f'
  | 0, _ => rfl
  | n + 1, h => by
    show sumTo n f + f n = sumTo n f' + f' n
    rw [sumTo_cong n fun g hg => h g (by omega), h n (by omega)]
theorem sumTo_hd (f : Nat → Nat) : ∀ n, sumTo (n + 1) f = f 0 + sumTo n (fun x => f (x + 1))
  | 0 => by show 0 + f 0 = f 0 + 0; omega
  | n + 1 => by
    show sumTo (n + 1) f + f (n + 1) = f 0 + (sumTo n (fun x => f (x + 1)) + f (n + 1))
    rw [sumTo_hd f n]; omega
theorem sumTo_rev (f : Nat → Nat) : ∀ n, sumTo (n + 1) f = sumTo (n + 1) (fun x => f (n - x))
  | 0 => rfl
  | n + 1 => by
    rw [sumTo_hd (fun x => f (n + 1 - x)) (n + 1)]
    show sumTo (n + 1) f + f (n + 1) = f (n + 1 - 0) + sumTo (n + 1) (fun x => f (n + 1 - (x + 1)))
    have e := sumTo_cong (n + 1) (f := fun x => f (n + 1 - (x + 1))) (f' := fun x => f (n - x)) (fun g _ => congrArg f (by omega))
    rw [e, sumTo_rev f n, Nat.sub_zero]
    omega
theorem sumTo_pad {f : Nat → Nat} {n : Nat} (h : ∀ g, n ≤ g → f g = 0) : ∀ k, sumTo (n + k) f = sumTo n f
  | 0 => rfl
  | k + 1 => by
    show sumTo (n + k) f + f (n + k) = _
    rw [sumTo_pad h k, h (n + k) (by omega)]; rfl
def fiF (V : Wv) (N c s : Nat) : Nat := if runV N (setHV V s) 0 ≤ runV N (setHV V s) 4 then prodTo (V 2) (fun g => if V (ig g 5) = 0 then 1 else if s / 2 ^ g % 2 = 1 then 10 - c else c) else 0
def awT (V : Wv) (N c x : Nat) : Nat := if x &&& hbV V = x then fiF V N c x else 0
def awM (V : Wv) (N c x : Nat) : Nat := if x &&& hbV V = x then fiF V N c (hbV V - x) else 0
theorem aw_eq {V : Wv} {N c : Nat} (hV : OkV V) : sumTo (hbV V + 1) (awM V N c) = sumTo (2 ^ V 2) (awT V N c) := by
  have h7 := two_pow_lt hV.n
  have hh := hbV_lt hV
  obtain ⟨k, hk⟩ : ∃ k, 2 ^ V 2 = hbV V + 1 + k := ⟨2 ^ V 2 - (hbV V + 1), by omega⟩
  rw [hk, sumTo_pad (f := awT V N c) (n := hbV V + 1) (fun g hg => if_neg (fun e => by have : g &&& hbV V ≤ hbV V := Nat.and_le_right; omega)) k, sumTo_rev (awT V N c)]
  refine sumTo_cong _ fun x hx => ?_
  have := subR (hbV V) (by omega) x (by omega) (by omega)
  unfold awM awT
  by_cases e : x &&& hbV V = x
  · rw [decide_eq_true e] at this
    rw [if_pos e, if_pos (of_decide_eq_true this)]
  · rw [decide_eq_false e] at this
    rw [if_neg e, if_neg (of_decide_eq_false this)]
def belV (V : Wv) : Nat := prodTo (V 2) fun g => if V (ig g 5) = 0 then 1 else 10
theorem bel_d : ∀ n, n < 8 → ∀ h, h < 128 → h < 2 ^ n → prodTo n (fun g => if h / 2 ^ g % 2 = 0 then 1 else 10) = 10 ^ ones7 h := by decide +kernel
theorem bel_eq {V : Wv} (hV : OkV V) : belV V = 10 ^ ones7 (hbV V) := by
  have h7 := two_pow_lt hV.n
  have hh := hbV_lt hV
  have hn := hV.n
  rw [← bel_d (V 2) (by omega) (hbV V) (by omega) hh]
  exact prodTo_cong _ fun g hg => by rw [hbV_bit hV hg]
theorem fiF_le {V : Wv} {N c s : Nat} (hV : OkV V) (hc : c ≤ 10) : fiF V N c s ≤ 10000000 := by
  have hn := hV.n
  unfold fiF
  split
  · have h1 := prodTo_le (c := 10) (f := fun g => if V (ig g 5) = 0 then 1 else if s / 2 ^ g % 2 = 1 then 10 - c else c) (fun g => by
      show (if V (ig g 5) = 0 then 1 else if s / 2 ^ g % 2 = 1 then 10 - c else c) ≤ 10
      split
      · omega
      · split <;> omega) (V 2)
    have h2 : (10 : Nat) ^ V 2 ≤ 10 ^ 7 := Nat.pow_le_pow_right (by omega) hn
    omega
  · omega
theorem aw_le {V : Wv} {N c : Nat} (hV : OkV V) (hc : c ≤ 10) : sumTo (2 ^ V 2) (awT V N c) ≤ 1280000000 := by
  have h7 := two_pow_lt hV.n
  have h1 := sumTo_le (n := 2 ^ V 2) (c := 10000000) (f := awT V N c) (fun x => by
    unfold awT
    split
    · exact fiF_le hV hc
    · omega)
  have h2 : 2 ^ V 2 * 10000000 ≤ 128 * 10000000 := Nat.mul_le_mul_right _ h7
  omega
theorem bel_le {V : Wv} (hV : OkV V) : 1 ≤ belV V ∧ belV V ≤ 10000000 := by
  rw [bel_eq hV]
  have h2 : (10 : Nat) ^ ones7 (hbV V) ≤ 10 ^ 7 := Nat.pow_le_pow_right (by omega) (ones7_lt _)
  exact ⟨Nat.pow_pos (by omega), by omega⟩
