/-! numbers: everything here lies between 0 and some 100000; Int32 is nI of a Nat -/
theorem ix_nI {n : Nat} (h : n < 2147483648) : ix (nI n) = n := nI_clamp h
theorem nI_lt0 {n : Nat} (h : n < 2147483648) : (nI n < 0) = False := eq_false (nI_pos h)
theorem nI_leE {a b : Nat} (ha : a < 2147483648) (hb : b < 2147483648) : (nI a ≤ nI b) = (a ≤ b) := propext (nI_leI ha hb)
theorem nI_ltE {a b : Nat} (ha : a < 2147483648) (hb : b < 2147483648) : (nI a < nI b) = (a < b) := propext (nI_ltI ha hb)
theorem nI_eqE {a b : Nat} (ha : a < 2147483648) (hb : b < 2147483648) : (nI a = nI b) = (a = b) := propext (nI_eq ha hb)
theorem nI_subE {a b : Nat} (h : b ≤ a) : nI a - nI b = nI (a - b) := pk_sub h
theorem nI_mulE (a b : Nat) : nI a * nI b = nI (a * b) := pk_mul a b
theorem gd_t {α : Type} {c : Prop} [Decidable c] {x : Option α} (h : c) : gd_ c x = x := if_pos h
theorem gdN {α : Type} {n N : Nat} {x : Option α} (h : n < N) (h2 : n < 2147483648) : gd_ (¬ (nI n < 0 ∨ N ≤ ix (nI n))) x = x := by
  apply gd_t
  rw [ix_nI h2]
  intro hh
  rcases hh with hh | hh
  · exact nI_pos h2 hh
  · omega
theorem gdM {α : Type} {n N : Nat} {x : Option α} (h : n < N) (h2 : n < 2147483648) : gd_ (¬ (nI n < 0 ∨ N ≤ n)) x = x := by
  apply gd_t
  intro hh
  rcases hh with hh | hh
  · exact nI_pos h2 hh
  · omega
theorem nm_d {α β : Type} (a : α) (k : α → β) : nm_ a k = k a := rfl
theorem bd1_d {α ρ : Type} (a : α) (k : α → Option ρ) : bd1 (some a) k = k a := rfl
theorem bd2_d {α β ρ : Type} (a : α) (b : β) (k : α → β → Option ρ) : bd2 (some (a, b)) k = k a b := rfl
theorem bd3_d {α β γ ρ : Type} (a : α) (b : β) (c : γ) (k : α → β → γ → Option ρ) : bd3 (some (a, b, c)) k = k a b c := rfl
theorem bd4_d {α β γ δ ρ : Type} (a : α) (b : β) (c : γ) (d : δ) (k : α → β → γ → δ → Option ρ) : bd4 (some (a, b, c, d)) k = k a b c d := rfl
theorem bdS1_l {α ρ : Type} (r : ρ) (k : α → Option ρ) : bdS1 (some (.inl r)) k = some r := rfl
theorem bdS1_r {α ρ : Type} (a : α) (k : α → Option ρ) : bdS1 (some (.inr a)) k = k a := rfl
theorem bdT1_l {α ρ σ : Type} (r : ρ) (k : α → Option (ρ ⊕ σ)) : bdT1 (some (.inl r)) k = some (.inl r) := rfl
theorem bdT1_r {α ρ σ : Type} (a : α) (k : α → Option (ρ ⊕ σ)) : bdT1 (some (.inr a)) k = k a := rfl
theorem st_s {m : Mm} {a k : Nat} {v : Int32} : st_ m a k v a k = v := by simp [st_]
theorem st_n {m : Mm} {a k a' k' : Nat} {v : Int32} (h : a' ≠ a ∨ k' ≠ k) : st_ m a k v a' k' = m a' k' := by
  unfold st_
  rw [if_neg]
  rintro ⟨h1, h2⟩
  rcases h with h | h
  · exact h h1
  · exact h h2
theorem st_na {m : Mm} {a k a' : Nat} {v : Int32} (h : a' ≠ a) : st_ m a k v a' = m a' := st_off a' h
theorem cp_na {m : Mm} {a0 sp a1 dp n a' : Nat} (h : a' ≠ a1) : cp_ m a0 sp a1 dp n a' = m a' := cp_off a' h
theorem n0 : (0 : Int32) = nI 0 := rfl
theorem n1 : (1 : Int32) = nI 1 := rfl
theorem n2 : (2 : Int32) = nI 2 := rfl
theorem n3 : (3 : Int32) = nI 3 := rfl
theorem n4 : (4 : Int32) = nI 4 := rfl
theorem n5 : (5 : Int32) = nI 5 := rfl
theorem n6 : (6 : Int32) = nI 6 := rfl
theorem n7 : (7 : Int32) = nI 7 := rfl
theorem n8 : (8 : Int32) = nI 8 := rfl
theorem n9 : (9 : Int32) = nI 9 := rfl
theorem n10 : (10 : Int32) = nI 10 := rfl
theorem n12 : (12 : Int32) = nI 12 := rfl
theorem n15 : (15 : Int32) = nI 15 := rfl
theorem n24 : (24 : Int32) = nI 24 := rfl
theorem n30 : (30 : Int32) = nI 30 := rfl
theorem n40 : (40 : Int32) = nI 40 := rfl
theorem n55 : (55 : Int32) = nI 55 := rfl
theorem n60 : (60 : Int32) = nI 60 := rfl
theorem n61 : (61 : Int32) = nI 61 := rfl
theorem n99 : (99 : Int32) = nI 99 := rfl
theorem n110 : (110 : Int32) = nI 110 := rfl
theorem n999 : (999 : Int32) = nI 999 := rfl
theorem n9999 : (9999 : Int32) = nI 9999 := rfl
theorem n99999 : (99999 : Int32) = nI 99999 := rfl
theorem lit_n (n : Nat) : (OfNat.ofNat n : Int32) = nI n := rfl
/-! a wedding as a row of 55 Nats, laid as the reference lays it: 0 NEED, 1 HYMNS, 2 GUESTS, 3 MINUTE, 4 BOTTLE, 5 PAID; of guest g from 6 + 7 g on: kind, START, WELL, FEE, SEAT, HIRED, LAST -/
abbrev Wv : Type := Nat → Nat
def ig (g f : Nat) : Nat := 6 + 7 * g + f
def GdV (V : Wv) (g : Nat) : Prop := 1 ≤ V (ig g 0) ∧ V (ig g 0) ≤ 5 ∧ V (ig g 1) ≤ 9 ∧ V (ig g 2) ≤ 99 ∧ V (ig g 3) ≤ 9 ∧ V (ig g 4) < V 2 ∧ V (ig g 5) ≤ 1 ∧ V (ig g 6) ≤ 9 ∧ (V (ig g 5) = 0 → V (ig g 6) = 0)
def OkV (V : Wv) : Prop := V 0 ≤ 99 ∧ V 1 ≤ 15 ∧ V 2 ≤ 7 ∧ V 3 ≤ 20000 ∧ V 4 ≤ 999 ∧ V 5 ≤ 99999 ∧ (∀ g, g < V 2 → GdV V g) ∧
  (∀ g h, g < V 2 → h < V 2 → V (ig g 4) = V (ig h 4) → g = h) ∧ (∀ p, p < V 2 → ∃ g, g < V 2 ∧ V (ig g 4) = p)
/-- the reference's row a from o on holds V -/
def MW (m : Mm) (a o : Nat) (V : Wv) : Prop := ∀ k, k < 55 → m a (o + k) = nI (V k)
def CwG (m : Mm) (w : Nat) (V : Wv) (g : Nat) : Prop := m (w + 1) g = nI (V (ig g 0)) ∧ m (w + 2) g = nI (V (ig g 1)) ∧ m (w + 3) g = nI (V (ig g 3)) ∧ m (w + 4) g = nI (V (ig g 2)) ∧ m (w + 5) g = nI (V (ig g 6)) ∧ m (w + 6) g = nI (V (ig g 4)) ∧ m (w + 7) (V (ig g 4)) = nI g
/-- the Wedding at w holds V -/
def CW (m : Mm) (w : Nat) (V : Wv) : Prop := m w 0 = nI (V 2) ∧ m w 1 = nI (V 0) ∧ m w 2 = nI (V 1) ∧ m w 3 = nI (V 3) ∧ m w 4 = nI (V 4) ∧ m w 5 = nI (V 5) ∧
  (∃ h, m w 6 = nI h ∧ h < 2 ^ V 2 ∧ ∀ g, g < V 2 → h / 2 ^ g % 2 = V (ig g 5)) ∧ ∀ g, g < V 2 → CwG m w V g
theorem CW.frame {m m' : Mm} {w : Nat} {V : Wv} (h : CW m w V) (hf : ∀ a, w ≤ a → a ≤ w + 7 → m' a = m a) : CW m' w V := by
  have e0 := hf w (by omega) (by omega)
  have e1 := hf (w + 1) (by omega) (by omega)
  have e2 := hf (w + 2) (by omega) (by omega)
  have e3 := hf (w + 3) (by omega) (by omega)
  have e4 := hf (w + 4) (by omega) (by omega)
  have e5 := hf (w + 5) (by omega) (by omega)
  have e6 := hf (w + 6) (by omega) (by omega)
  have e7 := hf (w + 7) (by omega) (by omega)
  unfold CW CwG at *
  rw [e0, e1, e2, e3, e4, e5, e6, e7]
  exact h
/-- the guest in a seat, its LAST; 0: nobody -/
def lastSt (V : Wv) (s : Nat) : Nat := match (List.range (V 2)).find? (fun g => V (ig g 4) == s) with
  | some g => V (ig g 6)
  | none => 0
def leftV (V : Wv) (g : Nat) : Nat := if V (ig g 4) = 0 then 0 else lastSt V (V (ig g 4) - 1)
def rightV (V : Wv) (g : Nat) : Nat := lastSt V (V (ig g 4) + 1)
def auntV (V : Wv) (g : Nat) : Nat := V (ig g 1) + (if 0 < leftV V g then 1 else 0) + (if 0 < rightV V g then 1 else 0)
def manV (V : Wv) (g : Nat) : Nat := if V 1 / 2 ^ (V 3 % 4) % 2 = 1 then V (ig g 1) else 0
def itsV (V : Wv) (g : Nat) : Nat := if V (ig g 0) = 1 then auntV V g else if V (ig g 0) = 2 then (if leftV V g + rightV V g = 0 then auntV V g else max (auntV V g) (1 + max (leftV V g) (rightV V g)))
  else if V (ig g 0) = 3 then (if V 3 % 2 = 1 then 0 else auntV V g) else if V (ig g 0) = 4 then manV V g else manV V g + 2
def wouldV (V : Wv) (g : Nat) : Nat := min (min (itsV V g) 9) (V (ig g 2))
def shedV (V : Wv) (g : Nat) : Nat := if V (ig g 5) = 1 then wouldV V g else 0
def sumTo (n : Nat) (f : Nat → Nat) : Nat := match n with
  | 0 => 0
  | n + 1 => sumTo n f + f n
def comesV (V : Wv) (n : Nat) : Nat := sumTo n fun g => if V (ig g 0) = 5 then 0 else shedV V g
def onionsV (V : Wv) (n : Nat) : Nat := sumTo n fun g => if V (ig g 0) = 5 then shedV V g else 0
def dueV (V : Wv) (n : Nat) : Nat := sumTo n fun g => if V (ig g 0) = 5 then 0 else V (ig g 3) * shedV V g
def passV (V : Wv) : Wv := fun k => if k = 3 then V 3 + 1 else if k = 4 then min 999 (V 4 + comesV V (V 2)) - onionsV V (V 2) else if k = 5 then min 99999 (V 5 + dueV V (V 2))
  else if 6 ≤ k ∧ k < 6 + 7 * V 2 then (if (k - 6) % 7 = 6 then shedV V ((k - 6) / 7) else if (k - 6) % 7 = 2 then V k - shedV V ((k - 6) / 7) else V k) else V k
theorem lastSt_of {V : Wv} {g s : Nat} (hinj : ∀ g h, g < V 2 → h < V 2 → V (ig g 4) = V (ig h 4) → g = h) (hg : g < V 2) (hs : V (ig g 4) = s) : lastSt V s = V (ig g 6) := by
  unfold lastSt
  cases hf : (List.range (V 2)).find? (fun g => V (ig g 4) == s) with
  | none =>
    have := List.find?_eq_none.mp hf g (List.mem_range.mpr hg)
    simp [hs] at this
  | some g' =>
    have h1 := List.find?_some hf
    have h2 := List.mem_range.mp (List.mem_of_find?_eq_some hf)
    simp at h1
    have := hinj g' g h2 hg (by rw [h1, hs])
    rw [this]
theorem lastSt_no {V : Wv} {s : Nat} (h : ∀ g, g < V 2 → V (ig g 4) ≠ s) : lastSt V s = 0 := by
  unfold lastSt
  cases hf : (List.range (V 2)).find? (fun g => V (ig g 4) == s) with
  | none => rfl
  | some g' =>
    have h1 := List.find?_some hf
    have h2 := List.mem_range.mp (List.mem_of_find?_eq_some hf)
    simp at h1
    exact absurd h1 (h g' h2)
theorem lastSt_le {V : Wv} (hV : OkV V) (s : Nat) : lastSt V s ≤ 9 := by
  unfold lastSt
  cases hf : (List.range (V 2)).find? (fun g => V (ig g 4) == s) with
  | none => exact Nat.zero_le _
  | some g' =>
    have h2 := List.mem_range.mp (List.mem_of_find?_eq_some hf)
    exact (hV.2.2.2.2.2.2.1 g' h2).2.2.2.2.2.2.2.1
