/-! what the printed functions are made of -/
def nm_ {α β : Type} (a : α) (k : α → β) : β := k a
theorem nmE_ {α β : Type} {a : α} {k : α → β} {c : β} (h : nm_ a k = c) : ∃ x, x = a ∧ k x = c := ⟨a, rfl, h⟩
def gd_ {α : Type} (c : Prop) [Decidable c] (x : Option α) : Option α := if c then x else none
theorem gd_e {α : Type} {c : Prop} [Decidable c] {x : Option α} {r : α} (h : gd_ c x = some r) : c ∧ x = some r := by
  unfold gd_ at h
  by_cases hc : c
  · rw [if_pos hc] at h; exact ⟨hc, h⟩
  · rw [if_neg hc] at h; cases h
theorem if_t {α : Type} {c : Prop} [Decidable c] {a b r : α} (h : (if c then a else b) = r) (hc : c) : a = r := (if_pos hc).symm.trans h
theorem if_f {α : Type} {c : Prop} [Decidable c] {a b r : α} (h : (if c then a else b) = r) (hc : ¬ c) : b = r := (if_neg hc).symm.trans h
theorem if_tv {α : Type} {c : Prop} [Decidable c] {a b r : α} (h : r = (if c then a else b)) (hc : c) : r = a := h.trans (if_pos hc)
theorem if_fv {α : Type} {c : Prop} [Decidable c] {a b r : α} (h : r = (if c then a else b)) (hc : ¬ c) : r = b := h.trans (if_neg hc)
theorem pr_inj {α β : Type} {a c : α} {b d : β} (h : some (a, b) = some (c, d)) : a = c ∧ b = d := by cases h; exact ⟨rfl, rfl⟩
def FU : Nat := 100000
theorem vp_lit {i : Int32} {n : Nat} (h : (decide (i < 0)) = false) (h2 : Nat.ble n i.toNatClampNeg = false) : vp_in i n := by
  intro hh
  rcases hh with h3 | h3
  · exact absurd h3 (of_decide_eq_false h)
  · rw [Nat.ble_eq_true_of_le h3] at h2; cases h2
def bd1 {α ρ : Type} (o : Option (α)) (k : α → Option ρ) : Option ρ := match o with
  | some q => k q
  | none => none
theorem bd1_e {α ρ : Type} {o : Option (α)} {k : α → Option ρ} {r : ρ} (h : bd1 o k = some r) : ∃ a, o = some a ∧ k a = some r := by
  cases o with
  | none => cases h
  | some q => exact ⟨q, rfl, h⟩
def bdS1 {α ρ : Type} (o : Option (ρ ⊕ (α))) (k : α → Option ρ) : Option ρ := match o with
  | some (.inl r) => some r
  | some (.inr q) => k q
  | none => none
theorem bdS1_e {α ρ : Type} {o : Option (ρ ⊕ (α))} {k : α → Option ρ} {r : ρ} (h : bdS1 o k = some r) : (∃ rt, o = some (.inl rt) ∧ some rt = some r) ∨ ∃ a, o = some (.inr a) ∧ k a = some r := by
  cases o with
  | none => cases h
  | some z =>
    cases z with
    | inl rt => exact Or.inl ⟨rt, rfl, h⟩
    | inr q => exact Or.inr ⟨q, rfl, h⟩
def bdT1 {α ρ σ : Type} (o : Option (ρ ⊕ (α))) (k : α → Option (ρ ⊕ σ)) : Option (ρ ⊕ σ) := match o with
  | some (.inl r) => some (.inl r)
  | some (.inr q) => k q
  | none => none
theorem bdT1_e {α ρ σ : Type} {o : Option (ρ ⊕ (α))} {k : α → Option (ρ ⊕ σ)} {r : (ρ ⊕ σ)} (h : bdT1 o k = some r) : (∃ rt, o = some (.inl rt) ∧ some (.inl rt) = some r) ∨ ∃ a, o = some (.inr a) ∧ k a = some r := by
  cases o with
  | none => cases h
  | some z =>
    cases z with
    | inl rt => exact Or.inl ⟨rt, rfl, h⟩
    | inr q => exact Or.inr ⟨q, rfl, h⟩
def bd2 {α β ρ : Type} (o : Option (α × β)) (k : α → β → Option ρ) : Option ρ := match o with
  | some q => k q.1 q.2
  | none => none
theorem bd2_e {α β ρ : Type} {o : Option (α × β)} {k : α → β → Option ρ} {r : ρ} (h : bd2 o k = some r) : ∃ a b, o = some (a, b) ∧ k a b = some r := by
  cases o with
  | none => cases h
  | some q => exact ⟨q.1, q.2, rfl, h⟩
def bdS2 {α β ρ : Type} (o : Option (ρ ⊕ (α × β))) (k : α → β → Option ρ) : Option ρ := match o with
  | some (.inl r) => some r
  | some (.inr q) => k q.1 q.2
  | none => none
theorem bdS2_e {α β ρ : Type} {o : Option (ρ ⊕ (α × β))} {k : α → β → Option ρ} {r : ρ} (h : bdS2 o k = some r) : (∃ rt, o = some (.inl rt) ∧ some rt = some r) ∨ ∃ a b, o = some (.inr (a, b)) ∧ k a b = some r := by
  cases o with
  | none => cases h
  | some z =>
    cases z with
    | inl rt => exact Or.inl ⟨rt, rfl, h⟩
    | inr q => exact Or.inr ⟨q.1, q.2, rfl, h⟩
def bdT2 {α β ρ σ : Type} (o : Option (ρ ⊕ (α × β))) (k : α → β → Option (ρ ⊕ σ)) : Option (ρ ⊕ σ) := match o with
  | some (.inl r) => some (.inl r)
  | some (.inr q) => k q.1 q.2
  | none => none
theorem bdT2_e {α β ρ σ : Type} {o : Option (ρ ⊕ (α × β))} {k : α → β → Option (ρ ⊕ σ)} {r : (ρ ⊕ σ)} (h : bdT2 o k = some r) : (∃ rt, o = some (.inl rt) ∧ some (.inl rt) = some r) ∨ ∃ a b, o = some (.inr (a, b)) ∧ k a b = some r := by
  cases o with
  | none => cases h
  | some z =>
    cases z with
    | inl rt => exact Or.inl ⟨rt, rfl, h⟩
    | inr q => exact Or.inr ⟨q.1, q.2, rfl, h⟩
def bd3 {α β γ ρ : Type} (o : Option (α × β × γ)) (k : α → β → γ → Option ρ) : Option ρ := match o with
  | some q => k q.1 q.2.1 q.2.2
  | none => none
theorem bd3_e {α β γ ρ : Type} {o : Option (α × β × γ)} {k : α → β → γ → Option ρ} {r : ρ} (h : bd3 o k = some r) : ∃ a b c, o = some (a, b, c) ∧ k a b c = some r := by
  cases o with
  | none => cases h
  | some q => exact ⟨q.1, q.2.1, q.2.2, rfl, h⟩
def bdS3 {α β γ ρ : Type} (o : Option (ρ ⊕ (α × β × γ))) (k : α → β → γ → Option ρ) : Option ρ := match o with
  | some (.inl r) => some r
  | some (.inr q) => k q.1 q.2.1 q.2.2
  | none => none
theorem bdS3_e {α β γ ρ : Type} {o : Option (ρ ⊕ (α × β × γ))} {k : α → β → γ → Option ρ} {r : ρ} (h : bdS3 o k = some r) : (∃ rt, o = some (.inl rt) ∧ some rt = some r) ∨ ∃ a b c, o = some (.inr (a, b, c)) ∧ k a b c = some r := by
  cases o with
  | none => cases h
  | some z =>
    cases z with
    | inl rt => exact Or.inl ⟨rt, rfl, h⟩
    | inr q => exact Or.inr ⟨q.1, q.2.1, q.2.2, rfl, h⟩
def bdT3 {α β γ ρ σ : Type} (o : Option (ρ ⊕ (α × β × γ))) (k : α → β → γ → Option (ρ ⊕ σ)) : Option (ρ ⊕ σ) := match o with
  | some (.inl r) => some (.inl r)
  | some (.inr q) => k q.1 q.2.1 q.2.2
  | none => none
theorem bdT3_e {α β γ ρ σ : Type} {o : Option (ρ ⊕ (α × β × γ))} {k : α → β → γ → Option (ρ ⊕ σ)} {r : (ρ ⊕ σ)} (h : bdT3 o k = some r) : (∃ rt, o = some (.inl rt) ∧ some (.inl rt) = some r) ∨ ∃ a b c, o = some (.inr (a, b, c)) ∧ k a b c = some r := by
  cases o with
  | none => cases h
  | some z =>
    cases z with
    | inl rt => exact Or.inl ⟨rt, rfl, h⟩
    | inr q => exact Or.inr ⟨q.1, q.2.1, q.2.2, rfl, h⟩
def bd4 {α β γ δ ρ : Type} (o : Option (α × β × γ × δ)) (k : α → β → γ → δ → Option ρ) : Option ρ := match o with
  | some q => k q.1 q.2.1 q.2.2.1 q.2.2.2
  | none => none
theorem bd4_e {α β γ δ ρ : Type} {o : Option (α × β × γ × δ)} {k : α → β → γ → δ → Option ρ} {r : ρ} (h : bd4 o k = some r) : ∃ a b c d, o = some (a, b, c, d) ∧ k a b c d = some r := by
  cases o with
  | none => cases h
  | some q => exact ⟨q.1, q.2.1, q.2.2.1, q.2.2.2, rfl, h⟩
def bdS4 {α β γ δ ρ : Type} (o : Option (ρ ⊕ (α × β × γ × δ))) (k : α → β → γ → δ → Option ρ) : Option ρ := match o with
  | some (.inl r) => some r
  | some (.inr q) => k q.1 q.2.1 q.2.2.1 q.2.2.2
  | none => none
theorem bdS4_e {α β γ δ ρ : Type} {o : Option (ρ ⊕ (α × β × γ × δ))} {k : α → β → γ → δ → Option ρ} {r : ρ} (h : bdS4 o k = some r) : (∃ rt, o = some (.inl rt) ∧ some rt = some r) ∨ ∃ a b c d, o = some (.inr (a, b, c, d)) ∧ k a b c d = some r := by
  cases o with
  | none => cases h
  | some z =>
    cases z with
    | inl rt => exact Or.inl ⟨rt, rfl, h⟩
    | inr q => exact Or.inr ⟨q.1, q.2.1, q.2.2.1, q.2.2.2, rfl, h⟩
def bdT4 {α β γ δ ρ σ : Type} (o : Option (ρ ⊕ (α × β × γ × δ))) (k : α → β → γ → δ → Option (ρ ⊕ σ)) : Option (ρ ⊕ σ) := match o with
  | some (.inl r) => some (.inl r)
  | some (.inr q) => k q.1 q.2.1 q.2.2.1 q.2.2.2
  | none => none
theorem bdT4_e {α β γ δ ρ σ : Type} {o : Option (ρ ⊕ (α × β × γ × δ))} {k : α → β → γ → δ → Option (ρ ⊕ σ)} {r : (ρ ⊕ σ)} (h : bdT4 o k = some r) : (∃ rt, o = some (.inl rt) ∧ some (.inl rt) = some r) ∨ ∃ a b c d, o = some (.inr (a, b, c, d)) ∧ k a b c d = some r := by
  cases o with
  | none => cases h
  | some z =>
    cases z with
    | inl rt => exact Or.inl ⟨rt, rfl, h⟩
    | inr q => exact Or.inr ⟨q.1, q.2.1, q.2.2.1, q.2.2.2, rfl, h⟩
def bd5 {α β γ δ ε ρ : Type} (o : Option (α × β × γ × δ × ε)) (k : α → β → γ → δ → ε → Option ρ) : Option ρ := match o with
  | some q => k q.1 q.2.1 q.2.2.1 q.2.2.2.1 q.2.2.2.2
  | none => none
theorem bd5_e {α β γ δ ε ρ : Type} {o : Option (α × β × γ × δ × ε)} {k : α → β → γ → δ → ε → Option ρ} {r : ρ} (h : bd5 o k = some r) : ∃ a b c d e, o = some (a, b, c, d, e) ∧ k a b c d e = some r := by
  cases o with
  | none => cases h
  | some q => exact ⟨q.1, q.2.1, q.2.2.1, q.2.2.2.1, q.2.2.2.2, rfl, h⟩
def bdS5 {α β γ δ ε ρ : Type} (o : Option (ρ ⊕ (α × β × γ × δ × ε))) (k : α → β → γ → δ → ε → Option ρ) : Option ρ := match o with
  | some (.inl r) => some r
  | some (.inr q) => k q.1 q.2.1 q.2.2.1 q.2.2.2.1 q.2.2.2.2
  | none => none
theorem bdS5_e {α β γ δ ε ρ : Type} {o : Option (ρ ⊕ (α × β × γ × δ × ε))} {k : α → β → γ → δ → ε → Option ρ} {r : ρ} (h : bdS5 o k = some r) : (∃ rt, o = some (.inl rt) ∧ some rt = some r) ∨ ∃ a b c d e, o = some (.inr (a, b, c, d, e)) ∧ k a b c d e = some r := by
  cases o with
  | none => cases h
  | some z =>
    cases z with
    | inl rt => exact Or.inl ⟨rt, rfl, h⟩
    | inr q => exact Or.inr ⟨q.1, q.2.1, q.2.2.1, q.2.2.2.1, q.2.2.2.2, rfl, h⟩
def bdT5 {α β γ δ ε ρ σ : Type} (o : Option (ρ ⊕ (α × β × γ × δ × ε))) (k : α → β → γ → δ → ε → Option (ρ ⊕ σ)) : Option (ρ ⊕ σ) := match o with
  | some (.inl r) => some (.inl r)
  | some (.inr q) => k q.1 q.2.1 q.2.2.1 q.2.2.2.1 q.2.2.2.2
  | none => none
theorem bdT5_e {α β γ δ ε ρ σ : Type} {o : Option (ρ ⊕ (α × β × γ × δ × ε))} {k : α → β → γ → δ → ε → Option (ρ ⊕ σ)} {r : (ρ ⊕ σ)} (h : bdT5 o k = some r) : (∃ rt, o = some (.inl rt) ∧ some (.inl rt) = some r) ∨ ∃ a b c d e, o = some (.inr (a, b, c, d, e)) ∧ k a b c d e = some r := by
  cases o with
  | none => cases h
  | some z =>
    cases z with
    | inl rt => exact Or.inl ⟨rt, rfl, h⟩
    | inr q => exact Or.inr ⟨q.1, q.2.1, q.2.2.1, q.2.2.2.1, q.2.2.2.2, rfl, h⟩
section PWX
variable {G : Gx} {K : Kx} {pc : Nat} {lv : List (Nat × Value)} {st : List Value} {mm : Mm}
theorem pw_top {x v : Int32} (e : x = v) (k : PW G K pc lv (.int x :: st) mm) : PW G K pc lv (.int v :: st) mm := e ▸ k
theorem pw_topl {x v : Int64} (e : x = v) (k : PW G K pc lv (.long x :: st) mm) : PW G K pc lv (.long v :: st) mm := e ▸ k
theorem pw_topr {x v : Nat} (e : x = v) (k : PW G K pc lv (.ref (G.1 + x) :: st) mm) : PW G K pc lv (.ref (G.1 + v) :: st) mm := e ▸ k
theorem pw_mem {m1 : Mm} (e : m1 = mm) (k : PW G K pc lv st m1) : PW G K pc lv st mm := e ▸ k
end PWX
theorem isR_rows {i : Int32} (h : ¬ (i < 0 ∨ 8 ≤ ix i)) : IsR (rf 1 (ix i)) := by
  have h2 : ix i < 8 := Nat.not_le.mp fun q => h (Or.inr q)
  generalize ix i = k at h2 ⊢
  rcases (show k = 0 ∨ k = 1 ∨ k = 2 ∨ k = 3 ∨ k = 4 ∨ k = 5 ∨ k = 6 ∨ k = 7 by omega) with rfl | rfl | rfl | rfl | rfl | rfl | rfl | rfl <;> (unfold IsR; decide)
def isWb (w : Nat) : Bool := Nat.ble (w + 9) 313 && (ly w == (5, 15)) && (List.range 8).all fun j => (rf w (7 + j) == w + 1 + j) && (ly (w + 1 + j) == (8, 7))
theorem isW_nat (w : Nat) (h : isWb w = true) : IsW w := by
  unfold isWb at h
  rw [Bool.and_eq_true, Bool.and_eq_true] at h
  obtain ⟨⟨h1, h2⟩, h3⟩ := h
  refine ⟨Nat.le_of_ble_eq_true h1, eq_of_beq h2, fun j hj => ?_⟩
  have h4 := List.all_eq_true.mp h3 j (List.mem_range.mpr hj)
  rw [Bool.and_eq_true] at h4
  exact ⟨eq_of_beq h4.1, eq_of_beq h4.2⟩
theorem isW_before {i : Int32} (h : ¬ (i < 0 ∨ 24 ≤ ix i)) : IsW (rf 23 (ix i)) := by
  have h2 : ix i < 24 := Nat.not_le.mp fun q => h (Or.inr q)
  generalize ix i = k at h2 ⊢
  have key : ((List.range 24).all fun k => isWb (rf 23 k)) = true := by decide +kernel
  exact isW_nat _ (List.all_eq_true.mp key k (List.mem_range.mpr h2))
theorem isW_images {i : Int32} (h : ¬ (i < 0 ∨ 2 ≤ ix i)) : IsW (rf 262 (ix i)) := by
  have h2 : ix i < 2 := Nat.not_le.mp fun q => h (Or.inr q)
  generalize ix i = k at h2 ⊢
  have key : ((List.range 2).all fun k => isWb (rf 262 k)) = true := by decide +kernel
  exact isW_nat _ (List.all_eq_true.mp key k (List.mem_range.mpr h2))
theorem la_0 : 0 < 313 := by decide
theorem ly_0 : ly 0 = (6, 10) := by decide
theorem la_1 : 1 < 313 := by decide
theorem ly_1 : ly 1 = (10, 8) := by decide
theorem la_2 : 2 < 313 := by decide
theorem ly_2 : ly 2 = (3, 5) := by decide
theorem la_3 : 3 < 313 := by decide
theorem ly_3 : ly 3 = (5, 15) := by decide
theorem la_12 : 12 < 313 := by decide
theorem ly_12 : ly 12 = (8, 110) := by decide
theorem la_13 : 13 < 313 := by decide
theorem ly_13 : ly 13 = (5, 15) := by decide
theorem la_14 : 14 < 313 := by decide
theorem ly_14 : ly 14 = (8, 7) := by decide
theorem la_15 : 15 < 313 := by decide
theorem ly_15 : ly 15 = (8, 7) := by decide
theorem la_16 : 16 < 313 := by decide
theorem ly_16 : ly 16 = (8, 7) := by decide
theorem la_17 : 17 < 313 := by decide
theorem ly_17 : ly 17 = (8, 7) := by decide
theorem la_18 : 18 < 313 := by decide
theorem ly_18 : ly 18 = (8, 7) := by decide
theorem la_19 : 19 < 313 := by decide
theorem ly_19 : ly 19 = (8, 7) := by decide
theorem la_20 : 20 < 313 := by decide
theorem ly_20 : ly 20 = (8, 7) := by decide
theorem la_22 : 22 < 313 := by decide
theorem ly_22 : ly 22 = (0, 3) := by decide
theorem la_23 : 23 < 313 := by decide
theorem ly_23 : ly 23 = (11, 24) := by decide
theorem la_240 : 240 < 313 := by decide
theorem ly_240 : ly 240 = (1, 4) := by decide
theorem la_241 : 241 < 313 := by decide
theorem ly_241 : ly 241 = (5, 15) := by decide
theorem la_245 : 245 < 313 := by decide
theorem ly_245 : ly 245 = (8, 7) := by decide
theorem la_246 : 246 < 313 := by decide
theorem ly_246 : ly 246 = (8, 7) := by decide
theorem la_248 : 248 < 313 := by decide
theorem ly_248 : ly 248 = (8, 7) := by decide
theorem la_250 : 250 < 313 := by decide
theorem ly_250 : ly 250 = (8, 7) := by decide
theorem la_251 : 251 < 313 := by decide
theorem ly_251 : ly 251 = (2, 4) := by decide
theorem la_252 : 252 < 313 := by decide
theorem ly_252 : ly 252 = (5, 15) := by decide
theorem la_253 : 253 < 313 := by decide
theorem ly_253 : ly 253 = (8, 7) := by decide
theorem la_254 : 254 < 313 := by decide
theorem ly_254 : ly 254 = (8, 7) := by decide
theorem la_256 : 256 < 313 := by decide
theorem ly_256 : ly 256 = (8, 7) := by decide
theorem la_257 : 257 < 313 := by decide
theorem ly_257 : ly 257 = (8, 7) := by decide
theorem la_261 : 261 < 313 := by decide
theorem ly_261 : ly 261 = (8, 12) := by decide
theorem la_262 : 262 < 313 := by decide
theorem ly_262 : ly 262 = (11, 2) := by decide
theorem la_263 : 263 < 313 := by decide
theorem ly_263 : ly 263 = (8, 16) := by decide
theorem la_298 : 298 < 313 := by decide
theorem ly_298 : ly 298 = (7, 24) := by decide
theorem la_299 : 299 < 313 := by decide
theorem ly_299 : ly 299 = (8, 8) := by decide
theorem la_300 : 300 < 313 := by decide
theorem ly_300 : ly 300 = (8, 8) := by decide
theorem la_301 : 301 < 313 := by decide
theorem ly_301 : ly 301 = (8, 320) := by decide
theorem la_302 : 302 < 313 := by decide
theorem ly_302 : ly 302 = (8, 40) := by decide
theorem la_303 : 303 < 313 := by decide
theorem ly_303 : ly 303 = (8, 110) := by decide
theorem la_304 : 304 < 313 := by decide
theorem ly_304 : ly 304 = (8, 55) := by decide
theorem la_305 : 305 < 313 := by decide
theorem ly_305 : ly 305 = (8, 55) := by decide
theorem la_306 : 306 < 313 := by decide
theorem ly_306 : ly 306 = (8, 55) := by decide
theorem la_307 : 307 < 313 := by decide
theorem ly_307 : ly 307 = (8, 1320) := by decide
theorem la_308 : 308 < 313 := by decide
theorem ly_308 : ly 308 = (8, 110) := by decide
theorem la_309 : 309 < 313 := by decide
theorem ly_309 : ly 309 = (9, 2) := by decide
theorem la_310 : 310 < 313 := by decide
theorem ly_310 : ly 310 = (8, 7) := by decide
theorem la_311 : 311 < 313 := by decide
theorem ly_311 : ly 311 = (8, 7) := by decide
theorem la_312 : 312 < 313 := by decide
theorem ly_312 : ly 312 = (8, 16) := by decide
theorem rf_0_0 : rf 0 0 = 1 := by decide
theorem rf_0_1 : rf 0 1 = 2 := by decide
theorem rf_0_2 : rf 0 2 = 13 := by decide
theorem rf_0_3 : rf 0 3 = 22 := by decide
theorem rf_0_4 : rf 0 4 = 240 := by decide
theorem rf_0_5 : rf 0 5 = 251 := by decide
theorem rf_0_6 : rf 0 6 = 262 := by decide
theorem rf_0_7 : rf 0 7 = 263 := by decide
theorem rf_2_0 : rf 2 0 = 3 := by decide
theorem rf_2_1 : rf 2 1 = 12 := by decide
theorem rf_13_7 : rf 13 7 = 14 := by decide
theorem rf_13_8 : rf 13 8 = 15 := by decide
theorem rf_13_9 : rf 13 9 = 16 := by decide
theorem rf_13_10 : rf 13 10 = 17 := by decide
theorem rf_13_11 : rf 13 11 = 18 := by decide
theorem rf_13_12 : rf 13 12 = 19 := by decide
theorem rf_13_13 : rf 13 13 = 20 := by decide
theorem rf_22_0 : rf 22 0 = 23 := by decide
theorem rf_240_0 : rf 240 0 = 241 := by decide
theorem rf_240_1 : rf 240 1 = 250 := by decide
theorem rf_241_10 : rf 241 10 = 245 := by decide
theorem rf_241_11 : rf 241 11 = 246 := by decide
theorem rf_241_13 : rf 241 13 = 248 := by decide
theorem rf_251_0 : rf 251 0 = 252 := by decide
theorem rf_251_1 : rf 251 1 = 261 := by decide
theorem rf_252_7 : rf 252 7 = 253 := by decide
theorem rf_252_8 : rf 252 8 = 254 := by decide
theorem rf_252_10 : rf 252 10 = 256 := by decide
theorem rf_252_11 : rf 252 11 = 257 := by decide
theorem rf_298_0 : rf 298 0 = 299 := by decide
theorem rf_298_1 : rf 298 1 = 300 := by decide
theorem rf_298_2 : rf 298 2 = 301 := by decide
theorem rf_298_3 : rf 298 3 = 302 := by decide
theorem rf_298_5 : rf 298 5 = 303 := by decide
theorem rf_298_13 : rf 298 13 = 304 := by decide
theorem rf_298_14 : rf 298 14 = 305 := by decide
theorem rf_298_15 : rf 298 15 = 306 := by decide
theorem rf_298_16 : rf 298 16 = 307 := by decide
theorem rf_298_18 : rf 298 18 = 308 := by decide
theorem rf_298_19 : rf 298 19 = 309 := by decide
theorem rf_298_20 : rf 298 20 = 310 := by decide
theorem rf_298_21 : rf 298 21 = 311 := by decide
theorem rf_298_22 : rf 298 22 = 312 := by decide
theorem isW_3 : IsW 3 := isW_nat _ (by decide +kernel)
theorem isW_13 : IsW 13 := isW_nat _ (by decide +kernel)
theorem isW_241 : IsW 241 := isW_nat _ (by decide +kernel)
theorem isW_252 : IsW 252 := isW_nat _ (by decide +kernel)
