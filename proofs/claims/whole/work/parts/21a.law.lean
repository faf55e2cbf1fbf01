/-! behind the constructors -/
theorem arrV_congr {cA : ClassId} {n : Nat} {f g : Nat → Value} (h : ∀ j, j < n → f j = g j) : arrV cA n f = arrV cA n g := by
  unfold arrV
  congr 1
  exact congrArg _ (funext fun j => h j j.2)
theorem ly_le : ∀ k, k < 313 → (ly k).1 ≤ 11 := by decide +kernel
theorem wsA_in {G : Gx} {m : Mm} {k : Nat} {q : Nat × va_E} (h : (wsA G m)[k]? = some q) : k < 313 ∧ q = (G.1 + k, ce G m k) := by
  by_cases hk : k < 313
  · rw [wsA_at G m hk] at h
    cases h; exact ⟨hk, rfl⟩
  · simp [wsA, List.getElem?_map, List.getElem?_eq_none_iff.mpr (show (List.range 313).length ≤ k by simp; omega)] at h
theorem rfZ_o {a j ci N : Nat} (hly : ly a = (ci, N)) (hci : ci < 8) (hr : isRf ci j = true) (hj : j < N) : rfZ a j = some (rf a j) := by
  unfold rfZ
  rw [hly]
  exact if_pos (Or.inl ⟨hci, hr, hj⟩)
theorem rfZ_q {a j ci N : Nat} (hly : ly a = (ci, N)) (hci : ci = 10 ∨ ci = 11) (hj : j < N) : rfZ a j = some (rf a j) := by
  unfold rfZ
  rw [hly]
  exact if_pos (Or.inr ⟨hci, hj⟩)
theorem wsZ_end {G : Gx} {m : Mm} {r : Rm} {H : Heap} (hr : ∀ a, a < 313 → r a = rfZ a) (h : va_P G.2.1 vwCl (wsZ G (m, r, 313)) H) : va_P G.2.1 vwCl (wsA G m) H := by
  intro k q hk
  obtain ⟨hk', rfl⟩ := wsA_in hk
  have h1 : va_at G.2.1 vwCl (G.1 + k, ceZ G m r k) H := h k _ (wsZ_at G (m, r, 313) hk')
  have hrk := hr k hk'
  obtain ⟨ci, N, hly⟩ : ∃ ci N, ly k = (ci, N) := ⟨(ly k).1, (ly k).2, rfl⟩
  have hle : ci ≤ 11 := by
    have h0 := ly_le k hk'
    rw [hly] at h0
    exact h0
  by_cases h8 : ci = 8
  · subst h8; rw [ce_i G m hly]; rw [ceZ_i G m r hly] at h1; exact h1
  by_cases h9 : ci = 9
  · subst h9; rw [ce_z G m hly]; rw [ceZ_z G m r hly] at h1; exact h1
  by_cases h10 : ci = 10
  · subst h10
    rw [ce_r G m hly]
    rw [ceZ_r G m r hly] at h1
    have h2 : H[G.1 + k]? = some (arrV G.2.2.1.2.2.1 N (fun j => va_rf ((r k j).map fun q => G.1 + q))) := h1
    show H[G.1 + k]? = some (arrV G.2.2.1.2.2.1 N (fun j => va_rf (some (G.1 + rf k j))))
    rw [h2]
    exact congrArg some (arrV_congr fun j hj => by show va_rf ((r k j).map fun q => G.1 + q) = va_rf (some (G.1 + rf k j)); rw [hrk, rfZ_q hly (Or.inl rfl) hj]; rfl)
  by_cases h11 : ci = 11
  · subst h11
    rw [ce_w G m hly]
    rw [ceZ_w G m r hly] at h1
    have h2 : H[G.1 + k]? = some (arrV G.2.2.1.2.2.2 N (fun j => va_rf ((r k j).map fun q => G.1 + q))) := h1
    show H[G.1 + k]? = some (arrV G.2.2.1.2.2.2 N (fun j => va_rf (some (G.1 + rf k j))))
    rw [h2]
    exact congrArg some (arrV_congr fun j hj => by show va_rf ((r k j).map fun q => G.1 + q) = va_rf (some (G.1 + rf k j)); rw [hrk, rfZ_q hly (Or.inr rfl) hj]; rfl)
  have hci : ci < 8 := by omega
  have hN : ∀ q, vwCl[ci]? = some q → q.2.2 ≤ N := by
    have key : ∀ k, k < 313 → (ly k).1 < 8 → ((vwCl[(ly k).1]?).map fun q => q.2.2) = some (ly k).2 := by decide +kernel
    intro q hq
    have h3 := key k hk' (by rw [hly]; exact hci)
    rw [hly] at h3
    have h4 : (vwCl[ci]?).map (fun q => q.2.2) = some N := h3
    rw [hq] at h4
    exact Nat.le_of_eq (Option.some.inj h4)
  rw [ce_o G m hly hci]
  rw [ceZ_o G m r hly hci] at h1
  obtain ⟨q, hq, hO⟩ := h1
  refine ⟨q, hq, t_OB.to hO fun j hj => ?_⟩
  have hjN : j < N := Nat.lt_of_lt_of_le hj (hN q hq)
  show (flZ G.1 m r k ci N).getD j .null = (fl G.1 m k ci N).getD j .null
  rw [List.getD_eq_getElem?_getD, List.getD_eq_getElem?_getD, flZ_at hjN, fl_at hjN]
  cases hb : isRf ci j with
  | false => rfl
  | true => rw [hrk, rfZ_o hly hci hb hjN]; rfl
/-! the first state: nothing is there -/
def rz : Rm := fun _ _ => none
def S0 : SS := ((fun _ => false, fun _ => 0, fun _ => 0, fun _ _ => 0), 0, (0, fun _ => 0, 0), fun _ => 0, [], fun _ => none, (0, fun _ => 0))
theorem S0_ok : OkS S0 := ⟨fun r hr => ⟨Nat.zero_le _, Nat.zero_le _⟩, Nat.zero_le _, ⟨Nat.zero_le _, fun _ => Nat.zero_le _, Nat.zero_le _⟩, Or.inr fun _ => rfl, ⟨Nat.zero_le _, fun V hV => absurd hV List.not_mem_nil⟩, (fun k V h => absurd (show (none : Option Wv) = some V from h) (fun q => by cases q)), ⟨Nat.zero_le _, fun _ => Nat.zero_le _⟩⟩
theorem CW_0 {m : Mm} {w : Nat} (h : ∀ k, m w k = 0) : CW m w (fun _ => 0) := ⟨h 0, h 1, h 2, h 3, h 4, h 5, ⟨0, h 6, Nat.zero_lt_one, fun g hg => absurd hg (Nat.not_lt_zero _)⟩, fun g hg => absurd hg (Nat.not_lt_zero _)⟩
theorem S0_C : CInv (mLn 8) S0 := by
  refine ⟨fun r hr => ⟨mLn_n (by omega) _, mLn_n (by omega) _, mLn_n (by omega) _, fun k hk => mLn_n (by omega) _⟩, mLn_n (by omega) _, ⟨mLn_n (by omega) _, fun k hk => absurd hk (Nat.not_lt_zero _), mLn_n (by omega) _⟩, CW_0 fun k => mLn_n (by omega) _, ⟨mLn_n (by omega) _, 0, by omega, mLn_n (by omega) _, fun j V h => absurd (show ([] : List Wv)[j]? = some V from h) (by simp)⟩, fun k hk => ?_, ⟨mLn_n (by omega) _, fun k hk => absurd hk (Nat.not_lt_zero _)⟩, ⟨mLn_n (by omega) _, mLn_n (by omega) _, mLn_n (by omega) _⟩⟩
  show mLn 8 (280 + 9 * k) 0 = 0
  exact mLn_n (by omega) _
theorem S0_M : MInv (mLn 8) S0 := by
  refine ⟨fun r hr => ⟨?_, mLn_n (by omega) _, fun k hk => mLn_n (by omega) _⟩, mLn_n (by omega) _, ⟨mLn_n (by omega) _, fun k hk => absurd hk (Nat.not_lt_zero _), mLn_n (by omega) _⟩, fun k hk => mLn_n (by omega) _, ⟨mLn_n (by omega) _, fun j V h => absurd (show ([] : List Wv)[j]? = some V from h) (by simp)⟩, fun k hk => ?_, ⟨mLn_n (by omega) _, fun k hk => absurd hk (Nat.not_lt_zero _)⟩⟩
  · show mLn 8 299 r = -1000000
    exact if_pos ⟨rfl, hr⟩
  · show mLn 8 309 k = 0
    exact mLn_n (by omega) _
def Iv (m : Mm) : Prop := ∃ S, OkS S ∧ CInv m S ∧ MInv m S
theorem Iv_0 : Iv (mLn 8) := ⟨S0, S0_ok, S0_C, S0_M⟩
/-- a call of the class, then the same of the reference: the same answer, and all holds again -/
theorem Iv.step {fx fm : Mm → Option (Int32 × Mm)} (h : Sp2 fx fm) {m : Mm} (hI : Iv m) : ∃ (r : Int32) (m1 m2 : Mm), fx m = some (r, m1) ∧ fm m1 = some (r, m2) ∧ Iv m2 := by
  obtain ⟨S, hS, hC, hM⟩ := hI
  obtain ⟨r, S', hS', h1, h2⟩ := h S hS
  obtain ⟨m1, e1, c1, f1⟩ := h1 m hC
  obtain ⟨m2, e2, c2, f2⟩ := h2 m1 (hM.frame (fun a ha _ => f1 a (by omega)) (fun k _ => by rw [f1 298 (by omega)]))
  exact ⟨r, m1, m2, e1, e2, S', hS', c1.frame (fun a ha _ => f2 a ha) ⟨by rw [f2 3 (by omega)], by rw [f2 3 (by omega)], by rw [f2 3 (by omega)]⟩, c2⟩
theorem Iv.stepL {fx fm : Mm → Option Int32} (h : Sp2 (lP fx) (lP fm)) {m : Mm} (hI : Iv m) : ∃ r : Int32, fx m = some r ∧ fm m = some r := by
  obtain ⟨r, m1, m2, e1, e2, -⟩ := hI.step h
  have k1 : (fx m).map (fun r => (r, m)) = some (r, m1) := e1
  have k2 : (fm m1).map (fun r => (r, m1)) = some (r, m2) := e2
  rw [Option.map_eq_some_iff] at k1 k2
  obtain ⟨v1, p1, q1⟩ := k1
  obtain ⟨v2, p2, q2⟩ := k2
  have a1 : v1 = r := congrArg Prod.fst q1
  have a2 : m = m1 := congrArg Prod.snd q1
  have a3 : v2 = r := congrArg Prod.fst q2
  rw [← a2, a3] at p2
  rw [a1] at p1
  exact ⟨r, p1, p2⟩
theorem Iv.stepP {fx fm : Mm → Int32} (h : Sp2 (fun m => some (fx m, m)) (fun m => some (fm m, m))) {m : Mm} (hI : Iv m) : fx m = fm m := by
  obtain ⟨r, m1, m2, e1, e2, -⟩ := hI.step h
  have k1 : (fx m, m) = (r, m1) := Option.some.inj e1
  have k2 : (fm m1, m1) = (r, m2) := Option.some.inj e2
  have a1 : fx m = r := congrArg Prod.fst k1
  have a2 : m = m1 := congrArg Prod.snd k1
  have a3 : fm m1 = r := congrArg Prod.fst k2
  rw [← a2] at a3
  rw [a1, a3]
