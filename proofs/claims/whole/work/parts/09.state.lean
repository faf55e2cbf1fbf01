/-! the state of an object, said once for both: rows (there, lane, size, items), status, tape (how many, bytes, latest fault), the wedding, what can be undone (the latest first), images, the trace -/
abbrev RowsT : Type := (Nat → Bool) × (Nat → Nat) × (Nat → Nat) × (Nat → Nat → Int32)
abbrev SS : Type := RowsT × Nat × (Nat × (Nat → Nat) × Nat) × Wv × List Wv × (Nat → Option Wv) × (Nat × (Nat → Nat))
def CR (m : Mm) (R : RowsT) : Prop := ∀ r, r < 8 → m (264 + 2 * r) 0 = (if R.1 r then 1 else 0) ∧ m (264 + 2 * r) 1 = nI (R.2.1 r) ∧ m (264 + 2 * r) 2 = nI (R.2.2.1 r) ∧ ∀ k, k < 40 → m (264 + 2 * r + 1) k = R.2.2.2 r k
def MR (m : Mm) (R : RowsT) : Prop := ∀ r, r < 8 → m 299 r = (if R.1 r then nI (R.2.1 r) else -1000000) ∧ m 300 r = nI (R.2.2.1 r) ∧ ∀ k, k < 40 → m 301 (40 * r + k) = R.2.2.2 r k
def OR (R : RowsT) : Prop := ∀ r, r < 8 → R.2.1 r ≤ 2 ∧ R.2.2.1 r ≤ 40
/-- acts: in the class a ring (next, size), in the reference a row, the latest last -/
def ringAt (nx j : Nat) : Nat := 24 + 9 * ((nx + 23 - j) % 24)
def CA (m : Mm) (A : List Wv) : Prop := m 22 2 = nI A.length ∧ ∃ nx, nx < 24 ∧ m 22 1 = nI nx ∧ ∀ j V, A[j]? = some V → CW m (ringAt nx j) V
def MA (m : Mm) (A : List Wv) : Prop := m 298 17 = nI A.length ∧ ∀ j V, A[j]? = some V → MW m 307 (55 * (A.length - 1 - j)) V
def CG (m : Mm) (Im : Nat → Option Wv) : Prop := ∀ k, k < 2 → match Im k with
  | some V => CW m (280 + 9 * k) V
  | none => m (280 + 9 * k) 0 = 0
def MG (m : Mm) (Im : Nat → Option Wv) : Prop := ∀ k, k < 2 → match Im k with
  | some V => m 309 k = 1 ∧ MW m 308 (55 * k) V
  | none => m 309 k = 0
/-- a wedding that stands: valid, with a guest, a NEED, a minute up to 9999 -/
def OkW (V : Wv) : Prop := OkV V ∧ V 3 ≤ 9999 ∧ 1 ≤ V 0 ∧ 1 ≤ V 2
def OkN (V : Wv) : Prop := OkW V ∨ ∀ k, V k = 0
def OkS (S : SS) : Prop := OR S.1 ∧ S.2.1 ≤ 5 ∧ (S.2.2.1.1 ≤ 110 ∧ (∀ k, S.2.2.1.2.1 k ≤ 255) ∧ S.2.2.1.2.2 ≤ 3) ∧ OkN S.2.2.2.1 ∧ (S.2.2.2.2.1.length ≤ 24 ∧ ∀ V ∈ S.2.2.2.2.1, OkW V) ∧ (∀ k V, S.2.2.2.2.2.1 k = some V → OkW V) ∧ (S.2.2.2.2.2.2.1 ≤ 16 ∧ ∀ k, S.2.2.2.2.2.2.2 k ≤ 100)
def CInv (m : Mm) (S : SS) : Prop := CR m S.1 ∧ m 0 9 = nI S.2.1 ∧ (m 2 2 = nI S.2.2.1.1 ∧ (∀ k, k < S.2.2.1.1 → m 12 k = nI (S.2.2.1.2.1 k)) ∧ m 2 4 = nI S.2.2.1.2.2) ∧ CW m 13 S.2.2.2.1 ∧ CA m S.2.2.2.2.1 ∧ CG m S.2.2.2.2.2.1 ∧
  (m 0 8 = nI S.2.2.2.2.2.2.1 ∧ ∀ k, k < S.2.2.2.2.2.2.1 → m 263 k = nI (S.2.2.2.2.2.2.2 k)) ∧ (m 3 3 = 0 ∧ m 3 4 = 0 ∧ m 3 5 = 0)
def MInv (m : Mm) (S : SS) : Prop := MR m S.1 ∧ m 298 4 = nI S.2.1 ∧ (m 298 6 = nI S.2.2.1.1 ∧ (∀ k, k < S.2.2.1.1 → m 303 k = nI (S.2.2.1.2.1 k)) ∧ m 298 7 = nI S.2.2.1.2.2) ∧ MW m 304 0 S.2.2.2.1 ∧ MA m S.2.2.2.2.1 ∧ MG m S.2.2.2.2.2.1 ∧
  (m 298 23 = nI S.2.2.2.2.2.2.1 ∧ ∀ k, k < S.2.2.2.2.2.2.1 → m 312 k = nI (S.2.2.2.2.2.2.2 k))
/-- one call does the same on both sides -/
def SpAt (S : SS) (fx fm : Mm → Option (Int32 × Mm)) : Prop := ∃ (r : Int32) (S' : SS), OkS S' ∧ (∀ m, CInv m S → ∃ m', fx m = some (r, m') ∧ CInv m' S' ∧ ∀ a, 298 ≤ a → m' a = m a) ∧ (∀ m, MInv m S → ∃ m', fm m = some (r, m') ∧ MInv m' S' ∧ ∀ a, a < 298 → m' a = m a)
def Sp2 (fx fm : Mm → Option (Int32 × Mm)) : Prop := ∀ S, OkS S → SpAt S fx fm
theorem CR.frame {m m' : Mm} {R : RowsT} (h : CR m R) (hf : ∀ a, 264 ≤ a → a < 280 → m' a = m a) : CR m' R := fun r hr => by
  obtain ⟨h1, h2, h3, h4⟩ := h r hr
  rw [hf (264 + 2 * r) (by omega) (by omega), hf (264 + 2 * r + 1) (by omega) (by omega)]
  exact ⟨h1, h2, h3, h4⟩
theorem CA.frame {m m' : Mm} {A : List Wv} (h : CA m A) (hf : ∀ a, 22 ≤ a → a < 240 → m' a = m a) : CA m' A := by
  obtain ⟨h1, nx, h2, h3, h4⟩ := h
  refine ⟨by rw [hf 22 (by omega) (by omega)]; exact h1, nx, h2, by rw [hf 22 (by omega) (by omega)]; exact h3, fun j V hj => (h4 j V hj).frame fun a ha hb => hf a ?_ ?_⟩
  · unfold ringAt at ha; omega
  · unfold ringAt at hb; omega
theorem CG.frame {m m' : Mm} {Im : Nat → Option Wv} (h : CG m Im) (hf : ∀ a, 280 ≤ a → a < 298 → m' a = m a) : CG m' Im := fun k hk => by
  have := h k hk
  cases hI : Im k with
  | none => rw [hI] at this; show m' (280 + 9 * k) 0 = 0; rw [hf _ (by omega) (by omega)]; exact this
  | some V => rw [hI] at this; exact CW.frame this fun a ha hb => hf a (by omega) (by omega)
/-- cells of the class that nothing later depends on: the draft's rows, the forecast's and the guess's own -/
theorem CInv.frame {m m' : Mm} {S : SS} (h : CInv m S) (hf : ∀ a, a < 298 → (a < 3 ∨ a = 12 ∨ (13 ≤ a ∧ a ≤ 20) ∨ (22 ≤ a ∧ a < 240) ∨ 262 ≤ a) → m' a = m a) (hd : m' 3 3 = m 3 3 ∧ m' 3 4 = m 3 4 ∧ m' 3 5 = m 3 5) : CInv m' S := by
  obtain ⟨h1, h2, h3, h4, h5, h6, h7, h8⟩ := h
  refine ⟨h1.frame fun a ha hb => hf a (by omega) (by omega), ?_, ?_, h4.frame fun a ha hb => hf a (by omega) (by omega), h5.frame fun a ha hb => hf a (by omega) (by omega), h6.frame fun a ha hb => hf a (by omega) (by omega), ?_, ?_⟩
  · rw [hf 0 (by omega) (by omega)]; exact h2
  · rw [hf 2 (by omega) (by omega), hf 12 (by omega) (by omega)]; exact h3
  · rw [hf 0 (by omega) (by omega), hf 263 (by omega) (by omega)]; exact h7
  · rw [hd.1, hd.2.1, hd.2.2]; exact h8
theorem MR.frame {m m' : Mm} {R : RowsT} (h : MR m R) (hf : ∀ a, 299 ≤ a → a ≤ 301 → m' a = m a) : MR m' R := fun r hr => by
  obtain ⟨h1, h2, h3⟩ := h r hr
  rw [hf 299 (by omega) (by omega), hf 300 (by omega) (by omega), hf 301 (by omega) (by omega)]
  exact ⟨h1, h2, h3⟩
theorem MW.frame {m m' : Mm} {a o : Nat} {V : Wv} (h : MW m a o V) (hf : m' a = m a) : MW m' a o V := fun k hk => by rw [hf]; exact h k hk
theorem MA.frame {m m' : Mm} {A : List Wv} (h : MA m A) (h1 : m' 298 17 = m 298 17) (h2 : m' 307 = m 307) : MA m' A := ⟨by rw [h1]; exact h.1, fun j V hj => (h.2 j V hj).frame h2⟩
theorem MG.frame {m m' : Mm} {Im : Nat → Option Wv} (h : MG m Im) (h1 : m' 309 = m 309) (h2 : m' 308 = m 308) : MG m' Im := fun k hk => by
  have := h k hk
  cases hI : Im k with
  | none => rw [hI] at this; show m' 309 k = 0; rw [h1]; exact this
  | some V => rw [hI] at this; exact ⟨by rw [h1]; exact this.1, MW.frame this.2 h2⟩
/-- cells and fields of the reference that nothing later depends on: 302, 305, 306, 310, 311, and of 298 the places 8 to 12 -/
theorem MInv.frame {m m' : Mm} {S : SS} (h : MInv m S) (hf : ∀ a, 299 ≤ a → (a < 302 ∨ a = 303 ∨ a = 304 ∨ (307 ≤ a ∧ a ≤ 309) ∨ a = 312) → m' a = m a) (hd : ∀ k, (k = 4 ∨ k = 6 ∨ k = 7 ∨ k = 17 ∨ k = 23) → m' 298 k = m 298 k) : MInv m' S := by
  obtain ⟨h1, h2, h3, h4, h5, h6, h7⟩ := h
  refine ⟨h1.frame fun a ha hb => hf a (by omega) (by omega), ?_, ?_, h4.frame (hf 304 (by omega) (by omega)), h5.frame (hd 17 (by omega)) (hf 307 (by omega) (by omega)), h6.frame (hf 309 (by omega) (by omega)) (hf 308 (by omega) (by omega)), ?_⟩
  · rw [hd 4 (by omega)]; exact h2
  · rw [hd 6 (by omega), hd 7 (by omega), hf 303 (by omega) (by omega)]; exact h3
  · rw [hd 23 (by omega), hf 312 (by omega) (by omega)]; exact h7
/-- a finding: only status changes -/
def setSt (S : SS) (n : Nat) : SS := (S.1, n, S.2.2)
theorem setSt_ok {S : SS} {n : Nat} (h : OkS S) (hn : n ≤ 5) : OkS (setSt S n) := ⟨h.1, hn, h.2.2⟩
theorem setSt_C {m : Mm} {S : SS} {n : Nat} (h : CInv m S) : CInv (st_ m 0 9 (nI n)) (setSt S n) := by
  obtain ⟨h1, h2, h3, h4, h5, h6, h7, h8⟩ := h
  have e : ∀ a, a ≠ 0 → st_ m 0 9 (nI n) a = m a := fun a ha => st_na ha
  refine ⟨h1.frame fun a ha hb => e a (by omega), st_s, ?_, h4.frame fun a ha hb => e a (by omega), h5.frame fun a ha hb => e a (by omega), h6.frame fun a ha hb => e a (by omega), ?_, ?_⟩
  · rw [e 2 (by omega), e 12 (by omega)]; exact h3
  · rw [st_n (Or.inr (by omega)), e 263 (by omega)]; exact h7
  · rw [e 3 (by omega)]; exact h8
theorem setSt_M {m : Mm} {S : SS} {n : Nat} (h : MInv m S) : MInv (st_ m 298 4 (nI n)) (setSt S n) := by
  obtain ⟨h1, h2, h3, h4, h5, h6, h7⟩ := h
  have e : ∀ a, a ≠ 298 → st_ m 298 4 (nI n) a = m a := fun a ha => st_na ha
  have f : ∀ k, k ≠ 4 → st_ m 298 4 (nI n) 298 k = m 298 k := fun k hk => st_n (Or.inr hk)
  refine ⟨h1.frame fun a ha hb => e a (by omega), st_s, ?_, h4.frame (e 304 (by omega)), h5.frame (f 17 (by omega)) (e 307 (by omega)), h6.frame (e 309 (by omega)) (e 308 (by omega)), ?_⟩
  · rw [f 6 (by omega), f 7 (by omega), e 303 (by omega)]; exact h3
  · rw [f 23 (by omega), e 312 (by omega)]; exact h7
theorem SpAt.found {fx fm : Mm → Option (Int32 × Mm)} {S : SS} (hS : OkS S) (n : Nat) (hn : n ≤ 5) (r : Int32) (h1 : ∀ m, CInv m S → fx m = some (r, st_ m 0 9 (nI n))) (h2 : ∀ m, MInv m S → fm m = some (r, st_ m 298 4 (nI n))) : SpAt S fx fm :=
  ⟨r, setSt S n, setSt_ok hS hn, fun m hm => ⟨_, h1 m hm, setSt_C hm, fun a ha => st_na (by omega)⟩, fun m hm => ⟨_, h2 m hm, setSt_M hm, fun a ha => st_na (by omega)⟩⟩
theorem SpAt.keep {fx fm : Mm → Option (Int32 × Mm)} {S : SS} (hS : OkS S) (r : Int32) (h1 : ∀ m, CInv m S → fx m = some (r, m)) (h2 : ∀ m, MInv m S → fm m = some (r, m)) : SpAt S fx fm :=
  ⟨r, S, hS, fun m hm => ⟨m, h1 m hm, hm, fun _ _ => rfl⟩, fun m hm => ⟨m, h2 m hm, hm, fun _ _ => rfl⟩⟩
