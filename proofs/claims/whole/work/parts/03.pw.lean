/-! the pure picture: ints by (cell, place); which cell is what, and every reference, stands fixed behind the constructors -/
abbrev Mm : Type := Nat → Nat → Int32
/-- base address, classes, array classes of ints, booleans, Rows, Weddings; the three static tables -/
abbrev Gx : Type := Nat × va_G × (ClassId × ClassId × ClassId × ClassId) × (Nat × Nat × Nat)
def ix (i : Int32) : Nat := i.toNatClampNeg
def st_ (m : Mm) (a k : Nat) (v : Int32) : Mm := fun a' k' => if a' = a ∧ k' = k then v else m a' k'
def cp_ (m : Mm) (a0 sp a1 dp n : Nat) : Mm := fun a' k' => if a' = a1 ∧ dp ≤ k' ∧ k' < dp + n then m a0 (sp + (k' - dp)) else m a' k'
def wl_ (j : Nat) : Nat × Nat := if j = 0 then (5, 15) else (8, 7)
/-- kind of a cell (0 .. 7 an object of that class; 8 ints, 9 booleans, 10 Rows, 11 Weddings), fields or length -/
def ly (a : Nat) : Nat × Nat :=
  if a = 0 then (6, 10) else if a = 1 then (10, 8) else if a = 2 then (3, 5) else if a < 12 then wl_ (a - 3) else if a = 12 then (8, 110)
  else if a < 22 then wl_ (a - 13) else if a = 22 then (0, 3) else if a = 23 then (11, 24) else if a < 240 then wl_ ((a - 24) % 9)
  else if a = 240 then (1, 4) else if a < 250 then wl_ (a - 241) else if a = 250 then (8, 7) else if a = 251 then (2, 4) else if a < 261 then wl_ (a - 252) else if a = 261 then (8, 12)
  else if a = 262 then (11, 2) else if a = 263 then (8, 16) else if a < 280 then (if a % 2 = 0 then (4, 4) else (8, 40)) else if a < 298 then wl_ ((a - 280) % 9)
  else if a = 298 then (7, 24) else if a = 299 then (8, 8) else if a = 300 then (8, 8) else if a = 301 then (8, 320) else if a = 302 then (8, 40) else if a = 303 then (8, 110)
  else if a = 304 then (8, 55) else if a = 305 then (8, 55) else if a = 306 then (8, 55) else if a = 307 then (8, 1320) else if a = 308 then (8, 110) else if a = 309 then (9, 2)
  else if a = 310 then (8, 7) else if a = 311 then (8, 7) else (8, 16)
/-- the reference in place k of cell a -/
def rf (a k : Nat) : Nat :=
  if a = 0 then (if k = 0 then 1 else if k = 1 then 2 else if k = 2 then 13 else if k = 3 then 22 else if k = 4 then 240 else if k = 5 then 251 else if k = 6 then 262 else 263)
  else if a = 1 then 264 + 2 * k else if a = 2 then (if k = 0 then 3 else 12) else if a = 22 then 23 else if a = 23 then 24 + 9 * k
  else if a = 240 then (if k = 0 then 241 else 250) else if a = 251 then (if k = 0 then 252 else 261) else if a = 262 then 280 + 9 * k
  else if a = 298 then (if k = 0 then 299 else if k = 1 then 300 else if k = 2 then 301 else if k = 3 then 302 else if k = 5 then 303 else if k = 13 then 304 else if k = 14 then 305 else if k = 15 then 306 else if k = 16 then 307 else if k = 18 then 308 else if k = 19 then 309 else if k = 20 then 310 else if k = 21 then 311 else 312)
  else if (ly a).1 = 4 then a + 1 else a + (k - 6)
/-- which places of an object of a kind are references -/
def isRf (ci k : Nat) : Bool :=
  if ci = 0 then k == 0 else if ci = 1 then k < 2 else if ci = 2 then k < 2 else if ci = 3 then k < 2 else if ci = 4 then k == 3 else if ci = 5 then 7 ≤ k else if ci = 6 then k < 8
  else (k < 4 || k == 5 || (13 ≤ k && k ≤ 16) || (18 ≤ k && k ≤ 22))
def fl (b : Nat) (m : Mm) (a ci n : Nat) : List Value := (List.range n).map fun j => if isRf ci j then .ref (b + rf a j) else .int (m a j)
def ce (G : Gx) (m : Mm) (a : Nat) : va_E :=
  if (ly a).1 = 8 then .inl (G.2.2.1.1, (ly a).2, .inl (m a)) else if (ly a).1 = 9 then .inl (G.2.2.1.2.1, (ly a).2, .inl (m a))
  else if (ly a).1 = 10 then .inl (G.2.2.1.2.2.1, (ly a).2, .inr (.inr (.inr (.inr fun j => some (G.1 + rf a j))))) else if (ly a).1 = 11 then .inl (G.2.2.1.2.2.2, (ly a).2, .inr (.inr (.inr (.inr fun j => some (G.1 + rf a j)))))
  else .inr ((ly a).1, fl G.1 m a (ly a).1 (ly a).2)
def wsA (G : Gx) (m : Mm) : va_W := (List.range 313).map fun a => (G.1 + a, ce G m a)
def Aq (G : Gx) : Nat → Prop := fun q => G.1 ≤ q
def tyA (G : Gx) : List (ClassId × FieldType) := [(G.2.2.1.1, .int), (G.2.2.1.2.1, .boolean), (G.2.2.1.2.2.1, .object "TearGuests$Row"), (G.2.2.1.2.2.2, .object "TearGuests$Wedding")]
def tbl1 (j : Nat) : Int32 := if j = 2 then 1 else if j = 3 then 1 else if j = 5 then 4 else 0
def tbl2 (j : Nat) : Int32 := if j = 0 then 10 else if j = 1 then 11 else if j = 2 then 12 else if j = 3 then 11 else if j = 4 then 13 else 14
def tbl3 (j : Nat) : Int32 := if j = 0 then 20 else if j = 1 then 21 else if j = 2 then 24 else if j = 3 then 22 else 23
/-- what the tables and the statics say, of a state -/
def Sx (G : Gx) (U : State) : Prop := va_K G.2.1 vwCl (tyA G) U ∧
  (va_Z "TearGuests" "IS_ALSO" "[I" (.ref G.2.2.2.1) (Aq G) U U.heap ∧ va_T .int G.2.2.2.1 6 (fun j => .int (tbl1 j)) (Aq G) U U.heap) ∧
  (va_Z "TearGuests" "SIZE_BODY" "[I" (.ref G.2.2.2.2.1) (Aq G) U U.heap ∧ va_T .int G.2.2.2.2.1 6 (fun j => .int (tbl2 j)) (Aq G) U U.heap) ∧
  (va_Z "TearGuests" "MARK_BODY" "[I" (.ref G.2.2.2.2.2) (Aq G) U U.heap ∧ va_T .int G.2.2.2.2.2 6 (fun j => .int (tbl3 j)) (Aq G) U U.heap)
def Bx (G : Gx) (m : Mm) (U : State) : Prop := va_P G.2.1 vwCl (wsA G m) U.heap ∧ Sx G U
theorem Sx.go {G : Gx} {s t : State} {H : Heap} {locs : List Loc} (h : Sx G s) (hvm : s.vm.Alike t.vm) (hS : va_S (Aq G) s.heap H locs) (ht : t.heap = H) : Sx G t := by
  have hq : ∀ a : Nat, a < s.heap.size → ¬ Aq G a → t.heap[a]? = s.heap[a]? := fun a h1 h2 => by rw [ht]; exact hS.2.1 a h1 h2
  obtain ⟨h0, ⟨h1, h2⟩, ⟨h3, h4⟩, ⟨h5, h6⟩⟩ := h
  exact ⟨h0.moved hvm, ⟨(h1.kept hq).moved hvm, (h2.kept hq).moved hvm⟩, ⟨(h3.kept hq).moved hvm, (h4.kept hq).moved hvm⟩, ⟨(h5.kept hq).moved hvm, (h6.kept hq).moved hvm⟩⟩
theorem Bx.blind {G : Gx} {m : Mm} {U : State} {g : JFrame} {mk : MethodId} {a : Array Value} (h : Bx G m U) : Bx G m (U.calling g mk a) := by
  obtain ⟨hP, h0, ⟨h1, h2⟩, ⟨h3, h4⟩, ⟨h5, h6⟩⟩ := h
  have hvm : U.vm.Alike (U.calling g mk a).vm := Vm.Alike.refl U.vm
  exact ⟨hP, h0.moved hvm, ⟨h1.moved hvm, h2.moved hvm⟩, ⟨h3.moved hvm, h4.moved hvm⟩, ⟨h5.moved hvm, h6.moved hvm⟩⟩
theorem wsA_at (G : Gx) (m : Mm) {a : Nat} (ha : a < 313) : (wsA G m)[a]? = some (G.1 + a, ce G m a) := by
  simp [wsA, List.getElem?_map, List.getElem?_range ha]
theorem wsA_D (G : Gx) (m : Mm) : va_D (Aq G) (wsA G m) := by
  have key : ∀ (k : Nat) (q : Nat × va_E), (wsA G m)[k]? = some q → q.1 = G.1 + k := by
    intro k q h
    by_cases hk : k < 313
    · rw [wsA_at G m hk] at h
      cases h; rfl
    · simp [wsA, List.getElem?_map, List.getElem?_eq_none_iff.mpr (show (List.range 313).length ≤ k by simp; omega)] at h
  refine ⟨fun i j p q hi hj h => ?_, fun k q h => ?_⟩
  · have h1 := key i p hi
    have h2 := key j q hj
    omega
  · rw [key k q h]; exact Nat.le_add_right _ _
theorem wsA_set (G : Gx) (m m' : Mm) {a : Nat} (ha : a < 313) {x : Nat × va_E} (hx : x = (G.1 + a, ce G m' a)) (h : ∀ a', a' ≠ a → m' a' = m a') : (wsA G m).set a x = wsA G m' := by
  subst hx
  apply List.ext_getElem?
  intro k
  by_cases hk : k < 313
  · by_cases hka : k = a
    · subst hka
      rw [List.getElem?_set_self (by simp [wsA]; exact hk), wsA_at G m' hk]
    · rw [List.getElem?_set_ne (Ne.symm hka), wsA_at G m hk, wsA_at G m' hk]
      have e : m' k = m k := h k hka
      have e2 : ce G m' k = ce G m k := by simp [ce, fl, e]
      rw [e2]
  · have l1 : ((wsA G m).set a (G.1 + a, ce G m' a)).length ≤ k := by simp [wsA]; omega
    have l2 : (wsA G m').length ≤ k := by simp [wsA]; omega
    rw [List.getElem?_eq_none_iff.mpr l1, List.getElem?_eq_none_iff.mpr l2]
theorem ce_o (G : Gx) (m : Mm) {a ci N : Nat} (hly : ly a = (ci, N)) (hci : ci < 8) : ce G m a = .inr (ci, fl G.1 m a ci N) := by
  unfold ce; rw [hly]
  have : ci ≠ 8 ∧ ci ≠ 9 ∧ ci ≠ 10 ∧ ci ≠ 11 := by omega
  simp [this]
theorem ce_i (G : Gx) (m : Mm) {a n : Nat} (hly : ly a = (8, n)) : ce G m a = .inl (G.2.2.1.1, n, .inl (m a)) := by unfold ce; rw [hly]; rfl
theorem ce_z (G : Gx) (m : Mm) {a n : Nat} (hly : ly a = (9, n)) : ce G m a = .inl (G.2.2.1.2.1, n, .inl (m a)) := by unfold ce; rw [hly]; rfl
theorem ce_r (G : Gx) (m : Mm) {a n : Nat} (hly : ly a = (10, n)) : ce G m a = .inl (G.2.2.1.2.2.1, n, .inr (.inr (.inr (.inr fun j => some (G.1 + rf a j))))) := by unfold ce; rw [hly]; rfl
theorem ce_w (G : Gx) (m : Mm) {a n : Nat} (hly : ly a = (11, n)) : ce G m a = .inl (G.2.2.1.2.2.2, n, .inr (.inr (.inr (.inr fun j => some (G.1 + rf a j))))) := by unfold ce; rw [hly]; rfl
theorem fl_at {b : Nat} {m : Mm} {a ci N k : Nat} (hk : k < N) : (fl b m a ci N)[k]? = some (if isRf ci k then .ref (b + rf a k) else .int (m a k)) := by
  simp [fl, List.getElem?_map, List.getElem?_range hk]
theorem fl_len {b : Nat} {m : Mm} {a ci N : Nat} : (fl b m a ci N).length = N := by simp [fl]
theorem fl_set {b : Nat} {m : Mm} {a ci N k : Nat} (hk : k < N) (hr : isRf ci k = false) (v : Int32) : (fl b m a ci N).set k (.int v) = fl b (st_ m a k v) a ci N := by
  apply List.ext_getElem?
  intro j
  by_cases hj : j < N
  · by_cases hjk : j = k
    · subst hjk
      rw [List.getElem?_set_self (by rw [fl_len]; exact hj), fl_at hj]
      simp [hr, st_]
    · rw [List.getElem?_set_ne (Ne.symm hjk), fl_at hj, fl_at hj]
      simp [st_, hjk]
  · have l1 : ((fl b m a ci N).set k (.int v)).length ≤ j := by simp [fl]; omega
    have l2 : (fl b (st_ m a k v) a ci N).length ≤ j := by simp [fl]; omega
    rw [List.getElem?_eq_none_iff.mpr l1, List.getElem?_eq_none_iff.mpr l2]
theorem st_off {m : Mm} {a k : Nat} {v : Int32} : ∀ a', a' ≠ a → st_ m a k v a' = m a' := fun a' h => by funext k'; simp [st_, h]
theorem st_upd {m : Mm} {a k : Nat} {v : Int32} : st_ m a k v a = upd (m a) k v := by funext j; simp [st_, upd]
theorem cp_off {m : Mm} {a0 sp a1 dp n : Nat} : ∀ a', a' ≠ a1 → cp_ m a0 sp a1 dp n a' = m a' := fun a' h => by funext k'; simp [cp_, h]
theorem cp_on {m : Mm} {a0 sp a1 dp n : Nat} : cp_ m a0 sp a1 dp n a1 = va_cpy (m a0) (m a1) sp dp n := by funext j; simp [cp_, va_cpy]
/-- a Wedding's object stands at w, its eight rows behind it -/
def IsW (w : Nat) : Prop := w + 8 < 313 ∧ ly w = (5, 15) ∧ ∀ j, j < 8 → rf w (7 + j) = w + 1 + j ∧ ly (w + 1 + j) = (8, 7)
/-- a Row's object stands at r, its items behind it -/
def IsR (r : Nat) : Prop := r + 1 < 313 ∧ ly r = (4, 4) ∧ rf r 3 = r + 1 ∧ ly (r + 1) = (8, 40)
theorem IsW.lt {w : Nat} (h : IsW w) : w < 313 := by have := h.1; omega
theorem IsW.o {w : Nat} (h : IsW w) : ly w = (5, 15) := h.2.1
theorem IsR.lt {w : Nat} (h : IsR w) : w < 313 := by have := h.1; omega
theorem IsR.lt1 {w : Nat} (h : IsR w) : w + 1 < 313 := h.1
theorem IsR.o {w : Nat} (h : IsR w) : ly w = (4, 4) := h.2.1
theorem IsR.rf3 {w : Nat} (h : IsR w) : rf w 3 = w + 1 := h.2.2.1
theorem IsR.o1 {w : Nat} (h : IsR w) : ly (w + 1) = (8, 40) := h.2.2.2
theorem IsW.rf7 {w : Nat} (h : IsW w) : rf w 7 = w + 1 := (h.2.2 0 (by decide)).1
theorem IsW.o1 {w : Nat} (h : IsW w) : ly (w + 1) = (8, 7) := (h.2.2 0 (by decide)).2
theorem IsW.lt1 {w : Nat} (h : IsW w) : w + 1 < 313 := by have := h.1; omega
theorem IsW.rf8 {w : Nat} (h : IsW w) : rf w 8 = w + 2 := (h.2.2 1 (by decide)).1
theorem IsW.o2 {w : Nat} (h : IsW w) : ly (w + 2) = (8, 7) := (h.2.2 1 (by decide)).2
theorem IsW.lt2 {w : Nat} (h : IsW w) : w + 2 < 313 := by have := h.1; omega
theorem IsW.rf9 {w : Nat} (h : IsW w) : rf w 9 = w + 3 := (h.2.2 2 (by decide)).1
theorem IsW.o3 {w : Nat} (h : IsW w) : ly (w + 3) = (8, 7) := (h.2.2 2 (by decide)).2
theorem IsW.lt3 {w : Nat} (h : IsW w) : w + 3 < 313 := by have := h.1; omega
theorem IsW.rf10 {w : Nat} (h : IsW w) : rf w 10 = w + 4 := (h.2.2 3 (by decide)).1
theorem IsW.o4 {w : Nat} (h : IsW w) : ly (w + 4) = (8, 7) := (h.2.2 3 (by decide)).2
theorem IsW.lt4 {w : Nat} (h : IsW w) : w + 4 < 313 := by have := h.1; omega
theorem IsW.rf11 {w : Nat} (h : IsW w) : rf w 11 = w + 5 := (h.2.2 4 (by decide)).1
theorem IsW.o5 {w : Nat} (h : IsW w) : ly (w + 5) = (8, 7) := (h.2.2 4 (by decide)).2
theorem IsW.lt5 {w : Nat} (h : IsW w) : w + 5 < 313 := by have := h.1; omega
theorem IsW.rf12 {w : Nat} (h : IsW w) : rf w 12 = w + 6 := (h.2.2 5 (by decide)).1
theorem IsW.o6 {w : Nat} (h : IsW w) : ly (w + 6) = (8, 7) := (h.2.2 5 (by decide)).2
theorem IsW.lt6 {w : Nat} (h : IsW w) : w + 6 < 313 := by have := h.1; omega
theorem IsW.rf13 {w : Nat} (h : IsW w) : rf w 13 = w + 7 := (h.2.2 6 (by decide)).1
theorem IsW.o7 {w : Nat} (h : IsW w) : ly (w + 7) = (8, 7) := (h.2.2 6 (by decide)).2
theorem IsW.lt7 {w : Nat} (h : IsW w) : w + 7 < 313 := by have := h.1; omega
theorem IsW.rf14 {w : Nat} (h : IsW w) : rf w 14 = w + 8 := (h.2.2 7 (by decide)).1
theorem IsW.o8 {w : Nat} (h : IsW w) : ly (w + 8) = (8, 7) := (h.2.2 7 (by decide)).2
theorem IsW.lt8 {w : Nat} (h : IsW w) : w + 8 < 313 := by have := h.1; omega
/-! the judgement -/
/-- launch, own class, code, locals, return type, words, room, what is to be reached, cells and slots made so far, what else is known of the start -/
abbrev Kx : Type := Launch × String × ByteArray × Nat × Option FieldType × List Cond × Room × (List Frame → Array Value → State → State → Prop) × Nat × Nat × (Array Value → State → Prop)
def Ax (G : Gx) (K : Kx) (p : Program) (s : State) (m : MethodId) (args : Array Value) (meth : Method) (c : Code) : Prop :=
  p.tables.exec = Jvm.exec ∧ c.code = K.2.2.1 ∧ meth.sig.returnType = K.2.2.2.2.1 ∧ c.maxLocals = K.2.2.2.1 ∧ s.vm.findClass K.2.1 = some m.cls ∧ (∀ w ∈ K.2.2.2.2.2.1, w.before args s = true) ∧ meth.locks = false ∧ Sx G s ∧ K.2.2.2.2.2.2.2.2.2.2 args s
def PW (G : Gx) (K : Kx) (pc : Nat) (lv : List (Nat × Value)) (st : List Value) (mm : Mm) : Prop :=
  ∀ (p : Program) (e : Env) (s : State) (m : MethodId) (args : Array Value) (below : List Frame) (meth : Method) (c : Code), Ax G K p s m args meth c → ∀ (H : Heap) (locs : List Loc), va_P G.2.1 vwCl (wsA G mm) H → va_S (Aq G) s.heap H locs → ∀ ls : Array Slot, lv_has ls K.2.2.2.1 lv →
    W p K.1 e K.2.2.2.2.2.2.1 s m args below meth c H locs K.2.2.2.2.2.2.2.2.1 K.2.2.2.2.2.2.2.2.2.1 (K.2.2.2.2.2.2.2.1 below args s) (F0 m pc ls st)
section PWS
variable {G : Gx} {K : Kx} {pc : Nat} {lv lv' : List (Nat × Value)} {st : List Value} {mm mm' : Mm}
theorem pw_iconst {z : Int} {v : Int32} (hv : Int32.ofInt z = v) (n : Nat) (hd : decode K.2.2.1 pc = .ok (.iconst z, 1)) (hn : pc + 1 = n) (k : PW G K n lv (.int v :: st) mm) : PW G K pc lv (st) mm := fun p e s m args below meth c A H locs hP hS ls hl => by subst hn; exact lv_iconst A.1 A.2.1 hd hv (k p e s m args below meth c A H locs hP hS ls hl)
theorem pw_bipush {z : Int} {v : Int32} (hv : (Int8.ofInt z).toInt32 = v) (n : Nat) (hd : decode K.2.2.1 pc = .ok (.bipush z, 2)) (hn : pc + 2 = n) (k : PW G K n lv (.int v :: st) mm) : PW G K pc lv (st) mm := fun p e s m args below meth c A H locs hP hS ls hl => by subst hn; exact lv_bipush A.1 A.2.1 hd hv (k p e s m args below meth c A H locs hP hS ls hl)
theorem pw_sipush {z : Int} {v : Int32} (hv : (Int16.ofInt z).toInt32 = v) (n : Nat) (hd : decode K.2.2.1 pc = .ok (.sipush z, 3)) (hn : pc + 3 = n) (k : PW G K n lv (.int v :: st) mm) : PW G K pc lv (st) mm := fun p e s m args below meth c A H locs hP hS ls hl => by subst hn; exact lv_sipush A.1 A.2.1 hd hv (k p e s m args below meth c A H locs hP hS ls hl)
theorem pw_iload {i : Nat} {x : Int32} (j : Nat) (hj : lv[j]? = some (i, .int x)) (n : Nat) (hd : decode K.2.2.1 pc = .ok (.iload i, 2)) (hn : pc + 2 = n) (k : PW G K n lv (.int x :: st) mm) : PW G K pc lv st mm := fun p e s m args below meth c A H locs hP hS ls hl => by subst hn; exact lv_iload A.1 A.2.1 hd (lv_at hl j hj) (k p e s m args below meth c A H locs hP hS ls hl)
theorem pw_iload_n {i : Nat} {x : Int32} (j : Nat) {f : Fin 4} (hf : (f : Nat) = i) (hj : lv[j]? = some (i, .int x)) (n : Nat) (hd : decode K.2.2.1 pc = .ok (.iload_n f, 1)) (hn : pc + 1 = n) (k : PW G K n lv (.int x :: st) mm) : PW G K pc lv st mm := fun p e s m args below meth c A H locs hP hS ls hl => by subst hn; exact lv_iload_n A.1 A.2.1 hd hf (lv_at hl j hj) (k p e s m args below meth c A H locs hP hS ls hl)
theorem pw_aload {i : Nat} {x : Nat} (j : Nat) (hj : lv[j]? = some (i, .ref x)) (n : Nat) (hd : decode K.2.2.1 pc = .ok (.aload i, 2)) (hn : pc + 2 = n) (k : PW G K n lv (.ref x :: st) mm) : PW G K pc lv st mm := fun p e s m args below meth c A H locs hP hS ls hl => by subst hn; exact lv_aload A.1 A.2.1 hd (lv_at hl j hj) (k p e s m args below meth c A H locs hP hS ls hl)
theorem pw_aload_n {i : Nat} {x : Nat} (j : Nat) {f : Fin 4} (hf : (f : Nat) = i) (hj : lv[j]? = some (i, .ref x)) (n : Nat) (hd : decode K.2.2.1 pc = .ok (.aload_n f, 1)) (hn : pc + 1 = n) (k : PW G K n lv (.ref x :: st) mm) : PW G K pc lv st mm := fun p e s m args below meth c A H locs hP hS ls hl => by subst hn; exact lv_aload_n A.1 A.2.1 hd hf (lv_at hl j hj) (k p e s m args below meth c A H locs hP hS ls hl)
theorem pw_lload {i : Nat} {x : Int64} (j : Nat) (hj : lv[j]? = some (i, .long x)) (n : Nat) (hd : decode K.2.2.1 pc = .ok (.lload i, 2)) (hn : pc + 2 = n) (k : PW G K n lv (.long x :: st) mm) : PW G K pc lv st mm := fun p e s m args below meth c A H locs hP hS ls hl => by subst hn; exact lv_lload A.1 A.2.1 hd (lv_at hl j hj) (k p e s m args below meth c A H locs hP hS ls hl)
theorem pw_lload_n {i : Nat} {x : Int64} (j : Nat) {f : Fin 4} (hf : (f : Nat) = i) (hj : lv[j]? = some (i, .long x)) (n : Nat) (hd : decode K.2.2.1 pc = .ok (.lload_n f, 1)) (hn : pc + 1 = n) (k : PW G K n lv (.long x :: st) mm) : PW G K pc lv st mm := fun p e s m args below meth c A H locs hP hS ls hl => by subst hn; exact lv_lload_n A.1 A.2.1 hd hf (lv_at hl j hj) (k p e s m args below meth c A H locs hP hS ls hl)
theorem pw_istore {i : Nat} {x : Int32} (lv2 : List (Nat × Value)) (n : Nat) (hd : decode K.2.2.1 pc = .ok (.istore i, 2)) (hn : pc + 2 = n) (hi : i < K.2.2.2.1) (hl2 : (i, Value.int x) :: lv.filter (fun q => !(q.1 == i) && !(q.1 + 1 == i && q.2.category == 2)) = lv2) (k : PW G K n lv2 st mm) : PW G K pc lv (.int x :: st) mm := fun p e s m args below meth c A H locs hP hS ls hl => by subst hn; exact lv_istore A.1 A.2.1 hd hl hi hl2 (fun ls hl => (k p e s m args below meth c A H locs hP hS ls hl))
theorem pw_istore_n {i : Nat} {x : Int32} {f : Fin 4} (hf : (f : Nat) = i) (lv2 : List (Nat × Value)) (n : Nat) (hd : decode K.2.2.1 pc = .ok (.istore_n f, 1)) (hn : pc + 1 = n) (hi : i < K.2.2.2.1) (hl2 : (i, Value.int x) :: lv.filter (fun q => !(q.1 == i) && !(q.1 + 1 == i && q.2.category == 2)) = lv2) (k : PW G K n lv2 st mm) : PW G K pc lv (.int x :: st) mm := fun p e s m args below meth c A H locs hP hS ls hl => by subst hn; exact lv_istore_n A.1 A.2.1 hd hf hl hi hl2 (fun ls hl => (k p e s m args below meth c A H locs hP hS ls hl))
theorem pw_astore {i : Nat} {x : Nat} (lv2 : List (Nat × Value)) (n : Nat) (hd : decode K.2.2.1 pc = .ok (.astore i, 2)) (hn : pc + 2 = n) (hi : i < K.2.2.2.1) (hl2 : (i, Value.ref x) :: lv.filter (fun q => !(q.1 == i) && !(q.1 + 1 == i && q.2.category == 2)) = lv2) (k : PW G K n lv2 st mm) : PW G K pc lv (.ref x :: st) mm := fun p e s m args below meth c A H locs hP hS ls hl => by subst hn; exact lv_astore A.1 A.2.1 hd hl hi hl2 (fun ls hl => (k p e s m args below meth c A H locs hP hS ls hl))
theorem pw_astore_n {i : Nat} {x : Nat} {f : Fin 4} (hf : (f : Nat) = i) (lv2 : List (Nat × Value)) (n : Nat) (hd : decode K.2.2.1 pc = .ok (.astore_n f, 1)) (hn : pc + 1 = n) (hi : i < K.2.2.2.1) (hl2 : (i, Value.ref x) :: lv.filter (fun q => !(q.1 == i) && !(q.1 + 1 == i && q.2.category == 2)) = lv2) (k : PW G K n lv2 st mm) : PW G K pc lv (.ref x :: st) mm := fun p e s m args below meth c A H locs hP hS ls hl => by subst hn; exact lv_astore_n A.1 A.2.1 hd hf hl hi hl2 (fun ls hl => (k p e s m args below meth c A H locs hP hS ls hl))
theorem pw_lstore {i : Nat} {x : Int64} (lv2 : List (Nat × Value)) (n : Nat) (hd : decode K.2.2.1 pc = .ok (.lstore i, 2)) (hn : pc + 2 = n) (hi : i + 1 < K.2.2.2.1) (hl2 : (i, Value.long x) :: lv.filter (fun q => !(q.1 == i) && (!(q.1 == i + 1) && !(q.1 + 1 == i && q.2.category == 2))) = lv2) (k : PW G K n lv2 st mm) : PW G K pc lv (.long x :: st) mm := fun p e s m args below meth c A H locs hP hS ls hl => by subst hn; exact lv_lstore A.1 A.2.1 hd hl hi hl2 (fun ls hl => (k p e s m args below meth c A H locs hP hS ls hl))
theorem pw_lstore_n {i : Nat} {x : Int64} {f : Fin 4} (hf : (f : Nat) = i) (lv2 : List (Nat × Value)) (n : Nat) (hd : decode K.2.2.1 pc = .ok (.lstore_n f, 1)) (hn : pc + 1 = n) (hi : i + 1 < K.2.2.2.1) (hl2 : (i, Value.long x) :: lv.filter (fun q => !(q.1 == i) && (!(q.1 == i + 1) && !(q.1 + 1 == i && q.2.category == 2))) = lv2) (k : PW G K n lv2 st mm) : PW G K pc lv (.long x :: st) mm := fun p e s m args below meth c A H locs hP hS ls hl => by subst hn; exact lv_lstore_n A.1 A.2.1 hd hf hl hi hl2 (fun ls hl => (k p e s m args below meth c A H locs hP hS ls hl))
theorem pw_iinc {i : Nat} {z : Int} {x v : Int32} (j : Nat) (hj : lv[j]? = some (i, .int x)) (hv : x + Int32.ofInt z = v) (lv2 : List (Nat × Value)) (n : Nat) (hd : decode K.2.2.1 pc = .ok (.iinc i z, 3)) (hn : pc + 3 = n) (hi : i < K.2.2.2.1) (hl2 : (i, Value.int v) :: lv.filter (fun q => !(q.1 == i) && !(q.1 + 1 == i && q.2.category == 2)) = lv2) (k : PW G K n lv2 st mm) : PW G K pc lv st mm := fun p e s m args below meth c A H locs hP hS ls hl => by subst hn; exact lv_iinc A.1 A.2.1 hd hl hj hv hi hl2 (fun ls hl => (k p e s m args below meth c A H locs hP hS ls hl))
theorem pw_iadd {x y : Int32} (n : Nat) (hd : decode K.2.2.1 pc = .ok (.iadd, 1)) (hn : pc + 1 = n) (k : PW G K n lv (.int (x + y) :: st) mm) : PW G K pc lv (.int y :: .int x :: st) mm := fun p e s m args below meth c A H locs hP hS ls hl => by subst hn; exact lv_iadd A.1 A.2.1 hd (k p e s m args below meth c A H locs hP hS ls hl)
theorem pw_isub {x y : Int32} (n : Nat) (hd : decode K.2.2.1 pc = .ok (.isub, 1)) (hn : pc + 1 = n) (k : PW G K n lv (.int (x - y) :: st) mm) : PW G K pc lv (.int y :: .int x :: st) mm := fun p e s m args below meth c A H locs hP hS ls hl => by subst hn; exact lv_isub A.1 A.2.1 hd (k p e s m args below meth c A H locs hP hS ls hl)
theorem pw_imul {x y : Int32} (n : Nat) (hd : decode K.2.2.1 pc = .ok (.imul, 1)) (hn : pc + 1 = n) (k : PW G K n lv (.int (x * y) :: st) mm) : PW G K pc lv (.int y :: .int x :: st) mm := fun p e s m args below meth c A H locs hP hS ls hl => by subst hn; exact lv_imul A.1 A.2.1 hd (k p e s m args below meth c A H locs hP hS ls hl)
theorem pw_iand {x y : Int32} (n : Nat) (hd : decode K.2.2.1 pc = .ok (.iand, 1)) (hn : pc + 1 = n) (k : PW G K n lv (.int (x &&& y) :: st) mm) : PW G K pc lv (.int y :: .int x :: st) mm := fun p e s m args below meth c A H locs hP hS ls hl => by subst hn; exact lv_iand A.1 A.2.1 hd (k p e s m args below meth c A H locs hP hS ls hl)
theorem pw_ior {x y : Int32} (n : Nat) (hd : decode K.2.2.1 pc = .ok (.ior, 1)) (hn : pc + 1 = n) (k : PW G K n lv (.int (x ||| y) :: st) mm) : PW G K pc lv (.int y :: .int x :: st) mm := fun p e s m args below meth c A H locs hP hS ls hl => by subst hn; exact lv_ior A.1 A.2.1 hd (k p e s m args below meth c A H locs hP hS ls hl)
theorem pw_ixor {x y : Int32} (n : Nat) (hd : decode K.2.2.1 pc = .ok (.ixor, 1)) (hn : pc + 1 = n) (k : PW G K n lv (.int (x ^^^ y) :: st) mm) : PW G K pc lv (.int y :: .int x :: st) mm := fun p e s m args below meth c A H locs hP hS ls hl => by subst hn; exact lv_ixor A.1 A.2.1 hd (k p e s m args below meth c A H locs hP hS ls hl)
theorem pw_ishl {x y : Int32} (n : Nat) (hd : decode K.2.2.1 pc = .ok (.ishl, 1)) (hn : pc + 1 = n) (k : PW G K n lv (.int (x <<< (y &&& 31)) :: st) mm) : PW G K pc lv (.int y :: .int x :: st) mm := fun p e s m args below meth c A H locs hP hS ls hl => by subst hn; exact lv_ishl A.1 A.2.1 hd (k p e s m args below meth c A H locs hP hS ls hl)
theorem pw_ishr {x y : Int32} (n : Nat) (hd : decode K.2.2.1 pc = .ok (.ishr, 1)) (hn : pc + 1 = n) (k : PW G K n lv (.int (x >>> (y &&& 31)) :: st) mm) : PW G K pc lv (.int y :: .int x :: st) mm := fun p e s m args below meth c A H locs hP hS ls hl => by subst hn; exact lv_ishr A.1 A.2.1 hd (k p e s m args below meth c A H locs hP hS ls hl)
theorem pw_idiv {x y : Int32} (hne : ¬ y = 0) (n : Nat) (hd : decode K.2.2.1 pc = .ok (.idiv, 1)) (hn : pc + 1 = n) (k : PW G K n lv (.int (x / y) :: st) mm) : PW G K pc lv (.int y :: .int x :: st) mm := fun p e s m args below meth c A H locs hP hS ls hl => by subst hn; exact lv_idiv A.1 A.2.1 hd hne (k p e s m args below meth c A H locs hP hS ls hl)
theorem pw_irem {x y : Int32} (hne : ¬ y = 0) (n : Nat) (hd : decode K.2.2.1 pc = .ok (.irem, 1)) (hn : pc + 1 = n) (k : PW G K n lv (.int (x - x / y * y) :: st) mm) : PW G K pc lv (.int y :: .int x :: st) mm := fun p e s m args below meth c A H locs hP hS ls hl => by subst hn; exact lv_irem A.1 A.2.1 hd hne (k p e s m args below meth c A H locs hP hS ls hl)
theorem pw_lrem {x y : Int64} (hne : ¬ y = 0) (n : Nat) (hd : decode K.2.2.1 pc = .ok (.lrem, 1)) (hn : pc + 1 = n) (k : PW G K n lv (.long (x - x / y * y) :: st) mm) : PW G K pc lv (.long y :: .long x :: st) mm := fun p e s m args below meth c A H locs hP hS ls hl => by subst hn; exact lv_lrem A.1 A.2.1 hd hne (k p e s m args below meth c A H locs hP hS ls hl)
theorem pw_lmul {x y : Int64} (n : Nat) (hd : decode K.2.2.1 pc = .ok (.lmul, 1)) (hn : pc + 1 = n) (k : PW G K n lv (.long (x * y) :: st) mm) : PW G K pc lv (.long y :: .long x :: st) mm := fun p e s m args below meth c A H locs hP hS ls hl => by subst hn; exact lv_lmul A.1 A.2.1 hd (k p e s m args below meth c A H locs hP hS ls hl)
theorem pw_ineg {x : Int32} (n : Nat) (hd : decode K.2.2.1 pc = .ok (.ineg, 1)) (hn : pc + 1 = n) (k : PW G K n lv (.int (-x) :: st) mm) : PW G K pc lv (.int x :: st) mm := fun p e s m args below meth c A H locs hP hS ls hl => by subst hn; exact lv_ineg A.1 A.2.1 hd (k p e s m args below meth c A H locs hP hS ls hl)
theorem pw_iushr {x y : Int32} (n : Nat) (hd : decode K.2.2.1 pc = .ok (.iushr, 1)) (hn : pc + 1 = n) (k : PW G K n lv (.int (x.toUInt32 >>> (y.toUInt32 &&& Int32.toUInt32 31)).toInt32 :: st) mm) : PW G K pc lv (.int y :: .int x :: st) mm := fun p e s m args below meth c A H locs hP hS ls hl => by subst hn; exact lv_iushr A.1 A.2.1 hd rfl (k p e s m args below meth c A H locs hP hS ls hl)
theorem pw_i2l {x : Int32} (n : Nat) (hd : decode K.2.2.1 pc = .ok (.i2l, 1)) (hn : pc + 1 = n) (k : PW G K n lv (.long x.toInt64 :: st) mm) : PW G K pc lv (.int x :: st) mm := fun p e s m args below meth c A H locs hP hS ls hl => by subst hn; exact lv_i2l A.1 A.2.1 hd rfl (k p e s m args below meth c A H locs hP hS ls hl)
theorem pw_l2i {x : Int64} (n : Nat) (hd : decode K.2.2.1 pc = .ok (.l2i, 1)) (hn : pc + 1 = n) (k : PW G K n lv (.int x.toInt32 :: st) mm) : PW G K pc lv (.long x :: st) mm := fun p e s m args below meth c A H locs hP hS ls hl => by subst hn; exact lv_l2i A.1 A.2.1 hd rfl (k p e s m args below meth c A H locs hP hS ls hl)
theorem pw_i2b {x : Int32} (n : Nat) (hd : decode K.2.2.1 pc = .ok (.i2b, 1)) (hn : pc + 1 = n) (k : PW G K n lv (.int x.toInt8.toInt32 :: st) mm) : PW G K pc lv (.int x :: st) mm := fun p e s m args below meth c A H locs hP hS ls hl => by subst hn; exact lv_i2b A.1 A.2.1 hd rfl (k p e s m args below meth c A H locs hP hS ls hl)
theorem pw_i2s {x : Int32} (n : Nat) (hd : decode K.2.2.1 pc = .ok (.i2s, 1)) (hn : pc + 1 = n) (k : PW G K n lv (.int x.toInt16.toInt32 :: st) mm) : PW G K pc lv (.int x :: st) mm := fun p e s m args below meth c A H locs hP hS ls hl => by subst hn; exact lv_i2s A.1 A.2.1 hd rfl (k p e s m args below meth c A H locs hP hS ls hl)
theorem pw_dup {v : Value} (hv : v.category = 1) (n : Nat) (hd : decode K.2.2.1 pc = .ok (.dup, 1)) (hn : pc + 1 = n) (k : PW G K n lv (v :: v :: st) mm) : PW G K pc lv (v :: st) mm := fun p e s m args below meth c A H locs hP hS ls hl => by subst hn; exact lv_dup A.1 A.2.1 hd hv (k p e s m args below meth c A H locs hP hS ls hl)
theorem pw_pop {v : Value} (hv : v.category = 1) (n : Nat) (hd : decode K.2.2.1 pc = .ok (.pop, 1)) (hn : pc + 1 = n) (k : PW G K n lv (st) mm) : PW G K pc lv (v :: st) mm := fun p e s m args below meth c A H locs hP hS ls hl => by subst hn; exact lv_pop A.1 A.2.1 hd hv (k p e s m args below meth c A H locs hP hS ls hl)
theorem pw_dup2_11 {v u : Value} (hv : v.category = 1) (hu : u.category = 1) (n : Nat) (hd : decode K.2.2.1 pc = .ok (.dup2, 1)) (hn : pc + 1 = n) (k : PW G K n lv (v :: u :: v :: u :: st) mm) : PW G K pc lv (v :: u :: st) mm := fun p e s m args below meth c A H locs hP hS ls hl => by subst hn; exact lv_dup2_11 A.1 A.2.1 hd hv hu (k p e s m args below meth c A H locs hP hS ls hl)
theorem pw_goto {off : Int} (n : Nat) (hd : decode K.2.2.1 pc = .ok (.goto off, 3)) (hn : (pc : Int) + off = (n : Int)) (k : PW G K n lv st mm) : PW G K pc lv st mm := fun p e s m args below meth c A H locs hP hS ls hl => lv_goto A.1 A.2.1 hd hn (k p e s m args below meth c A H locs hP hS ls hl)
theorem pw_if_eq {x : Int32} {off : Int} (tg n : Nat) (hd : decode K.2.2.1 pc = .ok (.ifCond .eq off, 3)) (ht : (pc : Int) + off = (tg : Int)) (hn : pc + 3 = n) (kt : x = 0 → PW G K tg lv st mm) (kf : ¬ x = 0 → PW G K n lv st mm) : PW G K pc lv (.int x :: st) mm := fun p e s m args below meth c A H locs hP hS ls hl => by subst hn; exact lv_if_eq A.1 A.2.1 hd ht (fun h => kt h p e s m args below meth c A H locs hP hS ls hl) (fun h => kf h p e s m args below meth c A H locs hP hS ls hl)
theorem pw_if_ne {x : Int32} {off : Int} (tg n : Nat) (hd : decode K.2.2.1 pc = .ok (.ifCond .ne off, 3)) (ht : (pc : Int) + off = (tg : Int)) (hn : pc + 3 = n) (kt : ¬ x = 0 → PW G K tg lv st mm) (kf : x = 0 → PW G K n lv st mm) : PW G K pc lv (.int x :: st) mm := fun p e s m args below meth c A H locs hP hS ls hl => by subst hn; exact lv_if_ne A.1 A.2.1 hd ht (fun h => kt h p e s m args below meth c A H locs hP hS ls hl) (fun h => kf h p e s m args below meth c A H locs hP hS ls hl)
theorem pw_if_lt {x : Int32} {off : Int} (tg n : Nat) (hd : decode K.2.2.1 pc = .ok (.ifCond .lt off, 3)) (ht : (pc : Int) + off = (tg : Int)) (hn : pc + 3 = n) (kt : x < 0 → PW G K tg lv st mm) (kf : ¬ x < 0 → PW G K n lv st mm) : PW G K pc lv (.int x :: st) mm := fun p e s m args below meth c A H locs hP hS ls hl => by subst hn; exact lv_if_lt A.1 A.2.1 hd ht (fun h => kt h p e s m args below meth c A H locs hP hS ls hl) (fun h => kf h p e s m args below meth c A H locs hP hS ls hl)
theorem pw_if_ge {x : Int32} {off : Int} (tg n : Nat) (hd : decode K.2.2.1 pc = .ok (.ifCond .ge off, 3)) (ht : (pc : Int) + off = (tg : Int)) (hn : pc + 3 = n) (kt : 0 ≤ x → PW G K tg lv st mm) (kf : ¬ 0 ≤ x → PW G K n lv st mm) : PW G K pc lv (.int x :: st) mm := fun p e s m args below meth c A H locs hP hS ls hl => by subst hn; exact lv_if_ge A.1 A.2.1 hd ht (fun h => kt h p e s m args below meth c A H locs hP hS ls hl) (fun h => kf h p e s m args below meth c A H locs hP hS ls hl)
theorem pw_if_gt {x : Int32} {off : Int} (tg n : Nat) (hd : decode K.2.2.1 pc = .ok (.ifCond .gt off, 3)) (ht : (pc : Int) + off = (tg : Int)) (hn : pc + 3 = n) (kt : 0 < x → PW G K tg lv st mm) (kf : ¬ 0 < x → PW G K n lv st mm) : PW G K pc lv (.int x :: st) mm := fun p e s m args below meth c A H locs hP hS ls hl => by subst hn; exact lv_if_gt A.1 A.2.1 hd ht (fun h => kt h p e s m args below meth c A H locs hP hS ls hl) (fun h => kf h p e s m args below meth c A H locs hP hS ls hl)
theorem pw_if_le {x : Int32} {off : Int} (tg n : Nat) (hd : decode K.2.2.1 pc = .ok (.ifCond .le off, 3)) (ht : (pc : Int) + off = (tg : Int)) (hn : pc + 3 = n) (kt : x ≤ 0 → PW G K tg lv st mm) (kf : ¬ x ≤ 0 → PW G K n lv st mm) : PW G K pc lv (.int x :: st) mm := fun p e s m args below meth c A H locs hP hS ls hl => by subst hn; exact lv_if_le A.1 A.2.1 hd ht (fun h => kt h p e s m args below meth c A H locs hP hS ls hl) (fun h => kf h p e s m args below meth c A H locs hP hS ls hl)
theorem pw_icmp_eq {x y : Int32} {off : Int} (tg n : Nat) (hd : decode K.2.2.1 pc = .ok (.if_icmp .eq off, 3)) (ht : (pc : Int) + off = (tg : Int)) (hn : pc + 3 = n) (kt : x = y → PW G K tg lv st mm) (kf : ¬ x = y → PW G K n lv st mm) : PW G K pc lv (.int y :: .int x :: st) mm := fun p e s m args below meth c A H locs hP hS ls hl => by subst hn; exact lv_icmp_eq A.1 A.2.1 hd ht (fun h => kt h p e s m args below meth c A H locs hP hS ls hl) (fun h => kf h p e s m args below meth c A H locs hP hS ls hl)
theorem pw_icmp_ne {x y : Int32} {off : Int} (tg n : Nat) (hd : decode K.2.2.1 pc = .ok (.if_icmp .ne off, 3)) (ht : (pc : Int) + off = (tg : Int)) (hn : pc + 3 = n) (kt : ¬ x = y → PW G K tg lv st mm) (kf : x = y → PW G K n lv st mm) : PW G K pc lv (.int y :: .int x :: st) mm := fun p e s m args below meth c A H locs hP hS ls hl => by subst hn; exact lv_icmp_ne A.1 A.2.1 hd ht (fun h => kt h p e s m args below meth c A H locs hP hS ls hl) (fun h => kf h p e s m args below meth c A H locs hP hS ls hl)
theorem pw_icmp_lt {x y : Int32} {off : Int} (tg n : Nat) (hd : decode K.2.2.1 pc = .ok (.if_icmp .lt off, 3)) (ht : (pc : Int) + off = (tg : Int)) (hn : pc + 3 = n) (kt : x < y → PW G K tg lv st mm) (kf : ¬ x < y → PW G K n lv st mm) : PW G K pc lv (.int y :: .int x :: st) mm := fun p e s m args below meth c A H locs hP hS ls hl => by subst hn; exact lv_icmp_lt A.1 A.2.1 hd ht (fun h => kt h p e s m args below meth c A H locs hP hS ls hl) (fun h => kf h p e s m args below meth c A H locs hP hS ls hl)
theorem pw_icmp_ge {x y : Int32} {off : Int} (tg n : Nat) (hd : decode K.2.2.1 pc = .ok (.if_icmp .ge off, 3)) (ht : (pc : Int) + off = (tg : Int)) (hn : pc + 3 = n) (kt : y ≤ x → PW G K tg lv st mm) (kf : ¬ y ≤ x → PW G K n lv st mm) : PW G K pc lv (.int y :: .int x :: st) mm := fun p e s m args below meth c A H locs hP hS ls hl => by subst hn; exact lv_icmp_ge A.1 A.2.1 hd ht (fun h => kt h p e s m args below meth c A H locs hP hS ls hl) (fun h => kf h p e s m args below meth c A H locs hP hS ls hl)
theorem pw_icmp_gt {x y : Int32} {off : Int} (tg n : Nat) (hd : decode K.2.2.1 pc = .ok (.if_icmp .gt off, 3)) (ht : (pc : Int) + off = (tg : Int)) (hn : pc + 3 = n) (kt : y < x → PW G K tg lv st mm) (kf : ¬ y < x → PW G K n lv st mm) : PW G K pc lv (.int y :: .int x :: st) mm := fun p e s m args below meth c A H locs hP hS ls hl => by subst hn; exact lv_icmp_gt A.1 A.2.1 hd ht (fun h => kt h p e s m args below meth c A H locs hP hS ls hl) (fun h => kf h p e s m args below meth c A H locs hP hS ls hl)
theorem pw_icmp_le {x y : Int32} {off : Int} (tg n : Nat) (hd : decode K.2.2.1 pc = .ok (.if_icmp .le off, 3)) (ht : (pc : Int) + off = (tg : Int)) (hn : pc + 3 = n) (kt : x ≤ y → PW G K tg lv st mm) (kf : ¬ x ≤ y → PW G K n lv st mm) : PW G K pc lv (.int y :: .int x :: st) mm := fun p e s m args below meth c A H locs hP hS ls hl => by subst hn; exact lv_icmp_le A.1 A.2.1 hd ht (fun h => kt h p e s m args below meth c A H locs hP hS ls hl) (fun h => kf h p e s m args below meth c A H locs hP hS ls hl)
theorem pw_tableOut {dflt lo hi : Int} {offs : Array Int} {len : Nat} {x : Int32} (n : Nat) (hd : decode K.2.2.1 pc = .ok (.tableswitch dflt lo hi offs, len)) (h : x.toInt < lo ∨ hi < x.toInt) (hn : (pc : Int) + dflt = (n : Int)) (k : PW G K n lv st mm) : PW G K pc lv (.int x :: st) mm := fun p e s m args below meth c A H locs hP hS ls hl => lv_tableOut A.1 A.2.1 hd h hn (k p e s m args below meth c A H locs hP hS ls hl)
theorem pw_tableIn {dflt lo hi off : Int} {offs : Array Int} {len : Nat} {x : Int32} (n : Nat) (hd : decode K.2.2.1 pc = .ok (.tableswitch dflt lo hi offs, len)) (h1 : ¬ x.toInt < lo) (h2 : ¬ hi < x.toInt) (ho : offs[(x.toInt - lo).toNat]? = some off) (hn : (pc : Int) + off = (n : Int)) (k : PW G K n lv st mm) : PW G K pc lv (.int x :: st) mm := fun p e s m args below meth c A H locs hP hS ls hl => lv_tableIn A.1 A.2.1 hd h1 h2 ho hn (k p e s m args below meth c A H locs hP hS ls hl)
theorem pw_lookup {dflt off : Int} {ps : Array (Int × Int)} {len : Nat} {x : Int32} (n : Nat) (hd : decode K.2.2.1 pc = .ok (.lookupswitch dflt ps, len)) (hp : (ps.toList.zip (ps.toList.drop 1)).all (fun (a, next) => a.1 < next.1) = true) (ho : Op.lookupswitch.offset ps.toList dflt x.toInt = off) (hn : (pc : Int) + off = (n : Int)) (k : PW G K n lv st mm) : PW G K pc lv (.int x :: st) mm := fun p e s m args below meth c A H locs hP hS ls hl => lv_lookup A.1 A.2.1 hd hp ho hn (k p e s m args below meth c A H locs hP hS ls hl)
theorem pw_ldc {index : Nat} {v : Int32} (n : Nat) (hc : Cond.constant K.2.1 index v ∈ K.2.2.2.2.2.1) (hd : decode K.2.2.1 pc = .ok (.ldc index, 2)) (hn : pc + 2 = n) (k : PW G K n lv (.int v :: st) mm) : PW G K pc lv st mm := fun p e s m args below meth c A H locs hP hS ls hl => by subst hn; exact lv_ldc A.1 A.2.1 A.2.2.2.2.1 (A.2.2.2.2.2.1 _ hc) hd (k p e s m args below meth c A H locs hP hS ls hl)
theorem pw_ldcw {index : Nat} {v : Int32} (n : Nat) (hc : Cond.constant K.2.1 index v ∈ K.2.2.2.2.2.1) (hd : decode K.2.2.1 pc = .ok (.ldc_w index, 3)) (hn : pc + 3 = n) (k : PW G K n lv (.int v :: st) mm) : PW G K pc lv st mm := fun p e s m args below meth c A H locs hP hS ls hl => by subst hn; exact lv_ldcw A.1 A.2.1 A.2.2.2.2.1 (A.2.2.2.2.2.1 _ hc) hd (k p e s m args below meth c A H locs hP hS ls hl)
theorem pw_ldc2 {index : Nat} {v : Int64} (n : Nat) (hc : Cond.constantLong K.2.1 index v ∈ K.2.2.2.2.2.1) (hd : decode K.2.2.1 pc = .ok (.ldc2_w index, 3)) (hn : pc + 3 = n) (k : PW G K n lv (.long v :: st) mm) : PW G K pc lv st mm := fun p e s m args below meth c A H locs hP hS ls hl => by subst hn; exact lv_ldc2 A.1 A.2.1 A.2.2.2.2.1 (A.2.2.2.2.2.1 _ hc) hd (k p e s m args below meth c A H locs hP hS ls hl)
theorem pw_sub (ks : List Nat) (lv2 : List (Nat × Value)) (h : lv_pick lv ks = lv2) (k : PW G K pc lv2 st mm) : PW G K pc lv st mm := fun p e s m args below meth c A H locs hP hS ls hl => k p e s m args below meth c A H locs hP hS ls (lv_sub hl ks h)
theorem pw_getI {a ci N index : Nat} {C : String} {T : u_T} (j : Nat) (n : Nat) (hd : decode K.2.2.1 pc = .ok (.getfield index, 3)) (hn : pc + 3 = n) (hin : ∀ w ∈ u_ws C T N, w ∈ K.2.2.2.2.2.1) (hlk : Cond.fieldLink K.2.1 index (T j).1 (T j).2.1 (T j).2.2.1 ∈ K.2.2.2.2.2.1) (ha : a < 313) (hly : ly a = (ci, N)) (hci : ci < 8) (hc : vwCl[ci]? = some (C, T, N)) (hj : j < N) (hr : isRf ci j = false) (k : PW G K n lv (.int (mm a j) :: st) mm) : PW G K pc lv (.ref (G.1 + a) :: st) mm := fun p e s m args below meth c A H locs hP hS ls hl => by
  subst hn
  refine va_get (v := .int (mm a j)) A.1 A.2.1 A.2.2.2.2.2.1 hin A.2.2.2.2.1 A.2.2.2.2.2.2.2.1.1 hP a (by rw [wsA_at G mm ha, ce_o G mm hly hci]) hc j hj (A.2.2.2.2.2.1 _ hlk) (fun _ h9 => h9) ?_ hd (k p e s m args below meth c A H locs hP hS ls hl)
  rw [fl_at hj, hr]; rfl
theorem pw_getR {a ci N index r : Nat} {C : String} {T : u_T} (j : Nat) (n : Nat) (hd : decode K.2.2.1 pc = .ok (.getfield index, 3)) (hn : pc + 3 = n) (hin : ∀ w ∈ u_ws C T N, w ∈ K.2.2.2.2.2.1) (hlk : Cond.fieldLink K.2.1 index (T j).1 (T j).2.1 (T j).2.2.1 ∈ K.2.2.2.2.2.1) (ha : a < 313) (hly : ly a = (ci, N)) (hci : ci < 8) (hc : vwCl[ci]? = some (C, T, N)) (hj : j < N) (hr : isRf ci j = true) (hrf : rf a j = r) (k : PW G K n lv (.ref (G.1 + r) :: st) mm) : PW G K pc lv (.ref (G.1 + a) :: st) mm := fun p e s m args below meth c A H locs hP hS ls hl => by
  subst hn
  refine va_get (v := .ref (G.1 + r)) A.1 A.2.1 A.2.2.2.2.2.1 hin A.2.2.2.2.1 A.2.2.2.2.2.2.2.1.1 hP a (by rw [wsA_at G mm ha, ce_o G mm hly hci]) hc j hj (A.2.2.2.2.2.1 _ hlk) (fun _ h9 => h9) ?_ hd (k p e s m args below meth c A H locs hP hS ls hl)
  rw [fl_at hj, hr, hrf]; rfl
theorem pw_put {a ci N index : Nat} {C : String} {T : u_T} {ty0 : Nat → FieldType} {ty : FieldType} {v : Int32} (j : Nat) (n : Nat) (hd : decode K.2.2.1 pc = .ok (.putfield index, 3)) (hn : pc + 3 = n) (hin : ∀ w ∈ u_ws C T N, w ∈ K.2.2.2.2.2.1) (hty : ∀ k, k < N → parseFieldDescriptor (T k).2.2.1 = some (ty0 k)) (hnm : ∀ a, a < N → ∀ b, b < N → a ≠ b → (T a).2.1 ≠ (T b).2.1) (hlk : Cond.fieldLink K.2.1 index (T j).1 (T j).2.1 (T j).2.2.1 ∈ K.2.2.2.2.2.1) (ha : a < 313) (hly : ly a = (ci, N)) (hci : ci < 8) (hc : vwCl[ci]? = some (C, T, N)) (hj : j < N) (hr : isRf ci j = false) (hfin : (T j).2.2.2 = false) (hpd : parseFieldDescriptor (T j).2.2.1 = some ty) (hnw : narrow ty (.int v) = .int v) (hfit : fits ty (.int v) = true) (k : PW G K n lv st (st_ mm a j v)) : PW G K pc lv (.int v :: .ref (G.1 + a) :: st) mm := fun p e s m args below meth c A H locs hP hS ls hl => by
  subst hn
  refine va_put (fs := fl G.1 mm a ci N) A.1 A.2.1 A.2.2.2.2.2.1 hin ty0 hty hnm A.2.2.2.2.1 A.2.2.2.2.2.2.2.1.1 hP (wsA_D G mm) hS a (by rw [wsA_at G mm ha, ce_o G mm hly hci]) hc j hj (A.2.2.2.2.2.1 _ hlk) (fun _ h9 => h9) hfin hpd hnw hfit (by rw [fl_len]; exact hj) hd (fun H1 locs1 hP1 hD1 hS1 => ?_)
  rw [wsA_set G mm (st_ mm a j v) ha (by rw [ce_o G _ hly hci, fl_set hj hr]) st_off] at hP1
  exact k p e s m args below meth c A H1 locs1 hP1 hS1 ls hl
theorem pw_iald {a n0 : Nat} {i : Int32} (n : Nat) (hd : decode K.2.2.1 pc = .ok (.iaload, 1)) (hn : pc + 1 = n) (ha : a < 313) (hly : ly a = (8, n0)) (hin : vp_in i n0) (k : PW G K n lv (.int (mm a (ix i)) :: st) mm) : PW G K pc lv (.int i :: .ref (G.1 + a) :: st) mm := fun p e s m args below meth c A H locs hP hS ls hl => by
  subst hn
  exact va_iald A.1 A.2.1 A.2.2.2.2.2.2.2.1.1 hP a 0 (by rw [wsA_at G mm ha, ce_i G mm hly]) rfl hin hd (k p e s m args below meth c A H locs hP hS ls hl)
theorem pw_zald {a n0 : Nat} {i : Int32} (n : Nat) (hd : decode K.2.2.1 pc = .ok (.baload, 1)) (hn : pc + 1 = n) (ha : a < 313) (hly : ly a = (9, n0)) (hin : vp_in i n0) (k : PW G K n lv (.int (mm a (ix i)) :: st) mm) : PW G K pc lv (.int i :: .ref (G.1 + a) :: st) mm := fun p e s m args below meth c A H locs hP hS ls hl => by
  subst hn
  exact va_zald A.1 A.2.1 A.2.2.2.2.2.2.2.1.1 hP a 1 (by rw [wsA_at G mm ha, ce_z G mm hly]) rfl hin hd (k p e s m args below meth c A H locs hP hS ls hl)
theorem pw_iast {a n0 : Nat} {i v : Int32} (n : Nat) (hd : decode K.2.2.1 pc = .ok (.iastore, 1)) (hn : pc + 1 = n) (ha : a < 313) (hly : ly a = (8, n0)) (hin : vp_in i n0) (k : PW G K n lv st (st_ mm a (ix i) v)) : PW G K pc lv (.int v :: .int i :: .ref (G.1 + a) :: st) mm := fun p e s m args below meth c A H locs hP hS ls hl => by
  subst hn
  refine va_iast A.1 A.2.1 A.2.2.2.2.2.2.2.1.1 hP (wsA_D G mm) hS a 0 (by rw [wsA_at G mm ha, ce_i G mm hly]) rfl hin hd (fun H1 locs1 hP1 hD1 hS1 => ?_)
  rw [wsA_set G mm (st_ mm a (ix i) v) ha (by rw [ce_i G _ hly, st_upd]; rfl) st_off] at hP1
  exact k p e s m args below meth c A H1 locs1 hP1 hS1 ls hl
theorem pw_zast {a n0 : Nat} {i v : Int32} (n : Nat) (hd : decode K.2.2.1 pc = .ok (.bastore, 1)) (hn : pc + 1 = n) (ha : a < 313) (hly : ly a = (9, n0)) (hin : vp_in i n0) (hv : vp_nar .boolean v = v) (k : PW G K n lv st (st_ mm a (ix i) v)) : PW G K pc lv (.int v :: .int i :: .ref (G.1 + a) :: st) mm := fun p e s m args below meth c A H locs hP hS ls hl => by
  subst hn
  refine va_zast A.1 A.2.1 A.2.2.2.2.2.2.2.1.1 hP (wsA_D G mm) hS a 1 (by rw [wsA_at G mm ha, ce_z G mm hly]) rfl hin hd (fun H1 locs1 hP1 hD1 hS1 => ?_)
  rw [wsA_set G mm (st_ mm a (ix i) v) ha (by rw [ce_z G _ hly, st_upd, hv]; rfl) st_off] at hP1
  exact k p e s m args below meth c A H1 locs1 hP1 hS1 ls hl
theorem pw_aaldR {a n0 : Nat} {i : Int32} (n : Nat) (hd : decode K.2.2.1 pc = .ok (.aaload, 1)) (hn : pc + 1 = n) (ha : a < 313) (hly : ly a = (10, n0)) (hin : vp_in i n0) (k : PW G K n lv (.ref (G.1 + rf a (ix i)) :: st) mm) : PW G K pc lv (.int i :: .ref (G.1 + a) :: st) mm := fun p e s m args below meth c A H locs hP hS ls hl => by
  subst hn
  exact va_aldq (f := fun j => some (G.1 + rf a j)) A.1 A.2.1 A.2.2.2.2.2.2.2.1.1 hP a 2 (by rw [wsA_at G mm ha, ce_r G mm hly]) rfl hin hd (k p e s m args below meth c A H locs hP hS ls hl)
theorem pw_aaldW {a n0 : Nat} {i : Int32} (n : Nat) (hd : decode K.2.2.1 pc = .ok (.aaload, 1)) (hn : pc + 1 = n) (ha : a < 313) (hly : ly a = (11, n0)) (hin : vp_in i n0) (k : PW G K n lv (.ref (G.1 + rf a (ix i)) :: st) mm) : PW G K pc lv (.int i :: .ref (G.1 + a) :: st) mm := fun p e s m args below meth c A H locs hP hS ls hl => by
  subst hn
  exact va_aldq (f := fun j => some (G.1 + rf a j)) A.1 A.2.1 A.2.2.2.2.2.2.2.1.1 hP a 3 (by rw [wsA_at G mm ha, ce_w G mm hly]) rfl hin hd (k p e s m args below meth c A H locs hP hS ls hl)
theorem pw_mmax {x y : Int32} {index : Nat} (n : Nat) (hd : decode K.2.2.1 pc = .ok (.invokestatic index, 3)) (hn : pc + 3 = n) (h1 : Cond.methodLink K.2.1 index Lib.Math.max.name ∈ K.2.2.2.2.2.1) (h2 : Cond.static Lib.Math.max.name ∈ K.2.2.2.2.2.1) (h3 : Cond.initialized "java/lang/Math" ∈ K.2.2.2.2.2.1) (h4 : Cond.code Lib.Math.max.name Lib.Math.max.code 2 (some .int) ∈ K.2.2.2.2.2.1) (h5 : 1 ≤ K.2.2.2.2.2.2.1.frames) (h6 : (st.map fun v => v.category).sum + 13 ≤ K.2.2.2.2.2.2.1.locals) (h7 : K.2.2.2.2.2.2.2.2.1 ≤ K.2.2.2.2.2.2.1.cells) (h8 : K.2.2.2.2.2.2.2.2.2.1 ≤ K.2.2.2.2.2.2.1.slots) (k : PW G K n lv (.int (if x < y then y else x) :: st) mm) : PW G K pc lv (.int y :: .int x :: st) mm := fun p e s m args below meth c A H locs hP hS ls hl => by
  subst hn
  exact va_mmax A.1 A.2.1 (A.2.2.2.1.trans hl.1.symm) A.2.2.2.2.1 (A.2.2.2.2.2.1 _ h1) (A.2.2.2.2.2.1 _ h2) (A.2.2.2.2.2.1 _ h3) (A.2.2.2.2.2.1 _ h4) h5 h6 h7 h8 hd (k p e s m args below meth c A H locs hP hS ls hl)
theorem pw_mmin {x y : Int32} {index : Nat} (n : Nat) (hd : decode K.2.2.1 pc = .ok (.invokestatic index, 3)) (hn : pc + 3 = n) (h1 : Cond.methodLink K.2.1 index Lib.Math.min.name ∈ K.2.2.2.2.2.1) (h2 : Cond.static Lib.Math.min.name ∈ K.2.2.2.2.2.1) (h3 : Cond.initialized "java/lang/Math" ∈ K.2.2.2.2.2.1) (h4 : Cond.code Lib.Math.min.name Lib.Math.min.code 2 (some .int) ∈ K.2.2.2.2.2.1) (h5 : 1 ≤ K.2.2.2.2.2.2.1.frames) (h6 : (st.map fun v => v.category).sum + 13 ≤ K.2.2.2.2.2.2.1.locals) (h7 : K.2.2.2.2.2.2.2.2.1 ≤ K.2.2.2.2.2.2.1.cells) (h8 : K.2.2.2.2.2.2.2.2.2.1 ≤ K.2.2.2.2.2.2.1.slots) (k : PW G K n lv (.int (if y < x then y else x) :: st) mm) : PW G K pc lv (.int y :: .int x :: st) mm := fun p e s m args below meth c A H locs hP hS ls hl => by
  subst hn
  exact va_mmin A.1 A.2.1 (A.2.2.2.1.trans hl.1.symm) A.2.2.2.2.1 (A.2.2.2.2.2.1 _ h1) (A.2.2.2.2.2.1 _ h2) (A.2.2.2.2.2.1 _ h3) (A.2.2.2.2.2.1 _ h4) h5 h6 h7 h8 hd (k p e s m args below meth c A H locs hP hS ls hl)
theorem pw_copy {a0 a1 n0 n1 index : Nat} {sp dp z : Int32} (n : Nat) (hd : decode K.2.2.1 pc = .ok (.invokestatic index, 3)) (hn : pc + 3 = n) (h1 : Cond.methodLink K.2.1 index arraycopyName ∈ K.2.2.2.2.2.1) (h2 : Cond.native arraycopyName ∈ K.2.2.2.2.2.1) (h3 : Cond.static arraycopyName ∈ K.2.2.2.2.2.1) (h4 : Cond.initialized "java/lang/System" ∈ K.2.2.2.2.2.1) (h5 : 1 ≤ K.2.2.2.2.2.2.1.frames) (h6 : (st.map fun v => v.category).sum + (nativeFrameWords "java/lang/System" "arraycopy" 5 + 11) ≤ K.2.2.2.2.2.2.1.locals) (ha0 : a0 < 313) (hly0 : ly a0 = (8, n0)) (ha1 : a1 < 313) (hly1 : ly a1 = (8, n1)) (g : ¬ sp < 0 ∧ ¬ dp < 0 ∧ ¬ z < 0 ∧ ix sp + ix z ≤ n0 ∧ ix dp + ix z ≤ n1) (k : PW G K n lv st (cp_ mm a0 (ix sp) a1 (ix dp) (ix z))) : PW G K pc lv (.int z :: .int dp :: .ref (G.1 + a1) :: .int sp :: .ref (G.1 + a0) :: st) mm := fun p e s m args below meth c A H locs hP hS ls hl => by
  subst hn
  refine va_copyi A.1 A.2.1 (A.2.2.2.1.trans hl.1.symm) A.2.2.2.2.1 (A.2.2.2.2.2.1 _ h1) (A.2.2.2.2.2.1 _ h2) (A.2.2.2.2.2.1 _ h3) (A.2.2.2.2.2.1 _ h4) A.2.2.2.2.2.2.2.1.1 hP (wsA_D G mm) hS a0 a1 0 0 (by rw [wsA_at G mm ha0, ce_i G mm hly0]) (by rw [wsA_at G mm ha1, ce_i G mm hly1]) rfl rfl rfl g.1 g.2.1 g.2.2.1 g.2.2.2.1 g.2.2.2.2 (fun _ _ => rfl) h5 h6 hd (fun H1 locs1 hP1 hD1 hS1 => ?_)
  rw [wsA_set G mm (cp_ mm a0 (ix sp) a1 (ix dp) (ix z)) ha1 (by rw [ce_i G _ hly1, cp_on]; rfl) cp_off] at hP1
  exact k p e s m args below meth c A H1 locs1 hP1 hS1 ls hl
theorem pw_gets1 {index : Nat} (n : Nat) (hd : decode K.2.2.1 pc = .ok (.getstatic index, 3)) (hn : pc + 3 = n) (h1 : Cond.fieldLink K.2.1 index "TearGuests" "IS_ALSO" "[I" ∈ K.2.2.2.2.2.1) (k : PW G K n lv (.ref G.2.2.2.1 :: st) mm) : PW G K pc lv st mm := fun p e s m args below meth c A H locs hP hS ls hl => by subst hn; exact va_gets A.1 A.2.1 A.2.2.2.2.2.2.2.1.2.1.1 hS A.2.2.2.2.1 (A.2.2.2.2.2.1 _ h1) (fun _ h9 => h9) hd (k p e s m args below meth c A H locs hP hS ls hl)
theorem pw_tald1 {i : Int32} (n : Nat) (hd : decode K.2.2.1 pc = .ok (.iaload, 1)) (hn : pc + 1 = n) (hin : vp_in i 6) (k : PW G K n lv (.int (tbl1 (ix i)) :: st) mm) : PW G K pc lv (.int i :: .ref G.2.2.2.1 :: st) mm := fun p e s m args below meth c A H locs hP hS ls hl => by subst hn; exact va_ti A.1 A.2.1 A.2.2.2.2.2.2.2.1.2.1.2 hS hin rfl hd (k p e s m args below meth c A H locs hP hS ls hl)
theorem pw_gets2 {index : Nat} (n : Nat) (hd : decode K.2.2.1 pc = .ok (.getstatic index, 3)) (hn : pc + 3 = n) (h1 : Cond.fieldLink K.2.1 index "TearGuests" "SIZE_BODY" "[I" ∈ K.2.2.2.2.2.1) (k : PW G K n lv (.ref G.2.2.2.2.1 :: st) mm) : PW G K pc lv st mm := fun p e s m args below meth c A H locs hP hS ls hl => by subst hn; exact va_gets A.1 A.2.1 A.2.2.2.2.2.2.2.1.2.2.1.1 hS A.2.2.2.2.1 (A.2.2.2.2.2.1 _ h1) (fun _ h9 => h9) hd (k p e s m args below meth c A H locs hP hS ls hl)
theorem pw_tald2 {i : Int32} (n : Nat) (hd : decode K.2.2.1 pc = .ok (.iaload, 1)) (hn : pc + 1 = n) (hin : vp_in i 6) (k : PW G K n lv (.int (tbl2 (ix i)) :: st) mm) : PW G K pc lv (.int i :: .ref G.2.2.2.2.1 :: st) mm := fun p e s m args below meth c A H locs hP hS ls hl => by subst hn; exact va_ti A.1 A.2.1 A.2.2.2.2.2.2.2.1.2.2.1.2 hS hin rfl hd (k p e s m args below meth c A H locs hP hS ls hl)
theorem pw_gets3 {index : Nat} (n : Nat) (hd : decode K.2.2.1 pc = .ok (.getstatic index, 3)) (hn : pc + 3 = n) (h1 : Cond.fieldLink K.2.1 index "TearGuests" "MARK_BODY" "[I" ∈ K.2.2.2.2.2.1) (k : PW G K n lv (.ref G.2.2.2.2.2 :: st) mm) : PW G K pc lv st mm := fun p e s m args below meth c A H locs hP hS ls hl => by subst hn; exact va_gets A.1 A.2.1 A.2.2.2.2.2.2.2.1.2.2.2.1 hS A.2.2.2.2.1 (A.2.2.2.2.2.1 _ h1) (fun _ h9 => h9) hd (k p e s m args below meth c A H locs hP hS ls hl)
theorem pw_tald3 {i : Int32} (n : Nat) (hd : decode K.2.2.1 pc = .ok (.iaload, 1)) (hn : pc + 1 = n) (hin : vp_in i 6) (k : PW G K n lv (.int (tbl3 (ix i)) :: st) mm) : PW G K pc lv (.int i :: .ref G.2.2.2.2.2 :: st) mm := fun p e s m args below meth c A H locs hP hS ls hl => by subst hn; exact va_ti A.1 A.2.1 A.2.2.2.2.2.2.2.1.2.2.2.2 hS hin rfl hd (k p e s m args below meth c A H locs hP hS ls hl)
end PWS
/-! contracts: exact answers -/
def rmD (d : Nat) : Room := { frames := d, cells := 0, slots := 0, locals := 60 * d }
def Qi (G : Gx) (r : Int32) (m' : Mm) : Array Value → State → Outcome → State → Prop := va_Qi (S := Mm) (fun v u => v = r ∧ u = m') (Bx G) (Aq G)
def Qv (G : Gx) (m' : Mm) : Array Value → State → Outcome → State → Prop := va_Qv (S := Mm) (fun u => u = m') (Bx G) (Aq G)
def Qr (G : Gx) (r : Nat) (m' : Mm) : Array Value → State → Outcome → State → Prop := va_Qr (S := Mm) (fun u => u = m') (fun u a t => a = G.1 + r ∧ Bx G u t) (Aq G)
def Cn (l : Launch) (G : Gx) (d : Nat) (y : MethodName) (ws : List Cond) (av : List Value) (mm : Mm) (Qc : Array Value → State → Outcome → State → Prop) : Prop := Met l y ws (rmD d) (va_Pc av (Bx G mm)) Qc 0 0 (Aq G)
abbrev KM (l : Launch) (G : Gx) (own : String) (cc : ByteArray) (nL : Nat) (ret : Option FieldType) (Ts : List Cond) (d : Nat) (Qc : Array Value → State → Outcome → State → Prop) : Kx := (l, own, cc, nL, ret, Ts, rmD d, fun below args s => MQ below Qc args s 0 0 (Aq G), 0, 0, fun _ _ => True)
theorem Cn.of {l : Launch} {G : Gx} {d : Nat} {y : MethodName} {own : String} {cc : ByteArray} {nL : Nat} {ret : Option FieldType} {ws ws' : List Cond} {av : List Value} {mm : Mm} {Qc : Array Value → State → Outcome → State → Prop} {lv : List (Nat × Value)}
    (hy : plainName y.cls = true) (ho : y.cls = own) (hw : ws = Cond.code y cc nL ret :: ws') (hlen : (lg_sl av).length ≤ nL) (hlv : lv_args 0 av = lv) (k : PW G (KM l G own cc nL ret ws d Qc) 0 lv [] mm) : Cn l G d y ws av mm Qc := by
  refine Met.ofW (cc := cc) (maxL := nL) (ret := ret) hy hw ?_
  intro p e s m args below meth c s₁ B hml hv
  obtain ⟨rfl, hP, hSx⟩ := hv
  have hts := atoms_spec (ws := ws) B.pre
  have hown : s.vm.findClass own = some m.cls := by rw [← ho]; exact findClass_of_methodNamed B.named
  have hl := lv_entry av (n := nL) hlen
  rw [lg_entry_eq]
  rw [hlv] at hl
  exact k p e s m av.toArray below meth c ⟨B.exec, B.bytes, B.returns, hml, hown, hts, B.notSynchronized, hSx, trivial⟩ s.heap [] hP va_S.rf _ hl
section PWR
variable {l : Launch} {G : Gx} {own : String} {cc : ByteArray} {nL d : Nat} {Ts : List Cond} {pc : Nat} {lv : List (Nat × Value)} {mm m' : Mm}
theorem pw_iret {v r : Int32} (hd : decode cc pc = .ok (.ireturn, 1)) (h : v = r ∧ mm = m') : PW G (KM l G own cc nL (some .int) Ts d (Qi G r m')) pc lv [.int v] mm := fun p e s m args below meth c A H locs hP hS ls hl => by
  have hlocks : meth.locks = false := A.2.2.2.2.2.2.1
  exact W.iret A.1 A.2.1 A.2.2.1 (fun t ht hW => ⟨⟨v, mm, rfl, h, by rw [ht]; exact hP, A.2.2.2.2.2.2.2.1.go hW.alike hS ht⟩, hS.F ht⟩) hS.2.2 hd hlocks
theorem pw_zret {v r : Int32} (hd : decode cc pc = .ok (.ireturn, 1)) (hz : v = 0 ∨ v = 1) (h : v = r ∧ mm = m') : PW G (KM l G own cc nL (some .boolean) Ts d (Qi G r m')) pc lv [.int v] mm := fun p e s m args below meth c A H locs hP hS ls hl => by
  have hlocks : meth.locks = false := A.2.2.2.2.2.2.1
  exact W.zret A.1 A.2.1 A.2.2.1 (by rcases hz with rfl | rfl <;> rfl) (fun t ht hW => ⟨⟨v, mm, rfl, h, by rw [ht]; exact hP, A.2.2.2.2.2.2.2.1.go hW.alike hS ht⟩, hS.F ht⟩) hS.2.2 hd hlocks
theorem pw_vret (hd : decode cc pc = .ok (.return_, 1)) (h : mm = m') : PW G (KM l G own cc nL none Ts d (Qv G m')) pc lv [] mm := fun p e s m args below meth c A H locs hP hS ls hl => by
  have hlocks : meth.locks = false := A.2.2.2.2.2.2.1
  exact W.vret A.1 A.2.1 A.2.2.1 (fun t ht hW => ⟨⟨mm, rfl, h, by rw [ht]; exact hP, A.2.2.2.2.2.2.2.1.go hW.alike hS ht⟩, hS.F ht⟩) hS.2.2 hd hlocks
theorem pw_aret {C : String} {v r : Nat} (hd : decode cc pc = .ok (.areturn, 1)) (h : v = r ∧ mm = m') : PW G (KM l G own cc nL (some (.object C)) Ts d (Qr G r m')) pc lv [.ref (G.1 + v)] mm := fun p e s m args below meth c A H locs hP hS ls hl => by
  have hlocks : meth.locks = false := A.2.2.2.2.2.2.1
  exact W.aret A.1 A.2.1 A.2.2.1 (Or.inl ⟨_, rfl⟩) (Or.inr ⟨_, rfl⟩) (fun t ht hW => ⟨⟨mm, G.1 + v, rfl, h.2, by rw [h.1], by rw [ht]; exact hP, A.2.2.2.2.2.2.2.1.go hW.alike hS ht⟩, hS.F ht⟩) hS.2.2 hd hlocks
end PWR
section PWC
variable {G : Gx} {K : Kx} {pc : Nat} {lv : List (Nat × Value)} {st rest : List Value} {mm m1 : Mm} {y : MethodName} {C : String} {ws ws' : List Cond} {bytes : ByteArray} {maxL a ci N d index : Nat} {ret : Option FieldType} {T : u_T}
/-- the side conditions of a call: words, code, shape of the name, room -/
abbrev CkV (K : Kx) (index : Nat) (C : String) (y : MethodName) (ws ws' : List Cond) (bytes : ByteArray) (maxL : Nat) (ret : Option FieldType) (d na : Nat) : Prop :=
  GoodIn K.2.2.2.2.2.1 (wsV K.2.1 index C y ws) ∧ ws = Cond.code y bytes maxL ret :: ws' ∧ (y.cls = C ∧ y.cls ≠ "java/lang/invoke/MethodHandle" ∧ y.cls ≠ "java/lang/invoke/VarHandle" ∧ (parseMethodDescriptor y.desc).map (fun d => d.parameters.length) = some na) ∧ (d + 1 ≤ K.2.2.2.2.2.2.1.frames ∧ 8 + (maxL + 11) + 60 * d ≤ K.2.2.2.2.2.2.1.locals) ∧ (K.2.2.2.2.2.2.2.2.1 ≤ K.2.2.2.2.2.2.1.cells ∧ K.2.2.2.2.2.2.2.2.2.1 ≤ K.2.2.2.2.2.2.1.slots)
abbrev CkS (K : Kx) (index : Nat) (y : MethodName) (ws ws' : List Cond) (bytes : ByteArray) (maxL : Nat) (ret : Option FieldType) (d na : Nat) : Prop :=
  GoodIn K.2.2.2.2.2.1 (va_wsS K.2.1 index y ws) ∧ ws = Cond.code y bytes maxL ret :: ws' ∧ (y.cls ≠ "java/lang/invoke/MethodHandle" ∧ y.cls ≠ "java/lang/invoke/VarHandle" ∧ (parseMethodDescriptor y.desc).map (fun d => d.parameters.length) = some na) ∧ (d + 1 ≤ K.2.2.2.2.2.2.1.frames ∧ 8 + (maxL + 11) + 60 * d ≤ K.2.2.2.2.2.2.1.locals) ∧ (K.2.2.2.2.2.2.2.2.1 ≤ K.2.2.2.2.2.2.1.cells ∧ K.2.2.2.2.2.2.2.2.2.1 ≤ K.2.2.2.2.2.2.1.slots)
theorem pw_callVi {r : Int32} (n : Nat) (hd : decode K.2.2.1 pc = .ok (.invokevirtual index, 3)) (hn : pc + 3 = n) (As : List Value) (na : Nat) (hk : CkV K index C y ws ws' bytes maxL ret d na) (hly : ly a = (ci, N)) (hci : ci < 8) (ha : a < 313) (hc : vwCl[ci]? = some (C, T, N)) (hM : Cn K.1 G d y ws (.ref (G.1 + a) :: As) mm (Qi G r m1)) (hna : As.length = na) (hst : st = As.reverse ++ .ref (G.1 + a) :: rest) (hrm : (rest.map fun v => v.category).sum ≤ 8) (k : PW G K n lv (.int r :: rest) m1) : PW G K pc lv st mm := fun p e s m args below meth c A H locs hP hS ls hl => by
  subst hn
  subst hst
  refine va_calli (va_runV (As := As) (rest := rest) ⟨A.1, A.2.1, A.2.2.2.1, A.2.2.2.2.1, A.2.2.2.2.2.1⟩ hM (cwV na A.2.2.2.2.2.1 hk.1 hk.2.1 rfl rfl hk.2.2.1 hk.2.2.2.1) ⟨fun a U g mk q => ⟨q.1, q.2.blind⟩, va_recv A.2.2.2.2.2.2.2.1.1 hP hc (by rw [wsA_at G mm ha, ce_o G mm hly hci]), fun U hU hW => ⟨rfl, by rw [hU]; exact hP, A.2.2.2.2.2.2.2.1.go hW.alike hS hU⟩⟩ rfl hna hl.1 rfl (lv_room hrm) hd hk.2.2.2.2) hS (fun q _ h => h) (fun q h => h) (fun r1 u t H1 locs1 ht hvm hw hB hz1 hk1 hS1 => ?_)
  obtain ⟨rfl, rfl⟩ := hw
  obtain ⟨hP1, -⟩ := hB
  rw [ht] at hP1
  exact k p e s m args below meth c A H1 locs1 hP1 hS1 ls hl
theorem pw_callSi {r : Int32} (n : Nat) (hd : decode K.2.2.1 pc = .ok (.invokestatic index, 3)) (hn : pc + 3 = n) (As : List Value) (na : Nat) (hk : CkS K index y ws ws' bytes maxL ret d na) (hM : Cn K.1 G d y ws As mm (Qi G r m1)) (hna : As.length = na) (hst : st = As.reverse ++ rest) (hrm : (rest.map fun v => v.category).sum ≤ 8) (k : PW G K n lv (.int r :: rest) m1) : PW G K pc lv st mm := fun p e s m args below meth c A H locs hP hS ls hl => by
  subst hn
  subst hst
  refine va_calli (va_runS (As := As) (rest := rest) ⟨A.1, A.2.1, A.2.2.2.1, A.2.2.2.2.1, A.2.2.2.2.2.1⟩ hM (va_cwS na A.2.2.2.2.2.1 hk.1 hk.2.1 rfl rfl hk.2.2.1 hk.2.2.2.1) ⟨fun a U g mk q => ⟨q.1, q.2.blind⟩, fun U hU hW => ⟨rfl, by rw [hU]; exact hP, A.2.2.2.2.2.2.2.1.go hW.alike hS hU⟩⟩ rfl hna hl.1 rfl (lv_room hrm) hd hk.2.2.2.2) hS (fun q _ h => h) (fun q h => h) (fun r1 u t H1 locs1 ht hvm hw hB hz1 hk1 hS1 => ?_)
  obtain ⟨rfl, rfl⟩ := hw
  obtain ⟨hP1, -⟩ := hB
  rw [ht] at hP1
  exact k p e s m args below meth c A H1 locs1 hP1 hS1 ls hl
theorem pw_callVv (n : Nat) (hd : decode K.2.2.1 pc = .ok (.invokevirtual index, 3)) (hn : pc + 3 = n) (As : List Value) (na : Nat) (hk : CkV K index C y ws ws' bytes maxL ret d na) (hly : ly a = (ci, N)) (hci : ci < 8) (ha : a < 313) (hc : vwCl[ci]? = some (C, T, N)) (hM : Cn K.1 G d y ws (.ref (G.1 + a) :: As) mm (Qv G m1)) (hna : As.length = na) (hst : st = As.reverse ++ .ref (G.1 + a) :: rest) (hrm : (rest.map fun v => v.category).sum ≤ 8) (k : PW G K n lv rest m1) : PW G K pc lv st mm := fun p e s m args below meth c A H locs hP hS ls hl => by
  subst hn
  subst hst
  refine va_callv (va_runV (As := As) (rest := rest) ⟨A.1, A.2.1, A.2.2.2.1, A.2.2.2.2.1, A.2.2.2.2.2.1⟩ hM (cwV na A.2.2.2.2.2.1 hk.1 hk.2.1 rfl rfl hk.2.2.1 hk.2.2.2.1) ⟨fun a U g mk q => ⟨q.1, q.2.blind⟩, va_recv A.2.2.2.2.2.2.2.1.1 hP hc (by rw [wsA_at G mm ha, ce_o G mm hly hci]), fun U hU hW => ⟨rfl, by rw [hU]; exact hP, A.2.2.2.2.2.2.2.1.go hW.alike hS hU⟩⟩ rfl hna hl.1 rfl (lv_room hrm) hd hk.2.2.2.2) hS (fun q _ h => h) (fun q h => h) (fun u t H1 locs1 ht hvm hw hB hz1 hk1 hS1 => ?_)
  subst hw
  obtain ⟨hP1, -⟩ := hB
  rw [ht] at hP1
  exact k p e s m args below meth c A H1 locs1 hP1 hS1 ls hl
theorem pw_callSv (n : Nat) (hd : decode K.2.2.1 pc = .ok (.invokestatic index, 3)) (hn : pc + 3 = n) (As : List Value) (na : Nat) (hk : CkS K index y ws ws' bytes maxL ret d na) (hM : Cn K.1 G d y ws As mm (Qv G m1)) (hna : As.length = na) (hst : st = As.reverse ++ rest) (hrm : (rest.map fun v => v.category).sum ≤ 8) (k : PW G K n lv rest m1) : PW G K pc lv st mm := fun p e s m args below meth c A H locs hP hS ls hl => by
  subst hn
  subst hst
  refine va_callv (va_runS (As := As) (rest := rest) ⟨A.1, A.2.1, A.2.2.2.1, A.2.2.2.2.1, A.2.2.2.2.2.1⟩ hM (va_cwS na A.2.2.2.2.2.1 hk.1 hk.2.1 rfl rfl hk.2.2.1 hk.2.2.2.1) ⟨fun a U g mk q => ⟨q.1, q.2.blind⟩, fun U hU hW => ⟨rfl, by rw [hU]; exact hP, A.2.2.2.2.2.2.2.1.go hW.alike hS hU⟩⟩ rfl hna hl.1 rfl (lv_room hrm) hd hk.2.2.2.2) hS (fun q _ h => h) (fun q h => h) (fun u t H1 locs1 ht hvm hw hB hz1 hk1 hS1 => ?_)
  subst hw
  obtain ⟨hP1, -⟩ := hB
  rw [ht] at hP1
  exact k p e s m args below meth c A H1 locs1 hP1 hS1 ls hl
theorem pw_callVr {r : Nat} (n : Nat) (hd : decode K.2.2.1 pc = .ok (.invokevirtual index, 3)) (hn : pc + 3 = n) (As : List Value) (na : Nat) (hk : CkV K index C y ws ws' bytes maxL ret d na) (hly : ly a = (ci, N)) (hci : ci < 8) (ha : a < 313) (hc : vwCl[ci]? = some (C, T, N)) (hM : Cn K.1 G d y ws (.ref (G.1 + a) :: As) mm (Qr G r m1)) (hna : As.length = na) (hst : st = As.reverse ++ .ref (G.1 + a) :: rest) (hrm : (rest.map fun v => v.category).sum ≤ 8) (k : PW G K n lv (.ref (G.1 + r) :: rest) m1) : PW G K pc lv st mm := fun p e s m args below meth c A H locs hP hS ls hl => by
  subst hn
  subst hst
  refine va_callr (va_runV (As := As) (rest := rest) ⟨A.1, A.2.1, A.2.2.2.1, A.2.2.2.2.1, A.2.2.2.2.2.1⟩ hM (cwV na A.2.2.2.2.2.1 hk.1 hk.2.1 rfl rfl hk.2.2.1 hk.2.2.2.1) ⟨fun a U g mk q => ⟨q.1, q.2.blind⟩, va_recv A.2.2.2.2.2.2.2.1.1 hP hc (by rw [wsA_at G mm ha, ce_o G mm hly hci]), fun U hU hW => ⟨rfl, by rw [hU]; exact hP, A.2.2.2.2.2.2.2.1.go hW.alike hS hU⟩⟩ rfl hna hl.1 rfl (lv_room hrm) hd hk.2.2.2.2) hS (fun q _ h => h) (fun q h => h) (fun u b1 t H1 locs1 ht hvm hw hB hz1 hk1 hS1 => ?_)
  subst hw
  obtain ⟨rfl, hP1, -⟩ := hB
  rw [ht] at hP1
  exact k p e s m args below meth c A H1 locs1 hP1 hS1 ls hl
theorem pw_callSr {r : Nat} (n : Nat) (hd : decode K.2.2.1 pc = .ok (.invokestatic index, 3)) (hn : pc + 3 = n) (As : List Value) (na : Nat) (hk : CkS K index y ws ws' bytes maxL ret d na) (hM : Cn K.1 G d y ws As mm (Qr G r m1)) (hna : As.length = na) (hst : st = As.reverse ++ rest) (hrm : (rest.map fun v => v.category).sum ≤ 8) (k : PW G K n lv (.ref (G.1 + r) :: rest) m1) : PW G K pc lv st mm := fun p e s m args below meth c A H locs hP hS ls hl => by
  subst hn
  subst hst
  refine va_callr (va_runS (As := As) (rest := rest) ⟨A.1, A.2.1, A.2.2.2.1, A.2.2.2.2.1, A.2.2.2.2.2.1⟩ hM (va_cwS na A.2.2.2.2.2.1 hk.1 hk.2.1 rfl rfl hk.2.2.1 hk.2.2.2.1) ⟨fun a U g mk q => ⟨q.1, q.2.blind⟩, fun U hU hW => ⟨rfl, by rw [hU]; exact hP, A.2.2.2.2.2.2.2.1.go hW.alike hS hU⟩⟩ rfl hna hl.1 rfl (lv_room hrm) hd hk.2.2.2.2) hS (fun q _ h => h) (fun q h => h) (fun u b1 t H1 locs1 ht hvm hw hB hz1 hk1 hS1 => ?_)
  subst hw
  obtain ⟨rfl, hP1, -⟩ := hB
  rw [ht] at hP1
  exact k p e s m args below meth c A H1 locs1 hP1 hS1 ls hl
end PWC
