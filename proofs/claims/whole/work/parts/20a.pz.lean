/-! while the constructors run: the cells 0 .. n - 1 are there, the references as far as they are laid -/
abbrev Rm : Type := Nat → Nat → Option Nat
abbrev Zx : Type := Mm × Rm × Nat
def ur (r : Rm) (a k v : Nat) : Rm := fun a' k' => if a' = a ∧ k' = k then some v else r a' k'
def flZ (b : Nat) (m : Mm) (r : Rm) (a ci n : Nat) : List Value := (List.range n).map fun j => if isRf ci j then va_rf ((r a j).map fun q => b + q) else .int (m a j)
def ceZ (G : Gx) (m : Mm) (r : Rm) (a : Nat) : va_E :=
  if (ly a).1 = 8 then .inl (G.2.2.1.1, (ly a).2, .inl (m a)) else if (ly a).1 = 9 then .inl (G.2.2.1.2.1, (ly a).2, .inl (m a))
  else if (ly a).1 = 10 then .inl (G.2.2.1.2.2.1, (ly a).2, .inr (.inr (.inr (.inr fun j => (r a j).map fun q => G.1 + q)))) else if (ly a).1 = 11 then .inl (G.2.2.1.2.2.2, (ly a).2, .inr (.inr (.inr (.inr fun j => (r a j).map fun q => G.1 + q))))
  else .inr ((ly a).1, flZ G.1 m r a (ly a).1 (ly a).2)
def wsZ (G : Gx) (Z : Zx) : va_W := (List.range Z.2.2).map fun a => (G.1 + a, ceZ G Z.1 Z.2.1 a)
theorem wsZ_at (G : Gx) (Z : Zx) {a : Nat} (ha : a < Z.2.2) : (wsZ G Z)[a]? = some (G.1 + a, ceZ G Z.1 Z.2.1 a) := by
  simp [wsZ, List.getElem?_map, List.getElem?_range ha]
theorem wsZ_in {G : Gx} {Z : Zx} {k : Nat} {q : Nat × va_E} (h : (wsZ G Z)[k]? = some q) : k < Z.2.2 ∧ q = (G.1 + k, ceZ G Z.1 Z.2.1 k) := by
  by_cases hk : k < Z.2.2
  · rw [wsZ_at G Z hk] at h
    cases h; exact ⟨hk, rfl⟩
  · simp [wsZ, List.getElem?_map, List.getElem?_eq_none_iff.mpr (show (List.range Z.2.2).length ≤ k by simp; omega)] at h
theorem wsZ_D (G : Gx) (Z : Zx) : va_D (Aq G) (wsZ G Z) := by
  refine ⟨fun i j p q hi hj h => ?_, fun k q h => ?_⟩
  · obtain ⟨-, rfl⟩ := wsZ_in hi
    obtain ⟨-, rfl⟩ := wsZ_in hj
    have h' : G.1 + i = G.1 + j := h
    omega
  · obtain ⟨-, rfl⟩ := wsZ_in h
    exact Nat.le_add_right _ _
theorem wsZ_set (G : Gx) (m m' : Mm) (r r' : Rm) (n : Nat) {a : Nat} (ha : a < n) {x : Nat × va_E} (hx : x = (G.1 + a, ceZ G m' r' a)) (h1 : ∀ a', a' ≠ a → m' a' = m a') (h2 : ∀ a', a' ≠ a → r' a' = r a') : (wsZ G (m, r, n)).set a x = wsZ G (m', r', n) := by
  subst hx
  apply List.ext_getElem?
  intro k
  by_cases hk : k < n
  · by_cases hka : k = a
    · subst hka
      rw [List.getElem?_set_self (by simp [wsZ]; exact hk), wsZ_at G (m', r', n) hk]
    · rw [List.getElem?_set_ne (Ne.symm hka), wsZ_at G (m, r, n) hk, wsZ_at G (m', r', n) hk]
      have e : m' k = m k := h1 k hka
      have e1 : r' k = r k := h2 k hka
      have e2 : ceZ G m' r' k = ceZ G m r k := by simp [ceZ, flZ, e, e1]
      rw [show ceZ G (m', r', n).1 (m', r', n).2.1 k = ceZ G m' r' k from rfl, e2]
  · have l1 : ((wsZ G (m, r, n)).set a (G.1 + a, ceZ G m' r' a)).length ≤ k := by simp [wsZ]; omega
    have l2 : (wsZ G (m', r', n)).length ≤ k := by simp [wsZ]; omega
    rw [List.getElem?_eq_none_iff.mpr l1, List.getElem?_eq_none_iff.mpr l2]
theorem wsZ_push {D : va_G} {cl : List vw_C} {G : Gx} {m : Mm} {r : Rm} {n : Nat} {H H1 : Heap} (hP : va_P D cl (wsZ G (m, r, n)) H) (o1 : ∀ q, q < H.size → H1[q]? = H[q]?) (he : va_at D cl (G.1 + n, ceZ G m r n) H1) : va_P D cl (wsZ G (m, r, n + 1)) H1 := by
  intro k q hk
  obtain ⟨hkn, rfl⟩ := wsZ_in hk
  by_cases e : k = n
  · subst e; exact he
  · have hkl : k < n + 1 := hkn
    have h0 := wsZ_at G (m, r, n) (a := k) (show k < n by omega)
    exact (hP k _ h0).kept (o1 _ ((hP k _ h0).lt))
theorem flZ_at {b : Nat} {m : Mm} {r : Rm} {a ci N k : Nat} (hk : k < N) : (flZ b m r a ci N)[k]? = some (if isRf ci k then va_rf ((r a k).map fun q => b + q) else .int (m a k)) := by
  simp [flZ, List.getElem?_map, List.getElem?_range hk]
theorem flZ_len {b : Nat} {m : Mm} {r : Rm} {a ci N : Nat} : (flZ b m r a ci N).length = N := by simp [flZ]
theorem flZ_set {b : Nat} {m : Mm} {r : Rm} {a ci N k : Nat} (hk : k < N) (hr : isRf ci k = true) (v : Nat) : (flZ b m r a ci N).set k (.ref (b + v)) = flZ b m (ur r a k v) a ci N := by
  apply List.ext_getElem?
  intro j
  by_cases hj : j < N
  · by_cases hjk : j = k
    · subst hjk
      rw [List.getElem?_set_self (by rw [flZ_len]; exact hj), flZ_at hj]
      simp [hr, ur, va_rf]
    · rw [List.getElem?_set_ne (Ne.symm hjk), flZ_at hj, flZ_at hj]
      simp [ur, hjk]
  · have l1 : ((flZ b m r a ci N).set k (.ref (b + v))).length ≤ j := by simp [flZ]; omega
    have l2 : (flZ b m (ur r a k v) a ci N).length ≤ j := by simp [flZ]; omega
    rw [List.getElem?_eq_none_iff.mpr l1, List.getElem?_eq_none_iff.mpr l2]
theorem ur_off {r : Rm} {a k v : Nat} : ∀ a', a' ≠ a → ur r a k v a' = r a' := fun a' h => by funext k'; simp [ur, h]
theorem ceZ_o (G : Gx) (m : Mm) (r : Rm) {a ci N : Nat} (hly : ly a = (ci, N)) (hci : ci < 8) : ceZ G m r a = .inr (ci, flZ G.1 m r a ci N) := by
  unfold ceZ; rw [hly]
  have : ci ≠ 8 ∧ ci ≠ 9 ∧ ci ≠ 10 ∧ ci ≠ 11 := by omega
  simp [this]
theorem ceZ_i (G : Gx) (m : Mm) (r : Rm) {a n : Nat} (hly : ly a = (8, n)) : ceZ G m r a = .inl (G.2.2.1.1, n, .inl (m a)) := by unfold ceZ; rw [hly]; rfl
theorem ceZ_z (G : Gx) (m : Mm) (r : Rm) {a n : Nat} (hly : ly a = (9, n)) : ceZ G m r a = .inl (G.2.2.1.2.1, n, .inl (m a)) := by unfold ceZ; rw [hly]; rfl
theorem ceZ_r (G : Gx) (m : Mm) (r : Rm) {a n : Nat} (hly : ly a = (10, n)) : ceZ G m r a = .inl (G.2.2.1.2.2.1, n, .inr (.inr (.inr (.inr fun j => (r a j).map fun q => G.1 + q)))) := by unfold ceZ; rw [hly]; rfl
theorem ceZ_w (G : Gx) (m : Mm) (r : Rm) {a n : Nat} (hly : ly a = (11, n)) : ceZ G m r a = .inl (G.2.2.1.2.2.2, n, .inr (.inr (.inr (.inr fun j => (r a j).map fun q => G.1 + q)))) := by unfold ceZ; rw [hly]; rfl
/-- links to private constructors of nest mates; the classes of the arrays of references -/
def nestT : List (String × Nat × MethodName × String) := [("TearGuests", 17, yX3_init, "TearGuests"), ("TearGuests$Reader", 11, yX5_init, "TearGuests"), ("TearGuests", 24, yX5_init, "TearGuests"), ("TearGuests$Acts", 17, yX5_init, "TearGuests"), ("TearGuests", 38, yX1_init, "TearGuests"), ("TearGuests$Forecast", 11, yX5_init, "TearGuests"), ("TearGuests", 45, yX2_init, "TearGuests"), ("TearGuests$Guess", 11, yX5_init, "TearGuests"), ("TearGuests", 58, yX4_init, "TearGuests")]
def Nz (U : State) : Prop := va_AO "TearGuests$Row" U ∧ va_AO "TearGuests$Wedding" U ∧ ∀ q ∈ nestT, va_Nw (.methodLinkNest q.1 q.2.1 q.2.2.1 q.2.2.2) U
theorem Nz.warm {s U : State} (h : Nz s) (hW : s.WarmedH U.vm) : Nz U := ⟨h.1.moved hW.alike, h.2.1.moved hW.alike, fun q hq => va_Nw.warmM hW (h.2.2 q hq)⟩
theorem Nz.blind {U : State} {g : JFrame} {mk : MethodId} {a : Array Value} (h : Nz U) : Nz (U.calling g mk a) := ⟨h.1.moved (Vm.Alike.refl U.vm), h.2.1.moved (Vm.Alike.refl U.vm), fun q hq => va_Nw.same rfl rfl (h.2.2 q hq)⟩
theorem Sx.blind {G : Gx} {U : State} {g : JFrame} {mk : MethodId} {a : Array Value} (h : Sx G U) : Sx G (U.calling g mk a) := by
  obtain ⟨h0, ⟨h1, h2⟩, ⟨h3, h4⟩, ⟨h5, h6⟩⟩ := h
  have hvm : U.vm.Alike (U.calling g mk a).vm := Vm.Alike.refl U.vm
  exact ⟨h0.moved hvm, ⟨h1.moved hvm, h2.moved hvm⟩, ⟨h3.moved hvm, h4.moved hvm⟩, ⟨h5.moved hvm, h6.moved hvm⟩⟩
def AxZ (G : Gx) (K : Kx) (p : Program) (s : State) (m : MethodId) (args : Array Value) (meth : Method) (c : Code) : Prop := Ax G K p s m args meth c ∧ Nz s ∧ (K.2.1 = "TearGuestsLaw" ∨ meth.name = "<init>")
def PZ (G : Gx) (K : Kx) (cs sl pc : Nat) (lv : List (Nat × Value)) (st : List Value) (Z : Zx) : Prop :=
  ∀ (p : Program) (e : Env) (s : State) (m : MethodId) (args : Array Value) (below : List Frame) (meth : Method) (c : Code), AxZ G K p s m args meth c → ∀ (H : Heap) (locs : List Loc), va_P G.2.1 vwCl (wsZ G Z) H → H.size = G.1 + Z.2.2 → va_S (Aq G) s.heap H locs → ∀ ls : Array Slot, lv_has ls K.2.2.2.1 lv →
    W p K.1 e K.2.2.2.2.2.2.1 s m args below meth c H locs cs sl (K.2.2.2.2.2.2.2.1 below args s) (F0 m pc ls st)
section PZS
variable {G : Gx} {K : Kx} {cs sl pc : Nat} {lv lv' : List (Nat × Value)} {st : List Value} {m0 : Mm} {r0 : Rm} {n0 : Nat} {Z : Zx}
theorem pz_iconst {z : Int} {v : Int32} (hv : Int32.ofInt z = v) (n : Nat) (hd : decode K.2.2.1 pc = .ok (.iconst z, 1)) (hn : pc + 1 = n) (k : PZ G K cs sl n lv (.int v :: st) Z) : PZ G K cs sl pc lv st Z := fun p e s m args below meth c A H locs hP hz hS ls hl => by subst hn; exact lv_iconst A.1.1 A.1.2.1 hd hv (k p e s m args below meth c A H locs hP hz hS ls hl)
theorem pz_bipush {z : Int} {v : Int32} (hv : (Int8.ofInt z).toInt32 = v) (n : Nat) (hd : decode K.2.2.1 pc = .ok (.bipush z, 2)) (hn : pc + 2 = n) (k : PZ G K cs sl n lv (.int v :: st) Z) : PZ G K cs sl pc lv st Z := fun p e s m args below meth c A H locs hP hz hS ls hl => by subst hn; exact lv_bipush A.1.1 A.1.2.1 hd hv (k p e s m args below meth c A H locs hP hz hS ls hl)
theorem pz_sipush {z : Int} {v : Int32} (hv : (Int16.ofInt z).toInt32 = v) (n : Nat) (hd : decode K.2.2.1 pc = .ok (.sipush z, 3)) (hn : pc + 3 = n) (k : PZ G K cs sl n lv (.int v :: st) Z) : PZ G K cs sl pc lv st Z := fun p e s m args below meth c A H locs hP hz hS ls hl => by subst hn; exact lv_sipush A.1.1 A.1.2.1 hd hv (k p e s m args below meth c A H locs hP hz hS ls hl)
theorem pz_iload_n {i : Nat} {x : Int32} (j : Nat) {f : Fin 4} (hf : (f : Nat) = i) (hj : lv[j]? = some (i, .int x)) (n : Nat) (hd : decode K.2.2.1 pc = .ok (.iload_n f, 1)) (hn : pc + 1 = n) (k : PZ G K cs sl n lv (.int x :: st) Z) : PZ G K cs sl pc lv st Z := fun p e s m args below meth c A H locs hP hz hS ls hl => by subst hn; exact lv_iload_n A.1.1 A.1.2.1 hd hf (lv_at hl j hj) (k p e s m args below meth c A H locs hP hz hS ls hl)
theorem pz_aload_n {i : Nat} {x : Nat} (j : Nat) {f : Fin 4} (hf : (f : Nat) = i) (hj : lv[j]? = some (i, .ref x)) (n : Nat) (hd : decode K.2.2.1 pc = .ok (.aload_n f, 1)) (hn : pc + 1 = n) (k : PZ G K cs sl n lv (.ref x :: st) Z) : PZ G K cs sl pc lv st Z := fun p e s m args below meth c A H locs hP hz hS ls hl => by subst hn; exact lv_aload_n A.1.1 A.1.2.1 hd hf (lv_at hl j hj) (k p e s m args below meth c A H locs hP hz hS ls hl)
theorem pz_istore_n {i : Nat} {x : Int32} {f : Fin 4} (hf : (f : Nat) = i) (lv2 : List (Nat × Value)) (n : Nat) (hd : decode K.2.2.1 pc = .ok (.istore_n f, 1)) (hn : pc + 1 = n) (hi : i < K.2.2.2.1) (hl2 : (i, Value.int x) :: lv.filter (fun q => !(q.1 == i) && !(q.1 + 1 == i && q.2.category == 2)) = lv2) (k : PZ G K cs sl n lv2 st Z) : PZ G K cs sl pc lv (.int x :: st) Z := fun p e s m args below meth c A H locs hP hz hS ls hl => by subst hn; exact lv_istore_n A.1.1 A.1.2.1 hd hf hl hi hl2 (fun ls hl => (k p e s m args below meth c A H locs hP hz hS ls hl))
theorem pz_astore_n {i : Nat} {x : Nat} {f : Fin 4} (hf : (f : Nat) = i) (lv2 : List (Nat × Value)) (n : Nat) (hd : decode K.2.2.1 pc = .ok (.astore_n f, 1)) (hn : pc + 1 = n) (hi : i < K.2.2.2.1) (hl2 : (i, Value.ref x) :: lv.filter (fun q => !(q.1 == i) && !(q.1 + 1 == i && q.2.category == 2)) = lv2) (k : PZ G K cs sl n lv2 st Z) : PZ G K cs sl pc lv (.ref x :: st) Z := fun p e s m args below meth c A H locs hP hz hS ls hl => by subst hn; exact lv_astore_n A.1.1 A.1.2.1 hd hf hl hi hl2 (fun ls hl => (k p e s m args below meth c A H locs hP hz hS ls hl))
theorem pz_dup {v : Value} (hv : v.category = 1) (n : Nat) (hd : decode K.2.2.1 pc = .ok (.dup, 1)) (hn : pc + 1 = n) (k : PZ G K cs sl n lv (v :: v :: st) Z) : PZ G K cs sl pc lv (v :: st) Z := fun p e s m args below meth c A H locs hP hz hS ls hl => by subst hn; exact lv_dup A.1.1 A.1.2.1 hd hv (k p e s m args below meth c A H locs hP hz hS ls hl)
theorem pz_goto {off : Int} (n : Nat) (hd : decode K.2.2.1 pc = .ok (.goto off, 3)) (hn : (pc : Int) + off = (n : Int)) (k : PZ G K cs sl n lv st Z) : PZ G K cs sl pc lv st Z := fun p e s m args below meth c A H locs hP hz hS ls hl => lv_goto A.1.1 A.1.2.1 hd hn (k p e s m args below meth c A H locs hP hz hS ls hl)
theorem pz_icmp_ge {x y : Int32} {off : Int} (tg n : Nat) (hd : decode K.2.2.1 pc = .ok (.if_icmp .ge off, 3)) (ht : (pc : Int) + off = (tg : Int)) (hn : pc + 3 = n) (kt : y ≤ x → PZ G K cs sl tg lv st Z) (kf : ¬ y ≤ x → PZ G K cs sl n lv st Z) : PZ G K cs sl pc lv (.int y :: .int x :: st) Z := fun p e s m args below meth c A H locs hP hz hS ls hl => by subst hn; exact lv_icmp_ge A.1.1 A.1.2.1 hd ht (fun h => kt h p e s m args below meth c A H locs hP hz hS ls hl) (fun h => kf h p e s m args below meth c A H locs hP hz hS ls hl)
theorem pz_obj {a idx : Nat} (n : Nat) (hd : decode K.2.2.1 pc = .ok (.invokespecial idx, 3)) (hn : pc + 3 = n) (h1 : Cond.methodLink K.2.1 idx Lib.objectInit ∈ K.2.2.2.2.2.1) (h2 : Cond.instanceMethod Lib.objectInit ∈ K.2.2.2.2.2.1) (h3 : Cond.code Lib.objectInit ⟨#[0xb1]⟩ 1 none ∈ K.2.2.2.2.2.1) (hf : 1 ≤ K.2.2.2.2.2.2.1.frames) (hlo : (st.map fun v => v.category).sum + 12 ≤ K.2.2.2.2.2.2.1.locals) (k : PZ G K cs sl n lv st Z) : PZ G K cs sl pc lv (.ref a :: st) Z := fun p e s m args below meth c A H locs hP hz hS ls hl => by
  subst hn
  have hml : c.maxLocals = K.2.2.2.1 := A.1.2.2.2.1
  exact W.objInit A.1.1 A.1.2.1 A.1.2.2.2.2.1 (A.1.2.2.2.2.2.1 _ h1) (A.1.2.2.2.2.2.1 _ h2) (A.1.2.2.2.2.2.1 _ h3) rfl (by rw [hml]; exact hl.1) rfl hd hf (by show 2 * 0 + _ + 12 ≤ _; omega) (k p e s m args below meth c A H locs hP hz hS ls hl)
theorem pz_newI {N : Nat} {x : Int32} (nx : Nat) (hd : decode K.2.2.1 pc = .ok (.newarray .int, 2)) (hn : pc + 2 = nx) (hx0 : ¬ x < 0) (hxN : x.toNatClampNeg = N) (hw : Cond.arrayClass .int ∈ K.2.2.2.2.2.1) (hly : ly n0 = (8, N)) (hN : N ≤ 2000) (hm : m0 n0 = fun _ => 0) (hc : cs + 1 ≤ K.2.2.2.2.2.2.1.cells) (hs : sl + N ≤ K.2.2.2.2.2.2.1.slots) (k : PZ G K (cs + 1) (sl + N) nx lv (.ref (G.1 + n0) :: st) (m0, r0, n0 + 1)) : PZ G K cs sl pc lv (.int x :: st) (m0, r0, n0) := fun p e s m args below meth c A H locs hP hz hS ls hl => by
  subst hn
  refine va_newaK (atype := .int) (N := N) (h := G.1 + n0) A.1.1 A.1.2.1 (A.1.2.2.2.2.2.1 _ hw) rfl hd rfl hx0 hxN (by show N * 4 ≤ 536870912; omega) hc hs hz (fun H1 cA e1 z1 o1 hAr hNm => ?_)
  have hcI : cA = G.2.2.1.1 := Option.some.inj (hNm.symm.trans (A.1.2.2.2.2.2.2.2.1.1.2 0 _ rfl).2)
  refine k p e s m args below meth c A H1 locs (wsZ_push hP (fun q hq => o1 q (by rw [hz] at hq; exact hq)) ?_) (by rw [z1]; rfl) ⟨Nat.le_trans hS.1 (by rw [z1, hz]; exact Nat.le_succ _), fun q h1 h2 => (o1 q (by have h9 := Nat.lt_of_lt_of_le h1 hS.1; rw [hz] at h9; exact h9)).trans (hS.2.1 q h1 h2), hS.2.2⟩ ls hl
  rw [ceZ_i G m0 r0 hly, hm]
  show H1[G.1 + n0]? = some (vp_cell _ _)
  rw [vp_cell_i, ← hcI]
  exact e1
theorem pz_newB {N : Nat} {x : Int32} (nx : Nat) (hd : decode K.2.2.1 pc = .ok (.newarray .boolean, 2)) (hn : pc + 2 = nx) (hx0 : ¬ x < 0) (hxN : x.toNatClampNeg = N) (hw : Cond.arrayClass .boolean ∈ K.2.2.2.2.2.1) (hly : ly n0 = (9, N)) (hN : N ≤ 2000) (hm : m0 n0 = fun _ => 0) (hc : cs + 1 ≤ K.2.2.2.2.2.2.1.cells) (hs : sl + N ≤ K.2.2.2.2.2.2.1.slots) (k : PZ G K (cs + 1) (sl + N) nx lv (.ref (G.1 + n0) :: st) (m0, r0, n0 + 1)) : PZ G K cs sl pc lv (.int x :: st) (m0, r0, n0) := fun p e s m args below meth c A H locs hP hz hS ls hl => by
  subst hn
  refine va_newaK (atype := .boolean) (N := N) (h := G.1 + n0) A.1.1 A.1.2.1 (A.1.2.2.2.2.2.1 _ hw) rfl hd rfl hx0 hxN (by show N * 1 ≤ 536870912; omega) hc hs hz (fun H1 cA e1 z1 o1 hAr hNm => ?_)
  have hcI : cA = G.2.2.1.2.1 := Option.some.inj (hNm.symm.trans (A.1.2.2.2.2.2.2.2.1.1.2 1 _ rfl).2)
  refine k p e s m args below meth c A H1 locs (wsZ_push hP (fun q hq => o1 q (by rw [hz] at hq; exact hq)) ?_) (by rw [z1]; rfl) ⟨Nat.le_trans hS.1 (by rw [z1, hz]; exact Nat.le_succ _), fun q h1 h2 => (o1 q (by have h9 := Nat.lt_of_lt_of_le h1 hS.1; rw [hz] at h9; exact h9)).trans (hS.2.1 q h1 h2), hS.2.2⟩ ls hl
  rw [ceZ_z G m0 r0 hly, hm]
  show H1[G.1 + n0]? = some (vp_cell _ _)
  rw [vp_cell_i, ← hcI]
  exact e1
/-- an array of references: kind 10 of Rows, 11 of Weddings -/
theorem pz_newQ {N kd index : Nat} {C : String} {x : Int32} (nx : Nat) (hd : decode K.2.2.1 pc = .ok (.anewarray index, 3)) (hn : pc + 3 = nx) (hx0 : ¬ x < 0) (hxN : x.toNatClampNeg = N) (hkd : (kd = 10 ∧ C = "TearGuests$Row") ∨ (kd = 11 ∧ C = "TearGuests$Wedding")) (hw : Cond.classLink K.2.1 index C ∈ K.2.2.2.2.2.1) (hly : ly n0 = (kd, N)) (hN : N ≤ 2000) (hr : r0 n0 = fun _ => none) (hc : cs + 1 ≤ K.2.2.2.2.2.2.1.cells) (hs : sl + N ≤ K.2.2.2.2.2.2.1.slots) (k : PZ G K (cs + 1) (sl + N) nx lv (.ref (G.1 + n0) :: st) (m0, r0, n0 + 1)) : PZ G K cs sl pc lv (.int x :: st) (m0, r0, n0) := fun p e s m args below meth c A H locs hP hz hS ls hl => by
  subst hn
  subst hxN
  have hAO : va_AO C s := by
    rcases hkd with ⟨-, rfl⟩ | ⟨-, rfl⟩
    · exact A.2.1.1
    · exact A.2.1.2.1
  refine W.anew A.1.1 A.1.2.1 A.1.2.2.2.2.1 (A.1.2.2.2.2.2.1 _ hw) (va_AO.use hAO) rfl hd rfl hx0 (by omega) hc hs (fun cA kA comp f1 f2 f3 f4 => ?_)
  generalize hH1 : H.push ({ cls := cA, slots := Array.replicate x.toNatClampNeg .null, vm := .none } : Cell) = H1
  have z1 : H1.size = H.size + 1 := by rw [← hH1, Array.size_push]
  have e1 : H1[H.size]? = some (arrV cA x.toNatClampNeg (fun _ => .null)) := by rw [← hH1, Array.getElem?_push_size, ← arrV_new]
  have o1 : ∀ q : Nat, q < H.size → H1[q]? = H[q]? := fun q hq => by rw [← hH1, Array.getElem?_push, if_neg (Nat.ne_of_lt hq)]
  have hzz : H.size = G.1 + n0 := hz
  rw [hzz]
  rw [hzz] at e1
  refine k p e s m args below meth c A H1 locs (wsZ_push hP o1 ?_) (by rw [z1, hzz]; rfl) ⟨Nat.le_trans hS.1 (by rw [z1]; exact Nat.le_succ _), fun q h1 h2 => (o1 q (Nat.lt_of_lt_of_le h1 hS.1)).trans (hS.2.1 q h1 h2), hS.2.2⟩ ls hl
  rcases hkd with ⟨rfl, rfl⟩ | ⟨rfl, rfl⟩
  · have hcI : cA = G.2.2.1.2.2.1 := by
      obtain ⟨kA', comp', q1, q2, q3, q4⟩ := (A.1.2.2.2.2.2.2.2.1.1.2 2 _ rfl).2
      exact Option.some.inj (f1.symm.trans q4)
    rw [ceZ_r G m0 r0 hly, hr]
    show H1[G.1 + n0]? = some (vp_cell _ _)
    rw [vp_cell_q, ← hcI]
    exact e1
  · have hcI : cA = G.2.2.1.2.2.2 := by
      obtain ⟨kA', comp', q1, q2, q3, q4⟩ := (A.1.2.2.2.2.2.2.2.1.1.2 3 _ rfl).2
      exact Option.some.inj (f1.symm.trans q4)
    rw [ceZ_w G m0 r0 hly, hr]
    show H1[G.1 + n0]? = some (vp_cell _ _)
    rw [vp_cell_q, ← hcI]
    exact e1
theorem pz_new {N ci index : Nat} {C : String} {T : u_T} {ty : Nat → FieldType} (nx : Nat) (hd : decode K.2.2.1 pc = .ok (.new index, 3)) (hn : pc + 3 = nx) (hin : ∀ w ∈ u_ws C T N, w ∈ K.2.2.2.2.2.1) (hty : ∀ k, k < N → parseFieldDescriptor (T k).2.2.1 = some (ty k)) (hdef : ∀ j, j < N → defaultValue (ty j) = if isRf ci j then .null else .int 0) (h1 : Cond.classLink K.2.1 index C ∈ K.2.2.2.2.2.1) (h2 : Cond.instantiable C N ∈ K.2.2.2.2.2.1) (h3 : Cond.initialized C ∈ K.2.2.2.2.2.1) (hly : ly n0 = (ci, N)) (hci : ci < 8) (hcl : vwCl[ci]? = some (C, T, N)) (hm : m0 n0 = fun _ => 0) (hr : r0 n0 = fun _ => none) (hc : cs + 1 ≤ K.2.2.2.2.2.2.1.cells) (hs : sl + N ≤ K.2.2.2.2.2.2.1.slots) (k : PZ G K (cs + 1) (sl + N) nx lv (.ref (G.1 + n0) :: st) (m0, r0, n0 + 1)) : PZ G K cs sl pc lv st (m0, r0, n0) := fun p e s m args below meth c A H locs hP hz hS ls hl => by
  subst hn
  have hK := A.1.2.2.2.2.2.2.2.1.1
  have hKn := hK.1 ci _ hcl
  refine W.newcK (h := G.1 + n0) A.1.1 A.1.2.1 A.1.2.2.2.2.1 (A.1.2.2.2.2.2.1 _ h1) (A.1.2.2.2.2.2.1 _ h2) (A.1.2.2.2.2.2.1 _ h3) rfl hd hc hs hKn.2.1 hz (fun H1 kC hkC e1 z1 o1 => ?_)
  refine k p e s m args below meth c A H1 locs (wsZ_push hP (fun q hq => o1 q (by rw [hz] at hq; exact hq)) ?_) (by rw [z1]; rfl) ⟨Nat.le_trans hS.1 (by rw [z1, hz]; exact Nat.le_succ _), fun q h1 h2 => (o1 q (by have h9 := Nat.lt_of_lt_of_le h1 hS.1; rw [hz] at h9; exact h9)).trans (hS.2.1 q h1 h2), hS.2.2⟩ ls hl
  rw [ceZ_o G m0 r0 hly hci]
  refine ⟨_, hcl, (u_born ty A.1.2.2.2.2.2.1 hin hKn hkC e1 hty).to (fun j hj => ?_)⟩
  rw [hdef j hj]
  show _ = (flZ G.1 m0 r0 n0 ci N).getD j .null
  rw [List.getD_eq_getElem?_getD, flZ_at hj, hm, hr]
  rfl
theorem pz_getR {a ci N index q : Nat} {C : String} {T : u_T} (j : Nat) (n : Nat) (hd : decode K.2.2.1 pc = .ok (.getfield index, 3)) (hn : pc + 3 = n) (hin : ∀ w ∈ u_ws C T N, w ∈ K.2.2.2.2.2.1) (hlk : Cond.fieldLink K.2.1 index (T j).1 (T j).2.1 (T j).2.2.1 ∈ K.2.2.2.2.2.1) (ha : a < n0) (hly : ly a = (ci, N)) (hci : ci < 8) (hc : vwCl[ci]? = some (C, T, N)) (hj : j < N) (hr : isRf ci j = true) (hrf : r0 a j = some q) (k : PZ G K cs sl n lv (.ref (G.1 + q) :: st) (m0, r0, n0)) : PZ G K cs sl pc lv (.ref (G.1 + a) :: st) (m0, r0, n0) := fun p e s m args below meth c A H locs hP hz hS ls hl => by
  subst hn
  refine va_get (v := .ref (G.1 + q)) A.1.1 A.1.2.1 A.1.2.2.2.2.2.1 hin A.1.2.2.2.2.1 A.1.2.2.2.2.2.2.2.1.1 hP a (by rw [wsZ_at G (m0, r0, n0) ha, show ceZ G (m0, r0, n0).1 (m0, r0, n0).2.1 a = ceZ G m0 r0 a from rfl, ceZ_o G m0 r0 hly hci]) hc j hj (A.1.2.2.2.2.2.1 _ hlk) (fun _ h9 => h9) ?_ hd (k p e s m args below meth c A H locs hP hz hS ls hl)
  rw [flZ_at hj, hr, hrf]; rfl
/-- a reference laid into a final field by a constructor -/
theorem pz_putF {a ci N index q : Nat} {C : String} {T : u_T} {ty0 : Nat → FieldType} {ty : FieldType} (j : Nat) (n : Nat) (hd : decode K.2.2.1 pc = .ok (.putfield index, 3)) (hn : pc + 3 = n) (hin : ∀ w ∈ u_ws C T N, w ∈ K.2.2.2.2.2.1) (hty : ∀ k, k < N → parseFieldDescriptor (T k).2.2.1 = some (ty0 k)) (hnm : ∀ a, a < N → ∀ b, b < N → a ≠ b → (T a).2.1 ≠ (T b).2.1) (hlk : Cond.fieldLink K.2.1 index (T j).1 (T j).2.1 (T j).2.2.1 ∈ K.2.2.2.2.2.1) (ha : a < n0) (hly : ly a = (ci, N)) (hci : ci < 8) (hc : vwCl[ci]? = some (C, T, N)) (hj : j < N) (hr : isRf ci j = true) (hfin : (T j).2.2.2 = true) (hown : K.2.1 ≠ "TearGuestsLaw") (hdecl : (T j).1 = K.2.1) (hpd : parseFieldDescriptor (T j).2.2.1 = some ty) (hnw : ∀ q, narrow ty (.ref q) = .ref q) (hfit : ∀ q, fits ty (.ref q) = true) (k : PZ G K cs sl n lv st (m0, ur r0 a j q, n0)) : PZ G K cs sl pc lv (.ref (G.1 + q) :: .ref (G.1 + a) :: st) (m0, r0, n0) := fun p e s m args below meth c A H locs hP hz hS ls hl => by
  subst hn
  have hts := A.1.2.2.2.2.2.1
  have hK := A.1.2.2.2.2.2.2.2.1.1
  have hin2 : meth.name = "<init>" := A.2.2.resolve_left hown
  have hap := va_apart (own := K.2.1) hts hin ty0 hty hnm hK hc
  have he : (wsZ G (m0, r0, n0))[a]? = some (G.1 + a, .inr (ci, flZ G.1 m0 r0 a ci N)) := by rw [wsZ_at G (m0, r0, n0) ha, show ceZ G (m0, r0, n0).1 (m0, r0, n0).2.1 a = ceZ G m0 r0 a from rfl, ceZ_o G m0 r0 hly hci]
  obtain ⟨rr, h1, cell, q1, q2, q3, q4⟩ := hP a _ he
  have hrr : rr = (C, T, N) := Option.some.inj (h1.symm.trans hc)
  subst hrr
  obtain ⟨hSl, hfc, kC, hkC, hkind⟩ := hK.1 ci _ hc
  obtain ⟨cf, kf, fi, f, hi, hsl⟩ := hSl j hj
  have hlay := hts _ (hin _ (u_in_lay hj))
  unfold u_lay at hlay
  rw [if_pos hfin] at hlay
  have hst := (u_facts hfc hkC (u_lays hts hin hj) hi).1
  have hcf : m.cls = cf := by
    obtain ⟨_, _, c', _, _, _, -, -, hf', -, -, -, hown2, -⟩ := Cond.laysFinal_spec hlay
    have e1 : c' = cf := by have := hi.symm.trans hf'; simp at this; exact this.1.symm
    rw [hdecl] at hown2
    rw [← e1]; exact Option.some.inj (A.1.2.2.2.2.1.symm.trans hown2)
  have h6 := u_fits hfc hkC hkind (Or.inr hlay) hi hpd (hnw (G.1 + q)) (hfit (G.1 + q))
  refine W.putFinK A.1.1 A.1.2.1 A.1.2.2.2.2.1 (hts _ hlk) hi hst hcf hin2 (by rw [q2]; exact h6) q1 q3 (by rw [hsl]; exact k2_hasslot (q4 j hj)) rfl rfl hd fun H' e1 e2 e3 => ?_
  rw [hsl] at e1 ⊢
  have hP' := hP.set (wsZ_D G (m0, r0, n0)) he (e := .inr (ci, (flZ G.1 m0 r0 a ci N).set j (.ref (G.1 + q)))) ⟨_, hc, t_OB.to (V := updV (vp_V (flZ G.1 m0 r0 a ci N)) j (.ref (G.1 + q))) ⟨_, e1, q2, q3, t_set q4 hap hj _⟩ (fun i _ => vp_updV_set (by rw [flZ_len]; exact hj) _ i)⟩ e3
  rw [wsZ_set G m0 m0 r0 (ur r0 a j q) n0 ha (by rw [ceZ_o G _ _ hly hci, flZ_set hj hr]) (fun _ _ => rfl) ur_off] at hP'
  exact k p e s m args below meth c A H' _ hP' (by rw [e2]; exact hz) (hS.put e2 e3 (Nat.le_add_right _ _)) ls hl
end PZS
