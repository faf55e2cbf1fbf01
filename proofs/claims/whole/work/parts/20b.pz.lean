section PZT
variable {G : Gx} {K : Kx} {cs sl pc : Nat} {lv lv' : List (Nat × Value)} {st : List Value} {m0 : Mm} {r0 : Rm} {n0 : Nat} {Z : Zx}
/-- a reference laid into an array: kind 10 of Rows (class 4), 11 of Weddings (class 5) -/
theorem pz_aast {a q kd N ci Nv : Nat} {i : Int32} (n : Nat) (hd : decode K.2.2.1 pc = .ok (.aastore, 1)) (hn : pc + 1 = n) (hkd : (kd = 10 ∧ ci = 4 ∧ Nv = 4) ∨ (kd = 11 ∧ ci = 5 ∧ Nv = 15)) (ha : a < n0) (hly : ly a = (kd, N)) (hq : q < n0) (hlq : ly q = (ci, Nv)) (hin : vp_in i N) (k : PZ G K cs sl n lv st (m0, ur r0 a (ix i) q, n0)) : PZ G K cs sl pc lv (.ref (G.1 + q) :: .int i :: .ref (G.1 + a) :: st) (m0, r0, n0) := fun p e s m args below meth c A H locs hP hz hS ls hl => by
  subst hn
  have hK := A.1.2.2.2.2.2.2.2.1.1
  have hlt : i.toNatClampNeg < N := Nat.not_le.mp fun q => hin (Or.inr q)
  have h0 : ¬ i < 0 := fun q => hin (Or.inl q)
  have fin : ∀ (cA : ClassId) (t0 : Nat) (rr : vw_C), ceZ G m0 r0 a = .inl (cA, N, .inr (.inr (.inr (.inr fun j => (r0 a j).map fun q => G.1 + q)))) → ceZ G m0 (ur r0 a (ix i) q) a = .inl (cA, N, .inr (.inr (.inr (.inr fun j => (ur r0 a (ix i) q a j).map fun q => G.1 + q)))) → (tyA G)[t0]? = some (cA, .object rr.1) → vwCl[ci]? = some rr → ci < 8 → W p K.1 e K.2.2.2.2.2.2.1 s m args below meth c H locs cs sl (K.2.2.2.2.2.2.2.1 below args s) (F0 m pc ls (.ref (G.1 + q) :: .int i :: .ref (G.1 + a) :: st)) := by
    intro cA t0 rr hca hcb ht hcl hci
    have hea : (wsZ G (m0, r0, n0))[a]? = some (G.1 + a, .inl (cA, N, .inr (.inr (.inr (.inr fun j => (r0 a j).map fun q => G.1 + q))))) := by rw [wsZ_at G (m0, r0, n0) ha, show ceZ G (m0, r0, n0).1 (m0, r0, n0).2.1 a = ceZ G m0 r0 a from rfl, hca]
    have heq : (wsZ G (m0, r0, n0))[q]? = some (G.1 + q, .inr (ci, flZ G.1 m0 r0 q ci Nv)) := by rw [wsZ_at G (m0, r0, n0) hq, show ceZ G (m0, r0, n0).1 (m0, r0, n0).2.1 q = ceZ G m0 r0 q from rfl, ceZ_o G m0 r0 hlq hci]
    obtain ⟨r', hr', cellV, g1, g2, g3, -⟩ := hP q _ heq
    have hcls := (hK.1 ci rr hcl).2
    obtain ⟨kA, comp, k1, k2, k3, -⟩ := (hK.2 t0 _ ht).2
    have hcomp : comp = G.2.1.1 ci := Option.some.inj (k3.symm.trans hcls.1)
    subst hcomp
    obtain ⟨kC, hkC, -⟩ := hcls.2
    refine W.aast A.1.1 A.1.2.1 (hP a _ hea) (fun q h => by cases h) (fun h => by cases h) k1 k2 rfl hkC ⟨h0, by show _ < (arrV _ _ _).slots.size; rw [arrV_size]; exact hlt⟩ g1 (fun q h => by rw [g3] at h; cases h) (by rw [g2]; exact hkC) (by rw [g2]; exact va_assign hcls) rfl rfl hd fun H1 e1 z1 oq => ?_
    have hP' := hP.set (wsZ_D G (m0, r0, n0)) hea (e := .inl (cA, N, .inr (.inr (.inr (.inr fun j => (ur r0 a (ix i) q a j).map fun q => G.1 + q))))) (H1 := H1) (by
      show H1[G.1 + a]? = some (vp_cell _ _)
      rw [e1, vp_cell_q, vp_cell_q, arrV_store]
      congr 2
      funext x
      by_cases hx : x = i.toNatClampNeg
      · subst hx
        simp [updV, ur, ix, va_rf]
      · simp [updV, ur, ix, hx]) oq
    rw [wsZ_set G m0 m0 r0 (ur r0 a (ix i) q) n0 ha (by rw [hcb]) (fun _ _ => rfl) ur_off] at hP'
    exact k p e s m args below meth c A H1 _ hP' (by rw [z1]; exact hz) (hS.put z1 oq (Nat.le_add_right _ _)) ls hl
  rcases hkd with ⟨rfl, rfl, rfl⟩ | ⟨rfl, rfl, rfl⟩
  · exact fin G.2.2.1.2.2.1 2 (RX4, TX4, 4) (ceZ_r G _ _ hly) (ceZ_r G _ _ hly) rfl rfl (by omega)
  · exact fin G.2.2.1.2.2.2 3 (RX5, TX5, 15) (ceZ_w G _ _ hly) (ceZ_w G _ _ hly) rfl rfl (by omega)
theorem pz_iast {a N : Nat} {i v : Int32} (n : Nat) (hd : decode K.2.2.1 pc = .ok (.iastore, 1)) (hn : pc + 1 = n) (ha : a < n0) (hly : ly a = (8, N)) (hin : vp_in i N) (k : PZ G K cs sl n lv st (st_ m0 a (ix i) v, r0, n0)) : PZ G K cs sl pc lv (.int v :: .int i :: .ref (G.1 + a) :: st) (m0, r0, n0) := fun p e s m args below meth c A H locs hP hz hS ls hl => by
  subst hn
  have hK := A.1.2.2.2.2.2.2.2.1.1
  have hea : (wsZ G (m0, r0, n0))[a]? = some (G.1 + a, .inl (G.2.2.1.1, N, .inl (m0 a))) := by rw [wsZ_at G (m0, r0, n0) ha, show ceZ G (m0, r0, n0).1 (m0, r0, n0).2.1 a = ceZ G m0 r0 a from rfl, ceZ_i G m0 r0 hly]
  refine W.iast A.1.1 A.1.2.1 (hP a _ hea) ((hK.2 0 _ rfl).1 N (fun j => .int (m0 a j))) (fun q => by cases q) (by show ¬ (i < 0 ∨ (arrV _ _ _).slots.size ≤ _); rw [arrV_size]; exact hin) rfl rfl hd fun H1 e1 z1 oq => ?_
  have hP' := hP.set (wsZ_D G (m0, r0, n0)) hea (e := .inl (G.2.2.1.1, N, .inl (st_ m0 a (ix i) v a))) (H1 := H1) (by
    show H1[G.1 + a]? = some (vp_cell _ _)
    rw [e1, vp_cell_i, vp_cell_i, arrV_store]
    congr 2
    funext x
    by_cases hx : x = i.toNatClampNeg
    · subst hx
      simp [updV, st_, ix]
    · simp [updV, st_, ix, hx]) oq
  rw [wsZ_set G m0 (st_ m0 a (ix i) v) r0 r0 n0 ha (by rw [ceZ_i G _ _ hly]) st_off (fun _ _ => rfl)] at hP'
  exact k p e s m args below meth c A H1 _ hP' (by rw [z1]; exact hz) (hS.put z1 oq (Nat.le_add_right _ _)) ls hl
theorem pz_ldc {index : Nat} {v : Int32} (n : Nat) (hc : Cond.constant K.2.1 index v ∈ K.2.2.2.2.2.1) (hd : decode K.2.2.1 pc = .ok (.ldc index, 2)) (hn : pc + 2 = n) (k : PZ G K cs sl n lv (.int v :: st) Z) : PZ G K cs sl pc lv st Z := fun p e s m args below meth c A H locs hP hz hS ls hl => by subst hn; exact lv_ldc A.1.1 A.1.2.1 A.1.2.2.2.2.1 (A.1.2.2.2.2.2.1 _ hc) hd (k p e s m args below meth c A H locs hP hz hS ls hl)
end PZT
/-! contracts of constructors -/
def BZ (G : Gx) (Z : Zx) (U : State) : Prop := va_P G.2.1 vwCl (wsZ G Z) U.heap ∧ U.heap.size = G.1 + Z.2.2 ∧ Sx G U ∧ Nz U
def BZp (G : Gx) (Z : Zx) (t : State) : Prop := va_P G.2.1 vwCl (wsZ G Z) t.heap ∧ t.heap.size = G.1 + Z.2.2
def rmZ (d mc ms : Nat) : Room := { frames := d, cells := mc, slots := ms, locals := 60 * d }
def QZ (G : Gx) (Z : Zx) : Array Value → State → Outcome → State → Prop := va_Qv (S := Unit) (fun _ => True) (fun _ t => BZp G Z t) (Aq G)
def CnZ (l : Launch) (G : Gx) (d mc ms : Nat) (y : MethodName) (ws : List Cond) (a : Nat) (Z Z' : Zx) : Prop := Met l y ws (rmZ d mc ms) (va_Pc [.ref (G.1 + a)] (BZ G Z)) (QZ G Z') mc ms (Aq G)
abbrev KZ (l : Launch) (G : Gx) (own : String) (cc : ByteArray) (nL : Nat) (Ts : List Cond) (d mc ms : Nat) (Z' : Zx) : Kx := (l, own, cc, nL, none, Ts, rmZ d mc ms, fun below args s => MQ below (QZ G Z') args s mc ms (Aq G), 0, 0, fun _ _ => True)
theorem CnZ.of {l : Launch} {G : Gx} {d mc ms a : Nat} {y : MethodName} {own : String} {cc : ByteArray} {nL : Nat} {ws ws' : List Cond} {Z Z' : Zx} (hy : plainName y.cls = true) (ho : y.cls = own) (hnm : y.name = "<init>") (hw : ws = Cond.code y cc nL none :: ws') (hlen : 1 ≤ nL) (k : PZ G (KZ l G own cc nL ws d mc ms Z') 0 0 0 [(0, .ref (G.1 + a))] [] Z) : CnZ l G d mc ms y ws a Z Z' := by
  refine Met.ofW (cc := cc) (maxL := nL) (ret := none) hy hw ?_
  intro p e s m args below meth c s₁ B hml hv
  obtain ⟨rfl, hP, hz, hSx, hNz⟩ := hv
  have hts := atoms_spec (ws := ws) B.pre
  have hown : s.vm.findClass own = some m.cls := by rw [← ho]; exact findClass_of_methodNamed B.named
  have hl := lv_entry [.ref (G.1 + a)] (n := nL) hlen
  rw [lg_entry_eq]
  exact k p e s m [Value.ref (G.1 + a)].toArray below meth c ⟨⟨B.exec, B.bytes, B.returns, hml, hown, hts, B.notSynchronized, hSx, trivial⟩, hNz, Or.inr ((name_of_methodNamed B.named B.method).1.trans hnm)⟩ s.heap [] hP hz va_S.rf _ hl
theorem pz_vret {l : Launch} {G : Gx} {own : String} {cc : ByteArray} {nL d mc ms pc : Nat} {Ts : List Cond} {lv : List (Nat × Value)} {Z Z' : Zx} (hd : decode cc pc = .ok (.return_, 1)) (h : Z = Z') : PZ G (KZ l G own cc nL Ts d mc ms Z') mc ms pc lv [] Z := fun p e s m args below meth c A H locs hP hz hS ls hl => by
  subst h
  have hlocks : meth.locks = false := A.1.2.2.2.2.2.2.1
  exact W.vret A.1.1 A.1.2.1 A.1.2.2.1 (fun t ht hW => ⟨⟨(), rfl, trivial, by rw [ht]; exact hP, by rw [ht]; exact hz⟩, hS.F ht⟩) hS.2.2 hd hlocks
section PZC
variable {G : Gx} {K : Kx} {cs sl pc : Nat} {lv : List (Nat × Value)} {st rest : List Value} {Z Z1 : Zx} {y : MethodName} {ws ws' : List Cond} {bytes : ByteArray} {maxL a d mc ms index : Nat}
/-- a private constructor of a nest mate -/
theorem pz_initN (n : Nat) (hd : decode K.2.2.1 pc = .ok (.invokespecial index, 3)) (hn : pc + 3 = n) (hnest : (K.2.1, index, y, "TearGuests") ∈ nestT) (hG : GoodIn K.2.2.2.2.2.1 ws) (hw : ws = Cond.code y bytes maxL none :: ws') (hini : Cond.initialized y.cls ∈ K.2.2.2.2.2.1) (him : Cond.instanceMethod y ∈ K.2.2.2.2.2.1) (hy1 : y.name = "<init>") (hyd : y.cls ≠ "java/lang/invoke/MethodHandle" ∧ y.cls ≠ "java/lang/invoke/VarHandle" ∧ (parseMethodDescriptor y.desc).map (fun d => d.parameters.length) = some 0) (hR : d + 1 ≤ K.2.2.2.2.2.2.1.frames ∧ 8 + (maxL + 11) + 60 * d ≤ K.2.2.2.2.2.2.1.locals) (hcl : cs + mc ≤ K.2.2.2.2.2.2.1.cells ∧ sl + ms ≤ K.2.2.2.2.2.2.1.slots) (hM : CnZ K.1 G d mc ms y ws a Z Z1) (hrm : (st.map fun v => v.category).sum ≤ 8) (k : PZ G K (cs + mc) (sl + ms) n lv st Z1) : PZ G K cs sl pc lv (.ref (G.1 + a) :: st) Z := fun p e s m args below meth c A H locs hP hz hS ls hl => by
  subst hn
  have hts := A.1.2.2.2.2.2.1
  refine va_callv (va_runIN (As := []) (rest := st) ⟨A.1.1, A.1.2.1, A.1.2.2.2.1, A.1.2.2.2.2.1, hts⟩ hM ⟨va_cnB 0 hts hG hw rfl rfl (A.2.1.2.2 _ hnest) (hts _ hini) hyd hR, hy1, hts _ him⟩ ⟨fun a U g mk q => ⟨q.1, q.2.1, q.2.2.1, q.2.2.2.1.blind, q.2.2.2.2.blind⟩, fun U hU hW => ⟨rfl, by rw [hU]; exact hP, by rw [hU]; exact hz, A.1.2.2.2.2.2.2.2.1.go hW.alike hS hU, A.2.1.warm hW⟩⟩ rfl rfl hl.1 rfl (lv_room hrm) hd hcl) hS (fun q _ h => h) (fun q h => h) (fun u t H1 locs1 ht hvm hw hB hz1 hk1 hS1 => ?_)
  obtain ⟨hP1, hz1'⟩ := hB
  rw [ht] at hP1 hz1'
  exact k p e s m args below meth c A H1 locs1 hP1 hz1' hS1 ls hl
theorem pz_initC (n : Nat) (hd : decode K.2.2.1 pc = .ok (.invokespecial index, 3)) (hn : pc + 3 = n) (hlk : Cond.methodLink K.2.1 index y ∈ K.2.2.2.2.2.1) (hG : GoodIn K.2.2.2.2.2.1 ws) (hw : ws = Cond.code y bytes maxL none :: ws') (hini : Cond.initialized y.cls ∈ K.2.2.2.2.2.1) (him : Cond.instanceMethod y ∈ K.2.2.2.2.2.1) (hy1 : y.name = "<init>") (hyd : y.cls ≠ "java/lang/invoke/MethodHandle" ∧ y.cls ≠ "java/lang/invoke/VarHandle" ∧ (parseMethodDescriptor y.desc).map (fun d => d.parameters.length) = some 0) (hR : d + 1 ≤ K.2.2.2.2.2.2.1.frames ∧ 8 + (maxL + 11) + 60 * d ≤ K.2.2.2.2.2.2.1.locals) (hcl : cs + mc ≤ K.2.2.2.2.2.2.1.cells ∧ sl + ms ≤ K.2.2.2.2.2.2.1.slots) (hM : CnZ K.1 G d mc ms y ws a Z Z1) (hrm : (st.map fun v => v.category).sum ≤ 8) (k : PZ G K (cs + mc) (sl + ms) n lv st Z1) : PZ G K cs sl pc lv (.ref (G.1 + a) :: st) Z := fun p e s m args below meth c A H locs hP hz hS ls hl => by
  subst hn
  have hts := A.1.2.2.2.2.2.1
  refine va_callv (va_runI (As := []) (rest := st) ⟨A.1.1, A.1.2.1, A.1.2.2.2.1, A.1.2.2.2.2.1, hts⟩ hM (cwI 0 hts hG hw rfl rfl (hts _ hini) (hts _ hlk) (hts _ him) hy1 hyd hR) ⟨fun a U g mk q => ⟨q.1, q.2.1, q.2.2.1, q.2.2.2.1.blind, q.2.2.2.2.blind⟩, fun U hU hW => ⟨rfl, by rw [hU]; exact hP, by rw [hU]; exact hz, A.1.2.2.2.2.2.2.2.1.go hW.alike hS hU, A.2.1.warm hW⟩⟩ rfl rfl hl.1 rfl (lv_room hrm) hd hcl) hS (fun q _ h => h) (fun q h => h) (fun u t H1 locs1 ht hvm hw hB hz1 hk1 hS1 => ?_)
  obtain ⟨hP1, hz1'⟩ := hB
  rw [ht] at hP1 hz1'
  exact k p e s m args below meth c A H1 locs1 hP1 hz1' hS1 ls hl
end PZC
