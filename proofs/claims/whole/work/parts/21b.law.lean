/-! THE CLAIM OUT OF ONE WALK OF THE LAW'S BODY. Your part is whole_start (and what it stands on); all else here is the same for every law, but numbers. -/
def R_law : String := "TearGuestsLaw"
def lw_P (b : Addr) (xs : List Int32) (args : Array Value) (s : State) : Prop := args = #[.ref b] ∧ s.IntsAt b xs ∧ xs.length ≤ 384 ∧ (Jvm.Cond.and given_1 narrow_1).before args s = true
def lw_Q (_ : Array Value) (s : State) (o : Outcome) (t : State) : Prop := o = .returned (some (.int 1)) ∧ Framed s o t [] 600000 7302250
def lw_Z (below : List Frame) (a : Array Value) (s : State) : State → Prop := fun t => ∃ o, t.status = .running ∧ Ended t below o ∧ lw_Q a s o t
/-- the law's own end, with 1 on the stack, nothing written that was there before, its room as the claim has it -/
theorem lw_ret {p : Program} {l : Launch} {e : Env} {s : State} {m : MethodId} {below : List Frame} {meth : Method} {c : Code} {b : Nat} (hx : p.tables.exec = Jvm.exec) (hb : c.code = code) (hr : meth.sig.returnType = ret) (hlocks : meth.locks = false) {pc : Nat} {H : Heap} {ls : Array Slot} (hdg : decode code pc = .ok (.ireturn, 1)) : W p l e room_1 s m #[Value.ref b] below meth c H [] 600000 7302250 (lw_Z below #[Value.ref b] s) (F0 m pc ls [.int 1]) := by
  intro T hT X
  obtain ⟨fs, hret, hrun, hended, hW, hframe⟩ := X.leave (v := some (.int 1)) (hlocks := hlocks) (fun h => by rw [hr] at h; cases h)
  have hmeth' : T.vm.method? m = some meth := X.method'
  refine ⟨T.setFrames fs, ?_, .returned (some (.int 1)), hrun, hended, rfl, ⟨_, rfl⟩, hW, hframe⟩
  jvm_step X.here [X.here.top, hx, hb, hdg, hmeth', hr, ret, narrow_b1]
  (try refine ⟨rfl, ?_⟩); (try refine ⟨rfl, ?_⟩)
  first | (intro acts; rw [hret _ acts rfl rfl rfl]) | rw [hret _ _ rfl rfl rfl]
  exact Steps.refl _
/-- what holds at the law's entry: the machine, the code, the tables' words (any of lw_tbl by 'hts w (by decide +kernel)'), the script of L ints xs at the cell b, what the Statement gives of the start (any of its parts by flat_of_before) -/
def lw_At (p : Program) (s : State) (m : MethodId) (meth : Method) (c : Code) (b L : Nat) (xs : Nat → Int32) : Prop :=
  p.tables.exec = Jvm.exec ∧ c.code = code ∧ meth.sig.returnType = ret ∧ c.maxLocals = 4 ∧ s.vm.findClass R_law = some m.cls ∧ (∀ w ∈ lw_tbl, w.before #[Value.ref b] s = true) ∧ va_X b L xs s s.heap ∧ b < s.heap.size ∧ meth.locks = false ∧ (Jvm.Cond.and given_1 narrow_1).before #[Value.ref b] s = true
/-! rows of the law's walk -/
def XL (G : Gx) (b L : Nat) (xs : Nat → Int32) : Array Value → State → Prop := fun args s => args = #[Value.ref b] ∧ va_X b L xs s s.heap ∧ b < s.heap.size ∧ s.heap.size ≤ G.1
abbrev KL (l : Launch) (G : Gx) (b L : Nat) (xs : Nat → Int32) : Kx := (l, RL, cL_law, 4, ret, wsL_law, room_1, lw_Z, 313, 4824, XL G b L xs)
abbrev lvL (G : Gx) (b i : Nat) : List (Nat × Value) := [(3, .int (nI i)), (2, .ref (G.1 + 298)), (1, .ref (G.1 + 0)), (0, .ref b)]
theorem and31 (x : Int32) : ∃ n, n < 32 ∧ x &&& 31 = nI n := by
  refine ⟨(x &&& 31).toBitVec.toNat, ?_, ?_⟩
  · have : (x &&& 31).toBitVec = x.toBitVec &&& 31#32 := rfl
    rw [this, BitVec.toNat_and]
    exact Nat.lt_of_le_of_lt Nat.and_le_right (by decide)
  · apply Int32.toBitVec_inj.mp
    show _ = BitVec.ofNat 32 _
    simp
theorem sub6 {L i : Nat} (hL : L ≤ 384) (hi : i ≤ 1000) (h : ¬ nI L - 6 < nI i) : i + 6 ≤ L := by
  rw [Int32.lt_iff_toInt_lt] at h
  have e1 : (nI i).toInt = i := by
    show (Int32.ofNat i).toInt = i
    rw [Int32.toInt_ofNat_of_lt (by omega)]
  have e2 : (nI L - 6).toInt = (L : Int) - 6 := by
    rw [Int32.toInt_sub]
    have : (nI L).toInt = L := by
      show (Int32.ofNat L).toInt = L
      rw [Int32.toInt_ofNat_of_lt (by omega)]
    rw [this]
    show ((L : Int) - 6).bmod (2 ^ 32) = _
    rw [Int.bmod_eq_of_le (by omega) (by omega)]
  rw [e1, e2] at h
  omega
section LAW
variable {l : Launch} {G : Gx} {b L : Nat} {xs : Nat → Int32} {pc : Nat} {lv : List (Nat × Value)} {st : List Value} {mm : Mm}
theorem pl_sld {i : Int32} (n : Nat) (hd : decode cL_law pc = .ok (.iaload, 1)) (hn : pc + 1 = n) (hin : vp_in i L) (k : PW G (KL l G b L xs) n lv (.int (xs (ix i)) :: st) mm) : PW G (KL l G b L xs) pc lv (.int i :: .ref b :: st) mm := fun p e s m args below meth c A H locs hP hS ls hl => by
  subst hn
  obtain ⟨h1, h2, h3, h4⟩ := A.2.2.2.2.2.2.2.2
  exact va_sld A.1 A.2.1 h2 h3 (fun h : G.1 ≤ b => absurd (Nat.le_trans h4 h) (Nat.not_le.mpr h3)) hS hin hd (k p e s m args below meth c A H locs hP hS ls hl)
theorem pl_slen (n : Nat) (hd : decode cL_law pc = .ok (.arraylength, 1)) (hn : pc + 1 = n) (k : PW G (KL l G b L xs) n lv (.int (nI L) :: st) mm) : PW G (KL l G b L xs) pc lv (.ref b :: st) mm := fun p e s m args below meth c A H locs hP hS ls hl => by
  subst hn
  obtain ⟨h1, h2, h3, h4⟩ := A.2.2.2.2.2.2.2.2
  exact va_slen A.1 A.2.1 h2 h3 (fun h : G.1 ≤ b => absurd (Nat.le_trans h4 h) (Nat.not_le.mpr h3)) hS hd (k p e s m args below meth c A H locs hP hS ls hl)
theorem pl_ret (hd : decode cL_law pc = .ok (.ireturn, 1)) : PW G (KL l G b L xs) pc lv [.int 1] mm := fun p e s m args below meth c A H locs hP hS ls hl => by
  obtain ⟨h1, h2, h3, h4⟩ := A.2.2.2.2.2.2.2.2
  subst h1
  refine va_forget (fun q hq => Nat.le_trans h4 (hS.2.2 q hq)) ?_
  refine W.widen (k := 600000) (n := 7302250) (Nat.le_of_ble_eq_true rfl) (Nat.le_of_ble_eq_true rfl) ?_
  exact lw_ret A.1 A.2.1 A.2.2.1 A.2.2.2.2.2.2.1 hd
/-- a number of the script pushed -/
theorem pl_arg {i : Nat} (k n : Nat) {z : Int} (d0 : decode cL_law pc = .ok (.aload_n 0, 1)) (d1 : decode cL_law (pc + 1) = .ok (.iload_n 3, 1)) (d2 : decode cL_law (pc + 2) = .ok (.iconst z, 1)) (hz : Int32.ofInt z = nI k) (d3 : decode cL_law (pc + 3) = .ok (.iadd, 1)) (d4 : decode cL_law (pc + 4) = .ok (.iaload, 1)) (hn : pc + 5 = n) (hi : i + k < L) (hL : L ≤ 384) (kk : PW G (KL l G b L xs) n (lvL G b i) (.int (xs (i + k)) :: st) mm) : PW G (KL l G b L xs) pc (lvL G b i) st mm := by
  subst hn
  refine pw_aload_n (i := 0) 3 rfl rfl (pc + 1) d0 rfl ?_
  refine pw_iload_n (i := 3) 0 rfl rfl (pc + 2) d1 rfl ?_
  refine pw_iconst hz (pc + 3) d2 rfl ?_
  refine pw_iadd (pc + 4) d3 rfl ?_
  rw [show nI i + nI k = nI (i + k) from nI_add i k]
  refine pl_sld (pc + 5) d4 rfl (vpin hi (by omega)) ?_
  rw [ix_nI (by omega)]
  exact kk
theorem PZ.toW {r : Rm} (hr : ∀ a, a < 313 → r a = rfZ a) (k : PW G (KL l G b L xs) pc lv st mm) : PZ G (KL l G b L xs) 313 4824 pc lv st (mm, r, 313) := fun p e s m args below meth c A H locs hP hz hS ls hl => k p e s m args below meth c A.1 H locs (wsZ_end hr hP) hS ls hl
end LAW
