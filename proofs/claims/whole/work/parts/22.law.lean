theorem lw_Nz {s : State} {args : Array Value} (hts : ∀ w ∈ lw_tbl, w.before args s = true) : Nz s := by
  refine ⟨va_AO.of (hts (.arrayOver (.object "TearGuests$Row")) (List.mem_append_right _ (List.mem_of_getElem? (i := 21) (by decide +kernel)))), va_AO.of (hts (.arrayOver (.object "TearGuests$Wedding")) (List.mem_append_right _ (List.mem_of_getElem? (i := 139) (by decide +kernel)))), ?_⟩
  intro q hq
  simp only [nestT, List.mem_cons, List.not_mem_nil, or_false] at hq
  rcases hq with rfl | rfl | rfl | rfl | rfl | rfl | rfl | rfl | rfl
  · exact va_Nw.of rfl (hts (.methodLinkNest "TearGuests" 17 yX3_init "TearGuests") (List.mem_append_right _ (List.mem_of_getElem? (i := 24) (by decide +kernel))))
  · exact va_Nw.of rfl (hts (.methodLinkNest "TearGuests$Reader" 11 yX5_init "TearGuests") (List.mem_append_right _ (List.mem_of_getElem? (i := 30) (by decide +kernel))))
  · exact va_Nw.of rfl (hts (.methodLinkNest "TearGuests" 24 yX5_init "TearGuests") (List.mem_append_right _ (List.mem_of_getElem? (i := 131) (by decide +kernel))))
  · exact va_Nw.of rfl (hts (.methodLinkNest "TearGuests$Acts" 17 yX5_init "TearGuests") (List.mem_append_right _ (List.mem_of_getElem? (i := 140) (by decide +kernel))))
  · exact va_Nw.of rfl (hts (.methodLinkNest "TearGuests" 38 yX1_init "TearGuests") (List.mem_append_right _ (List.mem_of_getElem? (i := 154) (by decide +kernel))))
  · exact va_Nw.of rfl (hts (.methodLinkNest "TearGuests$Forecast" 11 yX5_init "TearGuests") (List.mem_append_right _ (List.mem_of_getElem? (i := 159) (by decide +kernel))))
  · exact va_Nw.of rfl (hts (.methodLinkNest "TearGuests" 45 yX2_init "TearGuests") (List.mem_append_right _ (List.mem_of_getElem? (i := 175) (by decide +kernel))))
  · exact va_Nw.of rfl (hts (.methodLinkNest "TearGuests$Guess" 11 yX5_init "TearGuests") (List.mem_append_right _ (List.mem_of_getElem? (i := 180) (by decide +kernel))))
  · exact va_Nw.of rfl (hts (.methodLinkNest "TearGuests" 58 yX4_init "TearGuests") (List.mem_append_right _ (List.mem_of_getElem? (i := 195) (by decide +kernel))))
theorem lw_st1 {s : State} {args : Array Value} (hts : ∀ w ∈ lw_tbl, w.before args s = true) (hgv : (Jvm.Cond.and given_1 narrow_1).before args s = true) {A : Nat → Prop} (hA : ∀ a : Nat, a < s.heap.size → ¬ A a) : ∃ t : Nat, va_Z "TearGuests" "IS_ALSO" "[I" (.ref t) A s s.heap ∧ va_T .int t 6 (fun j => .int (tbl1 j)) A s s.heap := by
  have hs := flat_of_before _ hgv
  obtain ⟨t, ht, hT⟩ := va_Tof (tm := .static "TearGuests" "IS_ALSO" "[I") (ty := .int) (N := 6) (f := fun j => .int (tbl1 j)) (A := A) (by decide) (hs (.arrayOf (.static "TearGuests" "IS_ALSO" "[I") .int) (by decide +kernel)) (va_eqt (hs (.eq (.length (.static "TearGuests" "IS_ALSO" "[I")) (.int 6)) (by decide +kernel))) (by
      intro j hj
      match j, hj with
      | 0, _ => exact va_eqt (hs (.eq (.elem (.static "TearGuests" "IS_ALSO" "[I") (.int 0)) (.int 0)) (by decide +kernel))
      | 1, _ => exact va_eqt (hs (.eq (.elem (.static "TearGuests" "IS_ALSO" "[I") (.int 1)) (.int 0)) (by decide +kernel))
      | 2, _ => exact va_eqt (hs (.eq (.elem (.static "TearGuests" "IS_ALSO" "[I") (.int 2)) (.int 1)) (by decide +kernel))
      | 3, _ => exact va_eqt (hs (.eq (.elem (.static "TearGuests" "IS_ALSO" "[I") (.int 3)) (.int 1)) (by decide +kernel))
      | 4, _ => exact va_eqt (hs (.eq (.elem (.static "TearGuests" "IS_ALSO" "[I") (.int 4)) (.int 0)) (by decide +kernel))
      | 5, _ => exact va_eqt (hs (.eq (.elem (.static "TearGuests" "IS_ALSO" "[I") (.int 5)) (.int 4)) (by decide +kernel))
      | n + 6, hn => exact absurd hn (by omega)) hA
  exact ⟨t, va_Zref (hts (.laysStatic "TearGuests" "IS_ALSO" "[I") (List.mem_append_right _ (List.mem_of_getElem? (i := 639) (by decide +kernel)))) (hts (.initialized "TearGuests") (List.mem_append_right _ (List.mem_of_getElem? (i := 1) (by decide +kernel)))) ht hA, hT⟩
theorem lw_st2 {s : State} {args : Array Value} (hts : ∀ w ∈ lw_tbl, w.before args s = true) (hgv : (Jvm.Cond.and given_1 narrow_1).before args s = true) {A : Nat → Prop} (hA : ∀ a : Nat, a < s.heap.size → ¬ A a) : ∃ t : Nat, va_Z "TearGuests" "SIZE_BODY" "[I" (.ref t) A s s.heap ∧ va_T .int t 6 (fun j => .int (tbl2 j)) A s s.heap := by
  have hs := flat_of_before _ hgv
  obtain ⟨t, ht, hT⟩ := va_Tof (tm := .static "TearGuests" "SIZE_BODY" "[I") (ty := .int) (N := 6) (f := fun j => .int (tbl2 j)) (A := A) (by decide) (hs (.arrayOf (.static "TearGuests" "SIZE_BODY" "[I") .int) (by decide +kernel)) (va_eqt (hs (.eq (.length (.static "TearGuests" "SIZE_BODY" "[I")) (.int 6)) (by decide +kernel))) (by
      intro j hj
      match j, hj with
      | 0, _ => exact va_eqt (hs (.eq (.elem (.static "TearGuests" "SIZE_BODY" "[I") (.int 0)) (.int 10)) (by decide +kernel))
      | 1, _ => exact va_eqt (hs (.eq (.elem (.static "TearGuests" "SIZE_BODY" "[I") (.int 1)) (.int 11)) (by decide +kernel))
      | 2, _ => exact va_eqt (hs (.eq (.elem (.static "TearGuests" "SIZE_BODY" "[I") (.int 2)) (.int 12)) (by decide +kernel))
      | 3, _ => exact va_eqt (hs (.eq (.elem (.static "TearGuests" "SIZE_BODY" "[I") (.int 3)) (.int 11)) (by decide +kernel))
      | 4, _ => exact va_eqt (hs (.eq (.elem (.static "TearGuests" "SIZE_BODY" "[I") (.int 4)) (.int 13)) (by decide +kernel))
      | 5, _ => exact va_eqt (hs (.eq (.elem (.static "TearGuests" "SIZE_BODY" "[I") (.int 5)) (.int 14)) (by decide +kernel))
      | n + 6, hn => exact absurd hn (by omega)) hA
  exact ⟨t, va_Zref (hts (.laysStatic "TearGuests" "SIZE_BODY" "[I") (List.mem_append_right _ (List.mem_of_getElem? (i := 645) (by decide +kernel)))) (hts (.initialized "TearGuests") (List.mem_append_right _ (List.mem_of_getElem? (i := 1) (by decide +kernel)))) ht hA, hT⟩
theorem lw_st3 {s : State} {args : Array Value} (hts : ∀ w ∈ lw_tbl, w.before args s = true) (hgv : (Jvm.Cond.and given_1 narrow_1).before args s = true) {A : Nat → Prop} (hA : ∀ a : Nat, a < s.heap.size → ¬ A a) : ∃ t : Nat, va_Z "TearGuests" "MARK_BODY" "[I" (.ref t) A s s.heap ∧ va_T .int t 6 (fun j => .int (tbl3 j)) A s s.heap := by
  have hs := flat_of_before _ hgv
  obtain ⟨t, ht, hT⟩ := va_Tof (tm := .static "TearGuests" "MARK_BODY" "[I") (ty := .int) (N := 6) (f := fun j => .int (tbl3 j)) (A := A) (by decide) (hs (.arrayOf (.static "TearGuests" "MARK_BODY" "[I") .int) (by decide +kernel)) (va_eqt (hs (.eq (.length (.static "TearGuests" "MARK_BODY" "[I")) (.int 6)) (by decide +kernel))) (by
      intro j hj
      match j, hj with
      | 0, _ => exact va_eqt (hs (.eq (.elem (.static "TearGuests" "MARK_BODY" "[I") (.int 0)) (.int 20)) (by decide +kernel))
      | 1, _ => exact va_eqt (hs (.eq (.elem (.static "TearGuests" "MARK_BODY" "[I") (.int 1)) (.int 21)) (by decide +kernel))
      | 2, _ => exact va_eqt (hs (.eq (.elem (.static "TearGuests" "MARK_BODY" "[I") (.int 2)) (.int 24)) (by decide +kernel))
      | 3, _ => exact va_eqt (hs (.eq (.elem (.static "TearGuests" "MARK_BODY" "[I") (.int 3)) (.int 22)) (by decide +kernel))
      | 4, _ => exact va_eqt (hs (.eq (.elem (.static "TearGuests" "MARK_BODY" "[I") (.int 4)) (.int 23)) (by decide +kernel))
      | 5, _ => exact va_eqt (hs (.eq (.elem (.static "TearGuests" "MARK_BODY" "[I") (.int 5)) (.int 23)) (by decide +kernel))
      | n + 6, hn => exact absurd hn (by omega)) hA
  exact ⟨t, va_Zref (hts (.laysStatic "TearGuests" "MARK_BODY" "[I") (List.mem_append_right _ (List.mem_of_getElem? (i := 647) (by decide +kernel)))) (hts (.initialized "TearGuests") (List.mem_append_right _ (List.mem_of_getElem? (i := 1) (by decide +kernel)))) ht hA, hT⟩
theorem lw_cls {s : State} {args : Array Value} (hts : ∀ w ∈ wsL_law, w.before args s = true) : ∃ D : va_G, ∀ (c : Nat) (q : vw_C), vwCl[c]? = some q → u_Kn s q.1 q.2.1 q.2.2 (D.1 c) (D.2 c) := by
  obtain ⟨c0, i0, k0⟩ := u_known (C := RX0) (T := TX0) (N := 3) (n := 3) hts (fun w h => List.mem_append_left _ (List.mem_append_left _ (List.mem_append_left _ (List.mem_append_left _ (List.mem_append_right _ h))))) (hts (.instantiable RX0 3) (List.mem_of_getElem? (i := 23) rfl))
  obtain ⟨c1, i1, k1⟩ := u_known (C := RX1) (T := TX1) (N := 4) (n := 4) hts (fun w h => List.mem_append_left _ (List.mem_append_left _ (List.mem_append_left _ (List.mem_append_right _ h)))) (hts (.instantiable RX1 4) (List.mem_of_getElem? (i := 27) rfl))
  obtain ⟨c2, i2, k2⟩ := u_known (C := RX2) (T := TX2) (N := 4) (n := 4) hts (fun w h => List.mem_append_left _ (List.mem_append_left _ (List.mem_append_right _ h))) (hts (.instantiable RX2 4) (List.mem_of_getElem? (i := 31) rfl))
  obtain ⟨c3, i3, k3⟩ := u_known (C := RX3) (T := TX3) (N := 5) (n := 5) hts (fun w h => List.mem_append_left _ (List.mem_append_left _ (List.mem_append_left _ (List.mem_append_left _ (List.mem_append_left _ (List.mem_append_left _ (List.mem_append_right _ h))))))) (hts (.instantiable RX3 5) (List.mem_of_getElem? (i := 15) rfl))
  obtain ⟨c4, i4, k4⟩ := u_known (C := RX4) (T := TX4) (N := 4) (n := 4) hts (fun w h => List.mem_append_left _ (List.mem_append_right _ h)) (hts (.instantiable RX4 4) (List.mem_of_getElem? (i := 37) rfl))
  obtain ⟨c5, i5, k5⟩ := u_known (C := RX5) (T := TX5) (N := 15) (n := 15) hts (fun w h => List.mem_append_left _ (List.mem_append_left _ (List.mem_append_left _ (List.mem_append_left _ (List.mem_append_left _ (List.mem_append_right _ h)))))) (hts (.instantiable RX5 15) (List.mem_of_getElem? (i := 19) rfl))
  obtain ⟨c6, i6, k6⟩ := u_known (C := RX6) (T := TX6) (N := 10) (n := 10) hts (fun w h => List.mem_append_left _ (List.mem_append_left _ (List.mem_append_left _ (List.mem_append_left _ (List.mem_append_left _ (List.mem_append_left _ (List.mem_append_left _ (List.mem_append_left _ (List.mem_append_right _ h))))))))) (hts (.instantiable RX6 10) (List.mem_of_getElem? (i := 1) rfl))
  obtain ⟨c7, i7, k7⟩ := u_known (C := RX7) (T := TX7) (N := 24) (n := 24) hts (fun w h => List.mem_append_left _ (List.mem_append_left _ (List.mem_append_left _ (List.mem_append_left _ (List.mem_append_left _ (List.mem_append_left _ (List.mem_append_left _ (List.mem_append_right _ h)))))))) (hts (.instantiable RX7 24) (List.mem_of_getElem? (i := 4) rfl))
  refine ⟨(fun c => match c with | 0 => c0 | 1 => c1 | 2 => c2 | 3 => c3 | 4 => c4 | 5 => c5 | 6 => c6 | _ => c7, fun c => match c with | 0 => i0 | 1 => i1 | 2 => i2 | 3 => i3 | 4 => i4 | 5 => i5 | 6 => i6 | _ => i7), ?_⟩
  intro c q hq
  match c, hq with
  | 0, hq => cases hq; exact k0
  | 1, hq => cases hq; exact k1
  | 2, hq => cases hq; exact k2
  | 3, hq => cases hq; exact k3
  | 4, hq => cases hq; exact k4
  | 5, hq => cases hq; exact k5
  | 6, hq => cases hq; exact k6
  | 7, hq => cases hq; exact k7
  | c + 8, hq => simp [vwCl] at hq
theorem lw_arr {s : State} {args : Array Value} (hts : ∀ w ∈ lw_tbl, w.before args s = true) : ∃ a : ClassId × ClassId × ClassId × ClassId, ∀ (k : Nat) (q : ClassId × FieldType), [(a.1, FieldType.int), (a.2.1, .boolean), (a.2.2.1, .object "TearGuests$Row"), (a.2.2.2, .object "TearGuests$Wedding")][k]? = some q → ArrOfT s q.1 q.2 ∧ va_RA s q.1 q.2 := by
  obtain ⟨a0, k0, p0, x1, x2, x3⟩ := Cond.arrayClass_spec (hts (.arrayClass .int) (List.mem_append_right _ (List.mem_of_getElem? (i := 109) (by decide +kernel))))
  obtain ⟨a1, k1, p1, y1, y2, y3⟩ := Cond.arrayClass_spec (hts (.arrayClass .boolean) (List.mem_append_right _ (List.mem_of_getElem? (i := 753) (by decide +kernel))))
  obtain ⟨p2, a2, k2, z1, z2, z3, z4, z5⟩ := Cond.arrayOver_spec (hts (.arrayOver (.object "TearGuests$Row")) (List.mem_append_right _ (List.mem_of_getElem? (i := 21) (by decide +kernel))))
  obtain ⟨p3, a3, k3, u1, u2, u3, u4, u5⟩ := Cond.arrayOver_spec (hts (.arrayOver (.object "TearGuests$Wedding")) (List.mem_append_right _ (List.mem_of_getElem? (i := 139) (by decide +kernel))))
  refine ⟨(a0, a1, a2, a3), ?_⟩
  intro k q hq
  match k, hq with
  | 0, hq => cases hq; exact ⟨fun N z => ⟨(fun k h => by cases h), k0, x2, p0, x3⟩, x1⟩
  | 1, hq => cases hq; exact ⟨fun N z => ⟨(fun k h => by cases h), k1, y2, p1, y3⟩, y1⟩
  | 2, hq => cases hq; exact ⟨fun N z => ⟨(fun k h => by cases h), k2, z3, p2, z4⟩, k2, p2, z3, z4, z1, z5⟩
  | 3, hq => cases hq; exact ⟨fun N z => ⟨(fun k h => by cases h), k3, u3, p3, u4⟩, k3, p3, u3, u4, u1, u5⟩
  | k + 4, hq => simp at hq
theorem whole_start {p : Program} {e : Env} {s : State} {m : MethodId} {below : List Frame} {meth : Method} {c : Code} (l : Launch) {b L : Nat} {xs : Nat → Int32} (hL : L ≤ 384) (C0 : lw_At p s m meth c b L xs) : W p l e room_1 s m #[Value.ref b] below meth c s.heap [] 0 0 (lw_Z below #[Value.ref b] s) (entryFrame m ([Value.ref b] : List Value).toArray 4) := by
  obtain ⟨hx, hb, hr, hml, hown, hts, hX, hbl, hlocks, hgv⟩ := C0
  have hA : ∀ a : Nat, a < s.heap.size → ¬ s.heap.size ≤ a := fun a h => Nat.not_le.mpr h
  have htl : ∀ w ∈ wsL_law, w.before #[Value.ref b] s = true := fun w hw => hts w (wsL_law_in w hw)
  obtain ⟨t1, z1, T1⟩ := lw_st1 (A := fun q => s.heap.size ≤ q) hts hgv hA
  obtain ⟨t2, z2, T2⟩ := lw_st2 (A := fun q => s.heap.size ≤ q) hts hgv hA
  obtain ⟨t3, z3, T3⟩ := lw_st3 (A := fun q => s.heap.size ≤ q) hts hgv hA
  obtain ⟨Dc, hDc⟩ := lw_cls htl
  obtain ⟨ar, har⟩ := lw_arr hts
  have hSx : Sx (s.heap.size, Dc, ar, t1, t2, t3) s := ⟨⟨hDc, har⟩, ⟨z1, T1⟩, ⟨z2, T2⟩, ⟨z3, T3⟩⟩
  have hl := lv_entry ([.ref b]) (n := 4) (Nat.le_of_ble_eq_true rfl)
  rw [lg_entry_eq]
  exact la_begin (l := l) (G := (s.heap.size, Dc, ar, t1, t2, t3)) (xs := xs) hL p e s m #[Value.ref b] below meth c ⟨⟨hx, hb, hr, hml, hown, htl, hlocks, hSx, rfl, hX, hbl, Nat.le_refl _⟩, lw_Nz hts, Or.inl rfl⟩ s.heap [] (fun k q h => absurd (wsZ_in h).1 (Nat.not_lt_zero _)) rfl va_S.rf _ hl
set_option maxHeartbeats 4000000 in
theorem lw_walk (l : Launch) (b : Addr) (xs : List Int32) : MetFree l x (headSpec (Jvm.Cond.code x code maxLocals ret :: tables_1) room_1) (lw_P b xs) (fun _ _ _ _ _ => True) lw_Q := by
  refine MetFree.of_bodyS (code := code) (maxLocals := maxLocals) (ret := ret) (by decide) ?_ ?_
  · intro args s m h hn
    obtain ⟨meth, c, h1, h2, h3, h4, h5, h6, -, -⟩ := Cond.code_spec hn (atoms_spec (ws := Jvm.Cond.code x code maxLocals ret :: tables_1) h _ List.mem_cons_self)
    exact ⟨meth, c, h1, h2, h3, h4, h5, h6⟩
  · intro p e s m args below meth c s₁ B hml0 hP _
    obtain ⟨rfl, hx, hbd, hgv⟩ := hP
    obtain ⟨scr, harrAt, hlist, hof, hsmall⟩ := hx
    obtain ⟨hcb, hkn, -, -⟩ := State.arrayAt?_spec harrAt
    have hown : s.vm.findClass R_law = some m.cls := findClass_of_methodNamed B.named
    have hts0 : ∀ c ∈ (Jvm.Cond.code x code maxLocals ret :: tables_1), c.before #[Value.ref b] s = true := atoms_spec (ws := Jvm.Cond.code x code maxLocals ret :: tables_1) B.pre
    have hts : ∀ w ∈ lw_tbl, w.before #[Value.ref b] s = true := k2_hts_sels lw_privs (fun w hw => hts0 w (List.mem_cons_of_mem _ hw)) lw_privs_ok
    have hml : c.maxLocals = 4 := B.maxLocals_eq (hts0 _ List.mem_cons_self)
    have X₀ : Stand p l e room_1 s m #[Value.ref b] below meth c s₁ [] 0 0 := Stand.of_body B
    have hh0 : s₁.heap = s.heap := by rw [B.state]; rfl
    have hsz : scr.slots.size = xs.length := by rw [← Array.length_toList, hlist, List.length_map]
    have hval : ∀ j : Nat, j < xs.length → scr.slots[j]? = some (.int (xs.getD j 0)) := fun j hj => by
      rw [← Array.getElem?_toList, hlist]
      simp [hj]
    have hbl : b < s.heap.size := (Array.getElem?_eq_some_iff.mp hcb).1
    have hX : va_X b xs.length (fun j => xs.getD j 0) s s.heap := ⟨scr, hcb, hof, hkn, hsz, hval⟩
    have K : W p l e room_1 s m #[Value.ref b] below meth c s₁.heap [] 0 0 (lw_Z below #[Value.ref b] s) (entryFrame m ([Value.ref b] : List Value).toArray 4) := by
      rw [hh0]
      exact whole_start l hbd ⟨B.exec, B.bytes, B.returns, hml, hown, hts, hX, hbl, B.notSynchronized, hgv⟩
    obtain ⟨t, a1, o, b1, b2, b3⟩ := K s₁ rfl X₀
    exact ⟨t, o, a1, b1, b2, b3⟩
theorem lw_pre_spec {args : Array Value} {s : State} (h : (Jvm.Cond.and given_1 narrow_1).before args s = true) (hr : rest_1_c.before args s = true) : ∃ (b : Addr) (xs : List Int32), lw_P b xs args s := by
  have hs := flat_of_before _ h
  have hq := flat_of_before _ hr
  have hc : (Cond.count 1).before args s = true := hs _ (by decide +kernel)
  have harr : (Cond.arrayOf (.arg 0) .int).before args s = true := hs _ (by decide +kernel)
  have hle : (Cond.le (.length (.arg 0)) (.int 384)).before args s = true := hs _ (by decide +kernel)
  have hlen : (Cond.isInt (.length (.arg 0))).before args s = true := hq _ (by decide +kernel)
  have hall : (Cond.all (.arg 0) (.isInt (.elem (.arg 0) (.index 0)))).before args s = true := hq _ (by decide +kernel)
  obtain ⟨b, xs, hb, hx⟩ := State.ints_of_pre rfl harr hlen hall
  have hsm : xs.length < 2 ^ 31 := hx.choose_spec.2.2.2
  have hev : (Term.length (.arg 0)).eval args s none [] s = some (.int xs.length.toInt32) := hx.length_eval hb
  have hv := Cond.le_ints hev (show (Term.int 384).eval args s none [] s = some (.int 384) from rfl)
  have hd : xs.length.toInt32 ≤ 384 := by
    simpa [Cond.before, Cond.holds, hv] using hle
  have hN : xs.length ≤ 384 := (Int32.ofNat_le_ofNat hsm (by decide)).mp (show Int32.ofNat xs.length ≤ Int32.ofNat 384 from hd)
  exact ⟨b, xs, Cond.one_arg hc (show args[0]? = some (.ref b) from hb), hx, hN, h⟩
theorem lw_comes (l : Launch) : Comes l x (Jvm.Cond.code x code maxLocals ret :: tables_1) room_1 (fun tb e args s => Calls_1 tb e args s ∧ rest_1 tb e args s ∧ Pre_1 tb e args s)
    (fun _ _ args s o t => lw_Q args s o t) := by
  intro p e ha hc hk s m args below hf hfit hheap happ hpre
  obtain ⟨b, xs, hP⟩ := lw_pre_spec hpre.2.2 hpre.2.1
  obtain ⟨k, o, h1, h2, h3, hQ⟩ := lw_walk l b xs p e ha hc hk s m args below hf ((Spec.applies_iff_loose hf).mp happ).1 hP trivial
  exact ⟨k, o, h1, h2, h3, hQ⟩
theorem lw_frame {s t : State} {o : Outcome} {args : Array Value} (h : Framed s o t [] 600000 7302250) :
    Framed s o t (fieldLocs frame_1_writes args s ++ arrayLocs frame_1_arrays args s ++ staticLocs frame_1_statics s) 600000 7302250 := h
theorem lw_limb (L : Cond) (hL : ∀ (args : Array Value) (s t : State), L.after args s (.returned (some (.int 1))) t = true) :
    ArmFor flags0 classFile x code maxLocals ret World_1 tables_1 room_1 Calls_1 rest_1 Pre_1
      (fun tb e a s o t => postC L tb e a s o t ∧ Framed s o t (fieldLocs frame_1_writes a s ++ arrayLocs frame_1_arrays a s ++ staticLocs frame_1_statics s) 600000 7302250) := by
  intro l _ _ _ p e ha hc hk s m args below hf hfit hheap happ hpre
  obtain ⟨k, o, h1, h2, h3, rfl, hF⟩ := lw_comes l p e ha hc hk s m args below hf hfit hheap happ hpre
  exact ⟨k, _, h1, h2, h3, hL args s _, lw_frame hF⟩
theorem i_vc : Claimed_1_1 ∧ Claimed_1_2 := ⟨lw_limb limb_1_1 (fun args s t => by simp [limb_1_1, Cond.after, Cond.holds, Cond.value]), lw_limb limb_1_2 (fun args s t => Cond.after_iff.mpr (by
  first | (rw [show limb_1_2 = Cond.eq .result (.int 1) from rfl, Cond.eq_ints (x := 1) (y := 1) rfl rfl]; simp; done) | (simp [limb_1_2, Cond.value, Term.eval]; done)))⟩
