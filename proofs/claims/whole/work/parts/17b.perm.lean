/-! all orders of up to 7 guests, one by one -/
def facN : Nat → Nat
  | 0 => 1
  | n + 1 => (n + 1) * facN n
def unC : Nat → List Nat → Nat → Nat → Nat
  | 0, _, _, _ => 0
  | n + 1, l, i, w => l.getD (i / facN n) 0 * w + unC n (l.eraseIdx (i / facN n)) (i % facN n) (8 * w)
def cP (c : Nat) : Pf := fun k => c / 8 ^ k % 8
def cdO (n i : Nat) : Nat := unC n (List.range n) i 1
def pO (n i : Nat) : Pf := cP (cdO n i)
def unL : Nat → List Nat → Nat → List Nat
  | 0, _, _ => []
  | n + 1, l, i => l.getD (i / facN n) 0 :: unL n (l.eraseIdx (i / facN n)) (i % facN n)
def un (n i : Nat) : List Nat := unL n (List.range n) i
def rkL : List Nat → Nat
  | [] => 0
  | x :: r => (r.countP (fun y => decide (y < x))) * facN r.length + rkL r
def codL : List Nat → Nat
  | [] => 0
  | x :: r => x + 8 * codL r
theorem facN_pos : ∀ n, 0 < facN n
  | 0 => Nat.one_pos
  | n + 1 => Nat.mul_pos (Nat.succ_pos n) (facN_pos n)
theorem unC_eq : ∀ (n : Nat) (l : List Nat) (i w : Nat), unC n l i w = w * codL (unL n l i)
  | 0, _, _, _ => rfl
  | n + 1, l, i, w => by
    show l.getD (i / facN n) 0 * w + unC n (l.eraseIdx (i / facN n)) (i % facN n) (8 * w) = w * (l.getD (i / facN n) 0 + 8 * codL (unL n (l.eraseIdx (i / facN n)) (i % facN n)))
    rw [unC_eq n, Nat.mul_add, Nat.mul_comm w, Nat.mul_comm 8 w, Nat.mul_assoc]
theorem cP_L : ∀ (l : List Nat), (∀ x ∈ l, x < 8) → ∀ k, cP (codL l) k = l.getD k 0
  | [], _, k => by
    show 0 / 8 ^ k % 8 = 0
    rw [Nat.zero_div]
  | x :: r, h, 0 => by
    show (x + 8 * codL r) / 8 ^ 0 % 8 = x
    have := h x (List.mem_cons_self ..)
    rw [Nat.pow_zero, Nat.div_one]; omega
  | x :: r, h, k + 1 => by
    show (x + 8 * codL r) / 8 ^ (k + 1) % 8 = r.getD k 0
    have := h x (List.mem_cons_self ..)
    rw [Nat.pow_succ, Nat.mul_comm (8 ^ k) 8, ← Nat.div_div_eq_div_mul, show (x + 8 * codL r) / 8 = codL r by omega]
    exact cP_L r (fun y hy => h y (List.mem_cons_of_mem _ hy)) k
theorem gd_get {l : List Nat} {j : Nat} (h : j < l.length) : l.getD j 0 = l[j] := by
  rw [List.getD_eq_getElem?_getD, List.getElem?_eq_getElem h]; rfl
theorem div_lt_fac {n i : Nat} (h : i < facN (n + 1)) : i / facN n < n + 1 := Nat.div_lt_of_lt_mul (by rw [Nat.mul_comm]; exact h)
theorem ex_perm : ∀ (l : List Nat) (j : Nat) (h : j < l.length), (l[j] :: l.eraseIdx j).Perm l
  | [], j, h => by cases h
  | a :: t, 0, _ => List.Perm.refl _
  | a :: t, j + 1, h => by
    have h' : j < t.length := Nat.lt_of_succ_lt_succ h
    show (t[j] :: a :: t.eraseIdx j).Perm (a :: t)
    exact (List.Perm.swap a t[j] _).trans (List.Perm.cons a (ex_perm t j h'))
theorem unL_perm : ∀ (n : Nat) (l : List Nat) (i : Nat), l.length = n → i < facN n → (unL n l i).Perm l
  | 0, l, i, hl, _ => by
    rw [List.length_eq_zero_iff.mp hl]; exact List.Perm.refl _
  | n + 1, l, i, hl, hi => by
    have hj : i / facN n < l.length := by rw [hl]; exact div_lt_fac hi
    have h1 := unL_perm n (l.eraseIdx (i / facN n)) (i % facN n) (by rw [List.length_eraseIdx_of_lt hj]; omega) (Nat.mod_lt _ (facN_pos n))
    show (l.getD (i / facN n) 0 :: unL n (l.eraseIdx (i / facN n)) (i % facN n)).Perm l
    rw [gd_get hj]
    exact (List.Perm.cons _ h1).trans (ex_perm l _ hj)
theorem srt_get : ∀ (l : List Nat) (x : Nat), l.Pairwise (· < ·) → x ∈ l → l.countP (fun y => decide (y < x)) < l.length ∧ l.getD (l.countP (fun y => decide (y < x))) 0 = x
  | [], x, _, h => by cases h
  | y :: t, x, hs, h => by
    obtain ⟨h1, h2⟩ := List.pairwise_cons.mp hs
    by_cases e : x = y
    · subst e
      have hz : (x :: t).countP (fun y => decide (y < x)) = 0 := by
        rw [List.countP_eq_zero]
        intro z hz
        rcases List.mem_cons.mp hz with rfl | hz
        · simp
        · have := h1 z hz
          simp; omega
      rw [hz]
      exact ⟨Nat.succ_pos _, rfl⟩
    · have hx : x ∈ t := by
        rcases List.mem_cons.mp h with h | h
        · exact absurd h e
        · exact h
      have hy := h1 x hx
      obtain ⟨i1, i2⟩ := srt_get t x h2 hx
      have hc : (y :: t).countP (fun z => decide (z < x)) = t.countP (fun z => decide (z < x)) + 1 := by
        rw [List.countP_cons_of_pos (by simp; exact hy)]
      rw [hc]
      exact ⟨by show _ < t.length + 1; omega, i2⟩
theorem rkL_lt : ∀ p : List Nat, rkL p < facN p.length
  | [] => Nat.one_pos
  | x :: r => by
    show r.countP _ * facN r.length + rkL r < (r.length + 1) * facN r.length
    have h1 := rkL_lt r
    have h2 : r.countP (fun y => decide (y < x)) ≤ r.length := List.countP_le_length
    have h3 : (r.countP (fun y => decide (y < x)) + 1) * facN r.length ≤ (r.length + 1) * facN r.length := Nat.mul_le_mul_right _ (by omega)
    rw [Nat.add_mul, Nat.one_mul] at h3
    omega
theorem un_rk : ∀ (n : Nat) (l p : List Nat), l.length = n → l.Pairwise (· < ·) → p.Perm l → unL n l (rkL p) = p
  | 0, l, p, hl, _, hp => by
    rw [List.length_eq_zero_iff.mp hl] at hp
    rw [List.Perm.eq_nil hp]; rfl
  | n + 1, l, [], hl, _, hp => by
    have := hp.length_eq
    rw [hl] at this; cases this
  | n + 1, l, x :: r, hl, hs, hp => by
    have hlen : r.length = n := by have := hp.length_eq; rw [hl] at this; exact Nat.succ.inj this
    have hx : x ∈ l := hp.mem_iff.mp (List.mem_cons_self ..)
    obtain ⟨g1, g2⟩ := srt_get l x hs hx
    have hc : l.countP (fun y => decide (y < x)) = r.countP (fun y => decide (y < x)) := by
      rw [← hp.countP_eq, List.countP_cons_of_neg (by simp)]
    rw [hc] at g1 g2
    have hb := rkL_lt r
    rw [hlen] at hb
    have e1 : rkL (x :: r) / facN n = r.countP (fun y => decide (y < x)) := by
      show (r.countP (fun y => decide (y < x)) * facN r.length + rkL r) / facN n = _
      rw [hlen, Nat.mul_comm, Nat.mul_add_div (facN_pos n), Nat.div_eq_of_lt hb, Nat.add_zero]
    have e2 : rkL (x :: r) % facN n = rkL r := by
      show (r.countP (fun y => decide (y < x)) * facN r.length + rkL r) % facN n = _
      rw [hlen, Nat.mul_comm, Nat.mul_add_mod, Nat.mod_eq_of_lt hb]
    show l.getD (rkL (x :: r) / facN n) 0 :: unL n (l.eraseIdx (rkL (x :: r) / facN n)) (rkL (x :: r) % facN n) = x :: r
    rw [e1, e2, g2]
    have hp2 : (l.eraseIdx (r.countP (fun y => decide (y < x)))).Perm r := by
      have h1 := ex_perm l _ g1
      rw [← gd_get g1, g2] at h1
      exact List.Perm.cons_inv (h1.trans hp.symm)
    rw [un_rk n _ r (by rw [List.length_eraseIdx_of_lt g1]; omega) (hs.sublist (List.eraseIdx_sublist ..)) hp2.symm]
theorem range_srt (n : Nat) : (List.range n).Pairwise (· < ·) := List.pairwise_lt_range
theorem pO_L {n i : Nat} (hn : n ≤ 7) (hi : i < facN n) (k : Nat) : pO n i k = (un n i).getD k 0 := by
  unfold pO cdO
  rw [unC_eq, Nat.one_mul]
  refine cP_L _ (fun x hx => ?_) k
  have := (unL_perm n _ i (List.length_range ..) hi).mem_iff.mp hx
  have := List.mem_range.mp this
  omega
theorem un_len {n i : Nat} (hi : i < facN n) : (un n i).length = n := by
  have := (unL_perm n (List.range n) i List.length_range hi).length_eq
  rw [List.length_range] at this; exact this
theorem pO_lt {n i : Nat} (hn : n ≤ 7) (hi : i < facN n) {k : Nat} (hk : k < n) : pO n i k < n := by
  have hl := un_len hi
  rw [pO_L hn hi, gd_get (by omega)]
  exact List.mem_range.mp ((unL_perm n _ i List.length_range hi).mem_iff.mp (List.getElem_mem _))
theorem pO_sur {n i : Nat} (hn : n ≤ 7) (hi : i < facN n) {g : Nat} (hg : g < n) : ∃ k, k < n ∧ pO n i k = g := by
  have hl := un_len hi
  have := (unL_perm n _ i List.length_range hi).mem_iff.mpr (List.mem_range.mpr hg)
  obtain ⟨k, hk, e⟩ := List.getElem_of_mem this
  have hk' : k < (un n i).length := hk
  exact ⟨k, by omega, by rw [pO_L hn hi, gd_get hk']; exact e⟩
theorem pO_inj {n i : Nat} (hn : n ≤ 7) (hi : i < facN n) {k j : Nat} (hk : k < n) (hj : j < n) (e : pO n i k = pO n i j) : k = j := by
  have hl := un_len hi
  have nd : (un n i).Nodup := (unL_perm n _ i List.length_range hi).nodup_iff.mpr List.nodup_range
  rw [pO_L hn hi, pO_L hn hi, gd_get (by omega), gd_get (by omega)] at e
  have pw := List.pairwise_iff_getElem.mp nd
  rcases Nat.lt_trichotomy k j with h | h | h
  · exact absurd e (pw k j (by omega) (by omega) h)
  · exact h
  · exact absurd e.symm (pw j k (by omega) (by omega) h)
theorem pO_mir {n i : Nat} (h1 : 1 ≤ n) (hn : n ≤ 7) (hi : i < facN n) (hs : ¬ pO n i 0 ≤ pO n i (n - 1)) : ∃ i', i' < i ∧ i' < facN n ∧ ∀ k, k < n → pO n i' k = pO n i (n - 1 - k) := by
  obtain ⟨n', rfl⟩ : ∃ n', n = n' + 1 := ⟨n - 1, by omega⟩
  have hl := un_len hi
  have hp : (un (n' + 1) i).reverse.Perm (List.range (n' + 1)) := (List.reverse_perm _).trans (unL_perm _ _ i List.length_range hi)
  have hrk : rkL (un (n' + 1) i).reverse < facN (n' + 1) := by
    have := rkL_lt (un (n' + 1) i).reverse
    rw [List.length_reverse, hl] at this; exact this
  have hun : un (n' + 1) (rkL (un (n' + 1) i).reverse) = (un (n' + 1) i).reverse := un_rk _ _ _ List.length_range (range_srt _) hp
  refine ⟨rkL (un (n' + 1) i).reverse, ?_, hrk, fun k hk => ?_⟩
  · have hx : pO (n' + 1) i 0 = i / facN n' := by
      rw [pO_L hn hi]
      show (List.range (n' + 1)).getD (i / facN n') 0 = _
      rw [gd_get (by rw [List.length_range]; exact div_lt_fac hi), List.getElem_range]
    have hy : pO (n' + 1) i n' = rkL (un (n' + 1) i).reverse / facN n' := by
      have e : pO (n' + 1) (rkL (un (n' + 1) i).reverse) 0 = rkL (un (n' + 1) i).reverse / facN n' := by
        rw [pO_L hn hrk]
        show (List.range (n' + 1)).getD (rkL (un (n' + 1) i).reverse / facN n') 0 = _
        rw [gd_get (by rw [List.length_range]; exact div_lt_fac hrk), List.getElem_range]
      rw [← e, pO_L hn hrk, hun, pO_L hn hi, gd_get (by omega), gd_get (by rw [List.length_reverse]; omega), List.getElem_reverse]
      congr 1
      omega
    rw [show n' + 1 - 1 = n' from rfl, hx, hy] at hs
    have hpos := facN_pos n'
    have a1 := Nat.div_mul_le_self i (facN n')
    have a2 : rkL (un (n' + 1) i).reverse < (rkL (un (n' + 1) i).reverse / facN n' + 1) * facN n' := by
      have b1 := Nat.div_add_mod (rkL (un (n' + 1) i).reverse) (facN n')
      have b2 := Nat.mod_lt (rkL (un (n' + 1) i).reverse) hpos
      rw [Nat.mul_comm] at b1
      rw [Nat.add_mul, Nat.one_mul]
      omega
    have a3 : (rkL (un (n' + 1) i).reverse / facN n' + 1) * facN n' ≤ i / facN n' * facN n' := Nat.mul_le_mul_right _ (by omega)
    omega
  · rw [pO_L hn hrk, hun, pO_L hn hi, gd_get (by rw [List.length_reverse]; omega), List.getElem_reverse, gd_get (by omega)]
    congr 1
    omega
def allB : Nat → (Nat → Bool) → Bool
  | 0, _ => true
  | n + 1, f => f n && allB n f
theorem allB_of {f : Nat → Bool} : ∀ n, allB n f = true → ∀ k, k < n → f k = true
  | 0, _, k, h => by omega
  | n + 1, h, k, hk => by
    have h' : (f n && allB n f) = true := h
    rw [Bool.and_eq_true] at h'
    by_cases e : k = n
    · rw [e]; exact h'.1
    · exact allB_of n h'.2 k (by omega)
def nxB (n c c' : Nat) : Bool := match nextP n (cP c) with
  | none => false
  | some Q => allB n fun k => Q k == cP c' k
def chkN (n i : Nat) : Bool := Nat.rec (motive := fun _ => Bool) (nxB n 0 (cdO n (i + 1))) (fun d _ => nxB n (d + 1) (cdO n (i + 1))) (cdO n i)
theorem chkN_eq (n i : Nat) : chkN n i = nxB n (cdO n i) (cdO n (i + 1)) := by
  unfold chkN
  cases cdO n i <;> rfl
theorem nx_of {n i : Nat} (h : chkN n i = true) : ∃ Q, nextP n (pO n i) = some Q ∧ ∀ k, k < n → Q k = pO n (i + 1) k := by
  rw [chkN_eq] at h
  unfold nxB at h
  cases hq : nextP n (cP (cdO n i)) with
  | none => rw [hq] at h; cases h
  | some Q =>
    rw [hq] at h
    exact ⟨Q, hq, fun k hk => eq_of_beq (allB_of n h k hk)⟩
theorem chk1 : ∀ n, n < 7 → 0 < n → ∀ i, i < 720 → i + 1 < facN n → chkN n i = true := by decide +kernel
theorem nx_last : ∀ n, n < 8 → 0 < n → (match nextP n (pO n (facN n - 1)) with | none => true | some _ => false) = true := by decide +kernel
