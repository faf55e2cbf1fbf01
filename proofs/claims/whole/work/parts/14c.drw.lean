/-! seasons by draws -/
def nL (n : Nat) : Int64 := Int64.ofNat n
theorem nL_toInt {n : Nat} (h : n < 2 ^ 63) : (nL n).toInt = n := Int64.toInt_ofNat_of_lt h
theorem nL_eq {x : Int64} {n : Nat} (h : n < 2 ^ 63) (e : x.toInt = n) : x = nL n := by
  apply Int64.toInt_inj.mp; rw [e, nL_toInt h]
theorem bm64 {a : Nat} (h2 : a < 2 ^ 63) : (a : Int).bmod (2 ^ 64) = a := by
  apply Int.bmod_eq_of_le <;> omega
theorem nL_mul (a b : Nat) : nL a * nL b = nL (a * b) := by
  unfold nL; rw [Int64.ofNat_mul]
theorem nL_rem {a b : Nat} (ha : a < 2 ^ 63) (hb : b < 2 ^ 63) (h0 : 0 < b) : nL a - nL a / nL b * nL b = nL (a % b) := by
  have hd : a / b * b ≤ a := Nat.div_mul_le_self a b
  have hd2 : a / b ≤ a := Nat.div_le_self a b
  have e1 : nL a / nL b = nL (a / b) := by
    apply nL_eq (by omega)
    rw [Int64.toInt_div, nL_toInt ha, nL_toInt hb]
    show Int.bmod ((a : Int).tdiv b) (2 ^ 64) = _
    rw [Int.tdiv_eq_ediv_of_nonneg (by omega), ← Int.natCast_ediv]
    generalize a / b = q at hd2
    exact bm64 (by omega)
  rw [e1, nL_mul]
  apply nL_eq (by have := Nat.mod_lt a h0; omega)
  rw [Int64.toInt_sub, nL_toInt ha, nL_toInt (by omega)]
  have := Nat.div_add_mod a b
  rw [Nat.mul_comm] at this
  rw [show ((a : Int) - ((a / b * b : Nat) : Int)) = ((a % b : Nat) : Int) by omega]
  exact bm64 (by have := Nat.mod_lt a h0; omega)
theorem nL_i {n : Nat} (h : n < 2147483648) : (nI n).toInt64 = nL n := by
  apply nL_eq (by omega)
  rw [Int32.toInt_toInt64]
  exact nI_toInt h
theorem nL_32 {n : Nat} (h : n < 2147483648) : (nL n).toInt32 = nI n := by
  apply Int32.toInt_inj.mp
  rw [Int64.toInt_toInt32, nL_toInt (by omega), nI_toInt h]
  apply Int.bmod_eq_of_le <;> omega
theorem nL_ne0 {n : Nat} (h : n < 2 ^ 63) (h0 : 0 < n) : ¬ nL n = 0 := by
  intro e
  have := congrArg Int64.toInt e
  rw [nL_toInt h] at this
  have z : (0 : Int64).toInt = 0 := by decide
  omega
theorem SpAt.three {fx fm gx gm : Mm → Option (Int32 × Mm)} {S : SS} (hS : OkS S) (x1 x2 x3 : Int32) (lo hi lo2 hi2 : Nat) (hl : lo ≤ hi) (hh : hi < 1000000) (hl2 : lo2 ≤ hi2) (hh2 : hi2 < 1000000)
    (c1 : ∀ m, CInv m S → fx m = if f_X7_in x1 (nI lo) (nI hi) = 0 then some ((-1000001 : Int32), m) else if f_X7_in x2 (nI lo2) (nI hi2) = 0 then some ((-1000001 : Int32), m) else if f_X6_isFlag x3 = 0 then some ((-1000001 : Int32), m) else gx m)
    (c2 : ∀ m, MInv m S → fm m = if f_X7_in x1 (nI lo) (nI hi) = 0 then some ((-1000001 : Int32), m) else if f_X7_in x2 (nI lo2) (nI hi2) = 0 then some ((-1000001 : Int32), m) else if f_X7_in x3 (0 : Int32) (1 : Int32) = 0 then some ((-1000001 : Int32), m) else gm m)
    (h : ∀ n j k, lo ≤ n → n ≤ hi → lo2 ≤ j → j ≤ hi2 → k ≤ 1 → x1 = nI n → x2 = nI j → x3 = nI k → SpAt S gx gm) : SpAt S fx fm := by
  rcases btw x1 lo hi hl hh with hb | ⟨n, hn1, hn2, rfl⟩
  · have hz : f_X7_in x1 (nI lo) (nI hi) = 0 := in_bad hh (by omega) hb
    exact SpAt.keep hS (-1000001) (fun m hm => by rw [c1 m hm, hz, if_pos rfl]) (fun m hm => by rw [c2 m hm, hz, if_pos rfl])
  have hz : f_X7_in (nI n) (nI lo) (nI hi) = 1 := in_ok hh hn1 hn2
  exact SpAt.two hS x2 x3 lo2 hi2 hl2 hh2 (fun m hm => by rw [c1 m hm, hz, if_neg (by decide)]) (fun m hm => by rw [c2 m hm, hz, if_neg (by decide)]) (fun j k h1 h2 h3 e1 e2 => h n j k hn1 hn2 h1 h2 h3 rfl e1 e2)
def gAt (V : Wv) (p : Nat) : Nat := ((List.range (V 2)).find? (fun g => V (ig g 4) == p)).getD 0
theorem gAt_of {V : Wv} (hV : OkV V) {p : Nat} (hp : p < V 2) : gAt V p < V 2 ∧ V (ig (gAt V p) 4) = p := by
  obtain ⟨g, hg, he⟩ := hV.sur p hp
  unfold gAt
  cases hf : (List.range (V 2)).find? (fun g => V (ig g 4) == p) with
  | none =>
    have := List.find?_eq_none.mp hf g (List.mem_range.mpr hg)
    simp [he] at this
  | some g' =>
    have h1 := List.find?_some hf
    have h2 := List.mem_range.mp (List.mem_of_find?_eq_some hf)
    simp at h1
    exact ⟨h2, h1⟩
theorem gAt_ne {V : Wv} (hV : OkV V) {p : Nat} (hp : p + 1 < V 2) : gAt V p ≠ gAt V (p + 1) := by
  intro e
  have h1 := (gAt_of hV (show p < V 2 by omega)).2
  have h2 := (gAt_of hV hp).2
  rw [e, h2] at h1
  omega
def drS (V : Wv) (p : Nat) : Wv := if p + 1 < V 2 then swapV V (gAt V p) (gAt V (p + 1)) else V
def drN (X : Nat) : Nat := X * 16807 % 2147483647
def drV : Nat → Nat → Wv → Wv
  | 0, _, V => V
  | k + 1, X, V => drV k (drN X) (passV (drS (setHV V (hbV V ^^^ 2 ^ (drN X % V 2))) (drN X % 7)))
theorem drS_ok {V : Wv} {p : Nat} (hV : OkV V) : OkV (drS V p) := by
  unfold drS
  split
  · rename_i h
    exact swapV_ok hV (gAt_of hV (by omega)).1 (gAt_of hV h).1
  · exact hV
theorem drS_lo {V : Wv} {p k : Nat} (hk : k < 6) : drS V p k = V k := by
  unfold drS
  split
  · exact swapV_o (Or.inl hk)
  · rfl
theorem drN_lt (X : Nat) : drN X < 2147483647 := Nat.mod_lt _ (by omega)
theorem drN_E {X : Nat} (h : X < 2147483648) : nL X * (16807 : Int64) - nL X * (16807 : Int64) / (2147483647 : Int64) * (2147483647 : Int64) = nL (drN X) := by
  have e : (16807 : Int64) = nL 16807 := rfl
  have e2 : (2147483647 : Int64) = nL 2147483647 := rfl
  rw [e, e2, nL_mul, nL_rem (by omega) (by omega) (by omega)]
  rfl
theorem remE {X n : Nat} (h : X < 2147483648) (hn : n < 2147483648) (h0 : 0 < n) : (nL X - nL X / nL n * nL n).toInt32 = nI (X % n) := by
  have := Nat.mod_lt X h0
  rw [nL_rem (by omega) (by omega) h0, nL_32 (by omega)]
set_option maxHeartbeats 1000000 in
theorem cl_drS {m : Mm} {V : Wv} {p : Nat} (hV : OkV V) (hp : p < 7) (hc : CW m 241 V) : ∃ m', (if (f_X5_has 241 (nI p + (1 : Int32)) m) = 0 then (some m)
  else (gd_ (¬ (nI p < 0 ∨ 7 ≤ ix (nI p))) (gd_ (¬ ((nI p + (1 : Int32)) < 0 ∨ 7 ≤ ix (nI p + (1 : Int32)))) (bd1 (f_X5_trade 241 (m 248 (ix (nI p))) (m 248 (ix (nI p + (1 : Int32)))) m) fun m12 => (some m12))))) = some m' ∧ CW m' 241 (drS V p) ∧ ∀ a, (a < 241 ∨ 249 < a) → m' a = m a := by
  have hn := hV.n
  rw [nI_s1]
  unfold drS
  by_cases h : p + 1 < V 2
  · obtain ⟨g1, g2⟩ := gAt_of hV (show p < V 2 by omega)
    obtain ⟨k1, k2⟩ := gAt_of hV h
    have e1 := (hc.g g1).2.2.2.2.2.2
    have e2 := (hc.g k1).2.2.2.2.2.2
    rw [g2] at e1
    rw [k2] at e2
    have e1' : m 248 p = nI (gAt V p) := e1
    have e2' : m 248 (p + 1) = nI (gAt V (p + 1)) := e2
    obtain ⟨m', a1, a2, a3⟩ := cl_trade (w := 241) hV hc g1 k1 (gAt_ne hV h)
    rw [(gst_ok (w := 241) hn h).1 hc, if_neg (by decide), gdN (by omega) (by omega), gdN (by omega) (by omega), ix_nI (by omega), ix_nI (by omega), e1', e2', a1, bd1_d, if_pos h]
    exact ⟨m', rfl, a2, fun a ha => a3 a (by omega)⟩
  · rw [(gst_bad (w := 241) hn (x := nI (p + 1)) (Or.inr (by rw [nI_leE (by omega) (by omega)]; omega))).1 hc, if_pos rfl, if_neg h]
    exact ⟨m, rfl, hc, fun _ _ => rfl⟩
theorem mo_drS {m : Mm} {V : Wv} {p : Nat} {x : Int32} (hx : x = nI (V 2)) (hV : OkV V) (hp : p < 7) (hm : MW m 306 0 V) : ∃ m', (if x ≤ (nI p + (1 : Int32)) then (some m)
  else (bd1 (f_X7_inSeat 306 55 (nI p) m) fun r15 => (bd1 (f_X7_inSeat 306 55 (nI p + (1 : Int32)) m) fun r16 => (bd1 (f_X7_changes 306 55 r15 r16 m) fun m17 => (some m17))))) = some m' ∧ MW m' 306 0 (drS V p) ∧ ∀ a, a ≠ 306 → m' a = m a := by
  have hn := hV.n
  subst hx
  rw [nI_s1]
  unfold drS
  have q : (nI (V 2) ≤ nI (p + 1)) = (V 2 ≤ p + 1) := nI_leE (by omega) (by omega)
  simp only [q]
  by_cases h : p + 1 < V 2
  · obtain ⟨g1, g2⟩ := gAt_of hV (show p < V 2 by omega)
    obtain ⟨k1, k2⟩ := gAt_of hV h
    obtain ⟨m', a1, a2, a3, a4⟩ := mo_changes (q := 306) (nq := 55) (by omega) hn hm g1 k1 (gAt_ne hV h)
    rw [if_neg (by omega), mo_inSeat (by omega) hV hm g1 (by rw [g2]), bd1_d, mo_inSeat (by omega) hV hm k1 (by rw [k2]), bd1_d, a1, bd1_d, if_pos h]
    exact ⟨m', rfl, a2, a3⟩
  · rw [if_pos (by omega), if_neg h]
    exact ⟨m, rfl, hm, fun _ _ => rfl⟩
set_option maxHeartbeats 1000000 in
theorem cl_drw {n : Nat} (hn : n ≤ 60) : ∀ (k f i X : Nat) (m : Mm) (V : Wv), i + k = n → k < f → X < 2147483648 → OkV V → 1 ≤ V 2 → V 3 + k ≤ 20000 → CW m 241 V →
    ∃ m', lp_X1_season_15 f (nI n) (nL X) (nI i) m = some m' ∧ CW m' 241 (drV k X V) ∧ ∀ a, (a < 241 ∨ 249 < a) → m' a = m a := by
  intro k
  induction k with
  | zero =>
    intro f i X m V hi hf hX hV h1 h3 hc
    cases f with
    | zero => omega
    | succ f =>
      refine ⟨m, ?_, hc, fun _ _ => rfl⟩
      show lb_X1_season_15 (lp_X1_season_15 f) (nI n) (nL X) (nI i) m = _
      unfold lb_X1_season_15
      rw [if_pos (by rw [nI_leE (by omega) (by omega)]; omega)]
  | succ k ih =>
    intro f i X m V hi hf hX hV h1 h3 hc
    cases f with
    | zero => omega
    | succ f =>
      have hn7 := hV.n
      have h128 := two_pow_lt hn7
      have hXl := drN_lt X
      have hg : drN X % V 2 < V 2 := Nat.mod_lt _ (by omega)
      have hp : drN X % 7 < 7 := Nat.mod_lt _ (by omega)
      have hh := hbV_lt hV
      have hx := xor_lt _ (by omega) _ hg _ hh
      have hB : ∀ m', lb_X1_season_15 (lp_X1_season_15 f) (nI n) (nL X) (nI i) m = m' → lp_X1_season_15 (f + 1) (nI n) (nL X) (nI i) m = m' := fun m' h => h
      unfold lb_X1_season_15 at hB
      obtain ⟨m1, a1, a2, a3⟩ := cl_engage (w := 241) hV hc hx
      obtain ⟨m2, b1, b2, b3⟩ := cl_drS (p := drN X % 7) (setHV_ok hV) hp a2
      obtain ⟨m3, d1, d2, d3⟩ := cl_pass (drS_ok (setHV_ok hV)) b2
      have q0 : (nI (V 2) ≤ (0 : Int32)) = (V 2 ≤ 0) := nI_leE (b := 0) (by omega) (by omega)
      rw [if_neg (by rw [nI_leE (by omega) (by omega)]; omega), drN_E hX, nm_d, hc.1, nL_i (by omega), remE (by omega) (by omega) (by omega), hc.hb, xorE _ (by omega) _ (by omega), a1, bd1_d, show (7 : Int64) = nL 7 from rfl, remE (by omega) (by omega) (by omega), nm_d, b1, bd1_d, d1, bd1_d, nm_d, nI_s1, gd_t (nL_ne0 (by omega) (by omega))] at hB
      simp only [q0] at hB
      rw [if_neg (by omega)] at hB
      obtain ⟨m', z1, z2, z3⟩ := ih f (i + 1) (drN X) m3 _ (by omega) (by omega) (by omega) (passV_ok (drS_ok (setHV_ok hV)) (by rw [drS_lo (by omega), setHV_lo (by omega)]; omega)) (by rw [passV_lo (by omega), drS_lo (by omega), setHV_lo (by omega)]; exact h1) (by show drS (setHV V _) _ 3 + 1 + k ≤ 20000; rw [drS_lo (by omega), setHV_lo (by omega)]; omega) d2
      exact ⟨m', hB _ z1, z2, fun a ha => by rw [z3 a ha, d3 a (by omega), b3 a (by omega), a3 a (by omega)]⟩
set_option maxHeartbeats 1000000 in
theorem mo_drw {n : Nat} (x3 : Int32) (hn : n ≤ 60) : ∀ (k f i X : Nat) (m : Mm) (V W : Wv), i + k = n → k < f → X < 2147483648 → OkV V → 1 ≤ V 2 → V 3 + k ≤ 20000 → MW m 306 0 V → MW m 304 0 W → W 2 = V 2 →
    ∃ m', lp_X7_drawn_62 f (nI n) x3 (nL X) (nI i) m = some m' ∧ MW m' 306 0 (drV k X V) ∧ ∀ a, a ≠ 306 → a ≠ 310 → m' a = m a := by
  intro k
  induction k with
  | zero =>
    intro f i X m V W hi hf hX hV h1 h3 hc hW hWV
    cases f with
    | zero => omega
    | succ f =>
      refine ⟨m, ?_, hc, fun _ _ _ => rfl⟩
      show lb_X7_drawn_62 (lp_X7_drawn_62 f) (nI n) x3 (nL X) (nI i) m = _
      unfold lb_X7_drawn_62
      rw [if_pos (by rw [nI_leE (by omega) (by omega)]; omega)]
  | succ k ih =>
    intro f i X m V W hi hf hX hV h1 h3 hc hW hWV
    cases f with
    | zero => omega
    | succ f =>
      have hn7 := hV.n
      have h128 := two_pow_lt hn7
      have hXl := drN_lt X
      have hg : drN X % V 2 < V 2 := Nat.mod_lt _ (by omega)
      have hp : drN X % 7 < 7 := Nat.mod_lt _ (by omega)
      have hbt := hV.bits _ hg
      have i5 : ig (drN X % V 2) 5 < 55 := ig_lt (n := 7) (by omega) (by omega) (by omega)
      have hB : ∀ m', lb_X7_drawn_62 (lp_X7_drawn_62 f) (nI n) x3 (nL X) (nI i) m = m' → lp_X7_drawn_62 (f + 1) (nI n) x3 (nL X) (nI i) m = m' := fun m' h => h
      unfold lb_X7_drawn_62 at hB
      obtain ⟨m1, a1, a2, a3, a4⟩ := mo_hires (V := V) (q := 306) (nq := 55) (g := drN X % V 2) (on := 1 - V (ig (drN X % V 2) 5)) (by omega) (by omega) (by omega) hc rfl rfl hbt (hV.b hg).2.2.2.2.2.2.2.2
      have a2' : MW m1 306 0 (setHV V (hbV V ^^^ 2 ^ (drN X % V 2))) := fun k hk => by rw [a2 k hk, setHV_flip hV hg rfl k]
      have e2 : m 304 2 = nI (V 2) := by rw [hW.at (by omega), hWV]
      have e3 : m1 304 2 = nI (setHV V (hbV V ^^^ 2 ^ (drN X % V 2)) 2) := by rw [a3 304 (by omega), e2, setHV_lo (by omega)]
      obtain ⟨m2, b1, b2, b3⟩ := mo_drS (p := drN X % 7) e3 (setHV_ok hV) hp a2'
      obtain ⟨m3, d1, d2, d3, d4⟩ := mo_pass (q := 306) (nq := 55) (by omega) (by omega) (drS_ok (setHV_ok hV)) b2
      rw [if_neg (by rw [nI_leE (by omega) (by omega)]; omega), drN_E hX, nm_d, show ix (2 : Int32) = 2 from rfl, e2, nL_i (by omega), gd_t (nL_ne0 (by omega) (by omega)), remE (by omega) (by omega) (by omega), nm_d, show (6 : Int32) + (7 : Int32) * nI (drN X % V 2) + (5 : Int32) = nI (ig (drN X % V 2) 5) from igE _ 5, gdN i5 (by omega), ix_nI (by omega), hc.at i5, show (1 : Int32) - nI (V (ig (drN X % V 2) 5)) = nI (1 - V (ig (drN X % V 2) 5)) from nI_subE (a := 1) hbt, a1, bd1_d, show (7 : Int64) = nL 7 from rfl, remE (by omega) (by omega) (by omega), nm_d, b1, bd1_d, d1, bd1_d, nm_d, nI_s1] at hB
      obtain ⟨m', z1, z2, z3⟩ := ih f (i + 1) (drN X) m3 _ W (by omega) (by omega) (by omega) (passV_ok (drS_ok (setHV_ok hV)) (by rw [drS_lo (by omega), setHV_lo (by omega)]; omega)) (by rw [passV_lo (by omega), drS_lo (by omega), setHV_lo (by omega)]; exact h1) (by show drS (setHV V _) _ 3 + 1 + k ≤ 20000; rw [drS_lo (by omega), setHV_lo (by omega)]; omega) d2 (hW.frame (by rw [d3 304 (by omega) (by omega), b3 304 (by omega), a3 304 (by omega)])) (by rw [passV_lo (by omega), drS_lo (by omega), setHV_lo (by omega)]; exact hWV)
      exact ⟨m', hB _ z1, z2, fun a h1 h2 => by rw [z3 a h1 h2, d3 a h1 h2, b3 a h1, a3 a h1]⟩
theorem sp_drawn (x1 x2 x3 : Int32) : Sp2 (f_X6_drawn x1 x2 x3) (f_X7_drawn x1 x2 x3) := fun S hS => by
  have hN := hS.2.2.2.1
  have hn := hN.v.n
  have hF := FU_big
  by_cases hz0 : S.2.2.2.1 2 = 0
  · refine SpAt.keep hS (-1000002) (fun m hm => ?_) (fun m hm => ?_)
    · unfold f_X6_drawn
      rw [isNoneE hn hm.2.2.2.1, if_pos hz0]; rfl
    · unfold f_X7_drawn
      rw [isWedE hN hm.2.2.2.1, if_pos hz0]; rfl
  have hW := hN.w (by omega)
  have hV := hW.1
  have h3 := hW.2.1
  refine SpAt.three hS x1 x2 x3 0 60 1 999999 (by omega) (by omega) (by omega) (by omega) (gx := fun m => (bd1 (f_X1_season 13 x1 x2 m) fun m5 => (if x3 = 0 then (some ((m5 241 4), m5)) else (some ((m5 241 5), m5))))) (gm := fun m => (bd1 (f_X7_copies 304 55 (0 : Int32) 306 55 (0 : Int32) m) fun m5 => (nm_ ((x2).toInt64 : Int64) fun v6 => (bd1 (lp_X7_drawn_62 FU x1 x3 v6 (0 : Int32) m5) fun m21 => (nm_ ((if x3 = 0 then (4 : Int32) else (5 : Int32)) : Int32) fun j24 => (gd_ (¬ (j24 < 0 ∨ 55 ≤ ix j24)) (some ((m21 306 (ix j24)), m21)))))))) (fun m hm => ?_) (fun m hm => ?_) ?_
  · unfold f_X6_drawn
    rw [isNoneE hn hm.2.2.2.1, if_neg hz0, if_pos rfl, withinE, withinE] <;> rfl
  · unfold f_X7_drawn
    rw [isWedE hN hm.2.2.2.1, if_neg hz0, if_neg (by decide)] <;> rfl
  rintro n j k - hn2 hj1 hj2 hk rfl rfl rfl
  have k0 : (nI k = 0) = (k = 0) := nI_eqE (b := 0) (by omega) (by omega)
  refine SpAt.scr hS (nI (drV n j S.2.2.2.1 (if k = 0 then 4 else 5))) (fun m hm => ?_) (fun m hm => ?_)
  · obtain ⟨m1, a1, a2, a3⟩ := cl_become (w0 := 241) (w1 := 13) (by omega) hn hV.seats hm.2.2.2.1
    obtain ⟨m', e1, e2, e3⟩ := cl_drw hn2 n FU 0 j m1 S.2.2.2.1 (by omega) (by omega) (by omega) hV (by omega) (by omega) a2
    have e1' : lp_X1_season_15 FU (nI n) (nL j) (0 : Int32) m1 = some m' := e1
    unfold f_X1_season
    simp only [a1, bd1_d, nm_d, nL_i (show j < 2147483648 by omega), e1', k0]
    refine ⟨m', ?_, fun a ha => by rw [e3 a (by omega), a3 a (by omega)]⟩
    by_cases h : k = 0
    · rw [if_pos h, if_pos h, e2.2.2.2.2.1]
    · rw [if_neg h, if_neg h, e2.2.2.2.2.2.1]
  · obtain ⟨m1, a1, a2, a3, a4⟩ := mo_copy (q1 := 304) (z1 := 55) (o1 := 0) (q3 := 306) (z3 := 55) (o3 := 0) (by omega) (by omega) (by omega) (by omega) (by omega) hm.2.2.2.1
    have a1' : f_X7_copies 304 55 (0 : Int32) 306 55 (0 : Int32) m = some m1 := a1
    obtain ⟨m', e1, e2, e3⟩ := mo_drw (nI k) hn2 n FU 0 j m1 S.2.2.2.1 S.2.2.2.1 (by omega) (by omega) (by omega) hV (by omega) (by omega) a2 (hm.2.2.2.1.frame (a3 304 (by omega))) rfl
    have e1' : lp_X7_drawn_62 FU (nI n) (nI k) (nL j) (0 : Int32) m1 = some m' := e1
    simp only [a1', bd1_d, nm_d, nL_i (show j < 2147483648 by omega), e1', k0]
    refine ⟨m', ?_, fun a _ h1 h2 _ => by rw [e3 a h1 h2, a3 a h1]⟩
    by_cases h : k = 0
    · simp only [if_pos h]
      rw [gd_t (by decide), show ix (4 : Int32) = 4 from rfl, e2.at (by omega)]
    · simp only [if_neg h]
      rw [gd_t (by decide), show ix (5 : Int32) = 5 from rfl, e2.at (by omega)]
