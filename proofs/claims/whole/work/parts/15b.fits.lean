def bitL (F : Nat → Bool) : Nat → Nat → Int32 → Int32
  | 0, _, x => x
  | k + 1, v, x => bitL F k (v + 1) (x ||| (if F v = true then (1 : Int32) <<< (nI v &&& 31) else (0 : Int32)))
theorem fitIf3 {α : Type} (b : Bool) (x y : α) : (if (if b = true then (1 : Int32) else 0) = 0 then x else y) = if b = true then y else x := fitIf b x y
theorem nI_addIf (c : Nat) (P : Prop) [Decidable P] : nI c + (if P then (1 : Int32) else (0 : Int32)) = nI (c + if P then 1 else 0) := by
  split
  · exact nI_s1 c
  · exact nI_add c 0
/-- one thing tried, then told -/
theorem cl_one {m m1 : Mm} {g n : Nat} {T : Nat → Int32} {V U : Wv} (hn : n ≤ 12) (hV : OkV V) (h3 : V 3 ≤ 9999) (hU : OkV U) (hU2 : U 2 = V 2) (hU3 : U 3 = V 3) (hg : g < V 2) (hG : GH m g n T) (h1 : ∀ a, (a < 252 ∨ 260 < a) → m1 a = m a) (hc : CW m1 252 U) : ∃ m', f_X2_isAsTold m1 = some ((if asT g T n 0 U = true then 1 else 0), m') ∧ ∀ a, (a < 252 ∨ 260 < a) → m' a = m a := by
  obtain ⟨m', z1, z2⟩ := cl_told hn hU (by rw [hU2]; exact hg) (by rw [hU3]; exact h3) (hG.frame h1) hc
  exact ⟨m', z1, fun a ha => by rw [z2 a ha, h1 a ha]⟩
theorem cl_sorts {g n : Nat} {T : Nat → Int32} {V : Wv} (hn : n ≤ 12) (hV : OkV V) (h3 : V 3 ≤ 9999) (hg : g < V 2) : ∀ (k f v : Nat) (m : Mm) (x : Int32), v + k = 6 → 1 ≤ v → k < f → GH m g n T → CW m 13 V →
    ∃ m', lp_X2_sorts_4 13 f x (nI v) m = some (bitL (fun v => asT g T n 0 (setP V (ig g 0) v)) k v x, m') ∧ ∀ a, (a < 252 ∨ 260 < a) → m' a = m a := by
  have hn7 := hV.n
  intro k
  induction k with
  | zero =>
    intro f v m x hv hv1 hf hG hc
    cases f with
    | zero => omega
    | succ f =>
      refine ⟨m, ?_, fun _ _ => rfl⟩
      show lb_X2_sorts_4 (lp_X2_sorts_4 13 f) 13 x (nI v) m = _
      unfold lb_X2_sorts_4
      rw [if_pos (by rw [show (5 : Int32) = nI 5 from rfl, nI_ltE (by omega) (by omega)]; omega)]
      rfl
  | succ k ih =>
    intro f v m x hv hv1 hf hG hc
    cases f with
    | zero => omega
    | succ f =>
      have hB : ∀ m', lb_X2_sorts_4 (lp_X2_sorts_4 13 f) 13 x (nI v) m = m' → lp_X2_sorts_4 13 (f + 1) x (nI v) m = m' := fun m' h => h
      unfold lb_X2_sorts_4 at hB
      obtain ⟨m1, a1, a2, a3⟩ := cl_become (w0 := 252) (w1 := 13) (by omega) hV.n hV.seats hc
      have hcU := cl_setP (g := g) (v := v) (f := 0) (r := 1) (Or.inl ⟨rfl, rfl⟩) a2
      obtain ⟨m2, b1, b2⟩ := cl_one (m := m) (m1 := st_ m1 253 g (nI v)) hn hV h3 (setP_ok (f := 0) (v := v) hV hg (Or.inl ⟨rfl, hv1, by omega⟩)) (setP_ne (by unfold ig; omega)) (setP_ne (by unfold ig; omega)) hg hG (fun a ha => by rw [st_na (by omega), a3 a (by omega)]) hcU
      have e3 : m1 251 3 = nI g := by rw [a3 251 (by omega)]; exact hG.2.1
      rw [if_neg (by rw [show (5 : Int32) = nI 5 from rfl, nI_ltE (by omega) (by omega)]; omega), a1, bd1_d, e3, gdN (by omega) (by omega), ix_nI (by omega), nm_d, b1, bd2_d, fitIf3] at hB
      simp only [nm_d, nI_s1] at hB
      obtain ⟨m', z1, z2⟩ := ih f (v + 1) m2 (x ||| (if asT g T n 0 (setP V (ig g 0) v) = true then (1 : Int32) <<< (nI v &&& 31) else (0 : Int32))) (by omega) (by omega) (by omega) (hG.frame b2) (hc.frame fun a h1 h2 => b2 a (by omega))
      exact ⟨m', hB _ z1, fun a ha => by rw [z2 a ha, b2 a ha]⟩
theorem cl_starts {g n : Nat} {T : Nat → Int32} {V : Wv} (hn : n ≤ 12) (hV : OkV V) (h3 : V 3 ≤ 9999) (hg : g < V 2) : ∀ (k f v : Nat) (m : Mm) (x : Int32), v + k = 10 → k < f → GH m g n T → CW m 13 V →
    ∃ m', lp_X2_starts_4 13 f x (nI v) m = some (bitL (fun v => asT g T n 0 (setP V (ig g 1) v)) k v x, m') ∧ ∀ a, (a < 252 ∨ 260 < a) → m' a = m a := by
  have hn7 := hV.n
  intro k
  induction k with
  | zero =>
    intro f v m x hv hf hG hc
    cases f with
    | zero => omega
    | succ f =>
      refine ⟨m, ?_, fun _ _ => rfl⟩
      show lb_X2_starts_4 (lp_X2_starts_4 13 f) 13 x (nI v) m = _
      unfold lb_X2_starts_4
      rw [if_pos (by rw [show (10 : Int32) = nI 10 from rfl, nI_leE (by omega) (by omega)]; omega)]
      rfl
  | succ k ih =>
    intro f v m x hv hf hG hc
    cases f with
    | zero => omega
    | succ f =>
      have hB : ∀ m', lb_X2_starts_4 (lp_X2_starts_4 13 f) 13 x (nI v) m = m' → lp_X2_starts_4 13 (f + 1) x (nI v) m = m' := fun m' h => h
      unfold lb_X2_starts_4 at hB
      obtain ⟨m1, a1, a2, a3⟩ := cl_become (w0 := 252) (w1 := 13) (by omega) hV.n hV.seats hc
      have hcU := cl_setP (g := g) (v := v) (f := 1) (r := 2) (Or.inr (Or.inl ⟨rfl, rfl⟩)) a2
      obtain ⟨m2, b1, b2⟩ := cl_one (m := m) (m1 := st_ m1 254 g (nI v)) hn hV h3 (setP_ok (f := 1) (v := v) hV hg (Or.inr (Or.inl ⟨rfl, by omega⟩))) (setP_ne (by unfold ig; omega)) (setP_ne (by unfold ig; omega)) hg hG (fun a ha => by rw [st_na (by omega), a3 a (by omega)]) hcU
      have e3 : m1 251 3 = nI g := by rw [a3 251 (by omega)]; exact hG.2.1
      rw [if_neg (by rw [show (10 : Int32) = nI 10 from rfl, nI_leE (by omega) (by omega)]; omega), a1, bd1_d, e3, gdN (by omega) (by omega), ix_nI (by omega), nm_d, b1, bd2_d, fitIf3] at hB
      simp only [nm_d, nI_s1] at hB
      obtain ⟨m', z1, z2⟩ := ih f (v + 1) m2 (x ||| (if asT g T n 0 (setP V (ig g 1) v) = true then (1 : Int32) <<< (nI v &&& 31) else (0 : Int32))) (by omega) (by omega) (hG.frame b2) (hc.frame fun a h1 h2 => b2 a (by omega))
      exact ⟨m', hB _ z1, fun a ha => by rw [z2 a ha, b2 a ha]⟩
theorem cl_heard {g n : Nat} {T : Nat → Int32} {V : Wv} (hn : n ≤ 12) (hV : OkV V) (h3 : V 3 ≤ 9999) (hg : g < V 2) : ∀ (k f v : Nat) (m : Mm) (x : Int32), v + k = 16 → k < f → GH m g n T → CW m 13 V →
    ∃ m', lp_X2_hymnsHeard_4 13 f x (nI v) m = some (bitL (fun v => asT g T n 0 (setP V 1 v)) k v x, m') ∧ ∀ a, (a < 252 ∨ 260 < a) → m' a = m a := by
  have hn7 := hV.n
  intro k
  induction k with
  | zero =>
    intro f v m x hv hf hG hc
    cases f with
    | zero => omega
    | succ f =>
      refine ⟨m, ?_, fun _ _ => rfl⟩
      show lb_X2_hymnsHeard_4 (lp_X2_hymnsHeard_4 13 f) 13 x (nI v) m = _
      unfold lb_X2_hymnsHeard_4
      rw [if_pos (by rw [show (16 : Int32) = nI 16 from rfl, nI_leE (by omega) (by omega)]; omega)]
      rfl
  | succ k ih =>
    intro f v m x hv hf hG hc
    cases f with
    | zero => omega
    | succ f =>
      have hB : ∀ m', lb_X2_hymnsHeard_4 (lp_X2_hymnsHeard_4 13 f) 13 x (nI v) m = m' → lp_X2_hymnsHeard_4 13 (f + 1) x (nI v) m = m' := fun m' h => h
      unfold lb_X2_hymnsHeard_4 at hB
      obtain ⟨m1, a1, a2, a3⟩ := cl_become (w0 := 252) (w1 := 13) (by omega) hV.n hV.seats hc
      have hcU : CW (st_ m1 252 2 (nI v)) 252 (setP V 1 v) := cl_hym a2
      obtain ⟨m2, b1, b2⟩ := cl_one (m := m) (m1 := st_ m1 252 2 (nI v)) (U := setP V 1 v) hn hV h3 (hymV_ok hV (by omega)) (setP_ne (by omega)) (setP_ne (by omega)) hg hG (fun a ha => by rw [st_na (by omega), a3 a (by omega)]) hcU
      rw [if_neg (by rw [show (16 : Int32) = nI 16 from rfl, nI_leE (by omega) (by omega)]; omega), a1, bd1_d, nm_d, b1, bd2_d, fitIf3] at hB
      simp only [nm_d, nI_s1] at hB
      obtain ⟨m', z1, z2⟩ := ih f (v + 1) m2 (x ||| (if asT g T n 0 (setP V 1 v) = true then (1 : Int32) <<< (nI v &&& 31) else (0 : Int32))) (by omega) (by omega) (hG.frame b2) (hc.frame fun a h1 h2 => b2 a (by omega))
      exact ⟨m', hB _ z1, fun a ha => by rw [z2 a ha, b2 a ha]⟩
theorem cl_isWell {m : Mm} {g n v : Nat} {T : Nat → Int32} {V : Wv} (hn : n ≤ 12) (hV : OkV V) (h3 : V 3 ≤ 9999) (hg : g < V 2) (hv : v ≤ 99) (hG : GH m g n T) (hc : CW m 13 V) : ∃ m', f_X2_isWell 13 (nI v) m = some ((if asT g T n 0 (setP V (ig g 2) v) = true then 1 else 0), m') ∧ ∀ a, (a < 252 ∨ 260 < a) → m' a = m a := by
  have hn7 := hV.n
  obtain ⟨m1, a1, a2, a3⟩ := cl_become (w0 := 252) (w1 := 13) (by omega) hV.n hV.seats hc
  have hcU := cl_setP (g := g) (v := v) (f := 2) (r := 4) (Or.inr (Or.inr ⟨rfl, rfl⟩)) a2
  obtain ⟨m2, b1, b2⟩ := cl_one (m := m) (m1 := st_ m1 256 g (nI v)) hn hV h3 (setP_ok (f := 2) (v := v) hV hg (Or.inr (Or.inr ⟨rfl, by omega⟩))) (setP_ne (by unfold ig; omega)) (setP_ne (by unfold ig; omega)) hg hG (fun a ha => by rw [st_na (by omega), a3 a (by omega)]) hcU
  have e3 : m1 251 3 = nI g := by rw [a3 251 (by omega)]; exact hG.2.1
  unfold f_X2_isWell
  rw [a1, bd1_d, e3, gdN (by omega) (by omega), ix_nI (by omega), nm_d, b1, bd2_d, gd_t (by split <;> decide)]
  exact ⟨m2, rfl, b2⟩
theorem cl_wells {g n : Nat} {T : Nat → Int32} {V : Wv} (hn : n ≤ 12) (hV : OkV V) (h3 : V 3 ≤ 9999) (hg : g < V 2) : ∀ (k f v : Nat) (m : Mm), v + k = 100 → k < f → GH m g n T → CW m 13 V →
    ∃ m', lp_X2_wells_4 13 f (nI (cntB v fun v => asT g T n 0 (setP V (ig g 2) v))) (nI v) m = some (nI (cntB 100 fun v => asT g T n 0 (setP V (ig g 2) v)), m') ∧ ∀ a, (a < 252 ∨ 260 < a) → m' a = m a := by
  intro k
  induction k with
  | zero =>
    intro f v m hv hf hG hc
    cases f with
    | zero => omega
    | succ f =>
      refine ⟨m, ?_, fun _ _ => rfl⟩
      show lb_X2_wells_4 (lp_X2_wells_4 13 f) 13 _ (nI v) m = _
      unfold lb_X2_wells_4
      rw [if_pos (by rw [show (100 : Int32) = nI 100 from rfl, nI_leE (by omega) (by omega)]; omega), show v = 100 by omega]
  | succ k ih =>
    intro f v m hv hf hG hc
    cases f with
    | zero => omega
    | succ f =>
      have hB : ∀ m', lb_X2_wells_4 (lp_X2_wells_4 13 f) 13 (nI (cntB v fun v => asT g T n 0 (setP V (ig g 2) v))) (nI v) m = m' → lp_X2_wells_4 13 (f + 1) (nI (cntB v fun v => asT g T n 0 (setP V (ig g 2) v))) (nI v) m = m' := fun m' h => h
      unfold lb_X2_wells_4 at hB
      obtain ⟨m2, b1, b2⟩ := cl_isWell (v := v) hn hV h3 hg (by omega) hG hc
      rw [if_neg (by rw [show (100 : Int32) = nI 100 from rfl, nI_leE (by omega) (by omega)]; omega), b1, bd2_d, fitIf3] at hB
      simp only [nm_d, nI_s1] at hB
      obtain ⟨m', z1, z2⟩ := ih f (v + 1) m2 (by omega) (by omega) (hG.frame b2) (hc.frame fun a h1 h2 => b2 a (by omega))
      refine ⟨m', hB _ ?_, fun a ha => by rw [z2 a ha, b2 a ha]⟩
      rw [← z1, show cntB (v + 1) (fun v => asT g T n 0 (setP V (ig g 2) v)) = cntB v (fun v => asT g T n 0 (setP V (ig g 2) v)) + (if asT g T n 0 (setP V (ig g 2) v) = true then 1 else 0) from rfl, nI_addIf]
def fndO (F : Nat → Bool) : Nat → Nat → Option Nat
  | 0, _ => none
  | k + 1, v => if F v = true then some v else fndO F k (v + 1)
def oE (o : Option Nat) (l : Int32) : Int32 := match o with
  | some u => nI u
  | none => l
theorem fnd_snoc (F : Nat → Bool) (l : Int32) : ∀ k v, oE (fndO F (k + 1) v) l = oE (fndO F k v) (if F (v + k) = true then nI (v + k) else l) := by
  intro k
  induction k with
  | zero =>
    intro v
    show oE (if F v = true then some v else none) l = if F (v + 0) = true then nI (v + 0) else l
    rw [Nat.add_zero]
    split <;> rfl
  | succ k ih =>
    intro v
    show oE (if F v = true then some v else fndO F (k + 1) (v + 1)) l = oE (if F v = true then some v else fndO F k (v + 1)) _
    by_cases h : F v = true
    · rw [if_pos h, if_pos h]; rfl
    · rw [if_neg h, if_neg h, ih (v + 1), show v + 1 + k = v + (k + 1) by omega]
theorem cl_least {g n : Nat} {T : Nat → Int32} {V : Wv} (hn : n ≤ 12) (hV : OkV V) (h3 : V 3 ≤ 9999) (hg : g < V 2) : ∀ (k f v : Nat) (m : Mm), v + k = 100 → k < f → GH m g n T → CW m 13 V →
    ∃ m', lp_X2_leastWell_2 13 f (nI v) m = some (match fndO (fun v => asT g T n 0 (setP V (ig g 2) v)) k v with | some u => .inl (nI u, m') | none => .inr m') ∧ ∀ a, (a < 252 ∨ 260 < a) → m' a = m a := by
  intro k
  induction k with
  | zero =>
    intro f v m hv hf hG hc
    cases f with
    | zero => omega
    | succ f =>
      refine ⟨m, ?_, fun _ _ => rfl⟩
      show lb_X2_leastWell_2 (lp_X2_leastWell_2 13 f) 13 (nI v) m = _
      unfold lb_X2_leastWell_2
      rw [if_pos (by rw [show (100 : Int32) = nI 100 from rfl, nI_leE (by omega) (by omega)]; omega)]
      rfl
  | succ k ih =>
    intro f v m hv hf hG hc
    cases f with
    | zero => omega
    | succ f =>
      have hB : ∀ m', lb_X2_leastWell_2 (lp_X2_leastWell_2 13 f) 13 (nI v) m = m' → lp_X2_leastWell_2 13 (f + 1) (nI v) m = m' := fun m' h => h
      unfold lb_X2_leastWell_2 at hB
      obtain ⟨m2, b1, b2⟩ := cl_isWell (v := v) hn hV h3 hg (by omega) hG hc
      rw [if_neg (by rw [show (100 : Int32) = nI 100 from rfl, nI_leE (by omega) (by omega)]; omega), b1, bd2_d, fitIf3, nm_d, nI_s1] at hB
      unfold fndO
      by_cases h : asT g T n 0 (setP V (ig g 2) v) = true
      · rw [if_pos h] at hB
        simp only [if_pos h]
        exact ⟨m2, hB _ rfl, b2⟩
      · rw [if_neg h] at hB
        simp only [if_neg h]
        obtain ⟨m', z1, z2⟩ := ih f (v + 1) m2 (by omega) (by omega) (hG.frame b2) (hc.frame fun a h1 h2 => b2 a (by omega))
        exact ⟨m', hB _ z1, fun a ha => by rw [z2 a ha, b2 a ha]⟩
/-- the reference: sets -/
theorem mo_bits {g n i0 p lo hi what : Nat} {T : Nat → Int32} {V : Wv} (hn : n ≤ 12) (hi0 : i0 + n ≤ 320) (hg : g < V 2) (h3 : V 3 ≤ 9999) (hp : p < 55) (hp6 : p ≠ 2 ∧ p ≠ 3) (hw : what < 3) (hpe : (if nI what = (2 : Int32) then (1 : Int32) else nI (ig g 0) + nI what) = nI p) (hh : hi < 100) (hok : ∀ v, lo ≤ v → v ≤ hi → OkV (setP V p v)) : ∀ (k f v : Nat) (m : Mm) (x : Int32), v + k = hi + 1 → lo ≤ v → k < f → (∀ k, k < n → m 301 (i0 + k) = T k) → MW m 304 0 V →
    ∃ m', lp_X7_fits_139 f (nI g) (nI n) (nI what) (nI i0) (nI (ig g 0)) x (nI hi) (nI v) m = some (bitL (fun v => asT g T n 0 (setP V p v)) k v x, m') ∧ ∀ a, a ≠ 306 → a ≠ 310 → m' a = m a := by
  intro k
  induction k with
  | zero =>
    intro f v m x hv hv1 hf hT hc
    cases f with
    | zero => omega
    | succ f =>
      refine ⟨m, ?_, fun _ _ _ => rfl⟩
      show lb_X7_fits_139 (lp_X7_fits_139 f) (nI g) (nI n) (nI what) (nI i0) (nI (ig g 0)) x (nI hi) (nI v) m = _
      unfold lb_X7_fits_139
      rw [if_pos (by rw [nI_ltE (by omega) (by omega)]; omega)]
      rfl
  | succ k ih =>
    intro f v m x hv hv1 hf hT hc
    cases f with
    | zero => omega
    | succ f =>
      have hB : ∀ m', lb_X7_fits_139 (lp_X7_fits_139 f) (nI g) (nI n) (nI what) (nI i0) (nI (ig g 0)) x (nI hi) (nI v) m = m' → lp_X7_fits_139 (f + 1) (nI g) (nI n) (nI what) (nI i0) (nI (ig g 0)) x (nI hi) (nI v) m = m' := fun m' h => h
      unfold lb_X7_fits_139 at hB
      obtain ⟨m2, b1, b2⟩ := mo_told (p := p) (v := v) (T := T) hn hi0 (hok v hv1 (by omega)) hp hp6 hg h3 hT hc
      rw [if_neg (by rw [nI_ltE (by omega) (by omega)]; omega), hpe, nm_d, b1, bd2_d, fitIf3] at hB
      simp only [nm_d, nI_s1] at hB
      obtain ⟨m', z1, z2⟩ := ih f (v + 1) m2 (x ||| (if asT g T n 0 (setP V p v) = true then (1 : Int32) <<< (nI v &&& 31) else (0 : Int32))) (by omega) (by omega) (by omega) (fun k hk => by rw [b2 301 (by omega) (by omega)]; exact hT k hk) (hc.frame (b2 304 (by omega) (by omega)))
      exact ⟨m', hB _ z1, fun a h1 h2 => by rw [z2 a h1 h2, b2 a h1 h2]⟩
/-- the reference: wells, downward -/
theorem mo_wells {g n i0 : Nat} {T : Nat → Int32} {V : Wv} (x5 : Int32) (hn : n ≤ 12) (hi0 : i0 + n ≤ 320) (hV : OkV V) (hg : g < V 2) (h3 : V 3 ≤ 9999) : ∀ (k f : Nat) (m : Mm) (c : Nat) (l : Int32), k ≤ 100 → k < f → (∀ k, k < n → m 301 (i0 + k) = T k) → MW m 304 0 V →
    ∃ m', lp_X7_fits_205 f (nI g) (nI n) x5 (nI i0) (nI (ig g 0)) (nI c) l (nI k + (-1 : Int32)) m = some (nI (c + cntB k fun v => asT g T n 0 (setP V (ig g 2) v)), oE (fndO (fun v => asT g T n 0 (setP V (ig g 2) v)) k 0) l, m') ∧ ∀ a, a ≠ 306 → a ≠ 310 → m' a = m a := by
  have hn7 := hV.n
  have i2 : ig g 2 < 55 := ig_lt (n := 7) (by omega) (by omega) (by omega)
  intro k
  induction k with
  | zero =>
    intro f m c l hk hf hT hc
    cases f with
    | zero => omega
    | succ f =>
      refine ⟨m, ?_, fun _ _ _ => rfl⟩
      show lb_X7_fits_205 (lp_X7_fits_205 f) (nI g) (nI n) x5 (nI i0) (nI (ig g 0)) (nI c) l (nI 0 + (-1 : Int32)) m = _
      unfold lb_X7_fits_205
      rw [if_pos (by decide)]
      rfl
  | succ k ih =>
    intro f m c l hk hf hT hc
    cases f with
    | zero => omega
    | succ f =>
      have ek : nI (k + 1) + (-1 : Int32) = nI k := by
        rw [← nI_s1]
        show nI k + 1 + (-1) = nI k
        rw [Int32.add_assoc]
        show nI k + 0 = nI k
        rw [Int32.add_zero]
      rw [ek]
      have hB : ∀ m', lb_X7_fits_205 (lp_X7_fits_205 f) (nI g) (nI n) x5 (nI i0) (nI (ig g 0)) (nI c) l (nI k) m = m' → lp_X7_fits_205 (f + 1) (nI g) (nI n) x5 (nI i0) (nI (ig g 0)) (nI c) l (nI k) m = m' := fun m' h => h
      unfold lb_X7_fits_205 at hB
      obtain ⟨m2, b1, b2⟩ := mo_told (p := ig g 2) (v := k) (T := T) hn hi0 (setP_ok (f := 2) hV hg (Or.inr (Or.inr ⟨rfl, by omega⟩))) i2 (by unfold ig; omega) hg h3 hT hc
      have e2 : nI (ig g 0) + (2 : Int32) = nI (ig g 2) := nI_add (ig g 0) 2
      rw [if_neg (nI_pos (by omega)), e2, b1, bd2_d, fitIf3, fitIf3] at hB
      simp only [nm_d] at hB
      obtain ⟨m', z1, z2⟩ := ih f m2 (c + (if asT g T n 0 (setP V (ig g 2) k) = true then 1 else 0)) (if asT g T n 0 (setP V (ig g 2) k) = true then nI k else l) (by omega) (by omega) (fun k hk => by rw [b2 301 (by omega) (by omega)]; exact hT k hk) (hc.frame (b2 304 (by omega) (by omega)))
      refine ⟨m', hB _ ?_, fun a h1 h2 => by rw [z2 a h1 h2, b2 a h1 h2]⟩
      rw [fnd_snoc, Nat.zero_add]
      have e1 : nI c + (if asT g T n 0 (setP V (ig g 2) k) = true then (1 : Int32) else (0 : Int32)) = nI (c + (if asT g T n 0 (setP V (ig g 2) k) = true then 1 else 0)) := nI_addIf _ _
      rw [e1, z1]
      show some (nI (c + (if asT g T n 0 (setP V (ig g 2) k) = true then 1 else 0) + cntB k fun v => asT g T n 0 (setP V (ig g 2) v)), _, _) = some (nI (c + (cntB k (fun v => asT g T n 0 (setP V (ig g 2) v)) + (if asT g T n 0 (setP V (ig g 2) k) = true then 1 else 0))), _, _)
      rw [show c + (if asT g T n 0 (setP V (ig g 2) k) = true then 1 else 0) + cntB k (fun v => asT g T n 0 (setP V (ig g 2) v)) = c + (cntB k (fun v => asT g T n 0 (setP V (ig g 2) v)) + (if asT g T n 0 (setP V (ig g 2) k) = true then 1 else 0)) by omega]
