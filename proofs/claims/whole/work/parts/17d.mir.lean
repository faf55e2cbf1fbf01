/-! an order of seats, and its mirror -/
def ordK (V : Wv) (P : Pf) : Nat → Wv
  | 0 => V
  | k + 1 => setP (ordK V P k) (ig (P k) 4) k
theorem ordK_o {V : Wv} {P : Pf} {q : Nat} (h : q < 6 ∨ (q - 6) % 7 ≠ 4) : ∀ k, ordK V P k q = V q
  | 0 => rfl
  | k + 1 => by
    show setP (ordK V P k) (ig (P k) 4) k q = V q
    rw [setP_ne (by unfold ig; omega), ordK_o h k]
theorem ordK_f {V : Wv} {P : Pf} {g f : Nat} (hf : f < 7) (h : f ≠ 4) (k : Nat) : ordK V P k (ig g f) = V (ig g f) := ordK_o (by unfold ig; omega) k
theorem ordK_4 {V : Wv} {P : Pf} {n : Nat} (hinj : ∀ k j, k < n → j < n → P k = P j → k = j) : ∀ k, k ≤ n → ∀ j, j < k → ordK V P k (ig (P j) 4) = j
  | 0, _, j, h => by omega
  | k + 1, hk, j, hj => by
    show setP (ordK V P k) (ig (P k) 4) k (ig (P j) 4) = j
    by_cases e : j = k
    · subst e; exact setP_eq
    · rw [setP_ne (fun h => e (hinj j k (by omega) (by omega) (by rw [ig4] at h; exact h))), ordK_4 hinj k (by omega) j (by omega)]
theorem ordK_cong {V : Wv} {P Q : Pf} : ∀ k, (∀ j, j < k → P j = Q j) → ordK V P k = ordK V Q k
  | 0, _ => rfl
  | k + 1, h => by
    show setP (ordK V P k) (ig (P k) 4) k = setP (ordK V Q k) (ig (Q k) 4) k
    rw [ordK_cong k fun j hj => h j (by omega), h k (by omega)]
/-- a permutation of those below n -/
def PmO (n : Nat) (P : Pf) : Prop := (∀ k, k < n → P k < n) ∧ (∀ k j, k < n → j < n → P k = P j → k = j) ∧ ∀ g, g < n → ∃ k, k < n ∧ P k = g
theorem pO_pm {n i : Nat} (hn : n ≤ 7) (hi : i < facN n) : PmO n (pO n i) := ⟨fun _ hk => pO_lt hn hi hk, fun _ _ hk hj e => pO_inj hn hi hk hj e, fun _ hg => pO_sur hn hi hg⟩
theorem ord_ok {V : Wv} {P : Pf} (hV : OkV V) (hP : PmO (V 2) P) : OkV (ordK V P (V 2)) := by
  have e : ∀ k, k < 6 → ordK V P (V 2) k = V k := fun k hk => ordK_o (Or.inl hk) _
  have s4 : ∀ j, j < V 2 → ordK V P (V 2) (ig (P j) 4) = j := fun j hj => ordK_4 hP.2.1 (V 2) (Nat.le_refl _) j hj
  refine ⟨by rw [e 0 (by omega)]; exact hV.1, by rw [e 1 (by omega)]; exact hV.2.1, by rw [e 2 (by omega)]; exact hV.n, by rw [e 3 (by omega)]; exact hV.2.2.2.1, by rw [e 4 (by omega)]; exact hV.2.2.2.2.1, by rw [e 5 (by omega)]; exact hV.2.2.2.2.2.1, ?_, ?_, ?_⟩
  · rw [e 2 (by omega)]
    intro g hg
    obtain ⟨b1, b2, b3, b4, b5, b6, b7, b8, b9⟩ := hV.b hg
    obtain ⟨j, hj, rfl⟩ := hP.2.2 g hg
    unfold GdV
    rw [s4 j hj, e 2 (by omega), ordK_f (by omega) (by omega), ordK_f (by omega) (by omega), ordK_f (by omega) (by omega), ordK_f (by omega) (by omega), ordK_f (by omega) (by omega), ordK_f (by omega) (by omega)]
    exact ⟨b1, b2, b3, b4, b5, hj, b7, b8, b9⟩
  · rw [e 2 (by omega)]
    intro g h hg hh he
    obtain ⟨j, hj, rfl⟩ := hP.2.2 g hg
    obtain ⟨j', hj', rfl⟩ := hP.2.2 h hh
    rw [s4 j hj, s4 j' hj'] at he
    rw [he]
  · rw [e 2 (by omega)]
    intro p hp
    exact ⟨P p, hP.1 p hp, s4 p hp⟩
def Mir (V U : Wv) : Prop := (∀ k, (k < 6 ∨ (k - 6) % 7 ≠ 4) → U k = V k) ∧ ∀ g, g < V 2 → U (ig g 4) + V (ig g 4) + 1 = V 2
theorem Mir.f {V U : Wv} (h : Mir V U) {g f : Nat} (hf : f < 7) (h4 : f ≠ 4) : U (ig g f) = V (ig g f) := h.1 _ (by unfold ig; omega)
theorem mir_last {V U : Wv} (hV : OkV V) (hU : OkV U) (h : Mir V U) {s : Nat} (hs : s < V 2) : lastSt U s = lastSt V (V 2 - 1 - s) := by
  have e2 : U 2 = V 2 := h.1 2 (by omega)
  obtain ⟨g, hg, he⟩ := hV.sur (V 2 - 1 - s) (by omega)
  have h1 := h.2 g hg
  rw [lastSt_of hV.inj hg he, lastSt_of hU.inj (by rw [e2]; exact hg) (show U (ig g 4) = s by omega), h.f (by omega) (by omega)]
theorem mir_right {V U : Wv} (hV : OkV V) (hU : OkV U) (h : Mir V U) {g : Nat} (hg : g < V 2) : rightV U g = leftV V g := by
  have e2 : U 2 = V 2 := h.1 2 (by omega)
  have h1 := h.2 g hg
  unfold rightV leftV
  by_cases h0 : V (ig g 4) = 0
  · rw [if_pos h0, lastSt_no]
    intro g' hg'
    have := hU.seats g' hg'
    omega
  · rw [if_neg h0, mir_last hV hU h (by omega)]
    congr 1; omega
theorem mir_left {V U : Wv} (hV : OkV V) (hU : OkV U) (h : Mir V U) {g : Nat} (hg : g < V 2) : leftV U g = rightV V g := by
  have e2 : U 2 = V 2 := h.1 2 (by omega)
  have h1 := h.2 g hg
  unfold rightV leftV
  by_cases h0 : U (ig g 4) = 0
  · rw [if_pos h0, lastSt_no]
    intro g' hg'
    have := hV.seats g' hg'
    omega
  · rw [if_neg h0, mir_last hV hU h (by omega)]
    congr 1; omega
theorem mir_shed {V U : Wv} (hV : OkV V) (hU : OkV U) (h : Mir V U) {g : Nat} (hg : g < V 2) : shedV U g = shedV V g := by
  have r := mir_right hV hU h hg
  have l := mir_left hV hU h hg
  have ea : auntV U g = auntV V g := by
    unfold auntV
    rw [r, l, h.f (by omega) (by omega)]
    omega
  have em : manV U g = manV V g := by
    unfold manV
    rw [h.1 1 (by omega), h.1 3 (by omega), h.f (by omega) (by omega)]
  have ei : itsV U g = itsV V g := by
    unfold itsV
    rw [ea, em, r, l, h.f (by omega) (by omega), h.1 3 (by omega), Nat.add_comm (rightV V g), Nat.max_comm (rightV V g)]
  unfold shedV wouldV
  rw [ei, h.f (by omega) (by omega), h.f (by omega) (by omega)]
theorem mir_pass {V U : Wv} (hV : OkV V) (hU : OkV U) (h : Mir V U) : Mir (passV V) (passV U) := by
  have e2 : U 2 = V 2 := h.1 2 (by omega)
  have c1 : comesV U (V 2) = comesV V (V 2) := sumTo_cong _ fun g hg => by rw [mir_shed hV hU h hg, h.f (by omega) (by omega)]
  have c2 : onionsV U (V 2) = onionsV V (V 2) := sumTo_cong _ fun g hg => by rw [mir_shed hV hU h hg, h.f (by omega) (by omega)]
  have c3 : dueV U (V 2) = dueV V (V 2) := sumTo_cong _ fun g hg => by rw [mir_shed hV hU h hg, h.f (by omega) (by omega), h.f (by omega) (by omega)]
  refine ⟨fun k hk => ?_, fun g hg => ?_⟩
  · unfold passV
    rw [e2, c1, c2, c3, h.1 3 (by omega), h.1 4 (by omega), h.1 5 (by omega), h.1 k hk]
    by_cases hr : 6 ≤ k ∧ k < 6 + 7 * V 2
    · rw [mir_shed hV hU h (show (k - 6) / 7 < V 2 by omega)]
    · rw [if_neg hr, if_neg hr]
  · rw [passV_lo (by omega)] at hg
    rw [show passV U (ig g 4) = U (ig g 4) from passV_ig (by rw [e2]; exact hg) (by omega), show passV V (ig g 4) = V (ig g 4) from passV_ig hg (by omega), passV_lo (by omega)]
    exact h.2 g hg
theorem mir_run : ∀ (n : Nat) (V U : Wv), OkV V → OkV U → V 3 + n ≤ 20000 → Mir V U → Mir (runV n V) (runV n U)
  | 0, _, _, _, _, _, h => h
  | n + 1, V, U, hV, hU, h3, h => by
    have e3 : U 3 = V 3 := h.1 3 (by omega)
    exact mir_run n (passV V) (passV U) (passV_ok hV (by omega)) (passV_ok hU (by omega)) (by show V 3 + 1 + n ≤ 20000; omega) (mir_pass hV hU h)
/-- what an order brings -/
def orV (V : Wv) (N : Nat) (P : Pf) : Nat := runV N (ordK V P (V 2)) 4
theorem orV_mir {V : Wv} {N : Nat} {P Q : Pf} (hV : OkV V) (h3 : V 3 + N ≤ 20000) (hP : PmO (V 2) P) (hQ : PmO (V 2) Q) (h : ∀ k, k < V 2 → Q k = P (V 2 - 1 - k)) : orV V N Q = orV V N P := by
  have hm : Mir (ordK V P (V 2)) (ordK V Q (V 2)) := by
    refine ⟨fun k hk => by rw [ordK_o hk, ordK_o hk], fun g hg => ?_⟩
    rw [ordK_o (by omega)] at hg
    obtain ⟨j, hj, rfl⟩ := hP.2.2 g hg
    have e := h (V 2 - 1 - j) (by omega)
    rw [show V 2 - 1 - (V 2 - 1 - j) = j by omega] at e
    rw [ordK_4 hP.2.1 (V 2) (Nat.le_refl _) j hj, ← e, ordK_4 hQ.2.1 (V 2) (Nat.le_refl _) _ (by omega), ordK_o (by omega)]
    omega
  exact (mir_run N _ _ (ord_ok hV hP) (ord_ok hV hQ) (by rw [ordK_o (by omega)]; exact h3) hm).1 4 (by omega)
def figs (P : Pf) : Nat → Nat
  | 0 => 0
  | k + 1 => figs P k * 10 + P k
def oM (V : Wv) (N : Nat) : Nat → Option (Nat × Nat)
  | 0 => none
  | i + 1 => mrV (oM V N i) (figs (pO (V 2) i) (V 2)) (orV V N (pO (V 2) i))
def oC (V : Wv) (N : Nat) : Nat → Option (Nat × Nat)
  | 0 => none
  | i + 1 => if pO (V 2) i 0 ≤ pO (V 2) i (V 2 - 1) then mrV (oC V N i) (figs (pO (V 2) i) (V 2)) (orV V N (pO (V 2) i)) else oC V N i
theorem mrV_le {o : Option (Nat × Nat)} {w p : Nat} : ∃ q, mrV o w p = some q ∧ p ≤ q.2 ∧ ∀ r, o = some r → r.2 ≤ q.2 := by
  cases o with
  | none => exact ⟨(w, p), rfl, Nat.le_refl _, fun r h => by cases h⟩
  | some q =>
    unfold mrV
    by_cases h : q.2 < p
    · exact ⟨(w, p), if_pos h, Nat.le_refl _, fun r hr => by cases hr; exact Nat.le_of_lt h⟩
    · exact ⟨q, if_neg h, by omega, fun r hr => by cases hr; exact Nat.le_refl _⟩
theorem oM_max (V : Wv) (N : Nat) : ∀ i j, j < i → ∃ q, oM V N i = some q ∧ orV V N (pO (V 2) j) ≤ q.2 := by
  intro i
  induction i with
  | zero => intro j h; omega
  | succ i ih =>
    intro j hj
    obtain ⟨q, h1, h2, h3⟩ := mrV_le (o := oM V N i) (w := figs (pO (V 2) i) (V 2)) (p := orV V N (pO (V 2) i))
    by_cases e : j = i
    · subst e; exact ⟨q, h1, h2⟩
    · obtain ⟨r, r1, r2⟩ := ih j (by omega)
      exact ⟨q, h1, Nat.le_trans r2 (h3 r r1)⟩
theorem oC_eq {V : Wv} {N : Nat} (hV : OkV V) (h1 : 1 ≤ V 2) (h3 : V 3 + N ≤ 20000) : ∀ i, i ≤ facN (V 2) → oC V N i = oM V N i := by
  intro i
  induction i with
  | zero => intro _; rfl
  | succ i ih =>
    intro hi
    show (if pO (V 2) i 0 ≤ pO (V 2) i (V 2 - 1) then mrV (oC V N i) (figs (pO (V 2) i) (V 2)) (orV V N (pO (V 2) i)) else oC V N i) = mrV (oM V N i) (figs (pO (V 2) i) (V 2)) (orV V N (pO (V 2) i))
    rw [ih (by omega)]
    by_cases h : pO (V 2) i 0 ≤ pO (V 2) i (V 2 - 1)
    · rw [if_pos h]
    · rw [if_neg h]
      obtain ⟨i', a1, a2, a3⟩ := pO_mir h1 hV.n (by omega) h
      obtain ⟨q, q1, q2⟩ := oM_max V N i i' a1
      rw [orV_mir hV h3 (pO_pm hV.n (show i < facN (V 2) by omega)) (pO_pm hV.n a2) a3] at q2
      rw [q1]
      unfold mrV
      simp only
      rw [if_neg (by omega)]
theorem orV_le {V : Wv} {N : Nat} {P : Pf} (hV : OkV V) (h3 : V 3 + N ≤ 20000) (hP : PmO (V 2) P) : orV V N P ≤ 999 := (runV_ok (ord_ok hV hP) N (by rw [ordK_o (by omega)]; exact h3)).2.2.2.2.1
theorem oM_ok {V : Wv} {N : Nat} (hV : OkV V) (h3 : V 3 + N ≤ 20000) : ∀ i, i ≤ facN (V 2) → okB (oM V N i) := by
  intro i
  induction i with
  | zero => intro _ q h; cases h
  | succ i ih => intro hi; exact mrV_ok (ih (by omega)) (orV_le hV h3 (pO_pm hV.n (by omega)))
