theorem MW.st {m : Mm} {q : Nat} {V : Wv} (h : MW m q 0 V) {a k : Nat} {v : Int32} (ha : q ≠ a) : MW (st_ m a k v) q 0 V := fun j hj => by rw [st_na ha]; exact h j hj
theorem mo_pass1 {q nq : Nat} {V : Wv} (hq : 55 ≤ nq) (hq2 : q ≠ 310) (hV : OkV V) : ∀ (n i : Nat) (m : Mm), MW m q 0 V → (∀ g, g < i → m 310 g = nI (shedV V g)) → i ≤ V 2 → V 2 - i < n →
    ∃ m', lp_X7_passes_7 q nq n (0 : Int32) (0 : Int32) (nI i) m = some m' ∧ MW m' q 0 V ∧ (∀ g, g < V 2 → m' 310 g = nI (shedV V g)) ∧ ∀ a, a ≠ 310 → m' a = m a := by
  have hn := hV.n
  intro n
  induction n with
  | zero => intro i m _ _ _ h; omega
  | succ n ih =>
    intro i m hm hs hi hin
    show ∃ m', lb_X7_passes_7 (lp_X7_passes_7 q nq n) q nq _ _ (nI i) m = some m' ∧ _
    unfold lb_X7_passes_7
    have x2 : ix (2 : Int32) = 2 := rfl
    have g2 : ∀ {α : Type} (x : Option α), gd_ (¬ ((2 : Int32) < 0 ∨ nq ≤ 2)) x = x := fun x => gd_t (by intro h; rcases h with h | h; exact absurd h (by decide); omega)
    simp only [x2, g2, hm.at (show 2 < 55 by omega), nI_leE (show V 2 < 2147483648 by omega) (show i < 2147483648 by omega)]
    by_cases h : V 2 ≤ i
    · rw [if_pos h]
      exact ⟨m, rfl, hm, fun g hg => hs g (by omega), fun _ _ => rfl⟩
    · rw [if_neg h]
      have hg : i < V 2 := by omega
      have i5 : ig i 5 < 55 := ig_lt (n := 7) (by omega) (by omega) (by omega)
      rw [show (6 : Int32) + (7 : Int32) * nI i + (5 : Int32) = nI (ig i 5) from igE i 5]
      have hsh : (if nI (V (ig i 5)) = (1 : Int32) then bd1 (f_X7_would q nq (nI i) m) fun r5 => some r5 else some (0 : Int32)) = some (nI (shedV V i)) := by
        rw [mo_would hq hV hm hg, bd1_d]
        have b := (hV.b hg).2.2.2.2.2.2.1
        unfold shedV
        rcases (show V (ig i 5) = 0 ∨ V (ig i 5) = 1 by omega) with h | h <;> rw [h] <;> rfl
      simp (disch := omega) only [gdM, ix_nI, hm.at i5, hsh, bd1_d, nm_d]
      rw [n1, nI_add]
      obtain ⟨m', e1, e2, e3, e4⟩ := ih (i + 1) (st_ m 310 i (nI (shedV V i))) (hm.st hq2) (fun g hg => by
        by_cases h : g = i
        · subst h; exact st_s
        · rw [st_n (Or.inr h)]; exact hs g (by omega)) (by omega) (by omega)
      exact ⟨m', e1, e2, e3, fun a ha => by rw [e4 a ha, st_na ha]⟩
def midV (V : Wv) (i : Nat) : Wv := fun k => if k = 5 then min 99999 (V 5 + dueV V i) else if 6 ≤ k ∧ k < 6 + 7 * i then (if (k - 6) % 7 = 6 then shedV V ((k - 6) / 7) else if (k - 6) % 7 = 2 then V k - shedV V ((k - 6) / 7) else V k) else V k
theorem midV_hi {V : Wv} {i k : Nat} (h : 6 + 7 * i ≤ k) : midV V i k = V k := by
  unfold midV
  rw [if_neg (by omega), if_neg (by omega)]
theorem midV_step {V : Wv} {i : Nat} (k : Nat) : midV V (i + 1) k = if k = 5 then min 99999 (V 5 + dueV V (i + 1)) else if k = ig i 6 then shedV V i else if k = ig i 2 then V (ig i 2) - shedV V i else midV V i k := by
  unfold midV ig
  by_cases h5 : k = 5
  · rw [if_pos h5, if_pos h5]
  · rw [if_neg h5, if_neg h5, if_neg h5]
    by_cases h6 : k = 6 + 7 * i + 6
    · rw [if_pos h6, if_pos (by omega), if_pos (by omega), show (k - 6) / 7 = i by omega]
    · rw [if_neg h6]
      by_cases h2 : k = 6 + 7 * i + 2
      · rw [if_pos h2, if_pos (by omega), if_neg (by omega), if_pos (by omega), show (k - 6) / 7 = i by omega, h2]
      · rw [if_neg h2]
        by_cases hl : 6 ≤ k ∧ k < 6 + 7 * i
        · rw [if_pos hl, if_pos (by omega)]
        · rw [if_neg hl]
          by_cases hl2 : 6 ≤ k ∧ k < 6 + 7 * (i + 1)
          · rw [if_pos hl2, if_neg (by omega), if_neg (by omega)]
          · rw [if_neg hl2]
set_option maxHeartbeats 2000000 in
theorem mo_pass2 {q nq : Nat} {V : Wv} {m : Mm} (hq : 55 ≤ nq) (hq2 : q ≠ 310) (hV : OkV V) (hs : ∀ g, g < V 2 → m 310 g = nI (shedV V g)) : ∀ (n i : Nat) (m1 : Mm), MW m1 q 0 (midV V i) → (∀ a, a ≠ q → m1 a = m a) → (∀ k, 55 ≤ k → m1 q k = m q k) → i ≤ V 2 → V 2 - i < n →
    ∃ m', lp_X7_passes_57 q nq n (nI (comesV V i)) (nI (onionsV V i)) (nI i) m1 = some (nI (comesV V (V 2)), nI (onionsV V (V 2)), m') ∧ MW m' q 0 (midV V (V 2)) ∧ (∀ a, a ≠ q → m' a = m a) ∧ (∀ k, 55 ≤ k → m' q k = m q k) := by
  have hn := hV.n
  have h310 : ∀ (m1 : Mm) k v, st_ m1 q k v 310 = m1 310 := fun m1 k v => st_na (Ne.symm hq2)
  intro n
  induction n with
  | zero => intro i m _ _ _ _ h; omega
  | succ n ih =>
    intro i m1 hm ha hk hi hin
    show ∃ m', lb_X7_passes_57 (lp_X7_passes_57 q nq n) q nq _ _ (nI i) m1 = _ ∧ _
    unfold lb_X7_passes_57
    have x2 : ix (2 : Int32) = 2 := rfl
    have x5 : ix (5 : Int32) = 5 := rfl
    have g2 : ∀ {α : Type} (x : Option α), gd_ (¬ ((2 : Int32) < 0 ∨ nq ≤ 2)) x = x := fun x => gd_t (by intro h; rcases h with h | h; exact absurd h (by decide); omega)
    have g5 : ∀ {α : Type} (x : Option α), gd_ (¬ ((5 : Int32) < 0 ∨ nq ≤ 5)) x = x := fun x => gd_t (by intro h; rcases h with h | h; exact absurd h (by decide); omega)
    have m2 : midV V i 2 = V 2 := rfl
    simp only [x2, g2, hm.at (show 2 < 55 by omega), m2, nI_leE (show V 2 < 2147483648 by omega) (show i < 2147483648 by omega)]
    by_cases h : V 2 ≤ i
    · have hi2 : i = V 2 := by omega
      rw [if_pos h]
      subst hi2
      exact ⟨m1, rfl, hm, ha, hk⟩
    · rw [if_neg h]
      have hg : i < V 2 := by omega
      obtain ⟨b1, b2, b3, b4, b5, b6, b7, b8, b9⟩ := hV.b hg
      have s9 := shedV_le (V := V) i
      have sw := shedV_well (V := V) i
      have i0 : ig i 0 < 55 := ig_lt (n := 7) (by omega) (by omega) (by omega)
      have i2 : ig i 2 < 55 := ig_lt (n := 7) (by omega) (by omega) (by omega)
      have i3 : ig i 3 < 55 := ig_lt (n := 7) (by omega) (by omega) (by omega)
      have i6 : ig i 6 < 55 := ig_lt (n := 7) (by omega) (by omega) (by omega)
      have z0 : ig i 0 = 6 + 7 * i + 0 := rfl
      have z2 : ig i 2 = 6 + 7 * i + 2 := rfl
      have z3 : ig i 3 = 6 + 7 * i + 3 := rfl
      have z6 : ig i 6 = 6 + 7 * i + 6 := rfl
      have e8 : m1 310 i = nI (shedV V i) := by rw [ha 310 (Ne.symm hq2)]; exact hs i hg
      have k1 := comesV_le V (n := i) (by omega)
      have k2 := onionsV_le V (n := i) (by omega)
      have k3 := dueV_le hV i (by omega)
      have k4 : shedV V i * V (ig i 3) ≤ 9 * 9 := Nat.mul_le_mul s9 b5
      have hP := hV.2.2.2.2.2.1
      have y2 : m1 q (ig i 2) = nI (V (ig i 2)) := by rw [hm.at i2, midV_hi (by omega)]
      have y0 : m1 q (ig i 0) = nI (V (ig i 0)) := by rw [hm.at i0, midV_hi (by omega)]
      have y3 : m1 q (ig i 3) = nI (V (ig i 3)) := by rw [hm.at i3, midV_hi (by omega)]
      have y5 : m1 q 5 = nI (min 99999 (V 5 + dueV V i)) := by rw [hm.at (by omega)]; rfl
      have a2 : ∀ v, st_ m1 q (ig i 6) v q (ig i 2) = m1 q (ig i 2) := fun v => st_n (Or.inr (by omega))
      have a0 : ∀ v u, st_ (st_ m1 q (ig i 6) v) q (ig i 2) u q (ig i 0) = m1 q (ig i 0) := fun v u => by rw [st_n (Or.inr (by omega)), st_n (Or.inr (by omega))]
      have a3 : ∀ v u, st_ (st_ m1 q (ig i 6) v) q (ig i 2) u q (ig i 3) = m1 q (ig i 3) := fun v u => by rw [st_n (Or.inr (by omega)), st_n (Or.inr (by omega))]
      have a5 : ∀ v u, st_ (st_ m1 q (ig i 6) v) q (ig i 2) u q 5 = m1 q 5 := fun v u => by rw [st_n (Or.inr (by omega)), st_n (Or.inr (by omega))]
      simp only [nm_d]
      rw [show (6 : Int32) + (7 : Int32) * nI i + (6 : Int32) = nI (ig i 6) from igE i 6, show (6 : Int32) + (7 : Int32) * nI i + (2 : Int32) = nI (ig i 2) from igE i 2, show (6 : Int32) + (7 : Int32) * nI i + (3 : Int32) = nI (ig i 3) from igE i 3, show (6 : Int32) + (7 : Int32) * nI i = nI (ig i 0) from igE0 i]
      simp (disch := omega) only [gdM, ix_nI, e8, h310, a2, y2, nI_subE, a0, y0, a3, y3, a5, y5, x5, g5]
      have c5 : (nI (V (ig i 0)) = (5 : Int32)) = (V (ig i 0) = 5) := by rw [n5, nI_eqE (by omega) (by omega)]
      simp only [c5]
      have fin : ∀ x y : Nat, x ≤ 81 → y = min 99999 (V 5 + dueV V i) + x → dueV V (i + 1) = dueV V i + x → (st_ (st_ (st_ m1 q (ig i 6) (nI (shedV V i))) q (ig i 2) (nI (V (ig i 2) - shedV V i))) q 5 (f_X7_lesser (99999 : Int32) (nI y))) = (st_ (st_ (st_ m1 q (ig i 6) (nI (shedV V i))) q (ig i 2) (nI (V (ig i 2) - shedV V i))) q 5 (nI (midV V (i + 1) 5))) := by
        intro x y hx hy hd
        subst hy
        rw [n99999, lesserE (by omega) (by omega)]
        congr 2
        show _ = min 99999 (V 5 + dueV V (i + 1))
        rw [hd]; omega
      have hmid : MW (st_ (st_ (st_ m1 q (ig i 6) (nI (shedV V i))) q (ig i 2) (nI (V (ig i 2) - shedV V i))) q 5 (nI (midV V (i + 1) 5))) q 0 (midV V (i + 1)) := by
        intro k hk55
        rw [Nat.zero_add]
        by_cases q5 : k = 5
        · subst q5; exact st_s
        · rw [st_n (Or.inr q5), midV_step, if_neg q5]
          by_cases q2 : k = ig i 2
          · subst q2
            rw [st_s, if_neg (by omega), if_pos rfl]
          · rw [st_n (Or.inr q2)]
            by_cases q6 : k = ig i 6
            · subst q6
              rw [st_s, if_pos rfl]
            · rw [st_n (Or.inr q6), if_neg q6, if_neg q2]
              exact hm.at hk55
      have hrest := ih (i + 1) _ hmid (fun a hqa => by rw [st_na hqa, st_na hqa, st_na hqa]; exact ha a hqa) (fun k hk5 => by rw [st_n (Or.inr (by omega)), st_n (Or.inr (by omega)), st_n (Or.inr (by omega))]; exact hk k hk5) (by omega) (by omega)
      by_cases h5 : V (ig i 0) = 5
      · have q1 : comesV V (i + 1) = comesV V i := by show comesV V i + (if V (ig i 0) = 5 then 0 else shedV V i) = _; rw [if_pos h5]; omega
        have q2 : onionsV V (i + 1) = onionsV V i + shedV V i := by show onionsV V i + (if V (ig i 0) = 5 then shedV V i else 0) = _; rw [if_pos h5]
        have q3 : dueV V (i + 1) = dueV V i + 0 := by show dueV V i + (if V (ig i 0) = 5 then 0 else V (ig i 3) * shedV V i) = _; rw [if_pos h5]
        simp only [if_pos h5, bd1_d, n0, n1, nI_add, Nat.add_zero]
        rw [q1, q2] at hrest
        rw [fin 0 (min 99999 (V 5 + dueV V i)) (by omega) (by omega) q3]
        exact hrest
      · have q1 : comesV V (i + 1) = comesV V i + shedV V i := by show comesV V i + (if V (ig i 0) = 5 then 0 else shedV V i) = _; rw [if_neg h5]
        have q2 : onionsV V (i + 1) = onionsV V i := by show onionsV V i + (if V (ig i 0) = 5 then shedV V i else 0) = _; rw [if_neg h5]; omega
        have q3 : dueV V (i + 1) = dueV V i + shedV V i * V (ig i 3) := by show dueV V i + (if V (ig i 0) = 5 then 0 else V (ig i 3) * shedV V i) = _; rw [if_neg h5, Nat.mul_comm]
        simp only [if_neg h5, bd1_d, nI_mulE, n0, n1, nI_add, Nat.add_zero]
        rw [q1, q2] at hrest
        rw [fin _ _ (by omega) rfl q3]
        exact hrest
set_option maxHeartbeats 1000000 in
theorem mo_pass {m : Mm} {q nq : Nat} {V : Wv} (hq : 55 ≤ nq) (hq2 : q ≠ 310) (hV : OkV V) (hm : MW m q 0 V) : ∃ m', f_X7_passes q nq m = some m' ∧ MW m' q 0 (passV V) ∧ (∀ a, a ≠ q → a ≠ 310 → m' a = m a) ∧ ∀ k, 55 ≤ k → m' q k = m q k := by
  have hF := FU_big
  have hn := hV.n
  obtain ⟨m1, a1, a2, a3, a4⟩ := mo_pass1 hq hq2 hV FU 0 m hm (fun g h => by omega) (by omega) (by omega)
  have hd0 : dueV V 0 = 0 := rfl
  have hP := hV.2.2.2.2.2.1
  obtain ⟨m2, b1, b2, b3, b4⟩ := mo_pass2 hq hq2 hV a3 FU 0 m1 (fun k hk => by
    rw [a2 k hk]
    unfold midV
    by_cases h5 : k = 5
    · subst h5; rw [if_pos rfl, hd0]; apply nI_small; omega
    · rw [if_neg h5, if_neg (by omega)]) (fun _ _ => rfl) (fun _ _ => rfl) (by omega) (by omega)
  have k1 := comesV_le V (n := V 2) (by omega)
  have k2 := onionsV_le V (n := V 2) (by omega)
  have hB := hV.2.2.2.2.1
  have hM := hV.2.2.2.1
  have a1' : lp_X7_passes_7 q nq FU (0 : Int32) (0 : Int32) (0 : Int32) m = some m1 := a1
  have b1' : lp_X7_passes_57 q nq FU (0 : Int32) (0 : Int32) (0 : Int32) m1 = some (nI (comesV V (V 2)), nI (onionsV V (V 2)), m2) := b1
  unfold f_X7_passes
  rw [a1', bd1_d, b1', bd3_d]
  have x4 : ix (4 : Int32) = 4 := rfl
  have x3 : ix (3 : Int32) = 3 := rfl
  have g4 : ∀ {α : Type} (x : Option α), gd_ (¬ ((4 : Int32) < 0 ∨ nq ≤ 4)) x = x := fun x => gd_t (by intro h; rcases h with h | h; exact absurd h (by decide); omega)
  have g3 : ∀ {α : Type} (x : Option α), gd_ (¬ ((3 : Int32) < 0 ∨ nq ≤ 3)) x = x := fun x => gd_t (by intro h; rcases h with h | h; exact absurd h (by decide); omega)
  have v4 : m2 q 4 = nI (V 4) := by rw [b2.at (by omega)]; rfl
  have v3 : ∀ x, st_ m2 q 4 x q 3 = nI (V 3) := fun x => by rw [st_n (Or.inr (by omega)), b2.at (by omega)]; rfl
  simp only [nm_d, x4, x3, g4, g3, v4, v3]
  have hgr : f_X7_greater (0 : Int32) (f_X7_lesser (999 : Int32) (nI (V 4) + nI (comesV V (V 2))) - nI (onionsV V (V 2))) = nI (min 999 (V 4 + comesV V (V 2)) - onionsV V (V 2)) := by
    rw [nI_add, n999, lesserE (by omega) (by omega)]
    have := max0E (a := min 999 (V 4 + comesV V (V 2))) (b := onionsV V (V 2)) (by omega) (by omega)
    rw [← this]
    unfold f_X7_greater
    by_cases h : (0 : Int32) < nI (min 999 (V 4 + comesV V (V 2))) - nI (onionsV V (V 2))
    · rw [if_pos h, if_pos]
      rw [Int32.le_iff_toInt_le]; rw [Int32.lt_iff_toInt_lt] at h; omega
    · rw [if_neg h]
      by_cases h2 : (0 : Int32) ≤ nI (min 999 (V 4 + comesV V (V 2))) - nI (onionsV V (V 2))
      · rw [if_pos h2]
        apply Int32.toInt_inj.mp
        rw [Int32.le_iff_toInt_le] at h2; rw [Int32.lt_iff_toInt_lt] at h
        omega
      · rw [if_neg h2]
  rw [hgr, n1, nI_add]
  refine ⟨_, rfl, fun k hk => ?_, fun a h1 h2 => ?_, fun k hk => ?_⟩
  · rw [Nat.zero_add]
    by_cases q3 : k = 3
    · subst q3; rw [st_s]; rfl
    · rw [st_n (Or.inr q3)]
      by_cases q4 : k = 4
      · subst q4; rw [st_s]; rfl
      · rw [st_n (Or.inr q4), b2.at hk]
        apply nI_small
        unfold midV passV
        rw [if_neg q3, if_neg q4]
  · rw [st_na h1, st_na h1, b3 a h1, a4 a h2]
  · rw [st_n (Or.inr (by omega)), st_n (Or.inr (by omega)), b4 k hk, a4 q hq2]
