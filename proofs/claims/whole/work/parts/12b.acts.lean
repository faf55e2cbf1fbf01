/-! the bits of those that are hired -/
def hbV (V : Wv) : Nat := sumTo (V 2) fun g => V (ig g 5) * 2 ^ g
theorem sumB_lt {b : Nat → Nat} (n : Nat) (hb : ∀ g, g < n → b g ≤ 1) : sumTo n (fun g => b g * 2 ^ g) < 2 ^ n := by
  induction n with
  | zero => exact Nat.lt_succ_self 0
  | succ n ih =>
    have h1 := ih fun g hg => hb g (by omega)
    have h2 := hb n (by omega)
    show sumTo n (fun g => b g * 2 ^ g) + b n * 2 ^ n < 2 ^ (n + 1)
    have h3 : b n * 2 ^ n ≤ 1 * 2 ^ n := Nat.mul_le_mul_right _ h2
    rw [Nat.pow_succ]; omega
theorem sumB_bit {b : Nat → Nat} (n : Nat) (hb : ∀ g, g < n → b g ≤ 1) : ∀ j, j < n → sumTo n (fun g => b g * 2 ^ g) / 2 ^ j % 2 = b j := by
  induction n with
  | zero => intro j hj; omega
  | succ n ih =>
    intro j hj
    have h1 := sumB_lt n fun g hg => hb g (by omega)
    have h2 := hb n (by omega)
    have hp : 0 < 2 ^ j := Nat.two_pow_pos j
    show (sumTo n (fun g => b g * 2 ^ g) + b n * 2 ^ n) / 2 ^ j % 2 = b j
    by_cases h : j = n
    · subst h
      rw [Nat.add_mul_div_right _ _ hp, Nat.div_eq_of_lt h1, Nat.zero_add, Nat.mod_eq_of_lt (by omega)]
    · have e : b n * 2 ^ n = (b n * 2 ^ (n - j - 1) * 2) * 2 ^ j := by
        rw [Nat.mul_assoc, Nat.mul_assoc, ← Nat.pow_succ', ← Nat.pow_add]
        congr 2
        omega
      rw [e, Nat.add_mul_div_right _ _ hp, Nat.add_mul_mod_self_right]
      exact ih (fun g hg => hb g (by omega)) j (by omega)
theorem hb_uniq {h n : Nat} {b : Nat → Nat} (hh : h < 2 ^ n) (hb : ∀ g, g < n → h / 2 ^ g % 2 = b g) : h = sumTo n (fun g => b g * 2 ^ g) := by
  have key : ∀ k, k ≤ n → h % 2 ^ k = sumTo k (fun g => b g * 2 ^ g) := by
    intro k
    induction k with
    | zero => intro _; exact Nat.mod_one h
    | succ k ih =>
      intro hk
      show h % 2 ^ (k + 1) = sumTo k (fun g => b g * 2 ^ g) + b k * 2 ^ k
      rw [Nat.mod_pow_succ, ih (by omega), hb k (by omega), Nat.mul_comm]
  rw [← key n (Nat.le_refl n), Nat.mod_eq_of_lt hh]
theorem OkV.bits {V : Wv} (h : OkV V) : ∀ g, g < V 2 → V (ig g 5) ≤ 1 := fun g hg => (h.b hg).2.2.2.2.2.2.1
theorem hbV_lt {V : Wv} (h : OkV V) : hbV V < 2 ^ V 2 := sumB_lt _ h.bits
theorem hbV_bit {V : Wv} (h : OkV V) {g : Nat} (hg : g < V 2) : hbV V / 2 ^ g % 2 = V (ig g 5) := sumB_bit _ h.bits g hg
theorem CW.hb {m : Mm} {w : Nat} {V : Wv} (hc : CW m w V) : m w 6 = nI (hbV V) := by
  obtain ⟨h, e, h1, h2⟩ := hc.2.2.2.2.2.2.1
  rw [e]
  exact congrArg nI (hb_uniq h1 h2)
theorem orE : ∀ i, i < 7 → ∀ s, s < 128 → s < 2 ^ i → ∀ b, b < 2 → nI s ||| (nI b <<< (nI i &&& 31)) = nI (s + b * 2 ^ i) := by decide +kernel
theorem mo_hired {m : Mm} {V : Wv} (hV : OkV V) (hm : MW m 304 0 V) : f_X7_hired m = some (nI (hbV V)) := by
  have hF := FU_big
  have hn := hV.n
  have key : ∀ (f i : Nat), i ≤ V 2 → V 2 - i < f → lp_X7_hired_4 f (nI (sumTo i fun g => V (ig g 5) * 2 ^ g)) (nI i) m = some (nI (hbV V)) := by
    intro f
    induction f with
    | zero => intro i _ h; omega
    | succ f ih =>
      intro i hi hif
      show lb_X7_hired_4 (lp_X7_hired_4 f) _ (nI i) m = _
      unfold lb_X7_hired_4
      have x2 : ix (2 : Int32) = 2 := rfl
      have hc : (nI (V 2) ≤ nI i) = (V 2 ≤ i) := nI_leE (by omega) (by omega)
      have i5 : i < V 2 → ig i 5 < 55 := fun h => ig_lt (n := 7) (by omega) (by omega) (by omega)
      simp only [x2, hm.at (show 2 < 55 by omega), hc, show (6 : Int32) + (7 : Int32) * nI i + (5 : Int32) = nI (ig i 5) from igE i 5]
      by_cases h : V 2 ≤ i
      · have : i = V 2 := by omega
        rw [if_pos h, this]; rfl
      · rw [if_neg h]
        have hg : i < V 2 := by omega
        have h5 := i5 hg
        have hb := hV.bits i hg
        have hs := sumB_lt (b := fun g => V (ig g 5)) i fun g hg => hV.bits g (by omega)
        have h64 : 2 ^ i ≤ 128 := two_pow_lt (by omega)
        rw [gdN h5 (by omega), ix_nI (by omega), hm.at h5, nm_d, nm_d, orE i (by omega) _ (by omega) hs _ (by omega), n1, nI_add]
        exact ih (i + 1) (by omega) (by omega)
  unfold f_X7_hired
  have := key FU 0 (by omega) (by omega)
  have h' : lp_X7_hired_4 FU (0 : Int32) (0 : Int32) m = some (nI (hbV V)) := this
  rw [h', bd1_d]
theorem xorE : ∀ h, h < 128 → ∀ g, g < 7 → nI h ^^^ ((1 : Int32) <<< (nI g &&& 31)) = nI (h ^^^ 2 ^ g) := by decide +kernel
theorem xor_lt : ∀ n, n < 8 → ∀ g, g < n → ∀ h, h < 2 ^ n → h ^^^ 2 ^ g < 2 ^ n := by
  intro n hn g hg h hh
  exact Nat.xor_lt_two_pow hh (Nat.pow_lt_pow_right (by omega) hg)
theorem xor_bit : ∀ h, h < 128 → ∀ g, g < 7 → ∀ j, j < 7 → (h ^^^ 2 ^ g) / 2 ^ j % 2 = if j = g then 1 - h / 2 ^ g % 2 else h / 2 ^ j % 2 := by decide +kernel
theorem setHV_flip {V : Wv} {g on : Nat} (hV : OkV V) (hg : g < V 2) (ho : on = 1 - V (ig g 5)) (k : Nat) : setHV V (hbV V ^^^ 2 ^ g) k = if k = ig g 5 then on else if k = ig g 6 ∧ on = 0 then 0 else V k := by
  have hn := hV.n
  have h128 := two_pow_lt hn
  have hh := hbV_lt hV
  unfold setHV
  by_cases hk : 6 ≤ k ∧ k < 6 + 7 * V 2
  · rw [if_pos hk]
    obtain ⟨q, f, hq, hf, rfl⟩ : ∃ q f, q < V 2 ∧ f < 7 ∧ k = ig q f := ⟨(k - 6) / 7, (k - 6) % 7, by omega, by omega, by unfold ig; omega⟩
    have e1 : (ig q f - 6) % 7 = f := by unfold ig; omega
    have e2 : (ig q f - 6) / 7 = q := by unfold ig; omega
    have ne5 : (ig q f = ig g 5) = (q = g ∧ f = 5) := by unfold ig; exact propext ⟨fun h => by omega, fun h => by omega⟩
    have ne6 : (ig q f = ig g 6) = (q = g ∧ f = 6) := by unfold ig; exact propext ⟨fun h => by omega, fun h => by omega⟩
    have hb := hV.bits q hq
    have hz := (hV.b hq).2.2.2.2.2.2.2.2
    rw [e1, e2, xor_bit _ (by omega) g (by omega) q (by omega), hbV_bit hV hg, hbV_bit hV hq]
    simp only [ne5, ne6]
    by_cases hqg : q = g
    · subst hqg
      rw [if_pos rfl, ← ho]
      by_cases h5 : f = 5
      · rw [if_pos h5, if_pos ⟨rfl, h5⟩]
      · rw [if_neg h5, if_neg (c := q = q ∧ f = 5) (fun h => h5 h.2)]
        by_cases h6 : f = 6 ∧ on = 0
        · rw [if_pos h6, if_pos (c := (q = q ∧ f = 6) ∧ on = 0) ⟨⟨rfl, h6.1⟩, h6.2⟩]
        · rw [if_neg h6, if_neg (c := (q = q ∧ f = 6) ∧ on = 0) (fun h => h6 ⟨h.1.2, h.2⟩)]
    · rw [if_neg hqg, if_neg (c := q = g ∧ f = 5) (by omega), if_neg (c := (q = g ∧ f = 6) ∧ on = 0) (by omega)]
      by_cases h5 : f = 5
      · rw [if_pos h5, h5]
      · rw [if_neg h5]
        by_cases h6 : f = 6 ∧ V (ig q 5) = 0
        · rw [if_pos h6, h6.1, hz h6.2]
        · rw [if_neg h6]
  · rw [if_neg hk, if_neg (by unfold ig; omega), if_neg (by unfold ig; omega)]
theorem hbV_set {V : Wv} {h : Nat} (hh : h < 2 ^ V 2) : hbV (setHV V h) = h := by
  have l2 : setHV V h 2 = V 2 := setHV_lo (by omega)
  unfold hbV
  rw [l2]
  exact (hb_uniq hh fun g hg => by rw [setHV_ig hg (by omega), if_pos rfl]).symm
theorem setHV_okW {V : Wv} {h : Nat} (hW : OkW V) : OkW (setHV V h) := ⟨setHV_ok hW.1, by rw [setHV_lo (by omega)]; exact hW.2.1, by rw [setHV_lo (by omega)]; exact hW.2.2.1, by rw [setHV_lo (by omega)]; exact hW.2.2.2⟩
set_option maxHeartbeats 1000000 in
theorem sp_hire (x1 x2 : Int32) : Sp2 (f_X6_hire x1 x2) (f_X7_hire x1 x2) := fun S hS => by
  have hN := hS.2.2.2.1
  have hn := hN.v.n
  rcases gstIx S.2.2.2.1 hn x1 with hb | ⟨g, hg, rfl⟩
  · refine SpAt.keep hS (-1000001) (fun m hm => ?_) (fun m hm => ?_)
    · unfold f_X6_hire
      rw [(gst_bad hn hb).1 hm.2.2.2.1]; rfl
    · unfold f_X7_hire
      rw [(gst_bad (w := 13) hn hb).2 hm.2.2.2.1]; rfl
  have hW := hN.w (by omega)
  have hV := hW.1
  have i5 : ig g 5 < 55 := ig_lt (n := 7) (by omega) (by omega) (by omega)
  have hbt := hV.bits g hg
  have c1 : ∀ m, CInv m S → f_X6_hire (nI g) x2 m = if x2 < 0 then some ((-1000001 : Int32), m) else if x2 ≤ (1 : Int32) then (if nI (S.2.2.2.1 (ig g 5)) = (if x2 = (1 : Int32) then (1 : Int32) else 0) then some ((-1000002 : Int32), m) else (bd1 (f_X0_keep 13 m) fun m7 => (bd1 (f_X5_engage 13 ((m7 13 6) ^^^ ((1 : Int32) <<< (nI g &&& 31))) m7) fun m8 => some (m8 13 6, m8)))) else some ((-1000001 : Int32), m) := fun m hm => by
    unfold f_X6_hire
    rw [(gst_ok hn hg).1 hm.2.2.2.1, if_neg (by decide), cl_hired hV hm.2.2.2.1 hg]
    rfl
  have c2 : ∀ m, MInv m S → f_X7_hire (nI g) x2 m = if f_X7_in x2 (0 : Int32) (1 : Int32) = 0 then some ((-1000001 : Int32), m) else if nI (S.2.2.2.1 (ig g 5)) = x2 then some ((-1000002 : Int32), m) else (bd1 (f_X7_notes m) fun m6 => (bd1 (f_X7_hires 304 55 (nI g) x2 m6) fun m7 => (bd1 (f_X7_hired m7) fun r8 => some (r8, m7)))) := fun m hm => by
    unfold f_X7_hire
    rw [(gst_ok (w := 13) hn hg).2 hm.2.2.2.1, bd1_d, if_neg (by decide), show (6 : Int32) + (7 : Int32) * nI g + (5 : Int32) = nI (ig g 5) from igE g 5, gdN i5 (by omega), ix_nI (by omega), hm.2.2.2.1.at i5]
  have e0 : (0 : Int32).toInt = 0 := by decide
  have e1 : (1 : Int32).toInt = 1 := by decide
  rcases btw x2 0 1 (by omega) (by omega) with hb | ⟨on, hn1, hn2, rfl⟩
  · refine SpAt.keep hS (-1000001) (fun m hm => ?_) (fun m hm => ?_)
    · rw [c1 m hm]
      by_cases h : x2 < 0
      · rw [if_pos h]
      · rw [if_neg h, if_neg]
        rw [Int32.lt_iff_toInt_lt] at h; rw [Int32.le_iff_toInt_le]; omega
    · rw [c2 m hm, show f_X7_in x2 (0 : Int32) (1 : Int32) = 0 from in_bad (lo := 0) (hi := 1) (by omega) (by omega) hb, if_pos rfl]
  have q0 : (if nI on = (1 : Int32) then (1 : Int32) else 0) = nI on := by rcases (show on = 0 ∨ on = 1 by omega) with h | h <;> subst h <;> rfl
  have q1 : (nI (S.2.2.2.1 (ig g 5)) = nI on) = (S.2.2.2.1 (ig g 5) = on) := nI_eqE (by omega) (by omega)
  have q2 : nI on ≤ (1 : Int32) := by rcases (show on = 0 ∨ on = 1 by omega) with h | h <;> subst h <;> decide
  have d1 : ∀ m, CInv m S → f_X6_hire (nI g) (nI on) m = if S.2.2.2.1 (ig g 5) = on then some ((-1000002 : Int32), m) else (bd1 (f_X0_keep 13 m) fun m7 => (bd1 (f_X5_engage 13 ((m7 13 6) ^^^ ((1 : Int32) <<< (nI g &&& 31))) m7) fun m8 => some (m8 13 6, m8))) := fun m hm => by
    rw [c1 m hm, if_neg (nI_pos (by omega)), if_pos q2, q0]
    simp only [q1]
  have d2 : ∀ m, MInv m S → f_X7_hire (nI g) (nI on) m = if S.2.2.2.1 (ig g 5) = on then some ((-1000002 : Int32), m) else (bd1 (f_X7_notes m) fun m6 => (bd1 (f_X7_hires 304 55 (nI g) (nI on) m6) fun m7 => (bd1 (f_X7_hired m7) fun r8 => some (r8, m7)))) := fun m hm => by
    rw [c2 m hm, show f_X7_in (nI on) (0 : Int32) (1 : Int32) = 1 from in_ok (lo := 0) (hi := 1) (by omega) hn1 hn2, if_neg (by decide)]
    simp only [q1]
  by_cases hs : S.2.2.2.1 (ig g 5) = on
  · exact SpAt.keep hS (-1000002) (fun m hm => by rw [d1 m hm, if_pos hs]) (fun m hm => by rw [d2 m hm, if_pos hs])
  have ho : on = 1 - S.2.2.2.1 (ig g 5) := by omega
  obtain ⟨hl, hA⟩ := hS.2.2.2.2.1
  have h128 := two_pow_lt hn
  have hh := hbV_lt hV
  have hx := xor_lt _ (by omega) g hg _ hh
  refine ⟨nI (hbV S.2.2.2.1 ^^^ 2 ^ g), setVA S (setHV S.2.2.2.1 (hbV S.2.2.2.1 ^^^ 2 ^ g)) (pushA S.2.2.2.1 S.2.2.2.2.1), setVA_ok hS (Or.inl (setHV_okW hW)) (by rw [pushA_len]; omega) (pushA_mem hW hA), fun m hm => ?_, fun m hm => ?_⟩
  · obtain ⟨m1, a1, a2, a3, a4⟩ := cl_keep hV hm.2.2.2.1 hl hm.2.2.2.2.1
    obtain ⟨m2, b1, b2, b3⟩ := cl_engage hV a2 hx
    rw [d1 m hm, if_neg hs, a1, bd1_d, a2.hb, xorE _ (by omega) g (by omega), b1, bd1_d]
    exact ⟨m2, by rw [b2.hb, hbV_set hx], hm.wed b2 (a3.frame fun a ha hb => b3 a (by omega)) (fun a ha => by rw [b3 a (by omega), a4 a (by omega)]), fun a ha => by rw [b3 a (by omega), a4 a (by omega)]⟩
  · obtain ⟨m1, a1, a2, a3, a4, a5⟩ := mo_notes hm.2.2.2.1 hl hm.2.2.2.2.1
    obtain ⟨m2, b1, b2, b3, b4⟩ := mo_hires (V := S.2.2.2.1) (q := 304) (nq := 55) (g := g) (on := on) (by omega) (by omega) (by omega) a2 rfl rfl hbt (hV.b hg).2.2.2.2.2.2.2.2
    have b2' : MW m2 304 0 (setHV S.2.2.2.1 (hbV S.2.2.2.1 ^^^ 2 ^ g)) := fun k hk => by rw [b2 k hk, setHV_flip hV hg ho k]
    rw [d2 m hm, if_neg hs, a1, bd1_d, b1, bd1_d, mo_hired (setHV_ok hV) b2', bd1_d]
    exact ⟨m2, by rw [hbV_set hx], hm.wed b2' (a3.frame (by rw [b3 298 (by omega)]) (b3 307 (by omega))) (fun a h1 h2 => by rw [b3 a (by omega), a4 a (by omega) (by omega)]) (fun k hk => by rw [b3 298 (by omega), a5 k (by omega)]), fun a ha => by rw [b3 a (by omega), a4 a (by omega) (by omega)]⟩
