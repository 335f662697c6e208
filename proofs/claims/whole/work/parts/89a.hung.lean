/-! ===== pure: what hangs, by the set ===== -/
/-- what the bars of the set below k still bring -/
def bsm (A : Nat → Nat → Nat) (S : Nat) : Nat → Nat
  | 0 => 0
  | k + 1 => bsm A S k + if bit S (10 + k) then hwE A (k + 1) (10 + k) else 0
theorem bsm_or {A : Nat → Nat → Nat} {S x : Nat} (hb : ¬ bit S x) : ∀ k, bsm A (S ||| 2 ^ x) k = bsm A S k + if 10 ≤ x ∧ x < 10 + k then hwE A (x - 10 + 1) x else 0
  | 0 => by rw [if_neg (by omega)]; rfl
  | k + 1 => by
    have ih := bsm_or (A := A) hb k
    show bsm A (S ||| 2 ^ x) k + (if bit (S ||| 2 ^ x) (10 + k) then hwE A (k + 1) (10 + k) else 0) = bsm A S k + (if bit S (10 + k) then hwE A (k + 1) (10 + k) else 0) + _
    rw [ih]
    by_cases e : 10 + k = x
    · subst e
      rw [if_neg (by omega), if_pos (or_bit_iff.mpr (Or.inr rfl)), if_neg hb, if_pos (by omega), show 10 + k - 10 + 1 = k + 1 by omega]
    · by_cases e2 : bit S (10 + k)
      · rw [if_pos (or_bit_iff.mpr (Or.inl e2)), if_pos e2]
        by_cases e3 : 10 ≤ x ∧ x < 10 + k
        · rw [if_pos e3, if_pos (by omega)]; omega
        · rw [if_neg e3, if_neg (by omega)]; omega
      · rw [if_neg (show ¬ bit (S ||| 2 ^ x) (10 + k) from fun z => (or_bit_iff.mp z).elim e2 e), if_neg e2]
        by_cases e3 : 10 ≤ x ∧ x < 10 + k
        · rw [if_pos e3, if_pos (by omega)]; omega
        · rw [if_neg e3, if_neg (by omega)]
theorem sm_or {A : Nat → Nat → Nat} (w : wf A) {S x k : Nat} (hk : k ≤ aBn A) (hb : ¬ bit S x) (he : endok A x k) : cw A (S ||| 2 ^ x) + bsm A (S ||| 2 ^ x) k = cw A S + bsm A S k + hwE A k x := by
  have wN := w.1
  unfold cw
  rw [wsm_or hb, bsm_or hb]
  rcases he with he | he
  · rw [if_pos he, if_neg (by omega), hwE_lo (by omega)]; omega
  · have st := hwE_st w (x - 10 + 1) x (k - (x - 10 + 1)) (by omega) (Or.inr (by omega))
    rw [show x - 10 + 1 + (k - (x - 10 + 1)) = k by omega] at st
    rw [if_neg (by omega), if_pos he, st]; omega
theorem bsm_0 {A : Nat → Nat → Nat} : ∀ k, bsm A 0 k = 0
  | 0 => rfl
  | k + 1 => by
    show bsm A 0 k + (if bit 0 (10 + k) then _ else 0) = 0
    rw [bsm_0 k, if_neg (bit0 (10 + k))]
/-- each of the set hangs at bar b or at one gone through, and has a lesser number than b -/
def hgI (A : Nat → Nat → Nat) (b k S : Nat) : Prop := ∀ x, bit S x → x < 10 + b ∧ ∃ j, (j = b ∨ k ≤ j) ∧ j < aBn A ∧ (x = aB1 A j ∨ x = aB2 A j)
set_option maxHeartbeats 4000000 in
theorem x_endW_L {A : Nat → Nat → Nat} {σ : eb_S} (hs : ShM9 σ) (hX : MX9 A σ) (w : wf A) {n b : Nat} (hbB : b < aBn A) {K : Int32 → eb_S → Option (Int32 × eb_S)} : ∀ (k m S : Nat), k ≤ aBn A → k < m → S < 2 ^ 16 → hgI A b k S → ∃ S', S' < 2 ^ 16 ∧ f_X3_endWeight_L11 n 9 K m (nI S) (nI k - 1) σ = K (nI S') σ ∧ cw A S' = cw A S + bsm A S k := by
  intro k
  have wN := w.1
  have wBn := w.2.2.2.2.2.2.2.2.1
  have hsu := hs
  unfold ShM9 at hsu
  induction k with
  | zero =>
    intro m S h1 h2 h3 h4
    obtain ⟨m, rfl⟩ : ∃ m', m = m' + 1 := ⟨m - 1, by omega⟩
    refine ⟨S, h3, ?_, rfl⟩
    rw [f_X3_endWeight_L11.eq_2, nI_0, if_pos (by decide)]
  | succ k ih =>
    intro m S h1 h2 h3 h4
    obtain ⟨m, rfl⟩ : ∃ m', m = m' + 1 := ⟨m - 1, by omega⟩
    have ek : nI (k + 1) - 1 = nI k := nI_pred k
    have nl : ¬ nI k < 0 := by rw [← nI_0, p_ltN (by omega) (by decide)]; omega
    have e10 : (10 : Int32) + nI k = nI (10 + k) := nI_add 10 k
    have em : nI k + (-1) = nI k - 1 := by rw [Int32.sub_eq_add_neg]
    have hE := w.2.2.2.2.2.2.2.2.2 k (by omega)
    have x1 := hX.2.2.2.2.2.2.2.2.2.2.2.2.2.2.2.2.2.1 k (by omega)
    have x2 := hX.2.2.2.2.2.2.2.2.2.2.2.2.2.2.2.2.2.2 k (by omega)
    have kin : eb_in (nI k) 6 = true := p_in (by omega) (by decide)
    have kcl : (nI k).toNatClampNeg = k := p_cl (by omega)
    have lt := end_lt w (b := k) (by omega)
    have s31 : S < 2 ^ 31 := by omega
    rw [ek, f_X3_endWeight_L11.eq_2, if_neg nl]
    simp only [eb_jn_e, e10, em, bit_i s31 (show 10 + k < 31 by omega)]
    by_cases hb : bit S (10 + k)
    · have hkb := (h4 _ hb).1
      have n1 : ¬ bit S (aB1 A k) := fun z => by
        obtain ⟨_, j, j1, j2, j3⟩ := h4 _ z
        have q := (w.2.2.2.2.2.2.2.2.2 j j2).2.2.2 k (by omega)
        omega
      have n2 : ¬ bit (S ||| 2 ^ aB1 A k) (aB2 A k) := fun z => by
        rcases or_bit_iff.mp z with z | z
        · obtain ⟨_, j, j1, j2, j3⟩ := h4 _ z
          have q := (w.2.2.2.2.2.2.2.2.2 j j2).2.2.2 k (by omega)
          omega
        · exact hE.2.2.1 z.symm
      have o1 := or_lt2 (N := 16) h3 lt.1
      have o2 := or_lt2 (N := 16) o1 lt.2
      have hI : hgI A b k (S ||| 2 ^ aB1 A k ||| 2 ^ aB2 A k) := fun x hx => by
        rcases or_bit_iff.mp hx with hx | hx
        · rcases or_bit_iff.mp hx with hx | hx
          · obtain ⟨y, j, j1, j2, j3⟩ := h4 x hx
            exact ⟨y, j, by omega, j2, j3⟩
          · have q := hE.1
            unfold endok at q
            exact ⟨by omega, k, Or.inr (Nat.le_refl k), by omega, Or.inl hx⟩
        · have q := hE.2.1
          unfold endok at q
          exact ⟨by omega, k, Or.inr (Nat.le_refl k), by omega, Or.inr hx⟩
      obtain ⟨S', g1, g2, g3⟩ := ih m (S ||| 2 ^ aB1 A k ||| 2 ^ aB2 A k) (by omega) (by omega) o2 hI
      have a1 := sm_or w (k := k) (by omega) n1 hE.1
      have a2 := sm_or w (k := k) (by omega) n2 hE.2.1
      have ev : hwE A (k + 1) (10 + k) = hwE A k (aB1 A k) + hwE A k (aB2 A k) := by
        show (if 10 + k < 10 then _ else _) = _
        rw [if_neg (by omega), show 10 + k - 10 = k by omega]
      refine ⟨S', g1, ?_, ?_⟩
      · rw [if_pos hb]
        have eo : nI S ||| (((1 : Int32) <<< (nI (aB1 A k) &&& 31)) ||| ((1 : Int32) <<< (nI (aB2 A k) &&& 31))) = nI (S ||| 2 ^ aB1 A k ||| 2 ^ aB2 A k) := by
          rw [b_shl _ (by omega), b_shl _ (by omega), n_or, n_or, Nat.or_assoc]
        simp only [eb_gR, eb_ai, hsu, List.mem_singleton, if_true, true_and, ne_eq, show ¬ (23 : Nat) = 0 by decide, show ¬ (24 : Nat) = 0 by decide, not_false_eq_true, kin, kcl, x1, x2, eo]
        exact g2
      · rw [g3]
        show _ = cw A S + (bsm A S k + (if bit S (10 + k) then hwE A (k + 1) (10 + k) else 0))
        rw [if_pos hb, ev]
        omega
    · obtain ⟨S', g1, g2, g3⟩ := ih m S (by omega) (by omega) h3 (fun x hx => by
        obtain ⟨y, j, j1, j2, j3⟩ := h4 x hx
        exact ⟨y, j, by omega, j2, j3⟩)
      refine ⟨S', g1, ?_, ?_⟩
      · rw [if_neg hb]; exact g2
      · rw [g3]
        show _ = cw A S + (bsm A S k + (if bit S (10 + k) then hwE A (k + 1) (10 + k) else 0))
        rw [if_neg hb, Nat.add_zero]
theorem x_endW {A : Nat → Nat → Nat} {σ : eb_S} (hs : ShM9 σ) (hX : MX9 A σ) (w : wf A) {n b e : Nat} (hn : 100 ≤ n) (hbB : b < aBn A) (he : endok A e b) (hj : e = aB1 A b ∨ e = aB2 A b) : f_X3_endWeight n 9 (nI e) σ = some (nI (hwE A b e), σ) := by
  have wN := w.1
  have wBn := w.2.2.2.2.2.2.2.2.1
  have lt := end_lt w hbB
  have xBn := hX.2.2.2.2.2.2.2.2.2.2.2.2.2.2.2.2.1
  have hsu := hs
  unfold ShM9 at hsu
  have he16 : e < 16 := by omega
  have z0 := sm_or w (S := 0) (x := e) (k := aBn A) (Nat.le_refl _) (bit0 e) (endok_up he (by omega))
  have st := hwE_st w b e (aBn A - b) (by omega) he
  rw [show b + (aBn A - b) = aBn A by omega] at st
  rw [cw_0, bsm_0, Nat.zero_or, st] at z0
  obtain ⟨S', g1, g2, g3⟩ := x_endW_L hs hX w (n := n) hbB (K := fun (w10 : Int32) (s11 : eb_S) => eb_cl (eb_tg s11 9 3 (f_X3_weightOf n 9 w10 s11)) fun x13 s12 => some (x13, s12)) (aBn A) n (2 ^ e) (Nat.le_refl _) (by omega) (Nat.pow_lt_pow_right (by decide) he16) (fun x hx => by
    have z : bit (0 ||| 2 ^ e) x := by rw [Nat.zero_or]; exact hx
    rcases or_bit_iff.mp z with z | z
    · exact absurd z (bit0 x)
    · rw [z]
      refine ⟨?_, b, Or.inl rfl, hbB, hj⟩
      unfold endok at he
      omega)
  have wo := x_wof w (n := n) (S := S') hn (by omega) hs hX
  unfold f_X3_endWeight
  simp only [eb_gI, hsu, List.mem_singleton, if_true, xBn, b_shl e (by omega)]
  refine g2.trans ?_
  simp only [eb_tg, hsu, if_true, wo, eb_cl_s, g3]
  rw [show cw A (2 ^ e) + bsm A (2 ^ e) (aBn A) = hwE A b e by omega]
set_option maxHeartbeats 4000000 in
theorem eq_hung {A : Nat → Nat → Nat} {σ : eb_S} (hb : ShB σ) (hs : ShM9 σ) (hX : MX9 A σ) (w : wf A) (hd : ShD σ) (hD : MD A σ) (a v : Int32) {n : Nat} (hn : 100 ≤ n) : ∃ r σ2, f_X9_hung n 8 a v σ = some (r, σ) ∧ f_X10_hung n 91 a v σ = some (r, σ2) ∧ Fr s113 σ σ2 := by
  have wBn := w.2.2.2.2.2.2.2.2.1
  have xBn := hX.2.2.2.2.2.2.2.2.2.2.2.2.2.2.2.2.1
  have yBn := hD.2.2.2.2.2.2.2.2.2.2.2.2.2.2.2.2.1
  have hbu := hb
  have hdu := hd
  have hsu := hs
  unfold ShB at hbu
  unfold ShD at hdu
  unfold ShM9 at hsu
  have x1 := x_within a 0 (nI (aBn A) - 1) σ
  rw [p_m1 (by omega), show (0 : Int32).toInt = 0 from rfl] at x1
  have d1 := d_in a.toInt64 0 (nI (aBn A) - 1).toInt64 σ
  rw [p_i64, p_i64, p_m1 (by omega), show (0 : Int64).toInt = 0 from rfl] at d1
  cases h1 : wi a.toInt 0 ((aBn A : Int) - 1) with
  | false =>
    rw [h1] at x1 d1
    exact ⟨-1, σ, by unfold f_X9_hung; simp [eb_gR, eb_gI, hbu, hsu, xBn, x1, eb_cl_s, eb_b0], by unfold f_X10_hung; simp [eb_gI, hdu, yBn, d1, eb_cl_s, eb_b0], Fr.rf⟩
  | true =>
  rw [h1] at x1 d1
  cases h2 : wi v.toInt 0 2 with
  | false =>
    have x2 := x_in v 0 2 0 2 rfl rfl _ h2
    have d2 := d_ins v 0 2 0 2 rfl rfl _ h2
    exact ⟨-1, σ, by unfold f_X9_hung; simp [eb_gR, eb_gI, hbu, hsu, xBn, x1, x2, eb_cl_s, eb_b0], by unfold f_X10_hung; simp [eb_gI, hdu, yBn, d1, d2, eb_cl_s, eb_b0], Fr.rf⟩
  | true =>
  have x2 := x_in v 0 2 0 2 rfl rfl _ h2
  have d2 := d_ins v 0 2 0 2 rfl rfl _ h2
  obtain ⟨b, hbB, rfl⟩ := wi_nat (by omega) h1
  have hE := w.2.2.2.2.2.2.2.2.2 b hbB
  have e1 := x_endW hs hX w (n := n) hn hbB hE.1 (Or.inl rfl)
  have e2 := x_endW hs hX w (n := n) hn hbB hE.2.1 (Or.inr rfl)
  have b1 := hwE_bd w b (aB1 A b) (by omega) hE.1
  have b2 := hwE_bd w b (aB2 A b) (by omega) hE.2.1
  have hpw : 2 ^ b ≤ 2 ^ 6 := Nat.pow_le_pow_right (by decide) (by omega)
  have xb1 := hX.2.2.2.2.2.2.2.2.2.2.2.2.2.2.2.2.2.1 b hbB
  have xb2 := hX.2.2.2.2.2.2.2.2.2.2.2.2.2.2.2.2.2.2 b hbB
  have bin : eb_in (nI b) 6 = true := p_in (by omega) (by decide)
  have bcl : (nI b).toNatClampNeg = b := p_cl (by omega)
  obtain ⟨σ2, g1, g2, g3⟩ := d_hung_L w (n := n) (b := b) hbB (v := v) (K := fun (s16 : eb_S) => if v = 2 then (eb_gR s16 [9] 91 34 fun r25 => eb_ai s16 r25 (nI b) fun x26 => some (x26, s16)) else (eb_gR s16 [9] 91 18 fun r17 => eb_ai s16 r17 (nI b) fun x18 => eb_cl (eb_tg s16 91 9 (f_X10_hangsOn 91 x18 s16)) fun x20 s19 => eb_gR s19 [9] 91 34 fun r21 => eb_ai s19 r21 (nI b) fun x22 => eb_cl (f_X10_part n ((60 : Int32) * x20) x22 v s19) fun x24 s23 => some (x24, s23))) n 0 σ hd hD (fun j hj => by omega) (by omega) (by omega)
  have hd2 := g2.shD hd
  have hD2 := g2.md nD_s113 hD
  have yb2 := hD2.2.2.2.2.2.2.2.2.2.2.2.2.2.2.2.2.2.2 b hbB
  have o2 := d_hangsOn hd2 hD2 w (k := b) (e := aB2 A b) (by omega) hE.2.1 (fun j hj => g3 j (by omega))
  have z := g3 b (by omega)
  have ev : hwE A (b + 1) (10 + b) = hwE A b (aB1 A b) + hwE A b (aB2 A b) := by
    show (if 10 + b < 10 then _ else _) = _
    rw [if_neg (by omega), show 10 + b - 10 = b by omega]
  rw [ev] at z
  have l1 := x_low (u := hwE A b (aB2 A b) * 60) (l := hwE A b (aB1 A b) + hwE A b (aB2 A b)) (n := n) (by omega) (by omega) (by omega) hn v σ
  have l2 := d_part (u := hwE A b (aB2 A b) * 60) (l := hwE A b (aB1 A b) + hwE A b (aB2 A b)) (n := n) (by omega) (by omega) (by omega) hn v σ2
  have m1 : nI (hwE A b (aB2 A b)) * 60 = nI (hwE A b (aB2 A b) * 60) := pk_mul _ 60
  have m2 : (60 : Int32) * nI (hwE A b (aB2 A b)) = nI (hwE A b (aB2 A b) * 60) := by rw [show (60 : Int32) = nI 60 from rfl, pk_mul, Nat.mul_comm]
  refine ⟨if v = 2 then nI (hwE A b (aB1 A b) + hwE A b (aB2 A b)) else fr (hwE A b (aB2 A b) * 60) (hwE A b (aB1 A b) + hwE A b (aB2 A b)) v, σ2, ?_, ?_, g2⟩
  · unfold f_X9_hung
    by_cases hv : v = 2
    · simp [eb_gR, eb_gI, eb_ai, eb_tg, hbu, hsu, xBn, x1, x2, eb_cl_s, eb_b0, bin, bcl, xb1, xb2, e1, e2, hv, nI_add]
      simp [eb_gR, eb_gI, eb_ai, eb_tg, hbu, hsu, xBn, x1, x2, eb_cl_s, eb_b0, bin, bcl, xb1, xb2, e1, e2, hv, nI_add, show ∀ σ, f_X9_within 2 0 2 σ = some (true, σ) from fun σ => by rw [x_within]; rfl]
    · simp [eb_gR, eb_gI, eb_ai, eb_tg, hbu, hsu, xBn, x1, x2, eb_cl_s, eb_b0, bin, bcl, xb1, xb2, e1, e2, hv, nI_add, f_X9_levelAt, m1, l1]
  · unfold f_X10_hung
    rw [nI_0] at g1
    simp only [eb_gI, hdu, yBn, List.mem_singleton, if_true, d1, d2, eb_cl_s, eb_b0, Bool.true_eq_false, if_false]
    refine g1.trans ?_
    unfold ShD at hd2
    by_cases hv : v = 2
    · simp [hv, eb_gR, eb_ai, hd2, bin, bcl, z]
    · simp [hv, eb_gR, eb_ai, eb_tg, hd2, bin, bcl, yb2, o2, z, eb_cl_s, m2, l2]
