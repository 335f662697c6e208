/-! ===== pure: how far off ===== -/
def off (A : Nat → Nat → Nat) (p : Nat → Nat) (s : Nat) : Int := ((ldB A p 0 s (aN A) * aR A 1 : Nat) : Int) - ((ldB A p 1 s (aN A) * aR A 0 : Nat) : Int)
theorem off_bd {A : Nat → Nat → Nat} (w : wf A) (p : Nat → Nat) (s : Nat) : -8910 ≤ off A p s ∧ off A p s ≤ 8910 := by
  have h0 := ldB_le w p 0 s (aN A) (Nat.le_refl _)
  have h1 := ldB_le w p 1 s (aN A) (Nat.le_refl _)
  have hn := w.1
  have r0 := w.2.2.2.2.2.1 0 (by decide)
  have r1 := w.2.2.2.2.2.1 1 (by decide)
  have m0 : ldB A p 0 s (aN A) * aR A 1 ≤ 990 * 9 := Nat.mul_le_mul (by omega) r1.2
  have m1 : ldB A p 1 s (aN A) * aR A 0 ≤ 990 * 9 := Nat.mul_le_mul (by omega) r0.2
  unfold off
  omega
theorem off_abs {A : Nat → Nat → Nat} (w : wf A) (p : Nat → Nat) (s : Nat) : (off A p s).natAbs ≤ 8910 := by
  have := off_bd w p s
  omega
theorem lit_cl (k : Nat) (h : k < 2 ^ 31) (x : Int32) (hx : x = nI k) : x.toNatClampNeg = k := by rw [hx]; exact p_cl h
theorem c0 : (0 : Int32).toNatClampNeg = 0 := by decide
theorem c1 : (1 : Int32).toNatClampNeg = 1 := by decide
theorem c2 : (2 : Int32).toNatClampNeg = 2 := by decide
theorem i02 : eb_in 0 2 = true := by decide
theorem i12 : eb_in 1 2 = true := by decide
set_option maxHeartbeats 2000000 in
theorem x_offBetween {A : Nat → Nat → Nat} {σ : eb_S} (hs : ShM9 σ) (hX : MX9 A σ) (a b : Int32) : f_X3_offBetween 9 a b σ = some (a * nI (aR A 1) - b * nI (aR A 0), σ) := by
  obtain ⟨hN, hK, hW, hP, hL, hB, hS, hY, hU, hH, hG, hR, hLn, hL1, hL2, hLk, hBn, hB1, hB2⟩ := id hX
  unfold ShM9 at hs
  unfold f_X3_offBetween
  simp [eb_cl_s, eb_b0, eb_b1, eb_jn_e, eb_tg, eb_ts, eb_d3, eb_gI, eb_gR, eb_pI, eb_pZ, eb_pR, eb_ai, eb_ac, eb_al, eb_ar, eb_wi, eb_wc, eb_wl, eb_wr, eb_ln, eb_xi, eb_zb, eb_sw, eb_lw, hs, i02, i12, c0, c1, hR 0 (by decide), hR 1 (by decide)]
set_option maxHeartbeats 2000000 in
theorem x_offOn {A : Nat → Nat → Nat} {σ : eb_S} (hs : ShM9 σ) (hX : MX9 A σ) (w : wf A) {s n : Nat} (h5 : s < 5) (hn : 100 ≤ n) : f_X3_offOn n 9 (nI s) σ = some (iI (off A (aB A) s), σ) := by
  have hs' := hs
  unfold ShM9 at hs
  unfold f_X3_offOn
  have e0 := x_bagLoad hs' hX w (b := 0) (s := s) (n := n) (by decide) h5 hn
  have e1 := x_bagLoad hs' hX w (b := 1) (s := s) (n := n) (by decide) h5 hn
  rw [show nI 0 = (0 : Int32) from rfl] at e0
  rw [show nI 1 = (1 : Int32) from rfl] at e1
  simp only [eb_tg, hs, if_true, e0, e1, eb_cl_s, x_offBetween hs' hX, pk_mul]
  unfold off
  rw [← iI_sub, ← nI_iI, ← nI_iI]
set_option maxHeartbeats 2000000 in
theorem d_offOf {A : Nat → Nat → Nat} {σ : eb_S} (hs : ShD σ) (hX : MD A σ) (w : wf A) {p : Nat → Nat} {r : Nat} (hr : RW p (aN A) r σ) {s n : Nat} (h5 : s < 5) (hn : 100 ≤ n) : f_X10_offOf n 91 r (nI s) σ = some (iI (off A p s), σ) := by
  obtain ⟨hN, hK, hW, hP, hL, hB, hS, hY, hU, hH, hG, hR, hLn, hL1, hL2, hLk, hBn, hB1, hB2⟩ := id hX
  have hs' := hs
  unfold ShD at hs
  unfold f_X10_offOf
  have e0 := d_loads hs' hX w hr (b := 0) (s := s) (n := n) (by decide) h5 hn
  have e1 := d_loads hs' hX w hr (b := 1) (s := s) (n := n) (by decide) h5 hn
  rw [show nI 0 = (0 : Int32) from rfl] at e0
  rw [show nI 1 = (1 : Int32) from rfl] at e1
  simp [eb_cl_s, eb_b0, eb_b1, eb_jn_e, eb_tg, eb_ts, eb_d3, eb_gI, eb_gR, eb_pI, eb_pZ, eb_pR, eb_ai, eb_ac, eb_al, eb_ar, eb_wi, eb_wc, eb_wl, eb_wr, eb_ln, eb_xi, eb_zb, eb_sw, eb_lw, hs, i02, i12, c0, c1, hR 0 (by decide), hR 1 (by decide), e0, e1, pk_mul]
  unfold off
  rw [← iI_sub, ← nI_iI, ← nI_iI]
theorem d_plain (k : Nat) (x : Int32) (σ : eb_S) : f_X10_plain k x σ = some ((if 0 ≤ x then x else -x), σ) := by
  unfold f_X10_plain
  split <;> rfl
set_option maxHeartbeats 2000000 in
theorem eq_pull {A : Nat → Nat → Nat} {σ : eb_S} (hb : ShB σ) (hs : ShM9 σ) (hX : MX9 A σ) (w : wf A) (hd : ShD σ) (hD : MD A σ) (a : Int32) {n : Nat} (hn : 100 ≤ n) : ∃ r, f_X9_pull n 8 a σ = some (r, σ) ∧ f_X10_pull n 91 a σ = some (r, σ) := by
  have hb' := hb
  have hs' := hs
  have hd' := hd
  unfold ShB at hb
  unfold ShM9 at hs
  unfold ShD at hd
  unfold f_X9_pull f_X10_pull
  simp only [eb_cl_s, eb_b0, eb_b1, eb_jn_e, eb_tg, eb_ts, eb_d3, eb_gI, eb_gR, eb_pI, eb_pZ, eb_pR, eb_ai, eb_ac, eb_al, eb_ar, eb_wi, eb_wc, eb_wl, eb_wr, eb_ln, eb_xi, eb_zb, eb_sw, eb_lw, hb, hd, x_isStretch hb' hs' hX w, d_isStretch hd' hD w]
  cases h2 : wi a.toInt 0 ((aS A : Int) - 1) with
  | false => exact ⟨-10000001, by simp [eb_cl_s], by simp [eb_cl_s]⟩
  | true =>
    have := w.2.2.1
    obtain ⟨u, hu, rfl⟩ := wi_nat (by omega) h2
    exact ⟨iI (off A (aB A) u), by simp [hs, hb, x_offOn hs' hX w (show u < 5 by omega) hn, eb_cl_s], by simp [hd, d_offOf hd' hD w (MD.bags hd' hD w) (show u < 5 by omega) hn, eb_cl_s]⟩
-- WORST and WHOLE
def wst (A : Nat → Nat → Nat) (p : Nat → Nat) : Nat → Nat
  | 0 => 0
  | s + 1 => max (wst A p s) (off A p s).natAbs
def whl (A : Nat → Nat → Nat) (p : Nat → Nat) : Nat → Nat
  | 0 => 0
  | s + 1 => whl A p s + (off A p s).natAbs * aY A s * (1 + aU A s)
theorem wst_le {A : Nat → Nat → Nat} (w : wf A) (p : Nat → Nat) : ∀ s, wst A p s ≤ 8910
  | 0 => Nat.zero_le _
  | s + 1 => by
    have h1 := wst_le w p s
    have h2 := off_abs w p s
    unfold wst
    exact Nat.max_le.mpr ⟨h1, h2⟩
theorem whl_le {A : Nat → Nat → Nat} (w : wf A) (p : Nat → Nat) : ∀ s, s ≤ aS A → whl A p s ≤ 1764180 * s
  | 0, _ => Nat.le_refl _
  | s + 1, h => by
    have h1 := whl_le w p s (by omega)
    have h2 := off_abs w p s
    have h3 := w.2.2.2.1 s (by omega)
    have h4 : (off A p s).natAbs * aY A s ≤ 8910 * 99 := Nat.mul_le_mul h2 h3.2.1
    have h5 : (off A p s).natAbs * aY A s * (1 + aU A s) ≤ 8910 * 99 * 2 := Nat.mul_le_mul h4 (by omega)
    unfold whl
    omega
set_option maxHeartbeats 2000000 in
theorem x_worst_L {A : Nat → Nat → Nat} {σ : eb_S} (hs : ShM9 σ) (hX : MX9 A σ) (w : wf A) {n : Nat} (hn : 100 ≤ n) : ∀ (m t : Nat), t ≤ aS A → aS A < t + m → f_X3_worst_L4 n 9 m (nI (wst A (aB A) t)) (nI t) σ = some (nI (wst A (aB A) (aS A)), σ) := by
  intro m
  induction m with
  | zero => intro t h1 h2; omega
  | succ m ih =>
    intro t h1 h2
    obtain ⟨hN, hK, hW, hP, hL, hB, hS, hY, hU, hH, hG, hR, hLn, hL1, hL2, hLk, hBn, hB1, hB2⟩ := id hX
    have wS := w.2.2.1
    have hs' := hs
    unfold ShM9 at hs
    rw [f_X3_worst_L4.eq_2]
    simp only [eb_cl_s, eb_b0, eb_b1, eb_jn_e, eb_tg, eb_ts, eb_d3, eb_gI, eb_gR, eb_pI, eb_pZ, eb_pR, eb_ai, eb_ac, eb_al, eb_ar, eb_wi, eb_wc, eb_wl, eb_wr, eb_ln, eb_xi, eb_zb, eb_sw, eb_lw, hs, hS, p_leN (show aS A < 2 ^ 31 by omega) (show t < 2 ^ 31 by omega)]
    by_cases h : aS A ≤ t
    · have : t = aS A := by omega
      subst this
      simp
    · have ih' := ih (t + 1) (by omega) (by omega)
      have hb := off_bd w (aB A) t
      have ha := off_abs w (aB A) t
      have hw := wst_le w (aB A) t
      simp only [wst] at ih'
      simp [h, x_offOn hs' hX w (show t < 5 by omega) hn, eb_cl_s, nI_1, p_abs (z := off A (aB A) t) (by omega) (by omega), p_abs2 (z := off A (aB A) t) (by omega) (by omega), p_maxN (show wst A (aB A) t < 2 ^ 31 by omega) (show (off A (aB A) t).natAbs < 2 ^ 31 by omega), ih']
theorem x_worst {A : Nat → Nat → Nat} {σ : eb_S} (hs : ShM9 σ) (hX : MX9 A σ) (w : wf A) {n : Nat} (hn : 100 ≤ n) : f_X3_worst n 9 σ = some (nI (wst A (aB A) (aS A)), σ) := by
  have := w.2.2.1
  exact x_worst_L hs hX w hn n 0 (by omega) (by omega)
set_option maxHeartbeats 2000000 in
theorem x_steep {A : Nat → Nat → Nat} {σ : eb_S} (hs : ShM9 σ) (hX : MX9 A σ) (w : wf A) {t : Nat} (ht : t < aS A) : f_X3_steepness 9 (nI t) σ = some (nI (1 + aU A t), σ) := by
  obtain ⟨hN, hK, hW, hP, hL, hB, hS, hY, hU, hH, hG, hR, hLn, hL1, hL2, hLk, hBn, hB1, hB2⟩ := id hX
  have wS := w.2.2.1
  unfold ShM9 at hs
  unfold f_X3_steepness
  simp [eb_cl_s, eb_b0, eb_b1, eb_jn_e, eb_tg, eb_ts, eb_d3, eb_gI, eb_gR, eb_pI, eb_pZ, eb_pR, eb_ai, eb_ac, eb_al, eb_ar, eb_wi, eb_wc, eb_wl, eb_wr, eb_ln, eb_xi, eb_zb, eb_sw, eb_lw, hs, p_in (show t < 5 by omega) (by decide), p_cl (show t < 2 ^ 31 by omega), hU t ht]
  exact nI_add 1 (aU A t)
set_option maxHeartbeats 2000000 in
theorem x_whole_L {A : Nat → Nat → Nat} {σ : eb_S} (hs : ShM9 σ) (hX : MX9 A σ) (w : wf A) {n : Nat} (hn : 100 ≤ n) : ∀ (m t : Nat), t ≤ aS A → aS A < t + m → f_X3_whole_L4 n 9 m (nI (whl A (aB A) t)) (nI t) σ = some (nI (whl A (aB A) (aS A)), σ) := by
  intro m
  induction m with
  | zero => intro t h1 h2; omega
  | succ m ih =>
    intro t h1 h2
    obtain ⟨hN, hK, hW, hP, hL, hB, hS, hY, hU, hH, hG, hR, hLn, hL1, hL2, hLk, hBn, hB1, hB2⟩ := id hX
    have wS := w.2.2.1
    have hs' := hs
    unfold ShM9 at hs
    rw [f_X3_whole_L4.eq_2]
    simp only [eb_cl_s, eb_b0, eb_b1, eb_jn_e, eb_tg, eb_ts, eb_d3, eb_gI, eb_gR, eb_pI, eb_pZ, eb_pR, eb_ai, eb_ac, eb_al, eb_ar, eb_wi, eb_wc, eb_wl, eb_wr, eb_ln, eb_xi, eb_zb, eb_sw, eb_lw, hs, hS, p_leN (show aS A < 2 ^ 31 by omega) (show t < 2 ^ 31 by omega)]
    by_cases h : aS A ≤ t
    · have : t = aS A := by omega
      subst this
      simp
    · have ih' := ih (t + 1) (by omega) (by omega)
      have hb := off_bd w (aB A) t
      simp only [whl] at ih'
      simp [h, hs, x_offOn hs' hX w (show t < 5 by omega) hn, eb_cl_s, nI_1, p_abs (z := off A (aB A) t) (by omega) (by omega), p_abs2 (z := off A (aB A) t) (by omega) (by omega), x_steep hs' hX w (show t < aS A by omega), p_in (show t < 5 by omega) (by decide), p_cl (show t < 2 ^ 31 by omega), hY t (by omega), pk_mul, nI_add, ih']
theorem x_whole {A : Nat → Nat → Nat} {σ : eb_S} (hs : ShM9 σ) (hX : MX9 A σ) (w : wf A) {n : Nat} (hn : 100 ≤ n) : f_X3_whole n 9 σ = some (nI (whl A (aB A) (aS A)), σ) := by
  have := w.2.2.1
  exact x_whole_L hs hX w hn n 0 (by omega) (by omega)
