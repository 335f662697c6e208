/-! ===== pure: loads, tests ===== -/
set_option maxHeartbeats 2000000 in
theorem x_bagLoad_L {A : Nat → Nat → Nat} {σ : eb_S} (hs : ShM9 σ) (hX : MX9 A σ) (w : wf A) {b s n : Nat} (hb : b < 3) (h5 : s < 5) : ∀ (m t : Nat), t ≤ aN A → aN A < t + m → f_X3_bagLoad_L5 n 9 (nI b) (nI s) m (nI (ldB A (aB A) b s t)) (nI t) σ = some (nI (ldB A (aB A) b s (aN A)), σ) := by
  intro m
  induction m with
  | zero => intro t h1 h2; omega
  | succ m ih =>
    intro t h1 h2
    obtain ⟨hN, hK, hW, hP, hL, hB, hS, hY, hU, hH, hG, hR, hLn, hL1, hL2, hLk, hBn, hB1, hB2⟩ := id hX
    obtain ⟨wN, wT, wS, wY, wB, wR, wLn, wL, wBn, wE⟩ := id w
    have hs' := hs
    unfold ShM9 at hs
    rw [f_X3_bagLoad_L5.eq_2]
    have hc : (nI t).toNatClampNeg = t := p_cl (by omega)
    simp only [eb_cl_s, eb_b0, eb_b1, eb_jn_e, eb_tg, eb_ts, eb_d3, eb_gI, eb_gR, eb_pI, eb_pZ, eb_pR, eb_ai, eb_ac, eb_al, eb_ar, eb_wi, eb_wc, eb_wl, eb_wr, eb_ln, eb_xi, eb_zb, eb_sw, eb_lw, hs, hc, hN, p_leN (show aN A < 2 ^ 31 by omega) (show t < 2 ^ 31 by omega)]
    by_cases h : aN A ≤ t
    · have : t = aN A := by omega
      subst this
      simp
    · have ht : t < aN A := by omega
      have wt := wT t ht
      have hi : eb_in (nI t) 10 = true := p_in (by omega) (by decide)
      have ih' := ih (t + 1) (by omega) (by omega)
      simp only [ldB] at ih'
      simp only [h, hi, hB t ht, p_eqN (show aB A t < 2 ^ 31 by omega) (show b < 2 ^ 31 by omega), x_thingLoad hs' hX w ht h5]
      by_cases hb' : aB A t = b
      · simp [hb', nI_add, nI_1, eb_cl_s]
        simpa [hb'] using ih'
      · simp [hb', nI_1]
        simpa [hb'] using ih'
theorem x_bagLoad {A : Nat → Nat → Nat} {σ : eb_S} (hs : ShM9 σ) (hX : MX9 A σ) (w : wf A) {b s n : Nat} (hb : b < 3) (h5 : s < 5) (hn : 100 ≤ n) : f_X3_bagLoad n 9 (nI b) (nI s) σ = some (nI (ldB A (aB A) b s (aN A)), σ) := by
  have := w.1
  exact x_bagLoad_L hs hX w hb h5 n 0 (by omega) (by omega)
/-- a row of bags in the model's store -/
def RW (p : Nat → Nat) (n r : Nat) (σ : eb_S) : Prop := eb_T σ r = 11 ∧ eb_L σ r = 10 ∧ ∀ t, t < n → eb_I σ r t = nI (p t) ∧ p t < 3
set_option maxHeartbeats 2000000 in
theorem d_loads_L {A : Nat → Nat → Nat} {σ : eb_S} (hs : ShD σ) (hX : MD A σ) (w : wf A) {p : Nat → Nat} {r : Nat} (hr : RW p (aN A) r σ) {b s n : Nat} (hb : b < 3) (h5 : s < 5) : ∀ (m t : Nat), t ≤ aN A → aN A < t + m → f_X10_loads_L6 n 91 r (nI b) (nI s) m (nI (ldB A p b s t)) (nI t) σ = some (nI (ldB A p b s (aN A)), σ) := by
  intro m
  induction m with
  | zero => intro t h1 h2; omega
  | succ m ih =>
    intro t h1 h2
    obtain ⟨hN, hK, hW, hP, hL, hB, hS, hY, hU, hH, hG, hR, hLn, hL1, hL2, hLk, hBn, hB1, hB2⟩ := id hX
    obtain ⟨wN, wT, wS, wY, wB, wR, wLn, wL, wBn, wE⟩ := id w
    have hs' := hs
    unfold ShD at hs
    rw [f_X10_loads_L6.eq_2]
    have hc : (nI t).toNatClampNeg = t := p_cl (by omega)
    simp only [eb_cl_s, eb_b0, eb_b1, eb_jn_e, eb_tg, eb_ts, eb_d3, eb_gI, eb_gR, eb_pI, eb_pZ, eb_pR, eb_ai, eb_ac, eb_al, eb_ar, eb_wi, eb_wc, eb_wl, eb_wr, eb_ln, eb_xi, eb_zb, eb_sw, eb_lw, hs, hc, hN, hr.1, hr.2.1, p_leN (show aN A < 2 ^ 31 by omega) (show t < 2 ^ 31 by omega)]
    by_cases h : aN A ≤ t
    · have : t = aN A := by omega
      subst this
      simp
    · have ht : t < aN A := by omega
      have wt := wT t ht
      have hi : eb_in (nI t) 10 = true := p_in (by omega) (by decide)
      have ih' := ih (t + 1) (by omega) (by omega)
      have hpt := hr.2.2 t ht
      simp only [ldB] at ih'
      simp only [h, hi, hpt.1, p_eqN (show p t < 2 ^ 31 by omega) (show b < 2 ^ 31 by omega), d_loadOf hs' hX w ht h5]
      by_cases hb' : p t = b
      · simp [hb', nI_add, nI_1, eb_cl_s]
        simpa [hb'] using ih'
      · simp [hb', nI_1]
        simpa [hb'] using ih'
theorem d_loads {A : Nat → Nat → Nat} {σ : eb_S} (hs : ShD σ) (hX : MD A σ) (w : wf A) {p : Nat → Nat} {r : Nat} (hr : RW p (aN A) r σ) {b s n : Nat} (hb : b < 3) (h5 : s < 5) (hn : 100 ≤ n) : f_X10_loads n 91 r (nI b) (nI s) σ = some (nI (ldB A p b s (aN A)), σ) := by
  have := w.1
  exact d_loads_L hs hX w hr hb h5 n 0 (by omega) (by omega)
theorem MD.bags {A : Nat → Nat → Nat} {σ : eb_S} (hs : ShD σ) (hX : MD A σ) (w : wf A) : RW (aB A) (aN A) 96 σ := by
  obtain ⟨hN, hK, hW, hP, hL, hB, hS, hY, hU, hH, hG, hR, hLn, hL1, hL2, hLk, hBn, hB1, hB2⟩ := hX
  unfold ShD at hs
  refine ⟨by simp [hs], by simp [hs], fun t ht => ⟨hB t ht, ?_⟩⟩
  have := w.2.1 t ht
  omega
-- tests of numbers
theorem x_isThing {A : Nat → Nat → Nat} {σ : eb_S} (hb : ShB σ) (hs : ShM9 σ) (hX : MX9 A σ) (w : wf A) (v : Int32) : f_X9_isThing 8 v σ = some (wi v.toInt 0 ((aN A : Int) - 1), σ) := by
  have hN := hX.1
  have := w.1
  unfold ShM9 at hs
  unfold ShB at hb
  unfold f_X9_isThing
  simp [eb_cl_s, eb_b0, eb_b1, eb_jn_e, eb_tg, eb_ts, eb_d3, eb_gI, eb_gR, eb_pI, eb_pZ, eb_pR, eb_ai, eb_ac, eb_al, eb_ar, eb_wi, eb_wc, eb_wl, eb_wr, eb_ln, eb_xi, eb_zb, eb_sw, eb_lw, hs, hb, hN, x_within, p_m1 (show aN A < 2 ^ 31 by omega)]
theorem x_isStretch {A : Nat → Nat → Nat} {σ : eb_S} (hb : ShB σ) (hs : ShM9 σ) (hX : MX9 A σ) (w : wf A) (v : Int32) : f_X9_isStretch 8 v σ = some (wi v.toInt 0 ((aS A : Int) - 1), σ) := by
  obtain ⟨hN, hK, hW, hP, hL, hB, hS, hY, hU, hH, hG, hR, hLn, hL1, hL2, hLk, hBn, hB1, hB2⟩ := hX
  have := w.2.2.1
  unfold ShM9 at hs
  unfold ShB at hb
  unfold f_X9_isStretch
  simp [eb_cl_s, eb_b0, eb_b1, eb_jn_e, eb_tg, eb_ts, eb_d3, eb_gI, eb_gR, eb_pI, eb_pZ, eb_pR, eb_ai, eb_ac, eb_al, eb_ar, eb_wi, eb_wc, eb_wl, eb_wr, eb_ln, eb_xi, eb_zb, eb_sw, eb_lw, hs, hb, hS, x_within, p_m1 (show aS A < 2 ^ 31 by omega)]
theorem x_isBag (v : Int32) (σ : eb_S) : f_X9_isBag v σ = some (wi v.toInt 0 2, σ) := by
  unfold f_X9_isBag
  simp [eb_cl_s, eb_b0, eb_b1, eb_jn_e, eb_tg, eb_ts, eb_d3, eb_gI, eb_gR, eb_pI, eb_pZ, eb_pR, eb_ai, eb_ac, eb_al, eb_ar, eb_wi, eb_wc, eb_wl, eb_wr, eb_ln, eb_xi, eb_zb, eb_sw, eb_lw, x_within]
theorem d_isThing {A : Nat → Nat → Nat} {σ : eb_S} (hs : ShD σ) (hX : MD A σ) (w : wf A) (v : Int64) : f_X10_isThing 91 v σ = some (wi v.toInt 0 ((aN A : Int) - 1), σ) := by
  have hN := hX.1
  have := w.1
  unfold ShD at hs
  unfold f_X10_isThing
  simp [eb_cl_s, eb_b0, eb_b1, eb_jn_e, eb_tg, eb_ts, eb_d3, eb_gI, eb_gR, eb_pI, eb_pZ, eb_pR, eb_ai, eb_ac, eb_al, eb_ar, eb_wi, eb_wc, eb_wl, eb_wr, eb_ln, eb_xi, eb_zb, eb_sw, eb_lw, hs, hN, d_in, p_i64, p_m1 (show aN A < 2 ^ 31 by omega)]
theorem d_isStretch {A : Nat → Nat → Nat} {σ : eb_S} (hs : ShD σ) (hX : MD A σ) (w : wf A) (v : Int32) : f_X10_isStretch 91 v σ = some (wi v.toInt 0 ((aS A : Int) - 1), σ) := by
  obtain ⟨hN, hK, hW, hP, hL, hB, hS, hY, hU, hH, hG, hR, hLn, hL1, hL2, hLk, hBn, hB1, hB2⟩ := hX
  have := w.2.2.1
  unfold ShD at hs
  unfold f_X10_isStretch
  simp [eb_cl_s, eb_b0, eb_b1, eb_jn_e, eb_tg, eb_ts, eb_d3, eb_gI, eb_gR, eb_pI, eb_pZ, eb_pR, eb_ai, eb_ac, eb_al, eb_ar, eb_wi, eb_wc, eb_wl, eb_wr, eb_ln, eb_xi, eb_zb, eb_sw, eb_lw, hs, hS, d_in, p_i64, p_m1 (show aS A < 2 ^ 31 by omega)]
theorem d_isBag (v : Int64) (σ : eb_S) : f_X10_isBag v σ = some (wi v.toInt 0 2, σ) := by
  unfold f_X10_isBag
  simp [eb_cl_s, eb_b0, eb_b1, eb_jn_e, eb_tg, eb_ts, eb_d3, eb_gI, eb_gR, eb_pI, eb_pZ, eb_pR, eb_ai, eb_ac, eb_al, eb_ar, eb_wi, eb_wc, eb_wl, eb_wr, eb_ln, eb_xi, eb_zb, eb_sw, eb_lw, d_in]
/-- a number that passes a test is a natural number -/
theorem wi_nat {v : Int32} {n : Nat} (hn : n < 2 ^ 31) (h : wi v.toInt 0 ((n : Int) - 1) = true) : ∃ t : Nat, t < n ∧ v = nI t := by
  have := wi_t.mp h
  exact p_nat hn this.1 (by omega)
theorem wi_nat2 {v : Int32} {n : Nat} (hn : n + 1 < 2 ^ 31) (h : wi v.toInt 0 (n : Int) = true) : ∃ t : Nat, t < n + 1 ∧ v = nI t := by
  have := wi_t.mp h
  exact p_nat hn this.1 (by omega)
set_option maxHeartbeats 2000000 in
theorem eq_load {A : Nat → Nat → Nat} {σ : eb_S} (hb : ShB σ) (hs : ShM9 σ) (hX : MX9 A σ) (w : wf A) (hd : ShD σ) (hD : MD A σ) (a b : Int32) {n : Nat} (hn : 100 ≤ n) : ∃ r, f_X9_load n 8 a b σ = some (r, σ) ∧ f_X10_load n 91 a b σ = some (r, σ) := by
  unfold f_X9_load f_X10_load
  simp only [x_isBag, d_isBag, p_i64, eb_cl_s, eb_b0, eb_b1, eb_jn_e, eb_tg, eb_ts, eb_d3, eb_gI, eb_gR, eb_pI, eb_pZ, eb_pR, eb_ai, eb_ac, eb_al, eb_ar, eb_wi, eb_wc, eb_wl, eb_wr, eb_ln, eb_xi, eb_zb, eb_sw, eb_lw]
  cases h1 : wi a.toInt 0 2 with
  | false => exact ⟨-1, by simp, by simp⟩
  | true =>
    have hb' := hb
    have hs' := hs
    have hd' := hd
    unfold ShB at hb
    unfold ShM9 at hs
    unfold ShD at hd
    simp only [hb, hd, x_isStretch hb' hs' hX w, d_isStretch hd' hD w]
    cases h2 : wi b.toInt 0 ((aS A : Int) - 1) with
    | false => exact ⟨-1, by simp [eb_cl_s], by simp [eb_cl_s]⟩
    | true =>
      have := w.2.2.1
      obtain ⟨t, ht, rfl⟩ := wi_nat2 (n := 2) (by decide) h1
      obtain ⟨u, hu, rfl⟩ := wi_nat (by omega) h2
      exact ⟨nI (ldB A (aB A) t u (aN A)), by simp [hs, hb, x_bagLoad hs' hX w (show t < 3 by omega) (show u < 5 by omega) hn, eb_cl_s], by simp [hd, d_loads hd' hD w (MD.bags hd' hD w) (show t < 3 by omega) (show u < 5 by omega) hn, eb_cl_s]⟩
