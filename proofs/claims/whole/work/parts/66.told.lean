/-! ===== pure: what is told ===== -/
def hng (A : Nat → Nat → Nat) (e : Nat) : Nat → Bool
  | 0 => false
  | k + 1 => hng A e k || (decide (aB1 A k = e) || decide (aB2 A k = e))
theorem hng_mono {A : Nat → Nat → Nat} {e k : Nat} (h : hng A e k = true) : ∀ d, hng A e (k + d) = true
  | 0 => h
  | d + 1 => by
    show (hng A e (k + d) || _) = true
    rw [hng_mono h d]; rfl
theorem end_lt {A : Nat → Nat → Nat} (w : wf A) {b : Nat} (hb : b < aBn A) : aB1 A b < 16 ∧ aB2 A b < 16 := by
  obtain ⟨wN, wT, wS, wY, wB, wR, wLn, wL, wBn, wE⟩ := w
  have h := wE b hb
  unfold endok at h
  omega
set_option maxHeartbeats 2000000 in
theorem x_hangs_L {A : Nat → Nat → Nat} {σ : eb_S} (hs : ShM9 σ) (hX : MX9 A σ) (w : wf A) {e n : Nat} (he : e < 2 ^ 31) : ∀ (m k : Nat), k ≤ aBn A → aBn A < k + m → hng A e k = false → f_X3_hangs_L2 n 9 (nI e) m (nI k) σ = some (hng A e (aBn A), σ) := by
  intro m
  induction m with
  | zero => intro k h1 h2; omega
  | succ m ih =>
    intro k h1 h2 h0
    obtain ⟨hN, hK, hW, hP, hL, hB, hS, hY, hU, hH, hG, hR, hLn, hL1, hL2, hLk, hBn, hB1, hB2⟩ := id hX
    have wBn : aBn A ≤ 6 := w.2.2.2.2.2.2.2.2.1
    unfold ShM9 at hs
    rw [f_X3_hangs_L2.eq_2]
    simp only [eb_gI, eb_gR, eb_ai, hs, hBn, List.mem_singleton, if_true, p_leN (show aBn A < 2 ^ 31 by omega) (show k < 2 ^ 31 by omega)]
    by_cases h : aBn A ≤ k
    · have : k = aBn A := by omega
      subst this
      simp [h0]
    · have hk : k < aBn A := by omega
      have hlt := end_lt w hk
      have hm : ∀ b, hng A e (k + 1) = b → b = true → hng A e (aBn A) = true := fun b e1 e2 => by
        have := hng_mono (e1.trans e2) (aBn A - (k + 1))
        rw [show k + 1 + (aBn A - (k + 1)) = aBn A by omega] at this
        exact this
      have ih' := ih (k + 1) (by omega) (by omega)
      have ek : hng A e (k + 1) = (decide (aB1 A k = e) || decide (aB2 A k = e)) := by
        show (hng A e k || _) = _
        rw [h0]; rfl
      simp only [h, if_false, p_in (show k < 6 by omega) (by decide : 6 < 2 ^ 31), p_cl (show k < 2 ^ 31 by omega), hB1 k hk, hB2 k hk, p_eqN (show aB1 A k < 2 ^ 31 by omega) he, p_eqN (show aB2 A k < 2 ^ 31 by omega) he]
      by_cases e1 : aB1 A k = e
      · have := hm _ ek (by simp [e1])
        simp [e1, this]
      · by_cases e2 : aB2 A k = e
        · have := hm _ ek (by simp [e2])
          simp [e1, e2, this]
        · have := ih' (by rw [ek]; simp [e1, e2])
          simp [e1, e2, nI_1, this]
theorem x_hangs {A : Nat → Nat → Nat} {σ : eb_S} (hs : ShM9 σ) (hX : MX9 A σ) (w : wf A) {e n : Nat} (he : e < 2 ^ 31) (hn : 100 ≤ n) : f_X3_hangs n 9 (nI e) σ = some (hng A e (aBn A), σ) := by
  have wBn : aBn A ≤ 6 := w.2.2.2.2.2.2.2.2.1
  exact x_hangs_L hs hX w he n 0 (by omega) (by omega) rfl
theorem zb_b {τ : Type} (b : Bool) (K : Bool → Option τ) : eb_zb (eb_b b) K = K b := by
  cases b <;> simp [eb_zb, eb_b]
set_option maxHeartbeats 2000000 in
theorem d_hangs_L {A : Nat → Nat → Nat} {σ : eb_S} (hs : ShD σ) (hX : MD A σ) (w : wf A) {e n : Nat} (he : e < 2 ^ 31) : ∀ (m k : Nat), k ≤ aBn A → aBn A < k + m → f_X10_hangs_L4 n 91 (nI e) m (eb_b (hng A e k)) (nI k) σ = some (hng A e (aBn A), σ) := by
  intro m
  induction m with
  | zero => intro k h1 h2; omega
  | succ m ih =>
    intro k h1 h2
    obtain ⟨hN, hK, hW, hP, hL, hB, hS, hY, hU, hH, hG, hR, hLn, hL1, hL2, hLk, hBn, hB1, hB2⟩ := id hX
    have wBn : aBn A ≤ 6 := w.2.2.2.2.2.2.2.2.1
    unfold ShD at hs
    rw [f_X10_hangs_L4.eq_2]
    simp only [eb_gI, eb_gR, eb_ai, eb_jn_e, hs, hBn, List.mem_singleton, if_true, p_leN (show aBn A < 2 ^ 31 by omega) (show k < 2 ^ 31 by omega)]
    by_cases h : aBn A ≤ k
    · have : k = aBn A := by omega
      subst this
      simp [zb_b]
    · have hk : k < aBn A := by omega
      have hlt := end_lt w hk
      have ih' := ih (k + 1) (by omega) (by omega)
      have ek : hng A e (k + 1) = (hng A e k || (decide (aB1 A k = e) || decide (aB2 A k = e))) := rfl
      simp only [h, if_false, p_in (show k < 6 by omega) (by decide : 6 < 2 ^ 31), p_cl (show k < 2 ^ 31 by omega), hB1 k hk, hB2 k hk, p_eqN (show aB1 A k < 2 ^ 31 by omega) he, p_eqN (show aB2 A k < 2 ^ 31 by omega) he, eb_b0, nI_1]
      cases h0 : hng A e k with
      | true =>
        rw [ek, h0] at ih'
        simp only [Bool.true_or] at ih'
        simp
        exact ih'
      | false =>
        rw [ek, h0] at ih'
        by_cases e1 : aB1 A k = e
        · simp [e1] at ih' ⊢
          exact ih'
        · by_cases e2 : aB2 A k = e
          · simp [e1, e2] at ih' ⊢
            exact ih'
          · simp [e1, e2] at ih' ⊢
            exact ih'
theorem d_hangs {A : Nat → Nat → Nat} {σ : eb_S} (hs : ShD σ) (hX : MD A σ) (w : wf A) {e n : Nat} (he : e < 2 ^ 31) (hn : 100 ≤ n) : f_X10_hangs n 91 (nI e) σ = some (hng A e (aBn A), σ) := by
  have wBn : aBn A ≤ 6 := w.2.2.2.2.2.2.2.2.1
  exact d_hangs_L hs hX w he n 0 (by omega) (by omega)
theorem n_lit1 : nI 1 = 1 := rfl
theorem n_lit2 : nI 2 = 2 := rfl
theorem n_lit3 : nI 3 = 3 := rfl
theorem n_lit4 : nI 4 = 4 := rfl
theorem n_lit5 : nI 5 = 5 := rfl
theorem n_lit6 : nI 6 = 6 := rfl
theorem wi_ne {a : Int32} {h : Int} (h2 : wi a.toInt 0 h = false) {k : Int32} (hk : 0 ≤ k.toInt ∧ k.toInt ≤ h) : a ≠ k := fun e => wi_f.mp h2 (by rw [e]; exact hk)
set_option maxHeartbeats 4000000 in
theorem eq_told {A : Nat → Nat → Nat} {σ : eb_S} (hb : ShB σ) (hs : ShM9 σ) (hX : MX9 A σ) (w : wf A) (hd : ShD σ) (hD : MD A σ) (a f : Int32) {n : Nat} (hn : 100 ≤ n) : ∃ r, f_X9_told n 8 a f σ = some (r, σ) ∧ f_X10_told n 91 a f σ = some (r, σ) := by
  have wN := w.1
  have it := x_isThing hb hs hX w a
  have dt := d_isThing hd hD w a.toInt64
  rw [p_i64] at dt
  have hbu := hb
  have hdu := hd
  have hsu := hs
  unfold ShB at hbu
  unfold ShD at hdu
  unfold ShM9 at hsu
  cases h1 : wi a.toInt 0 ((aN A : Int) - 1) with
  | false =>
    rw [h1] at it dt
    exact ⟨-1, by unfold f_X9_told; simp [eb_tg, hbu, it, eb_cl_s, eb_b0], by unfold f_X10_told; simp [eb_tg, hdu, dt, eb_cl_s, eb_b0]⟩
  | true =>
    rw [h1] at it dt
    obtain ⟨t, ht, rfl⟩ := wi_nat (by omega) h1
    cases h2 : wi f.toInt 0 5 with
    | false =>
      have e0 := wi_ne h2 (k := 0) (by decide)
      have e1 := wi_ne h2 (k := 1) (by decide)
      have e2 := wi_ne h2 (k := 2) (by decide)
      have e3 := wi_ne h2 (k := 3) (by decide)
      have e4 := wi_ne h2 (k := 4) (by decide)
      have e5 := wi_ne h2 (k := 5) (by decide)
      exact ⟨-1, by unfold f_X9_told; simp [eb_tg, hbu, it, eb_cl_s, eb_b0, eb_sw, e0, e1, e2, e3, e4, e5], by unfold f_X10_told; simp [eb_tg, hdu, dt, eb_cl_s, eb_b0, eb_sw, e0, e1, e2, e3, e4, e5]⟩
    | true =>
      have xh := x_hangs hs hX w (e := t) (by omega) hn
      have dh := d_hangs hd hD w (e := t) (by omega) hn
      obtain ⟨xN, xK, xW, xP, xL, xB, _⟩ := hX
      obtain ⟨yN, yK, yW, yP, yL, yB, _⟩ := hD
      have tin : eb_in (nI t) 10 = true := p_in (by omega) (by decide)
      have tcl : (nI t).toNatClampNeg = t := p_cl (by omega)
      obtain ⟨u, hu, rfl⟩ := wi_nat2 (n := 5) (by decide) h2
      unfold f_X9_told f_X10_told
      rcases (show u = 0 ∨ u = 1 ∨ u = 2 ∨ u = 3 ∨ u = 4 ∨ u = 5 by omega) with rfl | rfl | rfl | rfl | rfl | rfl
      · exact ⟨nI (aK A t), by simp [eb_tg, hbu, hsu, it, eb_cl_s, eb_b0, eb_sw, nI_0, eb_gR, eb_ai, tin, tcl, xK t ht], by simp [eb_tg, hdu, dt, eb_cl_s, eb_b0, eb_sw, nI_0, eb_gR, eb_ai, tin, tcl, yK t ht]⟩
      · exact ⟨nI (aW A t), by simp [eb_tg, hbu, hsu, it, eb_cl_s, eb_b0, eb_sw, n_lit1, eb_gR, eb_ai, tin, tcl, xW t ht], by simp [eb_tg, hdu, dt, eb_cl_s, eb_b0, eb_sw, n_lit1, eb_gR, eb_ai, tin, tcl, yW t ht]⟩
      · exact ⟨nI (aP A t), by simp [eb_tg, hbu, hsu, it, eb_cl_s, eb_b0, eb_sw, n_lit2, eb_gR, eb_ai, tin, tcl, xP t ht], by simp [eb_tg, hdu, dt, eb_cl_s, eb_b0, eb_sw, n_lit2, eb_gR, eb_ai, tin, tcl, yP t ht]⟩
      · exact ⟨nI (aL A t), by simp [eb_tg, hbu, hsu, it, eb_cl_s, eb_b0, eb_sw, n_lit3, eb_gR, eb_ai, tin, tcl, xL t ht, Int32.sub_add_cancel], by simp [eb_tg, hdu, dt, eb_cl_s, eb_b0, eb_sw, n_lit3, eb_gR, eb_ai, tin, tcl, yL t ht]⟩
      · exact ⟨nI (aB A t), by simp [eb_tg, hbu, hsu, it, eb_cl_s, eb_b0, eb_sw, n_lit4, eb_gR, eb_ai, tin, tcl, xB t ht], by simp [eb_tg, hdu, dt, eb_cl_s, eb_b0, eb_sw, n_lit4, eb_gR, eb_ai, tin, tcl, yB t ht]⟩
      · cases hh : hng A t (aBn A) with
        | false =>
          rw [hh] at xh dh
          exact ⟨0, by simp [eb_tg, hbu, hsu, it, eb_cl_s, eb_b0, eb_sw, n_lit5, eb_gR, xh], by simp [eb_tg, hdu, dt, eb_cl_s, eb_b0, eb_sw, n_lit5, dh]⟩
        | true =>
          rw [hh] at xh dh
          exact ⟨1, by simp [eb_tg, hbu, hsu, it, eb_cl_s, eb_b0, eb_sw, n_lit5, eb_gR, xh], by simp [eb_tg, hdu, dt, eb_cl_s, eb_b0, eb_sw, n_lit5, dh]⟩
set_option maxHeartbeats 4000000 in
theorem eq_of {A : Nat → Nat → Nat} {σ : eb_S} (hb : ShB σ) (hs : ShM9 σ) (hX : MX9 A σ) (w : wf A) (hd : ShD σ) (hD : MD A σ) (a f : Int32) : ∃ r, f_X9_of 8 a f σ = some (r, σ) ∧ f_X10_of 91 a f σ = some (r, σ) := by
  have wS := w.2.2.1
  have it := x_isStretch hb hs hX w a
  have dt := d_isStretch hd hD w a
  have hbu := hb
  have hdu := hd
  have hsu := hs
  unfold ShB at hbu
  unfold ShD at hdu
  unfold ShM9 at hsu
  cases h1 : wi a.toInt 0 ((aS A : Int) - 1) with
  | false =>
    rw [h1] at it dt
    exact ⟨-1, by unfold f_X9_of; simp [eb_tg, hbu, it, eb_cl_s, eb_b0], by unfold f_X10_of; simp [eb_tg, hdu, dt, eb_cl_s, eb_b0]⟩
  | true =>
    rw [h1] at it dt
    obtain ⟨t, ht, rfl⟩ := wi_nat (by omega) h1
    cases h2 : wi f.toInt 0 1 with
    | false =>
      have x2 := x_in f 0 1 0 1 rfl rfl _ h2
      have d2 := d_ins f 0 1 0 1 rfl rfl _ h2
      exact ⟨-1, by unfold f_X9_of; simp [eb_tg, hbu, it, x2, eb_cl_s, eb_b0], by unfold f_X10_of; simp [eb_tg, hdu, dt, d2, eb_cl_s, eb_b0]⟩
    | true =>
      have x2 := x_in f 0 1 0 1 rfl rfl _ h2
      have d2 := d_ins f 0 1 0 1 rfl rfl _ h2
      have tin : eb_in (nI t) 5 = true := p_in (by omega) (by decide)
      have tcl : (nI t).toNatClampNeg = t := p_cl (by omega)
      have xY := hX.2.2.2.2.2.2.2.1 t ht
      have xU := hX.2.2.2.2.2.2.2.2.1 t ht
      have yY := hD.2.2.2.2.2.2.2.1 t ht
      have yU := hD.2.2.2.2.2.2.2.2.1 t ht
      obtain ⟨u, hu, rfl⟩ := wi_nat2 (n := 1) (by decide) h2
      unfold f_X9_of f_X10_of
      rcases (show u = 0 ∨ u = 1 by omega) with rfl | rfl
      · rw [nI_0] at x2 d2 ⊢
        have d2' : ∀ σ, f_X10_in 0 0 1 σ = some (true, σ) := fun σ => by rw [d_in]; rfl
        exact ⟨nI (aY A t), by simp [eb_tg, hbu, hsu, it, x2, eb_cl_s, eb_b0, eb_gR, eb_ai, tin, tcl, xY], by simp [eb_tg, hdu, dt, d2, d2', eb_cl_s, eb_b0, eb_gR, eb_ai, tin, tcl, yY]⟩
      · rw [n_lit1] at x2 d2 ⊢
        have d2' : ∀ σ, f_X10_in 1 0 1 σ = some (true, σ) := fun σ => by rw [d_in]; rfl
        have n10 : ¬ (1 : Int32) = 0 := by decide
        exact ⟨nI (aU A t), by simp [eb_tg, hbu, hsu, it, x2, n10, eb_cl_s, eb_b0, eb_gR, eb_ai, tin, tcl, xU], by simp [eb_tg, hdu, dt, d2, d2', n10, eb_cl_s, eb_b0, eb_gR, eb_ai, tin, tcl, yU]⟩
def wy (A : Nat → Nat → Nat) : Nat → Nat
  | 0 => 0
  | k + 1 => wy A k + aY A k
theorem wy_le {A : Nat → Nat → Nat} (w : wf A) : ∀ k, k ≤ aS A → wy A k ≤ 99 * k
  | 0, _ => Nat.le_refl _
  | k + 1, h => by
    have h1 := wy_le w k (by omega)
    have h2 := w.2.2.2.1 k (by omega)
    show wy A k + aY A k ≤ _
    omega
theorem x_way_L {A : Nat → Nat → Nat} {σ : eb_S} (hs : ShM9 σ) (hX : MX9 A σ) (w : wf A) {n : Nat} : ∀ (m k : Nat), k ≤ aS A → aS A < k + m → f_X3_wholeWay_L4 n 9 m (nI (wy A k)) (nI k) σ = some (nI (wy A (aS A)), σ) := by
  intro m
  induction m with
  | zero => intro k h1 h2; omega
  | succ m ih =>
    intro k h1 h2
    have wS := w.2.2.1
    have hS := hX.2.2.2.2.2.2.1
    unfold ShM9 at hs
    rw [f_X3_wholeWay_L4.eq_2]
    simp only [eb_gI, eb_gR, eb_ai, hs, hS, List.mem_singleton, if_true, p_leN (show aS A < 2 ^ 31 by omega) (show k < 2 ^ 31 by omega)]
    by_cases h : aS A ≤ k
    · have : k = aS A := by omega
      subst this
      simp
    · have ih' := ih (k + 1) (by omega) (by omega)
      simp [h, p_in (show k < 5 by omega) (by decide : 5 < 2 ^ 31), p_cl (show k < 2 ^ 31 by omega), hX.2.2.2.2.2.2.2.1 k (by omega), nI_add, nI_1]
      exact ih'
theorem d_way_L {A : Nat → Nat → Nat} {σ : eb_S} (hs : ShD σ) (hX : MD A σ) (w : wf A) {n e : Nat} (he : e ≤ aS A) : ∀ (m k : Nat), k ≤ e → e < k + m → f_X10_wayTo_L4 n 91 (nI e) m (nI (wy A k)) (nI k) σ = some (nI (wy A e), σ) := by
  intro m
  induction m with
  | zero => intro k h1 h2; omega
  | succ m ih =>
    intro k h1 h2
    have wS := w.2.2.1
    unfold ShD at hs
    rw [f_X10_wayTo_L4.eq_2]
    simp only [eb_gI, eb_gR, eb_ai, hs, List.mem_singleton, if_true, p_leN (show e < 2 ^ 31 by omega) (show k < 2 ^ 31 by omega)]
    by_cases h : e ≤ k
    · have : k = e := by omega
      subst this
      simp
    · have ih' := ih (k + 1) (by omega) (by omega)
      simp [h, p_in (show k < 5 by omega) (by decide : 5 < 2 ^ 31), p_cl (show k < 2 ^ 31 by omega), hX.2.2.2.2.2.2.2.1 k (by omega), nI_add, nI_1]
      exact ih'
theorem d_way {A : Nat → Nat → Nat} {σ : eb_S} (hs : ShD σ) (hX : MD A σ) (w : wf A) {n e : Nat} (he : e ≤ aS A) (hn : 100 ≤ n) : f_X10_wayTo n 91 (nI e) σ = some (nI (wy A e), σ) := by
  have wS := w.2.2.1
  exact d_way_L hs hX w he n 0 (by omega) (by omega)
set_option maxHeartbeats 4000000 in
theorem eq_count {A : Nat → Nat → Nat} {σ : eb_S} (hb : ShB σ) (hs : ShM9 σ) (hX : MX9 A σ) (w : wf A) (hd : ShD σ) (hD : MD A σ) (f : Int32) {n : Nat} (hn : 100 ≤ n) : ∃ r, f_X9_count n 8 f σ = some (r, σ) ∧ f_X10_count n 91 f σ = some (r, σ) := by
  have wS := w.2.2.1
  have hbu := hb
  have hdu := hd
  have hsu := hs
  unfold ShB at hbu
  unfold ShD at hdu
  unfold ShM9 at hsu
  cases h2 : wi f.toInt 0 6 with
  | false =>
    have e0 := wi_ne h2 (k := 0) (by decide)
    have e1 := wi_ne h2 (k := 1) (by decide)
    have e2 := wi_ne h2 (k := 2) (by decide)
    have e3 := wi_ne h2 (k := 3) (by decide)
    have e4 := wi_ne h2 (k := 4) (by decide)
    have e5 := wi_ne h2 (k := 5) (by decide)
    have e6 := wi_ne h2 (k := 6) (by decide)
    exact ⟨-1, by unfold f_X9_count; simp [eb_sw, e0, e1, e2, e3, e4, e5, e6], by unfold f_X10_count; simp [eb_sw, e0, e1, e2, e3, e4, e5, e6]⟩
  | true =>
    have xw : f_X3_wholeWay n 9 σ = some (nI (wy A (aS A)), σ) := x_way_L hs hX w n 0 (by omega) (by omega)
    have dw := d_way (n := n) hd hD w (Nat.le_refl _) hn
    obtain ⟨xN, _, _, _, _, _, xS, _, _, _, _, xR, xL, _, _, _, xB, _⟩ := hX
    obtain ⟨yN, _, _, _, _, _, yS, _, _, _, _, yR, yL, _, _, _, yB, _⟩ := hD
    obtain ⟨u, hu, rfl⟩ := wi_nat2 (n := 6) (by decide) h2
    unfold f_X9_count f_X10_count
    rcases (show u = 0 ∨ u = 1 ∨ u = 2 ∨ u = 3 ∨ u = 4 ∨ u = 5 ∨ u = 6 by omega) with rfl | rfl | rfl | rfl | rfl | rfl | rfl
    · exact ⟨nI (aN A), by simp [eb_gI, eb_gR, hbu, hsu, eb_sw, nI_0, xN], by simp [eb_gI, hdu, eb_sw, nI_0, yN]⟩
    · exact ⟨nI (aS A), by simp [eb_gI, eb_gR, hbu, hsu, eb_sw, n_lit1, xS], by simp [eb_gI, hdu, eb_sw, n_lit1, yS]⟩
    · exact ⟨nI (aLn A), by simp [eb_gI, eb_gR, hbu, hsu, eb_sw, n_lit2, xL], by simp [eb_gI, hdu, eb_sw, n_lit2, yL]⟩
    · exact ⟨nI (aBn A), by simp [eb_gI, eb_gR, hbu, hsu, eb_sw, n_lit3, xB], by simp [eb_gI, hdu, eb_sw, n_lit3, yB]⟩
    · exact ⟨nI (wy A (aS A)), by simp [eb_gI, eb_gR, eb_tg, eb_cl_s, hbu, hsu, eb_sw, n_lit4, xw], by simp [eb_gI, eb_tg, eb_cl_s, hdu, eb_sw, n_lit4, yS, dw]⟩
    · exact ⟨nI (aR A 0), by simp [eb_gI, eb_gR, eb_ai, hbu, hsu, eb_sw, n_lit5, i02, c0, xR 0 (by decide)], by simp [eb_gI, eb_gR, eb_ai, hdu, eb_sw, n_lit5, i02, c0, yR 0 (by decide)]⟩
    · exact ⟨nI (aR A 1), by simp [eb_gI, eb_gR, eb_ai, hbu, hsu, eb_sw, n_lit6, i12, c1, xR 1 (by decide)], by simp [eb_gI, eb_gR, eb_ai, hdu, eb_sw, n_lit6, i12, c1, yR 1 (by decide)]⟩
