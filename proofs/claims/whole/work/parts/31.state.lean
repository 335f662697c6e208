/-! ===== pure: the state as numbers ===== -/
def aN (A : Nat → Nat → Nat) : Nat := A 0 0
def aK (A : Nat → Nat → Nat) (t : Nat) : Nat := A 1 t
def aW (A : Nat → Nat → Nat) (t : Nat) : Nat := A 2 t
def aP (A : Nat → Nat → Nat) (t : Nat) : Nat := A 3 t
def aL (A : Nat → Nat → Nat) (t : Nat) : Nat := A 4 t
def aB (A : Nat → Nat → Nat) (t : Nat) : Nat := A 5 t
def aS (A : Nat → Nat → Nat) : Nat := A 6 0
def aY (A : Nat → Nat → Nat) (t : Nat) : Nat := A 7 t
def aU (A : Nat → Nat → Nat) (t : Nat) : Nat := A 8 t
def aH (A : Nat → Nat → Nat) (t : Nat) : Nat := A 9 t
def aG (A : Nat → Nat → Nat) (t : Nat) : Nat := A 10 t
def aR (A : Nat → Nat → Nat) (t : Nat) : Nat := A 11 t
def aLn (A : Nat → Nat → Nat) : Nat := A 12 0
def aL1 (A : Nat → Nat → Nat) (t : Nat) : Nat := A 13 t
def aL2 (A : Nat → Nat → Nat) (t : Nat) : Nat := A 14 t
def aLk (A : Nat → Nat → Nat) (t : Nat) : Nat := A 15 t
def aBn (A : Nat → Nat → Nat) : Nat := A 16 0
def aB1 (A : Nat → Nat → Nat) (t : Nat) : Nat := A 17 t
def aB2 (A : Nat → Nat → Nat) (t : Nat) : Nat := A 18 t
def endok (A : Nat → Nat → Nat) (e b : Nat) : Prop := e < aN A ∨ (10 ≤ e ∧ e < 10 + b)
def wf (A : Nat → Nat → Nat) : Prop := aN A ≤ 10 ∧ (∀ t, t < aN A → aK A t ≤ 3 ∧ 1 ≤ aW A t ∧ aW A t ≤ 99 ∧ aP A t ≤ 5 ∧ aL A t ≤ 100 ∧ aB A t ≤ 2) ∧ aS A ≤ 5 ∧ (∀ t, t < aS A → 1 ≤ aY A t ∧ aY A t ≤ 99 ∧ aU A t ≤ 1) ∧ (∀ b, b < 3 → aH A b ≤ 999 ∧ aG A b ≤ 9999) ∧ (∀ i, i < 2 → 1 ≤ aR A i ∧ aR A i ≤ 9) ∧ aLn A ≤ 8 ∧ (∀ l, l < aLn A → aL1 A l < aN A ∧ aL2 A l < aN A ∧ aL1 A l ≠ aL2 A l ∧ aLk A l ≤ 1) ∧ aBn A ≤ 6 ∧ (∀ b, b < aBn A → endok A (aB1 A b) b ∧ endok A (aB2 A b) b ∧ aB1 A b ≠ aB2 A b ∧ ∀ c, c < b → aB1 A c ≠ aB1 A b ∧ aB2 A c ≠ aB1 A b ∧ aB1 A c ≠ aB2 A b ∧ aB2 A c ≠ aB2 A b)
def MX9 (A : Nat → Nat → Nat) (σ : eb_S) : Prop := eb_I σ 9 1 = nI (aN A) ∧ (∀ t, t < aN A → eb_I σ 10 t = nI (aK A t)) ∧ (∀ t, t < aN A → eb_I σ 11 t = nI (aW A t)) ∧ (∀ t, t < aN A → eb_I σ 12 t = nI (aP A t)) ∧ (∀ t, t < aN A → eb_I σ 13 t = nI (aL A t) - 50) ∧ (∀ t, t < aN A → eb_I σ 14 t = nI (aB A t)) ∧ eb_I σ 9 7 = nI (aS A) ∧ (∀ t, t < aS A → eb_I σ 15 t = nI (aY A t)) ∧ (∀ t, t < aS A → eb_I σ 16 t = nI (aU A t)) ∧ (∀ t, t < 3 → eb_I σ 17 t = nI (aH A t)) ∧ (∀ t, t < 3 → eb_I σ 18 t = nI (aG A t)) ∧ (∀ t, t < 2 → eb_I σ 19 t = nI (aR A t)) ∧ eb_I σ 9 13 = nI (aLn A) ∧ (∀ t, t < aLn A → eb_I σ 20 t = nI (aL1 A t)) ∧ (∀ t, t < aLn A → eb_I σ 21 t = nI (aL2 A t)) ∧ (∀ t, t < aLn A → eb_I σ 22 t = nI (aLk A t)) ∧ eb_I σ 9 17 = nI (aBn A) ∧ (∀ t, t < aBn A → eb_I σ 23 t = nI (aB1 A t)) ∧ (∀ t, t < aBn A → eb_I σ 24 t = nI (aB2 A t))
def MX25 (A : Nat → Nat → Nat) (σ : eb_S) : Prop := eb_I σ 25 1 = nI (aN A) ∧ (∀ t, t < aN A → eb_I σ 26 t = nI (aK A t)) ∧ (∀ t, t < aN A → eb_I σ 27 t = nI (aW A t)) ∧ (∀ t, t < aN A → eb_I σ 28 t = nI (aP A t)) ∧ (∀ t, t < aN A → eb_I σ 29 t = nI (aL A t) - 50) ∧ (∀ t, t < aN A → eb_I σ 30 t = nI (aB A t)) ∧ eb_I σ 25 7 = nI (aS A) ∧ (∀ t, t < aS A → eb_I σ 31 t = nI (aY A t)) ∧ (∀ t, t < aS A → eb_I σ 32 t = nI (aU A t)) ∧ (∀ t, t < 3 → eb_I σ 33 t = nI (aH A t)) ∧ (∀ t, t < 3 → eb_I σ 34 t = nI (aG A t)) ∧ (∀ t, t < 2 → eb_I σ 35 t = nI (aR A t)) ∧ eb_I σ 25 13 = nI (aLn A) ∧ (∀ t, t < aLn A → eb_I σ 36 t = nI (aL1 A t)) ∧ (∀ t, t < aLn A → eb_I σ 37 t = nI (aL2 A t)) ∧ (∀ t, t < aLn A → eb_I σ 38 t = nI (aLk A t)) ∧ eb_I σ 25 17 = nI (aBn A) ∧ (∀ t, t < aBn A → eb_I σ 39 t = nI (aB1 A t)) ∧ (∀ t, t < aBn A → eb_I σ 40 t = nI (aB2 A t))
def MD (A : Nat → Nat → Nat) (σ : eb_S) : Prop := eb_I σ 91 0 = nI (aN A) ∧ (∀ t, t < aN A → eb_I σ 92 t = nI (aK A t)) ∧ (∀ t, t < aN A → eb_I σ 93 t = nI (aW A t)) ∧ (∀ t, t < aN A → eb_I σ 94 t = nI (aP A t)) ∧ (∀ t, t < aN A → eb_I σ 95 t = nI (aL A t)) ∧ (∀ t, t < aN A → eb_I σ 96 t = nI (aB A t)) ∧ eb_I σ 91 6 = nI (aS A) ∧ (∀ t, t < aS A → eb_I σ 97 t = nI (aY A t)) ∧ (∀ t, t < aS A → eb_I σ 98 t = nI (aU A t)) ∧ (∀ t, t < 3 → eb_I σ 99 t = nI (aH A t)) ∧ (∀ t, t < 3 → eb_I σ 100 t = nI (aG A t)) ∧ (∀ t, t < 2 → eb_I σ 101 t = nI (aR A t)) ∧ eb_I σ 91 12 = nI (aLn A) ∧ (∀ t, t < aLn A → eb_I σ 102 t = nI (aL1 A t)) ∧ (∀ t, t < aLn A → eb_I σ 103 t = nI (aL2 A t)) ∧ (∀ t, t < aLn A → eb_I σ 104 t = nI (aLk A t)) ∧ eb_I σ 91 16 = nI (aBn A) ∧ (∀ t, t < aBn A → eb_I σ 105 t = nI (aB1 A t)) ∧ (∀ t, t < aBn A → eb_I σ 106 t = nI (aB2 A t))
def mlt (k : Nat) : Nat := if k = 1 then 1 else if k = 3 then 2 else 0
def ldT (A : Nat → Nat → Nat) (t s : Nat) : Nat := if aP A t ≤ s then 0 else aW A t - mlt (aK A t) * s
def ldB (A : Nat → Nat → Nat) (p : Nat → Nat) (b s : Nat) : Nat → Nat
  | 0 => 0
  | t + 1 => ldB A p b s t + if p t = b then ldT A t s else 0
theorem ldT_le {A : Nat → Nat → Nat} (w : wf A) {t : Nat} (ht : t < aN A) (s : Nat) : ldT A t s ≤ 99 := by
  have := w.2.1 t ht
  unfold ldT
  split <;> omega
theorem ldB_le {A : Nat → Nat → Nat} (w : wf A) (p : Nat → Nat) (b s : Nat) : ∀ t, t ≤ aN A → ldB A p b s t ≤ 99 * t
  | 0, _ => Nat.le_refl _
  | t + 1, h => by
    have h1 := ldB_le w p b s t (by omega)
    have h2 := ldT_le w (show t < aN A by omega) s
    unfold ldB
    split <;> omega
theorem p_melt {k : Nat} (h : k ≤ 3) : eb_k1 k = nI (mlt k) := by
  match k, h with
  | 0, _ => rfl
  | 1, _ => rfl
  | 2, _ => rfl
  | 3, _ => rfl
  | k + 4, h => exact absurd h (by omega)
theorem p_ltN {a b : Nat} (ha : a < 2 ^ 31) (hb : b < 2 ^ 31) : (nI a < nI b) = (a < b) := by rw [eq_iff_iff]; exact nI_ltI ha hb
theorem p_leN {a b : Nat} (ha : a < 2 ^ 31) (hb : b < 2 ^ 31) : (nI a ≤ nI b) = (a ≤ b) := by rw [eq_iff_iff]; exact nI_leI ha hb
theorem p_eqN {a b : Nat} (ha : a < 2 ^ 31) (hb : b < 2 ^ 31) : (nI a = nI b) = (a = b) := by rw [eq_iff_iff]; exact nI_eq ha hb
theorem p_max0 {a b : Nat} (ha : a < 2 ^ 30) (hb : b < 2 ^ 30) : (if 0 < nI a - nI b then nI a - nI b else 0) = nI (a - b) := by
  by_cases h : b < a
  · rw [pk_sub (by omega), if_pos]
    rw [Int32.lt_iff_toInt_lt, nI_toInt (by omega), Int32.toInt_zero]; omega
  · rw [if_neg, show a - b = 0 by omega, nI_0]
    rw [Int32.lt_iff_toInt_lt, pk_sub_toInt ha hb, Int32.toInt_zero]; omega
theorem p_z : (0 : Int32) = nI 0 := nI_0.symm
set_option maxHeartbeats 2000000 in
theorem x_thingLoad {A : Nat → Nat → Nat} {σ : eb_S} (hs : ShM9 σ) (hX : MX9 A σ) (w : wf A) {t s : Nat} (ht : t < aN A) (h5 : s < 5) : f_X3_thingLoad 9 (nI t) (nI s) σ = some (nI (ldT A t s), σ) := by
  obtain ⟨hN, hK, hW, hP, hL, hB, hS, hY, hU, hH, hG, hR, hLn, hL1, hL2, hLk, hBn, hB1, hB2⟩ := hX
  obtain ⟨wN, wT, wS, wY, wB, wR, wLn, wL, wBn, wE⟩ := id w
  have wt := wT t ht
  unfold ShM9 at hs
  have hi : eb_in (nI t) 10 = true := p_in (by omega) (by decide)
  have hi4 : eb_in (nI (aK A t)) 4 = true := p_in (by omega) (by decide)
  have hc : (nI t).toNatClampNeg = t := p_cl (by omega)
  have hc4 : (nI (aK A t)).toNatClampNeg = aK A t := p_cl (by omega)
  have hm : mlt (aK A t) ≤ 2 := by unfold mlt; split <;> (try split) <;> omega
  have hms : mlt (aK A t) * s ≤ 2 * 4 := Nat.mul_le_mul hm (by omega)
  unfold f_X3_thingLoad ldT
  simp only [eb_cl_s, eb_b0, eb_b1, eb_jn_e, eb_tg, eb_ts, eb_d3, eb_gI, eb_gR, eb_pI, eb_pZ, eb_pR, eb_ai, eb_ac, eb_al, eb_ar, eb_wi, eb_wc, eb_wl, eb_wr, eb_ln, eb_xi, eb_zb, eb_sw, eb_lw, hs, hi, hc, hP t ht, hW t ht, hK t ht, hi4, hc4, p_melt wt.1, pk_mul, p_ltN (show s < 2 ^ 31 by omega) (show aP A t < 2 ^ 31 by omega)]
  simp only [p_max0 (show aW A t < 2 ^ 30 by omega) (show mlt (aK A t) * s < 2 ^ 30 by omega)]
  by_cases h : s < aP A t
  · simp [h, show ¬ aP A t ≤ s by omega]
  · simp [h, show aP A t ≤ s by omega, nI_0]
set_option maxHeartbeats 2000000 in
theorem d_loadOf {A : Nat → Nat → Nat} {σ : eb_S} (hs : ShD σ) (hX : MD A σ) (w : wf A) {t s : Nat} (ht : t < aN A) (h5 : s < 5) : f_X10_loadOf 91 (nI t) (nI s) σ = some (nI (ldT A t s), σ) := by
  obtain ⟨hN, hK, hW, hP, hL, hB, hS, hY, hU, hH, hG, hR, hLn, hL1, hL2, hLk, hBn, hB1, hB2⟩ := hX
  obtain ⟨wN, wT, wS, wY, wB, wR, wLn, wL, wBn, wE⟩ := id w
  have wt := wT t ht
  unfold ShD at hs
  have hi : eb_in (nI t) 10 = true := p_in (by omega) (by decide)
  have hc : (nI t).toNatClampNeg = t := p_cl (by omega)
  have e1 : (nI (aK A t) = 1) = (aK A t = 1) := p_eqN (a := aK A t) (b := 1) (by omega) (by decide)
  have e3 : (nI (aK A t) = 3) = (aK A t = 3) := p_eqN (a := aK A t) (b := 3) (by omega) (by decide)
  have e2s : (2 : Int32) * nI s = nI (2 * s) := pk_mul 2 s
  unfold f_X10_loadOf ldT mlt
  simp only [eb_cl_s, eb_b0, eb_b1, eb_jn_e, eb_tg, eb_ts, eb_d3, eb_gI, eb_gR, eb_pI, eb_pZ, eb_pR, eb_ai, eb_ac, eb_al, eb_ar, eb_wi, eb_wc, eb_wl, eb_wr, eb_ln, eb_xi, eb_zb, eb_sw, eb_lw, hs, hi, hc, hP t ht, hW t ht, hK t ht, e1, e3, e2s, p_ltN (show s < 2 ^ 31 by omega) (show aP A t < 2 ^ 31 by omega)]
  have key : ∀ y : Nat, y < 100 → (if nI (aW A t) ≤ nI y then some ((0 : Int32), σ) else some (nI (aW A t) - nI y, σ)) = some (nI (aW A t - y), σ) := by
    intro y hy
    simp only [p_leN (show aW A t < 2 ^ 31 by omega) (show y < 2 ^ 31 by omega)]
    by_cases h : aW A t ≤ y
    · rw [if_pos h, show aW A t - y = 0 by omega, nI_0]
    · rw [if_neg h, pk_sub (by omega)]
  by_cases h : s < aP A t
  · by_cases h1 : aK A t = 1
    · simp [h, h1, show ¬ aP A t ≤ s by omega]
      exact key s (by omega)
    · by_cases h3 : aK A t = 3
      · simp [h, h1, h3, show ¬ aP A t ≤ s by omega]
        exact key (2 * s) (by omega)
      · simp [h, h1, h3, show ¬ aP A t ≤ s by omega]
        have k0 := key 0 (by omega)
        rw [nI_0] at k0
        simpa using k0
  · simp [h, show aP A t ≤ s by omega, nI_0]
