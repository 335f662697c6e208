/-! ===== pure: the model's told pulls ===== -/
theorem p_x16 (a b c : Nat) : (16 : Int32) * nI a + nI b + nI c = nI (16 * a + b + c) := by rw [show (16 : Int32) = nI 16 from rfl, pk_mul, nI_add, nI_add]
set_option maxHeartbeats 2000000 in
theorem d_pull_L91 {A : Nat → Nat → Nat} (w : wf A) {ln sz : Nat → Nat} {it : Nat → Nat → Int64} {n sh i : Nat} (hn : 100 ≤ n) (hsh : sh < 4) (hl : ln sh ≠ 0) (hi : i + aS A ≤ 16) {v4 v6 v7 v8 : Int32} {p : Nat → Nat} {σ : eb_S} (hs : ShD σ) (hD : MD A σ) (hT : TR (aN A) p σ) (hH : DH ln sz it σ) {K : Int32 → eb_S → Option (Int32 × eb_S)} : ∀ (m s : Nat) (is : Bool), s ≤ aS A → aS A < s + m → ∃ is', f_X10_pulled_L91 n 91 (nI sh) (nI i) v4 v6 v7 v8 K m (eb_b is) (nI s) σ = K (eb_b is') σ ∧ (is' = true ↔ is = true ∧ ∀ s', s ≤ s' → s' < aS A → off A p s' = (it sh (i + s')).toInt) := by
  intro m
  induction m with
  | zero => intro s is h1 h2; omega
  | succ m ih =>
    intro s is h1 h2
    have wS := w.2.2.1
    have hS := hD.2.2.2.2.2.2.1
    have hit := ((hH sh hsh).2 hl).2
    have hs' := hs
    unfold ShD at hs
    rw [f_X10_pulled_L91.eq_2]
    simp only [eb_gI, hs, hS, List.mem_singleton, if_true, p_leN (show aS A < 2 ^ 31 by omega) (show s < 2 ^ 31 by omega)]
    by_cases h : aS A ≤ s
    · exact ⟨is, by simp [h], by rw [all_end h]; simp⟩
    · have h5 : s < aS A := by omega
      cases is with
      | false => exact ⟨false, by simp [h, eb_b0], ⟨fun z => absurd z Bool.false_ne_true, fun z => z.1⟩⟩
      | true =>
        have ob := off_bd w p s
        have e1 := d_offOf hs' hD w (hT.rw hs') (s := s) (n := n) (by omega) hn
        have hj := hit (i + s) (by omega)
        rw [show 16 * sh + (i + s) = 16 * sh + i + s by omega] at hj
        have e2 : (lg_cmp (iI (off A p s)).toInt64 (it sh (i + s)) = 0) = (off A p s = (it sh (i + s)).toInt) := by
          rw [p_lge, eq_iff_iff, ← Int64.toInt_inj, iI64 (by omega) (by omega)]
        by_cases h6 : off A p s = (it sh (i + s)).toInt
        · obtain ⟨is', g1, g2⟩ := ih (s + 1) true (by omega) (by omega)
          refine ⟨is', ?_, ?_⟩
          · rw [show eb_b true = 1 from rfl] at g1
            have e3 : lg_cmp (iI (off A p s)).toInt64 (it sh (i + s)) = 0 := by rw [e2]; exact h6
            simp only [h, if_false, eb_b0, Bool.true_eq_false, eb_gR, eb_tg, eb_al, hs, e1, eb_cl_s, p_x16, p_in (show 16 * sh + i + s < 64 by omega) (by decide : 64 < 2 ^ 31), p_cl (show 16 * sh + i + s < 2 ^ 31 by omega), hj, eb_jn_e, e3, nI_1]
            simp [g1, eb_cl_s, hs, hj, e3, p_in (show 16 * sh + i + s < 64 by omega) (by decide : 64 < 2 ^ 31)]
          · rw [g2, all_step h5]
            exact ⟨fun z => ⟨rfl, h6, z.2⟩, fun z => ⟨rfl, z.2.2⟩⟩
        · obtain ⟨is', g1, g2⟩ := ih (s + 1) false (by omega) (by omega)
          refine ⟨is', ?_, ?_⟩
          · rw [show eb_b false = 0 from rfl] at g1
            have e3 : ¬ lg_cmp (iI (off A p s)).toInt64 (it sh (i + s)) = 0 := by rw [e2]; exact h6
            simp only [h, if_false, eb_b0, Bool.true_eq_false, eb_gR, eb_tg, eb_al, hs, e1, eb_cl_s, p_x16, p_in (show 16 * sh + i + s < 64 by omega) (by decide : 64 < 2 ^ 31), p_cl (show 16 * sh + i + s < 2 ^ 31 by omega), hj, eb_jn_e, e3, nI_1]
            simp [g1, eb_cl_s, hs, hj, e3, p_in (show 16 * sh + i + s < 64 by omega) (by decide : 64 < 2 ^ 31)]
          · rw [g2, all_step h5]
            exact ⟨fun z => absurd z.1 Bool.false_ne_true, fun z => absurd z.2.1 h6⟩
set_option maxHeartbeats 2000000 in
theorem d_pull_L164 {A : Nat → Nat → Nat} (w : wf A) {n : Nat} {v1 v3 v4 v6 v7 k0 : Int32} {σ : eb_S} (hs : ShD σ) (hD : MD A σ) {K : Int32 → eb_S → Option (Int32 × eb_S)} : ∀ (m t : Nat), t ≤ aN A → aN A < t + m → f_X10_pulled_L164 n 91 v1 v3 v4 v6 v7 1 K m (mskI (eb_I σ 110) (eb_I σ 111) t k0) (nI t) σ = K (mskI (eb_I σ 110) (eb_I σ 111) (aN A) k0) σ := by
  intro m
  induction m with
  | zero => intro t h1 h2; omega
  | succ m ih =>
    intro t h1 h2
    have wN := w.1
    have hN := hD.1
    unfold ShD at hs
    rw [f_X10_pulled_L164.eq_2]
    simp only [eb_gI, hs, hN, List.mem_singleton, if_true, p_leN (show aN A < 2 ^ 31 by omega) (show t < 2 ^ 31 by omega)]
    by_cases h : aN A ≤ t
    · have : t = aN A := by omega
      subst this
      simp
    · have ih' := ih (t + 1) (by omega) (by omega)
      have e4 : mskI (eb_I σ 110) (eb_I σ 111) (t + 1) k0 = if eb_I σ 110 t = eb_I σ 111 t then mskI (eb_I σ 110) (eb_I σ 111) t k0 else mskI (eb_I σ 110) (eb_I σ 111) t k0 &&& bitc t := rfl
      rw [e4] at ih'
      have one : ¬ (1 : Int32) = 0 := by decide
      by_cases h3 : eb_I σ 110 t = eb_I σ 111 t
      · rw [if_pos h3] at ih'
        simp [h, one, eb_gR, eb_ai, hs, eb_jn_e, p_in (show t < 10 by omega) (by decide : 10 < 2 ^ 31), p_cl (show t < 2 ^ 31 by omega), h3, nI_1]
        exact ih'
      · rw [if_neg h3] at ih'
        simp [h, one, eb_gR, eb_ai, hs, eb_jn_e, p_in (show t < 10 by omega) (by decide : 10 < 2 ^ 31), p_cl (show t < 2 ^ 31 by omega), h3, nI_1]
        unfold bitc at ih'
        simpa using ih'
