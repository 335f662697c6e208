/-! ===== pure: calls that change a number ===== -/
def sMk (k _j : Nat) : Prop := 9 ≤ k ∧ k ≤ 24
def sMd (k j : Nat) : Prop := (k = 91 ∧ (j = 0 ∨ j = 6 ∨ j = 12 ∨ j = 16)) ∨ (92 ≤ k ∧ k ≤ 106)
/-- both sides answer the same and go to the same state, which other parts don't see -/
def OPM (fx fd : eb_S → Option (Int32 × eb_S)) (A : Nat → Nat → Nat) (ch : Nat) (σ : eb_S) : Prop := ∃ r σ1 σ2 A' ch', fx σ = some (r, σ1) ∧ Fr sMk σ σ1 ∧ X9 A' ch' σ1 ∧ fd σ1 = some (r, σ2) ∧ Fr sMd σ1 σ2 ∧ MD A' σ2 ∧ wf A' ∧ (A' = A ∧ ch' = ch ∨ ch' = ch + 1)
theorem bd_aup {A : Nat → Nat → Nat} {i0 j0 x : Nat} (h : ¬ sca i0) : bd (aup A i0 j0 x) = bd A := by
  unfold sca at h
  have e0 : aN (aup A i0 j0 x) = aN A := by show (if 0 = i0 ∧ 0 = j0 then x else A 0 0) = A 0 0; rw [if_neg (by omega)]
  have e1 : aS (aup A i0 j0 x) = aS A := by show (if 6 = i0 ∧ 0 = j0 then x else A 6 0) = A 6 0; rw [if_neg (by omega)]
  have e2 : aLn (aup A i0 j0 x) = aLn A := by show (if 12 = i0 ∧ 0 = j0 then x else A 12 0) = A 12 0; rw [if_neg (by omega)]
  have e3 : aBn (aup A i0 j0 x) = aBn A := by show (if 16 = i0 ∧ 0 = j0 then x else A 16 0) = A 16 0; rw [if_neg (by omega)]
  funext i
  unfold bd
  rw [e0, e1, e2, e3]
theorem tC_bd {i : Nat} (hi : i < 19) (h : ¬ sca i) : 10 ≤ tC 9 i ∧ tC 9 i ≤ 24 ∧ 92 ≤ tC 91 i ∧ tC 91 i ≤ 106 := by
  unfold tC
  rw [if_neg h, if_neg h]
  unfold sca at h
  by_cases a1 : i < 6
  · simp only [a1, if_true]; omega
  · by_cases a2 : i < 12
    · simp only [a1, a2, if_true, if_false]; omega
    · by_cases a3 : i < 16
      · simp only [a1, a2, a3, if_true, if_false]; omega
      · simp only [a1, a2, a3, if_false]; omega
/-- the component's put -/
theorem x_put {A : Nat → Nat → Nat} {ch : Nat} {σ : eb_S} (h9 : X9 A ch σ) (i0 j0 x : Nat) {c : Nat} {v : Int32} (hi : i0 < 19) (h0 : ¬ sca i0) (hc : c = tC 9 i0) (hj : j0 < bd A i0) (hv : v = tE i0 x) (hT : eb_T σ c = 11) (hin : eb_in (nI j0) (eb_L σ c) = true) (hj2 : j0 < 2 ^ 31) : ∃ σ1, f_X3_put 9 c (nI j0) v σ = some (tE i0 (A i0 j0), σ1) ∧ Fr sMk σ σ1 ∧ X9 (aup A i0 j0 x) (ch + 1) σ1 := by
  obtain ⟨hs, hX, hch⟩ := h9
  have hcb := tC_bd hi h0
  rw [← hc] at hcb
  have F : Fr sMk σ (eb_sI (eb_sI σ 9 0 (nI (ch + 1))) c j0 v) := (Fr.sI (S := sMk) (by unfold sMk; omega)).tr (Fr.sI (S := sMk) (by unfold sMk; omega))
  have old : eb_I σ c j0 = tE i0 (A i0 j0) := by
    have := hX.ft i0 j0 hi hj
    rw [hc]
    rw [show tS i0 j0 = j0 from slOk_tS.2 i0 j0 h0] at this
    exact this
  refine ⟨_, ?_, F, F.shM9 hs, ?_, ?_⟩
  · unfold ShM9 at hs
    unfold f_X3_put
    simp [eb_gI, eb_pI, hs, eb_ai, eb_wi, eb_T_sI, eb_R_sI, eb_L_sI, eb_J_sI, eb_N_sI, eb_T_sJ, eb_R_sJ, eb_L_sJ, eb_I_sJ, eb_N_sJ, eb_T_rI, eb_R_rI, eb_L_rI, eb_J_rI, eb_N_rI, eb_T_rJ, eb_R_rJ, eb_L_rJ, eb_I_rJ, eb_N_rJ, hT, hin, p_cl hj2, hch, nI_1, eb_I_sI, show ¬ c = 9 by omega, old]
  · refine FT.MX9 ?_
    rw [bd_aup h0]
    exact FT.up slOk_tS (FT.ch hX.ft) i0 j0 x hi hc (slOk_tS.2 i0 j0 h0).symm hv (fun i h => bd_sca i h) (fun z => absurd z h0) (fun i j _ h => Or.inr h)
  · rw [eb_I_sI, if_neg (by omega), eb_I_sI, if_pos rfl, if_pos rfl]
/-- the model's write -/
theorem d_put {A : Nat → Nat → Nat} {σ : eb_S} (hD : MD A σ) (i0 j0 x : Nat) {c : Nat} {v : Int32} (hi : i0 < 19) (h0 : ¬ sca i0) (hc : c = tC 91 i0) (hv : v = nI x) : MD (aup A i0 j0 x) (eb_sI σ c j0 v) ∧ Fr sMd σ (eb_sI σ c j0 v) := by
  have hcb := tC_bd hi h0
  rw [← hc] at hcb
  refine ⟨FT.MD ?_, Fr.sI (by unfold sMd; omega)⟩
  rw [bd_aup h0]
  exact FT.up slOk_dS hD.ft i0 j0 x hi hc (slOk_dS.2 i0 j0 h0).symm hv (fun i h => bd_sca i h) (fun z => absurd z h0) (fun i j _ h => Or.inr h)
theorem OPM.same {fx fd : eb_S → Option (Int32 × eb_S)} {A : Nat → Nat → Nat} {ch : Nat} {σ : eb_S} {r : Int32} (w : wf A) (h9 : X9 A ch σ) (hD : MD A σ) (h1 : fx σ = some (r, σ)) (h2 : fd σ = some (r, σ)) : OPM fx fd A ch σ := ⟨r, σ, σ, A, ch, h1, Fr.rf, h9, h2, Fr.rf, hD, w, Or.inl ⟨rfl, rfl⟩⟩
