/-! ===== pure: market, the model's side ===== -/
def mkA (A G : Nat → Nat → Nat) : Nat → Nat → Nat := fun i j => if i < 9 then G i j else if i = 12 ∨ i = 16 then 0 else A i j
theorem wf_mkA {A G : Nat → Nat → Nat} {k s : Nat} (w : wf A) (g : gw G k s) (h0 : G 0 0 = k) (h6 : G 6 0 = s) : wf (mkA A G) := by
  obtain ⟨wN, wT, wS, wY, wB, wR, wLn, wL, wBn, wE⟩ := w
  obtain ⟨g1, g2, g3, g4⟩ := g
  have eN : aN (mkA A G) = k := h0
  have eS : aS (mkA A G) = s := h6
  have eL : aLn (mkA A G) = 0 := rfl
  have eB : aBn (mkA A G) = 0 := rfl
  refine ⟨by rw [eN]; exact g1, fun t ht => ?_, by rw [eS]; exact g2, fun t ht => ?_, wB, wR, by rw [eL]; omega, fun l hl => by rw [eL] at hl; omega, by rw [eB]; omega, fun b hb => by rw [eB] at hb; omega⟩
  · rw [eN] at ht
    have h := g3 t ht
    show G 1 t ≤ 3 ∧ 1 ≤ G 2 t ∧ G 2 t ≤ 99 ∧ G 3 t ≤ 5 ∧ G 4 t ≤ 100 ∧ G 5 t ≤ 2
    omega
  · rw [eS] at ht
    exact g4 t ht
def sCm (a b : Nat) : Prop := (a = 91 ∧ b = 0) ∨ (92 ≤ a ∧ a ≤ 96)
def RG (G : Nat → Nat → Nat) (t : Nat) (σ : eb_S) : Prop := ∀ u, u < t → eb_I σ 92 u = nI (G 1 u) ∧ eb_I σ 93 u = nI (G 2 u) ∧ eb_I σ 94 u = nI (G 3 u) ∧ eb_I σ 95 u = 50 ∧ eb_I σ 96 u = 0
set_option maxHeartbeats 8000000 in
theorem d_coms_L {G : Nat → Nat → Nat} {k s n : Nat} (hk : k ≤ 10) {K : eb_S → Option (Int32 × eb_S)} : ∀ (m t : Nat) (σ : eb_S), ShD σ → RD G k s σ → eb_I σ 91 0 = nI t → RG G t σ → t ≤ k → k < t + m → ∃ σ', f_X10_market_L196 n 91 K m (nI t) σ = K σ' ∧ Fr sCm σ σ' ∧ eb_I σ' 91 0 = nI k ∧ RG G k σ' := by
  intro m
  induction m with
  | zero => intro t σ _ _ _ _ h1 h2; omega
  | succ m ih =>
    intro t σ hd hR h0 hz h1 h2
    have hdu := hd
    unfold ShD at hdu
    rw [f_X10_market_L196.eq_2]
    by_cases h : k ≤ t
    · have e : t = k := by omega
      subst e
      have le : nI t ≤ nI t := by rw [p_leN (by omega) (by omega)]; exact Nat.le_refl _
      exact ⟨σ, by rw [dgI hd, hR.1, if_pos le], Fr.rf, h0, hz⟩
    · have nle : ¬ nI k ≤ nI t := by rw [p_leN (by omega) (by omega)]; omega
      obtain ⟨q1, q2, q3⟩ := hR.2.2.1 t (by omega)
      have F : Fr sCm σ (eb_sI (eb_sI (eb_sI (eb_sI (eb_sI (eb_sI σ 92 t (nI (G 1 t))) 93 t (nI (G 2 t))) 94 t (nI (G 3 t))) 95 t 50) 96 t 0) 91 0 (nI (t + 1))) := (((((Fr.sI (Or.inr (by omega))).tr (Fr.sI (Or.inr (by omega)))).tr (Fr.sI (Or.inr (by omega)))).tr (Fr.sI (Or.inr (by omega)))).tr (Fr.sI (Or.inr (by omega)))).tr (Fr.sI (Or.inl ⟨rfl, rfl⟩))
      have cm : f_X10_comes 91 (nI (G 1 t)) (nI (G 2 t)) (nI (G 3 t)) σ = some ((), eb_sI (eb_sI (eb_sI (eb_sI (eb_sI (eb_sI σ 92 t (nI (G 1 t))) 93 t (nI (G 2 t))) 94 t (nI (G 3 t))) 95 t 50) 96 t 0) 91 0 (nI (t + 1))) := by
        unfold f_X10_comes
        simp [eb_gI, eb_pI, eb_gR, eb_wi, hdu, eb_T_sI, eb_R_sI, eb_L_sI, eb_J_sI, eb_N_sI, eb_T_sJ, eb_R_sJ, eb_L_sJ, eb_I_sJ, eb_N_sJ, eb_T_rI, eb_R_rI, eb_L_rI, eb_J_rI, eb_N_rI, eb_T_rJ, eb_R_rJ, eb_L_rJ, eb_I_rJ, eb_N_rJ, eb_I_sI, h0, p_in (show t < 10 by omega) (by decide : 10 < 2 ^ 31), p_cl (show t < 2 ^ 31 by omega), nI_1]
      have hR' : RD G k s (eb_sI (eb_sI (eb_sI (eb_sI (eb_sI (eb_sI σ 92 t (nI (G 1 t))) 93 t (nI (G 2 t))) 94 t (nI (G 3 t))) 95 t 50) 96 t 0) 91 0 (nI (t + 1))) := by
        have e : ∀ a b, ¬ sCm a b → eb_I (eb_sI (eb_sI (eb_sI (eb_sI (eb_sI (eb_sI σ 92 t (nI (G 1 t))) 93 t (nI (G 2 t))) 94 t (nI (G 3 t))) 95 t 50) 96 t 0) 91 0 (nI (t + 1))) a b = eb_I σ a b := F.2.2.2.2.2
        exact ⟨by rw [e _ _ (fun z => by unfold sCm at z; omega)]; exact hR.1, by rw [e _ _ (fun z => by unfold sCm at z; omega)]; exact hR.2.1, fun u hu => by rw [e _ _ (fun z => by unfold sCm at z; omega), e _ _ (fun z => by unfold sCm at z; omega), e _ _ (fun z => by unfold sCm at z; omega)]; exact hR.2.2.1 u hu, fun u hu => by rw [e _ _ (fun z => by unfold sCm at z; omega), e _ _ (fun z => by unfold sCm at z; omega)]; exact hR.2.2.2 u hu⟩
      obtain ⟨σ', g1, g2, g3, g4⟩ := ih (t + 1) _ (F.shD hd) hR' (by rw [eb_I_sI, if_pos rfl, if_pos rfl]) (fun u hu => by
        by_cases e : u = t
        · subst e; simp [eb_I_sI]
        · have := hz u (by omega)
          simp [eb_I_sI, e, this]) (by omega) (by omega)
      refine ⟨σ', ?_, F.tr g2, g3, g4⟩
      have x1 := p_in (show 3 * t < 30 by omega) (by decide : 30 < 2 ^ 31)
      have x2 := p_in (show 3 * t + 1 < 30 by omega) (by decide : 30 < 2 ^ 31)
      have x3 := p_in (show 3 * t + 2 < 30 by omega) (by decide : 30 < 2 ^ 31)
      have y1 := p_cl (show 3 * t < 2 ^ 31 by omega)
      have y2 := p_cl (show 3 * t + 1 < 2 ^ 31 by omega)
      have y3 := p_cl (show 3 * t + 2 < 2 ^ 31 by omega)
      simp only [eb_gI, eb_gR, eb_ai, eb_tg, hdu, List.mem_singleton, if_true, true_and, ne_eq, show ¬ (108 : Nat) = 0 by decide, not_false_eq_true, hR.1, nle, if_false, i3, show nI (3 * t) + 2 = nI (3 * t + 2) from nI_add _ 2, x1, x2, x3, y1, y2, y3, q1, q2, q3, cm, eb_cl_s, nI_1]
      exact g1
def sCs (a b : Nat) : Prop := (a = 97 ∨ a = 98) ∧ b < 1000
set_option maxHeartbeats 8000000 in
theorem d_strs_L {G : Nat → Nat → Nat} {s n : Nat} (hs : s ≤ 5) {K : eb_S → Option (Int32 × eb_S)} : ∀ (m t : Nat) (σ : eb_S), ShD σ → eb_I σ 91 6 = nI s → (∀ u, u < s → eb_I σ 109 (2 * u) = nI (G 7 u) ∧ eb_I σ 109 (2 * u + 1) = nI (G 8 u)) → (∀ u, u < t → eb_I σ 97 u = nI (G 7 u) ∧ eb_I σ 98 u = nI (G 8 u)) → t ≤ s → s < t + m → ∃ σ', f_X10_market_L252 n 91 K m (nI t) σ = K σ' ∧ Fr sCs σ σ' ∧ ∀ u, u < s → eb_I σ' 97 u = nI (G 7 u) ∧ eb_I σ' 98 u = nI (G 8 u) := by
  intro m
  induction m with
  | zero => intro t σ _ _ _ _ h1 h2; omega
  | succ m ih =>
    intro t σ hd h6 hR hz h1 h2
    have hdu := hd
    unfold ShD at hdu
    rw [f_X10_market_L252.eq_2]
    by_cases h : s ≤ t
    · have e : t = s := by omega
      subst e
      have le : nI t ≤ nI t := by rw [p_leN (by omega) (by omega)]; exact Nat.le_refl _
      exact ⟨σ, by rw [dgI hd, h6, if_pos le], Fr.rf, hz⟩
    · have nle : ¬ nI s ≤ nI t := by rw [p_leN (by omega) (by omega)]; omega
      obtain ⟨q1, q2⟩ := hR t (by omega)
      have F : Fr sCs σ (eb_sI (eb_sI σ 97 t (nI (G 7 t))) 98 t (nI (G 8 t))) := (Fr.sI ⟨Or.inl rfl, by omega⟩).tr (Fr.sI ⟨Or.inr rfl, by omega⟩)
      obtain ⟨σ', g1, g2, g3⟩ := ih (t + 1) _ (F.shD hd) (by rw [F.2.2.2.2.2 _ _ (fun z => by unfold sCs at z; omega)]; exact h6) (fun u hu => by
        rw [F.2.2.2.2.2 _ _ (fun z => by unfold sCs at z; omega), F.2.2.2.2.2 _ _ (fun z => by unfold sCs at z; omega)]; exact hR u hu) (fun u hu => by
        by_cases e : u = t
        · subst e; simp [eb_I_sI]
        · have := hz u (by omega)
          simp [eb_I_sI, e, this]) (by omega) (by omega)
      refine ⟨σ', ?_, F.tr g2, g3⟩
      have x1 := p_in (show 2 * t < 10 by omega) (by decide : 10 < 2 ^ 31)
      have x2 := p_in (show 2 * t + 1 < 10 by omega) (by decide : 10 < 2 ^ 31)
      have y1 := p_cl (show 2 * t < 2 ^ 31 by omega)
      have y2 := p_cl (show 2 * t + 1 < 2 ^ 31 by omega)
      simp only [eb_gI, eb_gR, eb_ai, eb_wi, hdu, eb_T_sI, eb_R_sI, eb_L_sI, eb_J_sI, eb_N_sI, eb_T_sJ, eb_R_sJ, eb_L_sJ, eb_I_sJ, eb_N_sJ, eb_T_rI, eb_R_rI, eb_L_rI, eb_J_rI, eb_N_rI, eb_T_rJ, eb_R_rJ, eb_L_rJ, eb_I_rJ, eb_N_rJ, List.mem_singleton, if_true, true_and, ne_eq, show ¬ (97 : Nat) = 0 by decide, show ¬ (98 : Nat) = 0 by decide, show ¬ (109 : Nat) = 0 by decide, not_false_eq_true, h6, nle, if_false, i2, x1, x2, y1, y2, q1, q2, eb_I_sI, show ¬ (109 : Nat) = 97 by decide, p_in (show t < 5 by omega) (by decide : 5 < 2 ^ 31), p_cl (show t < 2 ^ 31 by omega), nI_1]
      exact g1
def mkF (n : Nat) (s46 : eb_S) : Option (Int32 × eb_S) := eb_pI s46 [9] 91 0 0 fun s48 => f_X10_market_L196 n 91 (fun (s57 : eb_S) => eb_gI s57 [9] 91 24 fun x58 => eb_pI s57 [9] 91 6 x58 fun s59 => f_X10_market_L252 n 91 (fun (s69 : eb_S) => eb_pI s69 [9] 91 12 0 fun s70 => eb_pI s70 [9] 91 16 0 fun s71 => eb_gI s71 [9] 91 0 fun x72 => some (x72, s71)) n 0 s59) n 0 s48
def mkC (n : Nat) (s40 : eb_S) : Option (Int32 × eb_S) := eb_gI s40 [9] 91 22 fun x41 => eb_jn (fun (y42 : Int32) (s43 : eb_S) => eb_pZ s43 [9] 91 22 y42 fun s45 => eb_pI s45 [9] 91 20 0 fun s46 => eb_gI s46 [9] 91 22 fun x47 => if x47 = 0 then mkF n s46 else (eb_gI s46 [9] 91 21 fun x73 => some (((-20) : Int32) - x73, s46))) fun j44 => eb_jn (fun (s74 : eb_S) => j44 1 s74) fun j75 => if x41 = 0 then (eb_cl (eb_tg s40 91 9 (f_X10_here n 91 s40)) fun x77 s76 => if x77 = 0 then (j44 0 s76) else (j75 s76)) else (j75 s40)
theorem mk_eq (n : Nat) (s : eb_S) : f_X10_market n 91 s = eb_pI s [9] 91 21 0 fun s1 => eb_pZ s1 [9] 91 22 0 fun s2 => eb_pI s2 [9] 91 23 0 fun s3 => eb_pI s3 [9] 91 24 0 fun s4 => f_X10_market_L22 n 91 (fun (s14 : eb_S) => eb_cl (eb_tg s14 91 9 (f_X10_has n 91 59 s14)) fun b16 s15 => f_X10_market_L64 n 91 (mkC n) n (eb_b b16) s15) n 1 s4 := rfl
def sMm (k j : Nat) : Prop := (k = 91 ∧ (j = 0 ∨ j = 6 ∨ j = 12 ∨ j = 16 ∨ (20 ≤ j ∧ j ≤ 24))) ∨ (92 ≤ k ∧ k ≤ 98) ∨ k = 108 ∨ k = 109
theorem sMr_m : ∀ k j, sMr k j → sMm k j := fun k j h => by unfold sMr at h; unfold sMm; omega
theorem nD_sMr : nD sMr := fun k j h => by unfold sMr at h; omega
/-- after a FAULT -/
theorem d_mkC_bad {A : Nat → Nat → Nat} {tl n p : Nat} {tc : Nat → Nat} {σ : eb_S} (hP : PD tl tc p true σ) (hD : MD A σ) : ∃ σ', mkC n σ = some ((-20) - nI p, σ') ∧ Fr sMm σ σ' ∧ eb_I σ' 91 20 = 0 ∧ MD A σ' := by
  have hd := hP.1
  have w0 : eb_I σ 91 22 = 1 := hP.2.2.2.1
  have F : Fr (fun k j => k = 91 ∧ 20 ≤ j ∧ j ≤ 24) σ (eb_sI (eb_sI σ 91 22 (eb_b true)) 91 20 0) := (Fr.sI ⟨rfl, by omega⟩).tr (Fr.sI ⟨rfl, by omega⟩)
  have h1 : ShD (eb_sI σ 91 22 (eb_b true)) := (Fr.sI (S := sAd) ⟨rfl, Or.inr rfl⟩).shD hd
  refine ⟨_, ?_, F.mono (fun k j h => by unfold sMm; omega), by rw [eb_I_sI, if_pos rfl, if_pos rfl], F.md (fun k j h => by omega) hD⟩
  have w2 : eb_I (eb_sI (eb_sI σ 91 22 (eb_b true)) 91 20 0) 91 22 = 1 := by simp [eb_I_sI]; rfl
  have p2 : eb_I (eb_sI (eb_sI σ 91 22 (eb_b true)) 91 20 0) 91 21 = nI p := by simp [eb_I_sI, hP.2.2.1]
  unfold mkC
  rw [dgI hd, w0]
  simp only [eb_jn_e]
  rw [if_neg (by decide), show (1 : Int32) = eb_b true from rfl, dpZ hd, dpI h1, dgI (F.shD hd), w2, if_neg (by decide), dgI (F.shD hd), p2]
set_option maxHeartbeats 8000000 in
theorem d_mkF {A G : Nat → Nat → Nat} {n k s : Nat} (hn : 100 ≤ n) (hk : k ≤ 10) (hs : s ≤ 5) (h0 : G 0 0 = k) (h6 : G 6 0 = s) (h4 : ∀ t, t < k → G 4 t = 50 ∧ G 5 t = 0) {σ : eb_S} (hd : ShD σ) (hD : MD A σ) (hR : RD G k s σ) (h20 : eb_I σ 91 20 = 0) : ∃ σ', mkF n σ = some (nI k, σ') ∧ Fr sMm σ σ' ∧ eb_I σ' 91 20 = 0 ∧ MD (mkA A G) σ' := by
  have F1 : Fr sCm σ (eb_sI σ 91 0 0) := Fr.sI (Or.inl ⟨rfl, rfl⟩)
  have hR1 : RD G k s (eb_sI σ 91 0 0) := by
    have e : ∀ a b, ¬ sCm a b → eb_I (eb_sI σ 91 0 0) a b = eb_I σ a b := F1.2.2.2.2.2
    exact ⟨by rw [e _ _ (fun z => by unfold sCm at z; omega)]; exact hR.1, by rw [e _ _ (fun z => by unfold sCm at z; omega)]; exact hR.2.1, fun u hu => by rw [e _ _ (fun z => by unfold sCm at z; omega), e _ _ (fun z => by unfold sCm at z; omega), e _ _ (fun z => by unfold sCm at z; omega)]; exact hR.2.2.1 u hu, fun u hu => by rw [e _ _ (fun z => by unfold sCm at z; omega), e _ _ (fun z => by unfold sCm at z; omega)]; exact hR.2.2.2 u hu⟩
  have hd1 := F1.shD hd
  obtain ⟨σ2, a1, a2, a3, a4⟩ := d_coms_L (n := n) hk (K := fun (s57 : eb_S) => eb_gI s57 [9] 91 24 fun x58 => eb_pI s57 [9] 91 6 x58 fun s59 => f_X10_market_L252 n 91 (fun (s69 : eb_S) => eb_pI s69 [9] 91 12 0 fun s70 => eb_pI s70 [9] 91 16 0 fun s71 => eb_gI s71 [9] 91 0 fun x72 => some (x72, s71)) n 0 s59) n 0 _ hd1 hR1 (by rw [eb_I_sI, if_pos rfl, if_pos rfl]; exact nI_0.symm) (fun u hu => by omega) (by omega) (by omega)
  have hd2 := a2.shD hd1
  have i24 : eb_I σ2 91 24 = nI s := by rw [a2.2.2.2.2.2 _ _ (fun z => by unfold sCm at z; omega)]; exact hR1.2.1
  have F3 : Fr (fun a b => a = 91 ∧ b = 6) σ2 (eb_sI σ2 91 6 (nI s)) := Fr.sI ⟨rfl, rfl⟩
  have hd3 := F3.shD hd2
  obtain ⟨σ4, b1, b2, b3⟩ := d_strs_L (G := G) (n := n) hs (K := fun (s69 : eb_S) => eb_pI s69 [9] 91 12 0 fun s70 => eb_pI s70 [9] 91 16 0 fun s71 => eb_gI s71 [9] 91 0 fun x72 => some (x72, s71)) n 0 _ hd3 (by rw [eb_I_sI, if_pos rfl, if_pos rfl]) (fun u hu => by
    rw [eb_I_sI, if_neg (by decide), eb_I_sI, if_neg (by decide), a2.2.2.2.2.2 _ _ (fun z => by unfold sCm at z; omega), a2.2.2.2.2.2 _ _ (fun z => by unfold sCm at z; omega)]; exact hR1.2.2.2 u hu) (fun u hu => by omega) (by omega) (by omega)
  have hd4 := b2.shD hd3
  have F5 : Fr (fun a b => a = 91 ∧ (b = 12 ∨ b = 16)) σ4 (eb_sI (eb_sI σ4 91 12 0) 91 16 0) := (Fr.sI ⟨rfl, Or.inl rfl⟩).tr (Fr.sI ⟨rfl, Or.inr rfl⟩)
  have hd5a : ShD (eb_sI σ4 91 12 0) := (Fr.sI (S := fun a b => a = 91 ∧ b = 12) ⟨rfl, rfl⟩).shD hd4
  have hd5 := F5.shD hd4
  have back : ∀ a b, ¬ ((a = 91 ∧ (b = 0 ∨ b = 6 ∨ b = 12 ∨ b = 16)) ∨ (92 ≤ a ∧ a ≤ 98)) → eb_I (eb_sI (eb_sI σ4 91 12 0) 91 16 0) a b = eb_I σ a b := fun a b h => by
    rw [F5.2.2.2.2.2 _ _ (by omega), b2.2.2.2.2.2 _ _ (fun z => by unfold sCs at z; omega), F3.2.2.2.2.2 _ _ (by omega), a2.2.2.2.2.2 _ _ (fun z => by unfold sCm at z; omega), F1.2.2.2.2.2 _ _ (fun z => by unfold sCm at z; omega)]
  have i0 : eb_I (eb_sI (eb_sI σ4 91 12 0) 91 16 0) 91 0 = nI k := by
    rw [F5.2.2.2.2.2 _ _ (by omega), b2.2.2.2.2.2 _ _ (fun z => by unfold sCs at z; omega), F3.2.2.2.2.2 _ _ (by omega)]; exact a3
  have goods : ∀ a b, 92 ≤ a → a ≤ 96 → eb_I (eb_sI (eb_sI σ4 91 12 0) 91 16 0) a b = eb_I σ2 a b := fun a b h1 h2 => by
    rw [F5.2.2.2.2.2 _ _ (by omega), b2.2.2.2.2.2 _ _ (fun z => by unfold sCs at z; omega), F3.2.2.2.2.2 _ _ (by omega)]
  have strs : ∀ a b, 97 ≤ a → a ≤ 98 → eb_I (eb_sI (eb_sI σ4 91 12 0) 91 16 0) a b = eb_I σ4 a b := fun a b h1 h2 => F5.2.2.2.2.2 _ _ (by omega)
  refine ⟨_, ?_, ?_, by rw [back _ _ (by omega)]; exact h20, ?_⟩
  · rw [nI_0] at a1 b1
    unfold mkF
    rw [dpI hd, a1, dgI hd2, i24, dpI hd2, b1, dpI hd4, dpI hd5a, dgI hd5, i0]
  · exact ((((F1.mono (fun k j h => by unfold sCm at h; unfold sMm; omega)).tr (a2.mono (fun k j h => by unfold sCm at h; unfold sMm; omega))).tr (F3.mono (fun k j h => by unfold sMm; omega))).tr (b2.mono (fun k j h => by unfold sCs at h; unfold sMm; omega))).tr (F5.mono (fun k j h => by unfold sMm; omega))
  · obtain ⟨hN, hK, hW, hP, hL, hB, hS, hY, hU, hH, hG, hR, hLn, hL1, hL2, hLk, hBn, hB1, hB2⟩ := hD
    have eN : aN (mkA A G) = k := h0
    have eS : aS (mkA A G) = s := h6
    have eL : aLn (mkA A G) = 0 := rfl
    have eB : aBn (mkA A G) = 0 := rfl
    refine ⟨by rw [eN]; exact i0, fun t ht => ?_, fun t ht => ?_, fun t ht => ?_, fun t ht => ?_, fun t ht => ?_, ?_, fun t ht => ?_, fun t ht => ?_, fun t ht => ?_, fun t ht => ?_, fun t ht => ?_, ?_, fun t ht => ?_, fun t ht => ?_, fun t ht => ?_, ?_, fun t ht => ?_, fun t ht => ?_⟩
    · rw [eN] at ht; rw [goods _ _ (by omega) (by omega)]; exact (a4 t ht).1
    · rw [eN] at ht; rw [goods _ _ (by omega) (by omega)]; exact (a4 t ht).2.1
    · rw [eN] at ht; rw [goods _ _ (by omega) (by omega)]; exact (a4 t ht).2.2.1
    · rw [eN] at ht; rw [goods _ _ (by omega) (by omega), (a4 t ht).2.2.2.1]
      show (50 : Int32) = nI (G 4 t)
      rw [(h4 t ht).1]; rfl
    · rw [eN] at ht; rw [goods _ _ (by omega) (by omega), (a4 t ht).2.2.2.2]
      show (0 : Int32) = nI (G 5 t)
      rw [(h4 t ht).2]; rfl
    · rw [eS, F5.2.2.2.2.2 _ _ (by omega), b2.2.2.2.2.2 _ _ (fun z => by unfold sCs at z; omega), eb_I_sI, if_pos rfl, if_pos rfl]
    · rw [eS] at ht; rw [strs _ _ (by omega) (by omega)]; exact (b3 t ht).1
    · rw [eS] at ht; rw [strs _ _ (by omega) (by omega)]; exact (b3 t ht).2
    · rw [back _ _ (by omega)]; exact hH t ht
    · rw [back _ _ (by omega)]; exact hG t ht
    · rw [back _ _ (by omega)]; exact hR t ht
    · rw [eL, eb_I_sI, if_pos rfl, if_neg (by decide), eb_I_sI, if_pos rfl, if_pos rfl]; exact nI_0.symm
    · rw [eL] at ht; omega
    · rw [eL] at ht; omega
    · rw [eL] at ht; omega
    · rw [eB, eb_I_sI, if_pos rfl, if_pos rfl]; exact nI_0.symm
    · rw [eB] at ht; omega
    · rw [eB] at ht; omega
