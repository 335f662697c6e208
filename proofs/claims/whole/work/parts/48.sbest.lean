/-! ===== pure: the component's best, kept and told ===== -/
theorem p_neg {n : Nat} (h : n < 2 ^ 31) : (nI n < 0) = False := by rw [eq_iff_iff]; exact ⟨fun z => absurd z (nI_pos h), False.elim⟩
def s2 (v k _j : Nat) : Prop := k = v + 2
theorem x_keepRow {A : Nat → Nat → Nat} (w : wf A) {v : Nat} {σ : eb_S} (hv : SS v σ) (hs : ShM9 σ) (hX : MX9 A σ) : ∃ σ', f_X6_keepRow v σ = some ((), σ') ∧ Fr (s2 v) σ σ' ∧ ∀ u, u < aN A → eb_I σ' (v + 2) u = eb_I σ (v + 1) u := by
  have wN := w.1
  have hN := hX.1
  unfold SS at hv
  unfold ShM9 at hs
  refine ⟨eb_rI σ (v + 2) (va_cpy (eb_I σ (v + 1)) (eb_I σ (v + 2)) 0 0 (aN A)), ?_, Fr.rI (fun j => Or.inl rfl), fun u hu => ?_⟩
  · unfold f_X6_keepRow
    simp only [eb_gR, eb_gI, eb_ci, hv, hs, hN, List.mem_singleton, p_cl (show aN A < 2 ^ 31 by omega), p_neg (show aN A < 2 ^ 31 by omega), c0, Nat.zero_add]
    simp [wN]
  · rw [eb_I_rI, if_pos rfl]
    unfold va_cpy
    rw [if_pos ⟨by omega, by omega⟩, show 0 + (u - 0) = u by omega]
set_option maxHeartbeats 4000000 in
theorem ok_best {A : Nat → Nat → Nat} (w : wf A) {n : Nat} (hn : 100 ≤ n) (c : Int32) : SearchOk A n 59 (Option (Nat × Nat × (Nat → Nat))) (gB A) (kB A c) := by
  refine ⟨fun q acc h => gB_f h acc, fun acc σ σ' h hF => h.fr hF (fun j _ _ z => by omega) (fun j z => by omega), ?_⟩
  intro t p acc σ ht hI hO hK
  have wS := w.2.2.1
  have hT := hK.1
  have hv := hI.1
  have hs := hI.2.1
  have F1 : Fr s9 σ (eb_sI σ 59 9 0) := Fr.sI (by unfold s9; omega)
  have F2 : Fr s9 (eb_sI σ 59 9 0) (eb_sI (eb_sI σ 59 9 0) 59 10 0) := Fr.sI (by unfold s9; omega)
  have F12 := F1.tr F2
  have pfr : ∀ {σ σ'}, Fr s9 σ σ' → PI A p t 59 σ → PI A p t 59 σ' := fun hF h => h.fr hF nX_s9 (fun j z => by unfold s9 at z; omega) (fun j z => by unfold s9 at z; omega) (fun j z => by unfold s9 at z; omega)
  have kfr : ∀ {σ σ'}, Fr s9 σ σ' → kB A c acc σ → kB A c acc σ' := fun hF h => h.fr hF (fun j _ _ z => by unfold s9 at z; omega) (fun j z => by unfold s9 at z; omega)
  obtain ⟨σ1, a1, a2, a3, a4⟩ := x_hop0_L w (n := n) ht (p := p) (K := fun s17 => eb_gI s17 [0] 59 6 fun x18 => if x18 = 0 then (some (false, s17)) else (eb_gI s17 [0] 59 9 fun x19 => eb_gI s17 [0] 59 7 fun x20 => if x20 < x19 then (some (true, s17)) else (eb_gI s17 [0] 59 9 fun x21 => eb_gI s17 [0] 59 7 fun x22 => if x21 = x22 then (eb_gI s17 [0] 59 10 fun x23 => eb_gI s17 [0] 59 8 fun x24 => if x23 < x24 then (some (false, s17)) else (some (true, s17))) else (some (false, s17))))) n 0 _ (pfr F12 hI) hT (by rw [eb_I_sI, if_pos rfl, if_neg (by decide), eb_I_sI, if_pos rfl, if_pos rfl]; exact nI_0.symm) (by rw [eb_I_sI, if_pos rfl, if_pos rfl]; exact nI_0.symm) (by omega) (by omega)
  have hF := F12.tr a2
  have hI1 := pfr hF hI
  have hK1 := kfr hF hK
  have hT1 := hK1.1
  have hFv : Fr (sv 59) σ σ1 := hF.mono (fun k j h => by unfold s9 at h; unfold sv; omega)
  have nwb : nw A p t (aS A) ≤ wst A p (aS A) := nw_le ht (fun u _ => rfl) _
  have wb := wst_le w p (aS A)
  have nhb : nh A p t (aS A) ≤ whl A p (aS A) := nh_le ht (fun u _ => rfl) _
  have hb := whl_le w p (aS A) (Nat.le_refl _)
  -- what reach does
  have rch : ∀ acc', acc' = some (wst A p (aS A), whl A p (aS A), p) → t = aN A → ∃ σ'', eb_d3 σ1 59 0 4 5 (f_X0_reach 59 σ1) (f_X4_reach 59 σ1) (f_X5_reach n 59 σ1) = some ((), σ'') ∧ PI A p t 59 σ'' ∧ kB A c acc' σ'' ∧ Fr (sv 59) σ1 σ'' := by
    intro acc' hacc heq
    subst hacc
    have G1 : Fr (s5 59) σ1 (eb_sI (eb_sI (eb_sI σ1 59 6 1) 59 7 (nI (nw A p t (aS A)))) 59 8 (nI (nh A p t (aS A)))) := (Fr.sI (S := s5 59) rfl).tr ((Fr.sI (S := s5 59) rfl).tr (Fr.sI (S := s5 59) rfl))
    have G1v := G1.mono (s5_sv (v := 59))
    obtain ⟨σ2, k1, k2, k3⟩ := x_keepRow w (G1.ss hI1.1) (G1.shM9 hI1.2.1) (G1v.mx (nX_sv (by decide)) hI1.2.2.1)
    have k2v : Fr (sv 59) _ σ2 := k2.mono (fun k j h => by unfold s2 at h; unfold sv; omega)
    have G2 : Fr (fun k _ => k = 59 ∨ k = 61) σ1 σ2 := (G1.mono (fun k j h => Or.inl h)).tr (k2.mono (fun k j h => Or.inr h))
    refine ⟨σ2, ?_, ?_, ⟨?_, ?_, ?_, ?_, ?_, by omega, by omega, fun u hu => ?_⟩, G1v.tr k2v⟩
    · simp [eb_d3, hT1, f_X0_reach, eb_pZ, eb_gI, eb_pI, eb_tg, eb_T_sI, eb_R_sI, eb_L_sI, eb_J_sI, eb_N_sI, eb_T_sJ, eb_R_sJ, eb_L_sJ, eb_I_sJ, eb_N_sJ, eb_T_rI, eb_R_rI, eb_L_rI, eb_J_rI, eb_N_rI, eb_T_rJ, eb_R_rJ, eb_L_rJ, eb_I_rJ, eb_N_rJ, eb_I_sI, a3, a4, k1, eb_cl_s]
    · exact hI1.fr G2 (fun k j h => by omega) (fun j z => by omega) (fun j z => by omega) (fun j z => by omega)
    · rw [G2.1]; exact hT1
    · rw [k2.2.2.2.2.2 _ _ (fun z => by unfold s2 at z; omega)]; simp [eb_I_sI]; exact hK1.2.1
    · rw [k2.2.2.2.2.2 _ _ (fun z => by unfold s2 at z; omega)]; simp [eb_I_sI]
    · rw [k2.2.2.2.2.2 _ _ (fun z => by unfold s2 at z; omega)]; simp [eb_I_sI]; rw [heq, nw_end]
    · rw [k2.2.2.2.2.2 _ _ (fun z => by unfold s2 at z; omega)]; simp [eb_I_sI]; rw [heq, nh_end]
    · rw [k3 u hu]
      simp [eb_I_sI]
      exact hI1.2.2.2.2.2.2.2 u (by omega)
  rw [show eb_d3 σ 59 0 4 5 (f_X0_isHopeless n 59 (nI t) σ) (f_X4_isHopeless n 59 (nI t) σ) (f_X5_isHopeless n 59 (nI t) σ) = f_X0_isHopeless n 59 (nI t) σ by simp [eb_d3, hT]]
  unfold f_X0_isHopeless
  simp only [eb_pI, hT, List.mem_singleton, if_true, eb_T_sI]
  rw [nI_0] at a1
  rw [a1]
  simp only [eb_gI, hT1, List.mem_singleton, if_true]
  match acc, hK1.2.2 with
  | none, z0 =>
    have z0 : eb_I σ1 59 6 = 0 := z0
    refine ⟨false, σ1, by rw [if_pos z0], hI1, hK1, hFv, fun z => absurd z Bool.false_ne_true, fun _ heq => ?_⟩
    subst heq
    rw [gB_t (hO.lawful w)]
    exact rch _ rfl rfl
  | some (w0, h0, q), ⟨z1, z2, z3, z4, z5, z6⟩ =>
    have e1 : (nI w0 < nI (nw A p t (aS A))) = (w0 < nw A p t (aS A)) := p_ltN z4 (by omega)
    have e2 : (nI (nw A p t (aS A)) = nI w0) = (nw A p t (aS A) = w0) := p_eqN (by omega) z4
    have e3 : (nI (nh A p t (aS A)) < nI h0) = (nh A p t (aS A) < h0) := p_ltN (by omega) z5
    rw [if_neg (by rw [z1]; decide)]
    simp only [z2, z3, a3, a4, e1, e2, e3]
    have bad : (w0 < nw A p t (aS A) ∨ (nw A p t (aS A) = w0 ∧ h0 ≤ nh A p t (aS A))) → ∀ q', goon A p t q' → gB A q' (some (w0, h0, q)) = some (w0, h0, q) := by
      intro hbad q' hq'
      have n1 := nw_le ht hq' (aS A)
      have n2 := nh_le ht hq' (aS A)
      by_cases hl : lawfulP A q'
      · rw [gB_t hl]
        show ite _ _ _ = _
        rw [if_neg (by omega)]
      · exact gB_f hl _
    have good : (nw A p t (aS A) < w0 ∨ (nw A p t (aS A) = w0 ∧ nh A p t (aS A) < h0)) → t = aN A → gB A p (some (w0, h0, q)) = some (wst A p (aS A), whl A p (aS A), p) := by
      intro hg heq
      subst heq
      rw [nw_end, nh_end] at hg
      rw [gB_t (hO.lawful w)]
      show ite _ _ _ = _
      rw [if_pos hg]
    by_cases c1 : w0 < nw A p t (aS A)
    · exact ⟨true, σ1, by rw [if_pos c1], hI1, hK1, hFv, fun _ q' hq' _ => bad (Or.inl c1) q' hq', fun z => absurd z.symm Bool.false_ne_true⟩
    · rw [if_neg c1]
      by_cases c2 : nw A p t (aS A) = w0
      · rw [if_pos c2]
        by_cases c3 : nh A p t (aS A) < h0
        · exact ⟨false, σ1, by rw [if_pos c3], hI1, hK1, hFv, fun z => absurd z Bool.false_ne_true, fun _ heq => rch _ (good (Or.inr ⟨c2, c3⟩) heq) heq⟩
        · exact ⟨true, σ1, by rw [if_neg c3], hI1, hK1, hFv, fun _ q' hq' _ => bad (Or.inr ⟨c2, by omega⟩) q' hq', fun z => absurd z.symm Bool.false_ne_true⟩
      · rw [if_neg c2]
        exact ⟨false, σ1, rfl, hI1, hK1, hFv, fun z => absurd z Bool.false_ne_true, fun _ heq => rch _ (good (Or.inl (by omega)) heq) heq⟩
