/-! ===== pure: market, equal ===== -/
theorem neg20 {p : Nat} (h : p ≤ 80) : ((-20 : Int32) - nI p < 0) = True := by
  have e : (-20 : Int32) - nI p = iI (-20 - (p : Int)) := by rw [nI_iI, show (-20 : Int32) = iI (-20) from rfl, iI_sub]
  rw [e, show (0 : Int32) = iI 0 from rfl, p_ltI (by omega) (by omega)]
  exact eq_true (by omega)
set_option maxHeartbeats 4000000 in
theorem em_run_ok {n k ch : Nat} {σ σ1 τ : eb_S} (hb : ShB σ) (hb1 : ShB σ1) (hT : ShT σ) (hT1 : ShT σ1) (hs1 : ShM9 σ1) (a1 : f_X8_read n 57 41 σ = some (nI k, σ1)) (nn : (nI k < 0) = False) (tk : f_X3_takeGoods 9 41 σ1 = some ((), τ)) (T1 : eb_T τ = eb_T σ1) (R1 : eb_R τ = eb_R σ1) (c1 : eb_I τ 9 0 = nI (ch + 1)) : f_X9_market n 8 σ = some (nI k, eb_sI (eb_sI (eb_sI (eb_sI τ 9 0 (nI (ch + 1 + 1))) 9 13 0) 9 17 0) 57 0 0) := by
  have hbu := hb
  have hbu1 := hb1
  have hTu := hT
  have hTu1 := hT1
  have hsu1 := hs1
  unfold ShB at hbu hbu1
  unfold ShT at hTu hTu1
  unfold ShM9 at hsu1
  unfold f_X9_market f_X3_clearLawsAndBars
  simp only [eb_gR, eb_gI, eb_tg, eb_pI, eb_jn_e, hbu, hbu1, hTu, hTu1, hsu1, a1, eb_cl_s, nn, tk, T1, R1, eb_T_sI, eb_R_sI, eb_L_sI, eb_J_sI, eb_N_sI, eb_T_sJ, eb_R_sJ, eb_L_sJ, eb_I_sJ, eb_N_sJ, eb_T_rI, eb_R_rI, eb_L_rI, eb_J_rI, eb_N_rI, eb_T_rJ, eb_R_rJ, eb_L_rJ, eb_I_rJ, eb_N_rJ, c1, nI_1, List.mem_singleton, if_true, if_false, true_and, ne_eq, show ¬ (9 : Nat) = 0 by decide, show ¬ (41 : Nat) = 0 by decide, show ¬ (57 : Nat) = 0 by decide, not_false_eq_true]
set_option maxHeartbeats 4000000 in
theorem em_run_bad {n : Nat} {r : Int32} {σ σ1 : eb_S} (hb : ShB σ) (hb1 : ShB σ1) (hT : ShT σ) (hT1 : ShT σ1) (a1 : f_X8_read n 57 41 σ = some (r, σ1)) (ng : (r < 0) = True) : f_X9_market n 8 σ = some (r, eb_sI σ1 57 0 0) := by
  have hbu := hb
  have hbu1 := hb1
  have hTu := hT
  have hTu1 := hT1
  unfold ShB at hbu hbu1
  unfold ShT at hTu hTu1
  unfold f_X9_market
  simp only [eb_gR, eb_tg, eb_pI, eb_jn_e, hbu, hbu1, hTu, hTu1, a1, eb_cl_s, ng, List.mem_singleton, if_true, true_and, ne_eq, show ¬ (41 : Nat) = 0 by decide, show ¬ (57 : Nat) = 0 by decide, not_false_eq_true]
set_option maxHeartbeats 4000000 in
theorem em_mx {A G : Nat → Nat → Nat} {k s : Nat} {σ1 τ σ2 : eb_S} (hX : MX9 A σ1) (h0 : G 0 0 = k) (h6 : G 6 0 = s) (gg : ∀ i j, i < 9 → j < gG k s i → eb_I τ (tC 9 i) (tS i j) = tE i (G i j)) (oo : ∀ k j, 17 ≤ k → k ≤ 19 → eb_I τ k j = eb_I σ1 k j) (bk : ∀ a b, ¬ ((a = 9 ∧ (b = 0 ∨ b = 13 ∨ b = 17)) ∨ (a = 57 ∧ b = 0)) → eb_I σ2 a b = eb_I τ a b) (z13 : eb_I σ2 9 13 = 0) (z17 : eb_I σ2 9 17 = 0) : MX9 (mkA A G) σ2 := by
  obtain ⟨hN, hK, hW, hP, hL, hB, hS, hY, hU, hH, hG, hR, hLn, hL1, hL2, hLk, hBn, hB1, hB2⟩ := hX
  have eN : aN (mkA A G) = k := h0
  have eS : aS (mkA A G) = s := h6
  have eL : aLn (mkA A G) = 0 := rfl
  have eB : aBn (mkA A G) = 0 := rfl
  refine ⟨?_, fun t ht => ?_, fun t ht => ?_, fun t ht => ?_, fun t ht => ?_, fun t ht => ?_, ?_, fun t ht => ?_, fun t ht => ?_, fun t ht => ?_, fun t ht => ?_, fun t ht => ?_, ?_, fun t ht => ?_, fun t ht => ?_, fun t ht => ?_, ?_, fun t ht => ?_, fun t ht => ?_⟩
  · rw [bk _ _ (by omega)]; exact gg 0 0 (by decide) (show 0 < 1 by decide)
  · rw [eN] at ht; rw [bk _ _ (by omega)]; exact gg 1 t (by decide) ht
  · rw [eN] at ht; rw [bk _ _ (by omega)]; exact gg 2 t (by decide) ht
  · rw [eN] at ht; rw [bk _ _ (by omega)]; exact gg 3 t (by decide) ht
  · rw [eN] at ht; rw [bk _ _ (by omega)]; exact gg 4 t (by decide) ht
  · rw [eN] at ht; rw [bk _ _ (by omega)]; exact gg 5 t (by decide) ht
  · rw [bk _ _ (by omega)]; exact gg 6 0 (by decide) (show 0 < 1 by decide)
  · rw [eS] at ht; rw [bk _ _ (by omega)]; exact gg 7 t (by decide) ht
  · rw [eS] at ht; rw [bk _ _ (by omega)]; exact gg 8 t (by decide) ht
  · rw [bk _ _ (by omega), oo _ _ (by omega) (by omega)]; exact hH t ht
  · rw [bk _ _ (by omega), oo _ _ (by omega) (by omega)]; exact hG t ht
  · rw [bk _ _ (by omega), oo _ _ (by omega) (by omega)]; exact hR t ht
  · rw [eL, z13]; exact nI_0.symm
  · rw [eL] at ht; omega
  · rw [eL] at ht; omega
  · rw [eL] at ht; omega
  · rw [eB, z17]; exact nI_0.symm
  · rw [eB] at ht; omega
  · rw [eB] at ht; omega
set_option maxHeartbeats 8000000 in
theorem em_aux {A G : Nat → Nat → Nat} (w : wf A) {tl n ch k s pos : Nat} {ok : Bool} {tc : Nat → Nat} (hn : 100 ≤ n) (wt : wfT tl tc) (gw0 : gw G k s) (hpos : pos ≤ 80) (h0 : G 0 0 = k) (h6 : G 6 0 = s) {σ σ1 : eb_S} (a1 : f_X8_read n 57 41 σ = some (if ok = true then nI k else (-20) - nI pos, σ1)) (a2 : Fr sPar σ σ1) (a3 : DR G k s σ1) (hDM : ∀ σ2, ShD σ2 → MD A σ2 → DT tl tc σ2 → ∃ σ', f_X10_market n 91 σ2 = some (if ok = true then nI k else (-20) - nI pos, σ') ∧ Fr sMm σ2 σ' ∧ eb_I σ' 91 20 = 0 ∧ (ok = true → MD (mkA A G) σ') ∧ (ok = false → MD A σ')) (hb : ShB σ) (h9 : X9 A ch σ) (hM : ShM41 σ) (hT : XT tl tc σ) (hd : ShD σ) (hD : MD A σ) (hDT : DT tl tc σ) : ∃ r σ1 σ2 A' ch', f_X9_market n 8 σ = some (r, σ1) ∧ Fr sMx σ σ1 ∧ X9 A' ch' σ1 ∧ XT 0 tc σ1 ∧ f_X10_market n 91 σ1 = some (r, σ2) ∧ Fr sMm σ1 σ2 ∧ MD A' σ2 ∧ DT 0 tc σ2 ∧ wf A' ∧ (A' = A ∧ ch' = ch ∨ ch < ch') ∧ ch' ≤ ch + 16 := by
  have wl := wt.1
  have hbu := hb
  have hb1 := a2.shB hb
  have hbu1 := hb1
  have hTu := hT.1
  have hTu1 := a2.shT hT.1
  unfold ShB at hbu hbu1
  unfold ShT at hTu
  have key : ∀ (A' : Nat → Nat → Nat) (ch' : Nat) (σ2 : eb_S) (r : Int32), f_X9_market n 8 σ = some (r, σ2) → Fr sMx σ σ2 → X9 A' ch' σ2 → eb_I σ2 57 0 = 0 → (r = if ok = true then nI k else (-20) - nI pos) → (ok = true → A' = mkA A G ∧ ch' = ch + 2) → (ok = false → A' = A ∧ ch' = ch) → ∃ r σ1 σ2 A' ch', f_X9_market n 8 σ = some (r, σ1) ∧ Fr sMx σ σ1 ∧ X9 A' ch' σ1 ∧ XT 0 tc σ1 ∧ f_X10_market n 91 σ1 = some (r, σ2) ∧ Fr sMm σ1 σ2 ∧ MD A' σ2 ∧ DT 0 tc σ2 ∧ wf A' ∧ (A' = A ∧ ch' = ch ∨ ch < ch') ∧ ch' ≤ ch + 16 := by
    intro A' ch' σ2 r k1 k2 k3 k4 k5 k6 k7
    have hd2 := k2.shD hd
    have hD2 : MD A σ2 := k2.md (fun k0 j h => by unfold sMx at h; omega) hD
    have hDT2 : DT tl tc σ2 := hDT.at k2 (fun z => by unfold sMx at z; omega) (fun j z => by unfold sMx at z; omega)
    obtain ⟨σ3, d1, d2, d3, d4, d5⟩ := hDM σ2 hd2 hD2 hDT2
    rw [← k5] at d1
    refine ⟨r, σ2, σ3, A', ch', k1, k2, k3, ⟨k2.shT hT.1, by rw [k4]; exact nI_0.symm, fun j hj => by omega⟩, d1, d2, ?_, ⟨by rw [d3]; exact nI_0.symm, fun j hj => by omega⟩, ?_, ?_, ?_⟩
    · cases e : ok with
      | true => rw [(k6 e).1]; exact d4 e
      | false => rw [(k7 e).1]; exact d5 e
    · cases e : ok with
      | true => rw [(k6 e).1]; exact wf_mkA w gw0 h0 h6
      | false => rw [(k7 e).1]; exact w
    · cases e : ok with
      | true => right; rw [(k6 e).2]; omega
      | false => left; exact k7 e
    · cases e : ok with
      | true => rw [(k6 e).2]; omega
      | false => rw [(k7 e).2]; omega
  have Fx : ∀ σ', Fr sPar σ σ' → Fr sMx σ σ' := fun σ' h => h.mono (fun k0 j z => by unfold sPar at z; unfold sMx; omega)
  cases e : ok with
  | false =>
    rw [e, if_neg (by decide)] at a1
    have h91 : X9 A ch σ1 := h9.fr a2.fq (fun k0 j h1 h2 z => by unfold sPar at z; omega)
    have F2 : Fr (fun k0 j => k0 = 57 ∧ j = 0) σ1 (eb_sI σ1 57 0 0) := Fr.sI ⟨rfl, rfl⟩
    have ng := neg20 (p := pos) hpos
    refine key A ch (eb_sI σ1 57 0 0) ((-20) - nI pos) ?_ ((Fx _ a2).tr (F2.mono (fun k0 j z => by unfold sMx; omega))) (h91.fr F2.fq (fun k0 j h1 h2 z => by omega)) (by rw [eb_I_sI, if_pos rfl, if_pos rfl]) (by rw [e, if_neg (by decide)]) (fun z => by rw [e] at z; cases z) (fun _ => ⟨rfl, rfl⟩)
    exact em_run_bad hb hb1 hT.1 (a2.shT hT.1) a1 ng
  | true =>
    rw [e, if_pos rfl] at a1
    have hs1 := a2.shM9 h9.1
    have h91 : X9 A ch σ1 := h9.fr a2.fq (fun k0 j h1 h2 z => by unfold sPar at z; omega)
    have tk := x_tkG9_41 hs1 a3.1
    have Ft := tkG9_41_fr (σ := σ1)
    have c1 : eb_I (tkG 9 41 σ1) 9 0 = nI (ch + 1) := by
      have : eb_I (tkG 9 41 σ1) 9 0 = eb_I σ1 9 0 + 1 := by simp [tkG, cpS_I, csS_I, inS_I]
      rw [this, h91.2.2, nI_1]
    have gg := tkG_g gw0.1 gw0.2.1 a3.2.1
    have oo := tkG_o (σ := σ1)
    generalize tkG 9 41 σ1 = τ at tk Ft c1 gg oo
    have F3 : Fr (fun k0 j => (k0 = 9 ∧ (j = 0 ∨ j = 13 ∨ j = 17)) ∨ (k0 = 57 ∧ j = 0)) τ (eb_sI (eb_sI (eb_sI (eb_sI τ 9 0 (nI (ch + 1 + 1))) 9 13 0) 9 17 0) 57 0 0) := (((Fr.sI (Or.inl (by omega))).tr (Fr.sI (Or.inl (by omega)))).tr (Fr.sI (Or.inl (by omega)))).tr (Fr.sI (Or.inr (by omega)))
    have F23 : Fr sMx σ (eb_sI (eb_sI (eb_sI (eb_sI τ 9 0 (nI (ch + 1 + 1))) 9 13 0) 9 17 0) 57 0 0) := ((Fx _ a2).tr (Ft.mono (fun k0 j z => by unfold sMx; omega))).tr (F3.mono (fun k0 j z => by unfold sMx; omega))
    have bk0 := F3.2.2.2.2.2
    have nn : (nI k < 0) = False := p_neg (by have := gw0.1; omega)
    refine key (mkA A G) (ch + 2) _ (nI k) ?_ F23 ⟨F23.shM9 h9.1, ?_, ?_⟩ (by rw [eb_I_sI, if_pos rfl, if_pos rfl]) (by rw [e, if_pos rfl]) (fun _ => ⟨rfl, rfl⟩) (fun z => by rw [e] at z; cases z)
    · exact em_run_ok hb hb1 hT.1 (a2.shT hT.1) hs1 a1 nn tk Ft.1 Ft.2.1 c1
    · exact em_mx h91.2.1 h0 h6 gg oo bk0 (by simp [eb_I_sI]) (by simp [eb_I_sI])
    · simp [eb_I_sI]
theorem eq_market {A : Nat → Nat → Nat} (w : wf A) {tl n ch : Nat} {tc : Nat → Nat} (hn : 100 ≤ n) (wt : wfT tl tc) {σ : eb_S} (hb : ShB σ) (h9 : X9 A ch σ) (hM : ShM41 σ) (hT : XT tl tc σ) (hd : ShD σ) (hD : MD A σ) (hDT : DT tl tc σ) : ∃ r σ1 σ2 A' ch', f_X9_market n 8 σ = some (r, σ1) ∧ Fr sMx σ σ1 ∧ X9 A' ch' σ1 ∧ XT 0 tc σ1 ∧ f_X10_market n 91 σ1 = some (r, σ2) ∧ Fr sMm σ1 σ2 ∧ MD A' σ2 ∧ DT 0 tc σ2 ∧ wf A' ∧ (A' = A ∧ ch' = ch ∨ ch < ch') ∧ ch' ≤ ch + 16 := by
  obtain ⟨σ1, a1, a2, a3⟩ := x_read hn hT wt hM
  have g := mks_gw (tl := tl) (tc := tc)
  have wl := wt.1
  exact em_aux w hn wt g.1 (Nat.le_trans g.2 wl) a3.2.2.1 a3.2.2.2 a1 a2 a3 (fun σ2 q1 q2 q3 => d_market (A := A) hn wt a3.2.2.1 a3.2.2.2 q1 q2 q3) hb h9 hM hT hd hD hDT
