/-! ===== pure: WORST and WHOLE of the model ===== -/
def sU (k j : Nat) : Prop := k = 91 ∧ (j = 27 ∨ j = 28)
theorem nD_sU : nD sU := fun k j h => by unfold sU at h; omega
theorem Fr.rw {S : Nat → Nat → Prop} {σ σ' : eb_S} (h : Fr S σ σ') {p : Nat → Nat} {n r : Nat} (hr : RW p n r σ) (hS : ∀ j, ¬ S r j) : RW p n r σ' := ⟨by rw [h.1]; exact hr.1, by rw [h.2.2.1]; exact hr.2.1, fun t ht => ⟨by rw [h.2.2.2.2.2 r t (hS t)]; exact (hr.2.2 t ht).1, (hr.2.2 t ht).2⟩⟩
set_option maxHeartbeats 2000000 in
theorem d_unevens_L {A : Nat → Nat → Nat} (w : wf A) {p : Nat → Nat} {r : Nat} (h91 : r ≠ 91) {n : Nat} (hn : 100 ≤ n) : ∀ (m t : Nat) (σ : eb_S), ShD σ → MD A σ → RW p (aN A) r σ → eb_I σ 91 27 = nI (wst A p t) → eb_I σ 91 28 = nI (whl A p t) → t ≤ aS A → aS A < t + m → ∃ σ', f_X10_unevens_L12 n 91 r m (nI t) σ = some ((), σ') ∧ Fr sU σ σ' ∧ eb_I σ' 91 27 = nI (wst A p (aS A)) ∧ eb_I σ' 91 28 = nI (whl A p (aS A)) := by
  intro m
  induction m with
  | zero => intro t σ _ _ _ _ _ h1 h2; omega
  | succ m ih =>
    intro t σ hs hX hr hw hh h1 h2
    obtain ⟨hN, hK, hW, hP, hL, hB, hS, hY, hU, hH, hG, hR, hLn, hL1, hL2, hLk, hBn, hB1, hB2⟩ := id hX
    have wS := w.2.2.1
    have hs' := hs
    unfold ShD at hs
    rw [f_X10_unevens_L12.eq_2]
    simp only [eb_cl_s, eb_b0, eb_b1, eb_jn_e, eb_tg, eb_ts, eb_d3, eb_gI, eb_gR, eb_pI, eb_pZ, eb_pR, eb_ai, eb_ac, eb_al, eb_ar, eb_wi, eb_wc, eb_wl, eb_wr, eb_ln, eb_xi, eb_zb, eb_sw, eb_lw, hs, hS, p_leN (show aS A < 2 ^ 31 by omega) (show t < 2 ^ 31 by omega)]
    by_cases h : aS A ≤ t
    · have : t = aS A := by omega
      subst this
      exact ⟨σ, by simp, Fr.rf, hw, hh⟩
    · have hb := off_bd w p t
      have ha := off_abs w p t
      have hwl := wst_le w p t
      have hmx : (if nI (off A p t).natAbs ≤ nI (wst A p t) then nI (wst A p t) else nI (off A p t).natAbs) = nI (wst A p (t + 1)) := by
        simp only [p_leN (show (off A p t).natAbs < 2 ^ 31 by omega) (show wst A p t < 2 ^ 31 by omega)]
        rw [show wst A p (t + 1) = max (wst A p t) (off A p t).natAbs from rfl]
        by_cases hc : (off A p t).natAbs ≤ wst A p t
        · rw [if_pos hc, Nat.max_eq_left hc]
        · rw [if_neg hc, Nat.max_eq_right (by omega)]
      have hF : Fr sU σ (eb_sI (eb_sI σ 91 27 (nI (wst A p (t + 1)))) 91 28 (nI (whl A p (t + 1)))) := (Fr.sI ⟨rfl, Or.inl rfl⟩).tr (Fr.sI ⟨rfl, Or.inr rfl⟩)
      obtain ⟨σ', g1, g2, g3, g4⟩ := ih (t + 1) _ (hF.shD hs') (hF.md nD_sU hX) (hF.rw hr (fun j z => h91 z.1)) (by simp [eb_I_sI]) (by simp [eb_I_sI]) (by omega) (by omega)
      refine ⟨σ', ?_, hF.tr g2, g3, g4⟩
      rw [← g1]
      have hin := p_in (show t < 5 by omega) (by decide : 5 < 2 ^ 31)
      have hcl := p_cl (show t < 2 ^ 31 by omega)
      have e1 : (1 : Int32) + nI (aU A t) = nI (1 + aU A t) := nI_add 1 (aU A t)
      have hwhl : nI (whl A p t) + nI (off A p t).natAbs * nI (aY A t) * nI (1 + aU A t) = nI (whl A p (t + 1)) := by
        rw [pk_mul, pk_mul, nI_add]; rfl
      rw [d_offOf hs' hX w hr (show t < 5 by omega) hn]
      simp only [h, if_true, if_false, eb_cl_s, d_plain, p_abs2 (z := off A p t) (by omega) (by omega)]
      by_cases hc : nI (off A p t).natAbs ≤ nI (wst A p t)
      · rw [if_pos hc] at hmx
        rw [← hmx]
        simp [eb_cl_s, eb_b0, eb_b1, eb_jn_e, eb_tg, eb_ts, eb_d3, eb_gI, eb_gR, eb_pI, eb_pZ, eb_pR, eb_ai, eb_ac, eb_al, eb_ar, eb_wi, eb_wc, eb_wl, eb_wr, eb_ln, eb_xi, eb_zb, eb_sw, eb_lw, hs, hw, hh, hc, eb_T_sI, eb_R_sI, eb_L_sI, eb_J_sI, eb_N_sI, eb_T_sJ, eb_R_sJ, eb_L_sJ, eb_I_sJ, eb_N_sJ, eb_T_rI, eb_R_rI, eb_L_rI, eb_J_rI, eb_N_rI, eb_T_rJ, eb_R_rJ, eb_L_rJ, eb_I_rJ, eb_N_rJ, eb_I_sI, hin, hcl, hY t (by omega), hU t (by omega), e1, hwhl, nI_1]
      · rw [if_neg hc] at hmx
        rw [← hmx]
        simp [eb_cl_s, eb_b0, eb_b1, eb_jn_e, eb_tg, eb_ts, eb_d3, eb_gI, eb_gR, eb_pI, eb_pZ, eb_pR, eb_ai, eb_ac, eb_al, eb_ar, eb_wi, eb_wc, eb_wl, eb_wr, eb_ln, eb_xi, eb_zb, eb_sw, eb_lw, hs, hw, hh, hc, eb_T_sI, eb_R_sI, eb_L_sI, eb_J_sI, eb_N_sI, eb_T_sJ, eb_R_sJ, eb_L_sJ, eb_I_sJ, eb_N_sJ, eb_T_rI, eb_R_rI, eb_L_rI, eb_J_rI, eb_N_rI, eb_T_rJ, eb_R_rJ, eb_L_rJ, eb_I_rJ, eb_N_rJ, eb_I_sI, hin, hcl, hY t (by omega), hU t (by omega), e1, hwhl, nI_1]
theorem d_unevens {A : Nat → Nat → Nat} (w : wf A) {p : Nat → Nat} {r : Nat} (h91 : r ≠ 91) {n : Nat} (hn : 100 ≤ n) {σ : eb_S} (hs : ShD σ) (hX : MD A σ) (hr : RW p (aN A) r σ) : ∃ σ', f_X10_unevens n 91 r σ = some ((), σ') ∧ Fr sU σ σ' ∧ eb_I σ' 91 27 = nI (wst A p (aS A)) ∧ eb_I σ' 91 28 = nI (whl A p (aS A)) := by
  have hF : Fr sU σ (eb_sI (eb_sI σ 91 27 0) 91 28 0) := (Fr.sI ⟨rfl, Or.inl rfl⟩).tr (Fr.sI ⟨rfl, Or.inr rfl⟩)
  have := w.2.2.1
  obtain ⟨σ', g1, g2, g3⟩ := d_unevens_L w h91 hn n 0 _ (hF.shD hs) (hF.md nD_sU hX) (hF.rw hr (fun j z => h91 z.1)) (by simp [eb_I_sI, wst, nI_0]) (by simp [eb_I_sI, whl, nI_0]) (by omega) (by omega)
  refine ⟨σ', ?_, hF.tr g2, g3⟩
  unfold ShD at hs
  unfold f_X10_unevens
  rw [← g1]
  simp [eb_cl_s, eb_b0, eb_b1, eb_jn_e, eb_tg, eb_ts, eb_d3, eb_gI, eb_gR, eb_pI, eb_pZ, eb_pR, eb_ai, eb_ac, eb_al, eb_ar, eb_wi, eb_wc, eb_wl, eb_wr, eb_ln, eb_xi, eb_zb, eb_sw, eb_lw, eb_T_sI, eb_R_sI, eb_L_sI, eb_J_sI, eb_N_sI, eb_T_sJ, eb_R_sJ, eb_L_sJ, eb_I_sJ, eb_N_sJ, eb_T_rI, eb_R_rI, eb_L_rI, eb_J_rI, eb_N_rI, eb_T_rJ, eb_R_rJ, eb_L_rJ, eb_I_rJ, eb_N_rJ, hs, nI_0]
set_option maxHeartbeats 2000000 in
theorem eq_uneven {A : Nat → Nat → Nat} {σ : eb_S} (hb : ShB σ) (hs : ShM9 σ) (hX : MX9 A σ) (w : wf A) (hd : ShD σ) (hD : MD A σ) (a : Int32) {n : Nat} (hn : 100 ≤ n) : ∃ r σ', f_X9_uneven n 8 a σ = some (r, σ) ∧ f_X10_uneven n 91 a σ = some (r, σ') ∧ Fr sU σ σ' := by
  have hb' := hb
  have hs' := hs
  have hd' := hd
  unfold ShB at hb
  unfold ShM9 at hs
  unfold ShD at hd
  unfold f_X9_uneven f_X10_uneven
  simp only [eb_cl_s, eb_b0, eb_b1, eb_jn_e, eb_tg, eb_ts, eb_d3, eb_gI, eb_gR, eb_pI, eb_pZ, eb_pR, eb_ai, eb_ac, eb_al, eb_ar, eb_wi, eb_wc, eb_wl, eb_wr, eb_ln, eb_xi, eb_zb, eb_sw, eb_lw, d_in, p_i64]
  cases h2 : wi a.toInt 0 1 with
  | false =>
    have hw := wi_f.mp h2
    have e0 : a ≠ 0 := fun e => hw (by rw [e]; decide)
    have e1 : a ≠ 1 := fun e => hw (by rw [e]; decide)
    exact ⟨-1, σ, by simp [e0, e1], by simp [show (0 : Int64).toInt = 0 from rfl, show (1 : Int64).toInt = 1 from rfl, h2], Fr.rf⟩
  | true =>
    obtain ⟨σ', g1, g2, g3, g4⟩ := d_unevens w (r := 96) (by decide) hn hd' hD (MD.bags hd' hD w)
    have hd2 := g2.shD hd'
    unfold ShD at hd2
    obtain ⟨u, hu, rfl⟩ := wi_nat2 (n := 1) (by decide) h2
    have : u = 0 ∨ u = 1 := by omega
    rcases this with rfl | rfl
    · exact ⟨nI (wst A (aB A) (aS A)), σ', by simp [hs, hb, nI_0, x_worst hs' hX w hn, eb_cl_s], by simp [hd, hd2, g1, g3, eb_cl_s, show (0 : Int64).toInt = 0 from rfl, show (1 : Int64).toInt = 1 from rfl, h2, nI_0, show wi 0 0 1 = true from rfl], g2⟩
    · exact ⟨nI (whl A (aB A) (aS A)), σ', by simp [hs, hb, show nI 1 = 1 from rfl, x_whole hs' hX w hn, eb_cl_s], by simp [hd, hd2, g1, g4, eb_cl_s, show (0 : Int64).toInt = 0 from rfl, show (1 : Int64).toInt = 1 from rfl, h2, show nI 1 = 1 from rfl, show wi 1 0 1 = true from rfl], g2⟩
