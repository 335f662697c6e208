/-! ===== pure: market, the component's side ===== -/
def gw (A : Nat → Nat → Nat) (k s : Nat) : Prop := k ≤ 10 ∧ s ≤ 5 ∧ (∀ t, t < k → A 1 t ≤ 3 ∧ 1 ≤ A 2 t ∧ A 2 t ≤ 99 ∧ A 3 t ≤ 5 ∧ A 4 t = 50 ∧ A 5 t = 0) ∧ ∀ t, t < s → 1 ≤ A 7 t ∧ A 7 t ≤ 99 ∧ A 8 t ≤ 1
theorem gw_T {A : Nat → Nat → Nat} {k s a b c : Nat} (h : gw A k s) (hk : k < 10) (ha : a ≤ 3) (hb : 1 ≤ b) (hb2 : b ≤ 99) (hc : c ≤ 5) : gw (addT A k a b c) (k + 1) s := by
  obtain ⟨h1, h2, h3, h4⟩ := h
  refine ⟨by omega, h2, fun t ht => ?_, fun t ht => ?_⟩
  · have e1 : addT A k a b c 1 t = if t = k then a else A 1 t := by simp [addT, aup]
    have e2 : addT A k a b c 2 t = if t = k then b else A 2 t := by simp [addT, aup]
    have e3 : addT A k a b c 3 t = if t = k then c else A 3 t := by simp [addT, aup]
    have e4 : addT A k a b c 4 t = if t = k then 50 else A 4 t := by simp [addT, aup]
    have e5 : addT A k a b c 5 t = if t = k then 0 else A 5 t := by simp [addT, aup]
    rw [e1, e2, e3, e4, e5]
    by_cases e : t = k
    · rw [if_pos e, if_pos e, if_pos e, if_pos e, if_pos e]
      exact ⟨ha, hb, hb2, hc, rfl, rfl⟩
    · simp only [e, if_false]; exact h3 t (by omega)
  · have e7 : addT A k a b c 7 t = A 7 t := by simp [addT, aup]
    have e8 : addT A k a b c 8 t = A 8 t := by simp [addT, aup]
    rw [e7, e8]
    exact h4 t ht
theorem gw_S {A : Nat → Nat → Nat} {k s y u : Nat} (h : gw A k s) (hs : s < 5) (hy : 1 ≤ y) (hy2 : y ≤ 99) (hu : u ≤ 1) : gw (addS A s y u) k (s + 1) := by
  obtain ⟨h1, h2, h3, h4⟩ := h
  refine ⟨h1, by omega, fun t ht => ?_, fun t ht => ?_⟩
  · have e1 : addS A s y u 1 t = A 1 t := by simp [addS, aup]
    have e2 : addS A s y u 2 t = A 2 t := by simp [addS, aup]
    have e3 : addS A s y u 3 t = A 3 t := by simp [addS, aup]
    have e4 : addS A s y u 4 t = A 4 t := by simp [addS, aup]
    have e5 : addS A s y u 5 t = A 5 t := by simp [addS, aup]
    rw [e1, e2, e3, e4, e5]
    exact h3 t ht
  · have e7 : addS A s y u 7 t = if t = s then y else A 7 t := by simp [addS, aup]
    have e8 : addS A s y u 8 t = if t = s then u else A 8 t := by simp [addS, aup]
    rw [e7, e8]
    by_cases e : t = s
    · simp only [e, if_true]; omega
    · simp only [e, if_false]; exact h4 t (by omega)
theorem ths_gw {tl : Nat} {tc : Nat → Nat} : ∀ (d k p : Nat) (A : Nat → Nat → Nat), k + d ≤ 10 → p ≤ tl → gw A k 0 → gw (ths tl tc d A k p).2.1 (ths tl tc d A k p).2.2.1 0 ∧ (ths tl tc d A k p).2.2.2 ≤ tl
  | 0, k, p, A, h1, h2, h3 => ⟨h3, h2⟩
  | d + 1, k, p, A, h1, h2, h3 => by
    have ok := thg_ok (tc := tc) h2
    unfold ths
    by_cases e : (thg tl tc p).2 = none
    · rw [if_pos e]
      exact ⟨h3, ok.1⟩
    · rw [if_neg e]
      have g : gw (thA A k (thg tl tc p).2) (k + 1) 0 := by
        cases hs : (thg tl tc p).2 with
        | none => exact absurd hs e
        | some q =>
          obtain ⟨a, b, c⟩ := q
          have := ok.2 a b c hs
          exact gw_T h3 (by omega) this.1 this.2.1 this.2.2.1 this.2.2.2
      have hq := skp_le (tc := tc) ok.1
      by_cases e2 : k + 1 < 10 ∧ hr tl tc (skp tl tc (thg tl tc p).1) = 44
      · rw [if_pos e2]
        have hl := (hr_lt (tl := tl) (tc := tc) (q := skp tl tc (thg tl tc p).1) (by omega)).1
        exact ths_gw d (k + 1) _ _ (by omega) (by omega) g
      · rw [if_neg e2]
        refine ⟨g, ?_⟩
        show (if k + 1 < 10 then skp tl tc (thg tl tc p).1 else (thg tl tc p).1) ≤ tl
        split
        · exact hq
        · exact ok.1
theorem uph_le {tl : Nat} {tc : Nat → Nat} (e : Nat) : uph tl tc e ≤ 1 := by unfold uph; split <;> omega
theorem stP_le {tl p : Nat} {tc : Nat → Nat} (hp : p ≤ tl) : stP tl tc p ≤ tl := by
  unfold stP
  cases h : nmr tl tc p with
  | none => exact skp_le hp
  | some r =>
    obtain ⟨y, e⟩ := r
    exact psp_le (by decide) (nmr_ok hp h).2.2
theorem sth_gw {tl kk : Nat} {tc : Nat → Nat} : ∀ (d s p : Nat) (A : Nat → Nat → Nat), s + d ≤ 5 → p ≤ tl → gw A kk s → gw (sth tl tc d A s p).2.1 kk (sth tl tc d A s p).2.2.1 ∧ (sth tl tc d A s p).2.2.2 ≤ tl
  | 0, s, p, A, h1, h2, h3 => ⟨h3, h2⟩
  | d + 1, s, p, A, h1, h2, h3 => by
    unfold sth
    by_cases e : nmr tl tc p = none
    · rw [if_pos e]
      exact ⟨h3, skp_le h2⟩
    · rw [if_neg e]
      have sp := stP_le (tc := tc) h2
      have g : gw (stA tl tc A s p) kk (s + 1) := by
        unfold stA
        cases hs : nmr tl tc p with
        | none => exact absurd hs e
        | some r =>
          obtain ⟨y, e'⟩ := r
          have := nmr_ok h2 hs
          exact gw_S h3 (by omega) this.1 this.2.1 (uph_le e')
      have hq := skp_le (tc := tc) sp
      by_cases e2 : s + 1 < 5 ∧ hr tl tc (skp tl tc (stP tl tc p)) = 44
      · rw [if_pos e2]
        have hl := (hr_lt (tl := tl) (tc := tc) (q := skp tl tc (stP tl tc p)) (by omega)).1
        exact sth_gw d (s + 1) _ _ (by omega) (by omega) g
      · rw [if_neg e2]
        refine ⟨g, ?_⟩
        show (if s + 1 < 5 then skp tl tc (stP tl tc p) else stP tl tc p) ≤ tl
        split
        · exact hq
        · exact sp
theorem mkE_gw {tl k : Nat} {tc : Nat → Nat} {R : Bool × (Nat → Nat → Nat) × Nat × Nat} (h : gw R.2.1 k R.2.2.1) (hp : R.2.2.2 ≤ tl) : gw (mkE tl tc k R).2.1 (mkE tl tc k R).2.2.1 (mkE tl tc k R).2.2.2.1 ∧ (mkE tl tc k R).2.2.2.2 ≤ tl := by
  unfold mkE
  by_cases e : R.1 = true
  · rw [if_pos e]; exact ⟨h, skp_le hp⟩
  · rw [if_neg e]; exact ⟨h, hp⟩
theorem mks_gw {tl : Nat} {tc : Nat → Nat} : gw (mks tl tc A0).2.1 (mks tl tc A0).2.2.1 (mks tl tc A0).2.2.2.1 ∧ (mks tl tc A0).2.2.2.2 ≤ tl := by
  have g := ths_gw (tl := tl) (tc := tc) 10 0 0 A0 (by omega) (by omega) ⟨by omega, by omega, fun t ht => by omega, fun t ht => by omega⟩
  have hq := skp_le (tc := tc) g.2
  unfold mks
  by_cases e : (ths tl tc 10 A0 0 0).1 = true
  · rw [if_pos e]
    by_cases e2 : hr tl tc (skp tl tc (ths tl tc 10 A0 0 0).2.2.2) = 59
    · rw [if_pos e2]
      have hl := (hr_lt (tl := tl) (tc := tc) (q := skp tl tc (ths tl tc 10 A0 0 0).2.2.2) (by omega)).1
      have g2 := sth_gw (tl := tl) (tc := tc) (kk := (ths tl tc 10 A0 0 0).2.2.1) 5 0 (skp tl tc (ths tl tc 10 A0 0 0).2.2.2 + 1) (ths tl tc 10 A0 0 0).2.1 (by omega) (by omega) g.1
      exact mkE_gw g2.1 g2.2
    · rw [if_neg e2]
      exact mkE_gw (R := (true, (ths tl tc 10 A0 0 0).2.1, 0, skp tl tc (ths tl tc 10 A0 0 0).2.2.2)) g.1 hq
  · rw [if_neg e]; exact g
set_option maxHeartbeats 8000000 in
theorem x_read {tl n : Nat} {tc : Nat → Nat} (hn : 100 ≤ n) {σ : eb_S} (hT : XT tl tc σ) (w : wfT tl tc) (hM : ShM41 σ) : ∃ σ', f_X8_read n 57 41 σ = some (if (mks tl tc A0).1 = true then nI (mks tl tc A0).2.2.1 else (-20) - nI (mks tl tc A0).2.2.2.2, σ') ∧ Fr sPar σ σ' ∧ DR (mks tl tc A0).2.1 (mks tl tc A0).2.2.1 (mks tl tc A0).2.2.2.1 σ' := by
  have hTu := hT.1
  have hMu := hM
  unfold ShT at hTu
  unfold ShM41 at hMu
  have F0 : Fr sPar σ (eb_sI (eb_sI (eb_sI (eb_sI σ 57 2 0) 41 0 (eb_I σ 41 0 + 1)) 41 1 0) 41 7 0) := (((Fr.sI (Or.inl ⟨rfl, rfl⟩)).tr (Fr.sI (Or.inr (by omega)))).tr (Fr.sI (Or.inr (by omega)))).tr (Fr.sI (Or.inr (by omega)))
  have hP0 : PX tl tc 0 (eb_sI (eb_sI (eb_sI (eb_sI σ 57 2 0) 41 0 (eb_I σ 41 0 + 1)) 41 1 0) 41 7 0) := ⟨hT.at F0 (fun z => by unfold sPar at z; omega) (fun j z => by unfold sPar at z; omega), by simp [eb_I_sI, nI_0], w, by omega⟩
  have hD0 : DR A0 0 0 (eb_sI (eb_sI (eb_sI (eb_sI σ 57 2 0) 41 0 (eb_I σ 41 0 + 1)) 41 1 0) 41 7 0) := by
    refine ⟨F0.shM41 hM, fun i j hi hj => ?_, rfl, rfl⟩
    unfold gG at hj
    by_cases e : i = 0 ∨ i = 6
    · rcases e with e | e <;> subst e
      · simp [tC, tS, sca, eb_I_sI, tE, A0, nI_0]
      · simp [tC, tS, sca, eb_I_sI, tE, A0, nI_0]
    · rw [if_neg e] at hj
      exfalso
      split at hj
      · omega
      · split at hj <;> omega
  obtain ⟨σ1, a1, a2, a3, a4⟩ := x_things (A := A0) hn hP0 hD0
  have t1 := a3.1.1
  unfold ShT at t1
  have tt := hP0.1.1
  unfold ShT at tt
  have pre : f_X8_read n 57 41 σ = (eb_jn (fun (y5 : Int32) (s6 : eb_S) => eb_jn (fun (s8 : eb_S) => eb_jn (fun (s10 : eb_S) => eb_gI s10 [7] 57 2 fun x12 => some (((-20) : Int32) - x12, s10)) fun j11 => if y5 = 0 then (j11 s8) else (eb_gI s8 [7] 57 2 fun x13 => eb_gI s8 [7] 57 0 fun x14 => if x13 < x14 then (j11 s8) else (eb_gI s8 [3] 41 1 fun x15 => some (x15, s8)))) fun j9 => if y5 = 0 then (j9 s6) else (eb_cl (eb_tg s6 57 7 (f_X8_skipBlanks n 57 s6)) fun _u s16 => j9 s16)) fun j7 => eb_jn (fun (s17 : eb_S) => j7 0 s17) fun j18 => if (eb_b (ths tl tc 10 A0 0 0).1) = 0 then (j18 σ1) else (eb_cl (eb_tg σ1 57 7 (f_X8_passes n 57 59 σ1)) fun b20 s19 => eb_jn (fun (s21 : eb_S) => j7 1 s21) fun j22 => if (eb_b b20) = 0 then (j22 s19) else (eb_cl (eb_tg s19 57 7 (f_X8_readStretches n 57 41 s19)) fun b24 s23 => if (eb_b b24) = 0 then (j18 s23) else (j22 s23)))) := by
    unfold f_X8_read f_X3_clearGoods
    have tt' : eb_T (eb_sI (eb_sI (eb_sI (eb_sI σ 57 2 0) 41 0 (eb_I σ 41 0 + 1)) 41 1 0) 41 7 0) 57 = 7 := tt.1
    simp only [eb_pI, eb_gI, eb_tg, hTu, hMu, List.mem_singleton, if_true, eb_T_sI, eb_R_sI, eb_L_sI, eb_J_sI, eb_N_sI, eb_T_sJ, eb_R_sJ, eb_L_sJ, eb_I_sJ, eb_N_sJ, eb_T_rI, eb_R_rI, eb_L_rI, eb_J_rI, eb_N_rI, eb_T_rJ, eb_R_rJ, eb_L_rJ, eb_I_rJ, eb_N_rJ, eb_I_sI, show ¬ (41 : Nat) = 57 by decide, if_false, eb_cl_s, a1]
  -- the end of a fine reading
  have fin : ∀ (kk ss p : Nat) (G : Nat → Nat → Nat) (σ2 : eb_S), Fr sPar σ σ2 → PX tl tc p σ2 → DR G kk ss σ2 → ∃ σ', (eb_cl (eb_tg σ2 57 7 (f_X8_skipBlanks n 57 σ2)) fun _u s16 => (if (1 : Int32) = 0 then (eb_gI s16 [7] 57 2 fun x12 => some (((-20) : Int32) - x12, s16)) else (eb_gI s16 [7] 57 2 fun x13 => eb_gI s16 [7] 57 0 fun x14 => if x13 < x14 then (eb_gI s16 [7] 57 2 fun x12 => some (((-20) : Int32) - x12, s16)) else (eb_gI s16 [3] 41 1 fun x15 => some (x15, s16))))) = some (if (mkE tl tc kk (true, G, ss, p)).1 = true then nI (mkE tl tc kk (true, G, ss, p)).2.2.1 else (-20) - nI (mkE tl tc kk (true, G, ss, p)).2.2.2.2, σ') ∧ Fr sPar σ σ' ∧ DR (mkE tl tc kk (true, G, ss, p)).2.1 (mkE tl tc kk (true, G, ss, p)).2.2.1 (mkE tl tc kk (true, G, ss, p)).2.2.2.1 σ' := by
    intro kk ss p G σ2 F2 hP2 hD2
    have em : mkE tl tc kk (true, G, ss, p) = (decide (tl ≤ skp tl tc p), G, kk, ss, skp tl tc p) := by unfold mkE; rw [if_pos rfl]
    obtain ⟨σ3, g1, g2, g3⟩ := x_skip hn hP2
    have hD3 := hD2.a2 g2
    have t2 := hP2.1.1
    have hM3 := hD3.1
    obtain ⟨⟨t3, l3, _⟩, q3, _, b3⟩ := g3
    unfold ShT at t2 t3
    unfold ShM41 at hM3
    have hN : eb_I σ3 41 1 = nI kk := by
      have := hD3.2.1 0 0 (by decide) (by show 0 < 1; decide)
      rw [hD3.2.2.1] at this
      exact this
    have w1 := w.1
    rw [em]
    refine ⟨σ3, ?_, F2.tr (g2.mono sAt_p), hD3⟩
    have cl : (nI (skp tl tc p) < nI tl) = (skp tl tc p < tl) := p_ltN (by omega) (by omega)
    simp only [eb_tg, t2, if_true, g1, eb_cl_s, show ¬ (1 : Int32) = 0 by decide, if_false, eb_gI, t3, hM3, List.mem_singleton, q3, l3, cl, hN, decide_eq_true_eq]
    by_cases e : skp tl tc p < tl
    · rw [if_pos e, if_neg (by omega)]
    · rw [if_neg e, if_pos (by omega)]
  have bad : ∀ (p : Nat) (σ2 : eb_S), PX tl tc p σ2 → (eb_gI σ2 [7] 57 2 fun x12 => some (((-20) : Int32) - x12, σ2)) = some ((-20) - nI p, σ2) := by
    intro p σ2 hP2
    have t2 := hP2.1.1
    unfold ShT at t2
    simp only [eb_gI, t2, List.mem_singleton, if_true, hP2.2.1]
  rw [pre]
  simp only [eb_jn_e, eb_b0, if_true]
  cases e1 : (ths tl tc 10 A0 0 0).1 with
  | false =>
    have em : mks tl tc A0 = (false, (ths tl tc 10 A0 0 0).2.1, (ths tl tc 10 A0 0 0).2.2.1, 0, (ths tl tc 10 A0 0 0).2.2.2) := by unfold mks; rw [if_neg (by rw [e1]; decide)]
    rw [em]
    refine ⟨σ1, ?_, F0.tr a2, a4⟩
    rw [if_pos rfl, bad _ _ a3]
    simp
  | true =>
    have em : mks tl tc A0 = (if hr tl tc (skp tl tc (ths tl tc 10 A0 0 0).2.2.2) = 59 then mkE tl tc (ths tl tc 10 A0 0 0).2.2.1 (sth tl tc 5 (ths tl tc 10 A0 0 0).2.1 0 (skp tl tc (ths tl tc 10 A0 0 0).2.2.2 + 1)) else mkE tl tc (ths tl tc 10 A0 0 0).2.2.1 (true, (ths tl tc 10 A0 0 0).2.1, 0, skp tl tc (ths tl tc 10 A0 0 0).2.2.2)) := by unfold mks; rw [if_pos e1]
    rw [em, if_neg (show ¬ (true = false) by decide)]
    obtain ⟨σ2, q1, q2, q3⟩ := x_passes (c := 59) hn (by decide) (by decide) a3
    have q1 : f_X8_passes n 57 59 σ1 = some (decide (hr tl tc (skp tl tc (ths tl tc 10 A0 0 0).2.2.2) = 59), σ2) := q1
    have hD2 := a4.a2 q2
    have t2 := q3.1.1
    unfold ShT at t2
    have F2 := (F0.tr a2).tr (q2.mono sAt_p)
    unfold psp at q3
    simp only [eb_tg, t1, if_true, q1, eb_cl_s, decide_eq_false_iff_not]
    by_cases h : hr tl tc (skp tl tc (ths tl tc 10 A0 0 0).2.2.2) = 59
    · rw [if_pos h] at q3
      simp only [h, if_true, not_true_eq_false, if_false]
      obtain ⟨σ3, b1, b2, b3, b4⟩ := x_stretches hn q3 hD2
      simp only [t2, if_true, b1, eb_cl_s]
      generalize sth tl tc 5 (ths tl tc 10 A0 0 0).2.1 0 (skp tl tc (ths tl tc 10 A0 0 0).2.2.2 + 1) = R at b1 b3 b4 ⊢
      obtain ⟨r1, r2, r3, r4⟩ := R
      cases r1 with
      | false =>
        have em2 : mkE tl tc (ths tl tc 10 A0 0 0).2.2.1 (false, r2, r3, r4) = (false, r2, (ths tl tc 10 A0 0 0).2.2.1, r3, r4) := rfl
        rw [em2]
        refine ⟨σ3, ?_, F2.tr b2, b4⟩
        have b3' : PX tl tc r4 σ3 := b3
        have := bad _ _ b3'
        simp only [if_true] at this ⊢
        rw [this]
        simp
      | true =>
        have := fin _ _ _ _ σ3 (F2.tr b2) b3 b4
        simp only [eb_tg] at this
        simp only [Bool.true_eq_false, if_false]
        exact this
    · rw [if_neg h] at q3
      simp only [h, if_false, not_false_eq_true, if_true]
      have := fin _ _ _ _ σ2 F2 q3 hD2
      simp only [eb_tg] at this
      exact this
