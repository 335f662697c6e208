/-! ===== pure: the model reads a market ===== -/
def sAd (k j : Nat) : Prop := k = 91 ∧ (j = 21 ∨ j = 22)
def PD (tl : Nat) (tc : Nat → Nat) (p : Nat) (wr : Bool) (σ : eb_S) : Prop := ShD σ ∧ DT tl tc σ ∧ eb_I σ 91 21 = nI p ∧ eb_I σ 91 22 = eb_b wr ∧ wfT tl tc ∧ p ≤ tl
theorem DT.at {tl : Nat} {tc : Nat → Nat} {σ σ' : eb_S} {S : Nat → Nat → Prop} (h : DT tl tc σ) (hF : Fr S σ σ') (h0 : ¬ S 91 20) (h1 : ∀ j, ¬ S 107 j) : DT tl tc σ' := ⟨by rw [hF.2.2.2.2.2 _ _ h0]; exact h.1, fun j hj => by rw [hF.2.2.2.2.2 _ _ (h1 j)]; exact h.2 j hj⟩
theorem PD.at {tl p q : Nat} {tc : Nat → Nat} {wr wr' : Bool} {σ σ' : eb_S} (h : PD tl tc p wr σ) (hF : Fr sAd σ σ') (hq : eb_I σ' 91 21 = nI q) (hw : eb_I σ' 91 22 = eb_b wr') (hl : q ≤ tl) : PD tl tc q wr' σ' := ⟨hF.shD h.1, h.2.1.at hF (fun z => by unfold sAd at z; omega) (fun j z => by unfold sAd at z; omega), hq, hw, h.2.2.2.2.1, hl⟩
set_option maxHeartbeats 4000000 in
theorem d_here_L {tl n : Nat} {tc : Nat → Nat} {wr : Bool} {K : eb_S → Option (Int32 × eb_S)} : ∀ (d m p : Nat) (σ : eb_S), tl - p = d → d < m → PD tl tc p wr σ → ∃ σ', f_X10_here_L0 n 91 K m σ = K σ' ∧ Fr sAd σ σ' ∧ PD tl tc (skp tl tc p) wr σ' := by
  intro d
  induction d with
  | zero =>
    intro m p σ hd hm hP
    obtain ⟨m, rfl⟩ : ∃ m', m = m' + 1 := ⟨m - 1, by omega⟩
    have hP' := hP
    obtain ⟨t1, ⟨t2, t3⟩, p2, pw, w, p4⟩ := hP
    have w1 := w.1
    unfold ShD at t1
    rw [f_X10_here_L0.eq_2]
    refine ⟨σ, ?_, Fr.rf, by rw [skp_n (by omega)]; exact hP'⟩
    have le : nI tl ≤ nI p := by rw [p_leN (by omega) (by omega)]; omega
    simp [eb_gI, t1, t2, p2, le]
  | succ d ih =>
    intro m p σ hd hm hP
    obtain ⟨m, rfl⟩ : ∃ m', m = m' + 1 := ⟨m - 1, by omega⟩
    have hP' := hP
    obtain ⟨t1, ⟨t2, t3⟩, p2, pw, w, p4⟩ := hP
    have w1 := w.1
    have w2 := w.2 p (by omega)
    unfold ShD at t1
    rw [f_X10_here_L0.eq_2]
    have le : ¬ nI tl ≤ nI p := by rw [p_leN (by omega) (by omega)]; omega
    have e32 : (nI (tc p) = 32) = (tc p = 32) := p_eqN (b := 32) (by omega) (by decide)
    simp only [eb_gI, eb_gR, eb_ai, eb_pI, t1, t2, p2, le, List.mem_singleton, if_true, if_false, true_and, ne_eq, show ¬ (107 : Nat) = 0 by decide, not_false_eq_true, p_in (show p < 80 by omega) (by decide : 80 < 2 ^ 31), p_cl (show p < 2 ^ 31 by omega), t3 p (by omega), e32, nI_1]
    by_cases h : tc p = 32
    · rw [if_pos h]
      have hF : Fr sAd σ (eb_sI σ 91 21 (nI (p + 1))) := Fr.sI ⟨rfl, Or.inl rfl⟩
      obtain ⟨σ', g1, g2, g3⟩ := ih m (p + 1) _ (by omega) (by omega) (hP'.at hF (by rw [eb_I_sI, if_pos rfl, if_pos rfl]) (by rw [eb_I_sI, if_pos rfl, if_neg (by decide)]; exact pw) (by omega))
      rw [skp_s (by omega) h]
      exact ⟨σ', g1, hF.tr g2, g3⟩
    · rw [if_neg h]
      exact ⟨σ, rfl, Fr.rf, by rw [skp_n (by omega)]; exact hP'⟩
theorem d_here {tl n p : Nat} {tc : Nat → Nat} {wr : Bool} (hn : 100 ≤ n) {σ : eb_S} (hP : PD tl tc p wr σ) : ∃ σ', f_X10_here n 91 σ = some (nI (hr tl tc (skp tl tc p)), σ') ∧ Fr sAd σ σ' ∧ PD tl tc (skp tl tc p) wr σ' := by
  have w1 := hP.2.2.2.2.1.1
  obtain ⟨σ1, g1, g2, g3⟩ := d_here_L (n := n) (K := fun (s8 : eb_S) => eb_gI s8 [9] 91 21 fun x9 => eb_gI s8 [9] 91 20 fun x10 => if x10 ≤ x9 then (some ((0 : Int32), s8)) else (eb_gR s8 [9] 91 19 fun r11 => eb_gI s8 [9] 91 21 fun x12 => eb_ai s8 r11 x12 fun x13 => some (x13, s8))) (tl - p) n p σ rfl (by omega) hP
  refine ⟨σ1, ?_, g2, g3⟩
  unfold f_X10_here
  rw [g1]
  obtain ⟨t1, ⟨t2, t3⟩, p2, pw, w, p4⟩ := g3
  unfold ShD at t1
  have cl : (nI tl ≤ nI (skp tl tc p)) = (tl ≤ skp tl tc p) := p_leN (by omega) (by omega)
  unfold hr
  by_cases h : skp tl tc p < tl
  · rw [if_pos h]
    simp [eb_gI, eb_gR, eb_ai, t1, t2, p2, cl, show ¬ tl ≤ skp tl tc p by omega, p_in (show skp tl tc p < 80 by omega) (by decide : 80 < 2 ^ 31), p_cl (show skp tl tc p < 2 ^ 31 by omega), t3 _ h]
  · rw [if_neg h]
    simp [eb_gI, t1, t2, p2, cl, show tl ≤ skp tl tc p by omega, nI_0]
theorem d_has_w {tl n p : Nat} {tc : Nat → Nat} {c : Int32} {σ : eb_S} (hP : PD tl tc p true σ) : ∃ σ', f_X10_has n 91 c σ = some (false, σ') ∧ Fr sAd σ σ' ∧ PD tl tc p true σ' := by
  have hP' := hP
  obtain ⟨t1, t2, p2, pw, w, p4⟩ := hP
  have hF : Fr sAd σ (eb_sI σ 91 21 (nI p + 0)) := Fr.sI ⟨rfl, Or.inl rfl⟩
  have pw : eb_I σ 91 22 = 1 := pw
  refine ⟨_, ?_, hF, hP'.at hF (by rw [eb_I_sI, if_pos rfl, if_pos rfl, Int32.add_zero]) (by rw [eb_I_sI, if_pos rfl, if_neg (by decide)]; exact pw) p4⟩
  unfold ShD at t1
  unfold f_X10_has
  simp [eb_gI, eb_pI, eb_jn_e, eb_zb, t1, pw, p2]
set_option maxHeartbeats 4000000 in
theorem d_has {tl n p c : Nat} {tc : Nat → Nat} (hn : 100 ≤ n) (hc : 0 < c) (hc2 : c < 2 ^ 31) {σ : eb_S} (hP : PD tl tc p false σ) : ∃ σ', f_X10_has n 91 (nI c) σ = some (decide (hr tl tc (skp tl tc p) = c), σ') ∧ Fr sAd σ σ' ∧ PD tl tc (psp tl tc c p) false σ' := by
  obtain ⟨σ1, g1, g2, g3⟩ := d_here hn hP
  have hP' := g3
  have pl := psp_le (tl := tl) (tc := tc) (c := c) hc hP.2.2.2.2.2
  have hb := hr_b hP.2.2.2.2.1 (skp tl tc p)
  obtain ⟨t0, _, _, pw0, _, _⟩ := hP
  obtain ⟨t1, t2, p2, pw, w, p4⟩ := g3
  have pw0 : eb_I σ 91 22 = 0 := pw0
  have pw : eb_I σ1 91 22 = 0 := pw
  have w1 := w.1
  unfold ShD at t0 t1
  have ec : (nI (hr tl tc (skp tl tc p)) = nI c) = (hr tl tc (skp tl tc p) = c) := p_eqN (by omega) hc2
  have hF : Fr sAd σ1 (eb_sI σ1 91 21 (nI (psp tl tc c p))) := Fr.sI ⟨rfl, Or.inl rfl⟩
  refine ⟨_, ?_, g2.tr hF, hP'.at hF (by rw [eb_I_sI, if_pos rfl, if_pos rfl]) (by rw [eb_I_sI, if_pos rfl, if_neg (by decide)]; exact pw) pl⟩
  unfold f_X10_has psp
  by_cases h : hr tl tc (skp tl tc p) = c
  · rw [if_pos h, decide_eq_true h]
    have ec' : (nI (hr tl tc (skp tl tc p)) = nI c) = True := by rw [ec]; exact eq_true h
    simp only [eb_gI, eb_pI, eb_tg, eb_jn_e, eb_zb, t0, t1, pw0, if_true, List.mem_singleton, g1, eb_cl_s, ec', p2, show ¬ (1 : Int32) = 0 by decide, if_false, nI_1]
  · rw [if_neg h, decide_eq_false h]
    have ec' : (nI (hr tl tc (skp tl tc p)) = nI c) = False := by rw [ec]; exact eq_false h
    simp only [eb_gI, eb_pI, eb_tg, eb_jn_e, eb_zb, t0, t1, pw0, if_true, List.mem_singleton, g1, eb_cl_s, ec', p2, if_false, Int32.add_zero]
theorem d_num_w {tl n p : Nat} {tc : Nat → Nat} {σ : eb_S} (hP : PD tl tc p true σ) : ∃ σ', f_X10_number n 91 σ = some (0, σ') ∧ Fr sAd σ σ' ∧ PD tl tc p true σ' := by
  have hP' := hP
  obtain ⟨t1, t2, p2, pw, w, p4⟩ := hP
  have hF : Fr sAd σ (eb_sI σ 91 22 1) := Fr.sI ⟨rfl, Or.inr rfl⟩
  have pw : eb_I σ 91 22 = 1 := pw
  refine ⟨_, ?_, hF, hP'.at hF (by rw [eb_I_sI, if_pos rfl, if_neg (by decide)]; exact p2) (by rw [eb_I_sI, if_pos rfl, if_pos rfl]; rfl) p4⟩
  unfold ShD at t1
  unfold f_X10_number
  simp [eb_gI, eb_pZ, eb_jn_e, t1, pw]
set_option maxHeartbeats 4000000 in
theorem d_num_L {tl n : Nat} {tc : Nat → Nat} {wr : Bool} {v1 : Int32} {K : Int32 → eb_S → Option (Int32 × eb_S)} : ∀ (d m p v : Nat) (σ : eb_S), tl - p = d → d < m → v ≤ 10000 → PD tl tc p wr σ → ∃ σ', f_X10_number_L38 n 91 v1 K m (nI v) σ = K (nI (rn fD tl tc d p v).2) σ' ∧ Fr sAd σ σ' ∧ PD tl tc (rn fD tl tc d p v).1 wr σ' ∧ (rn fD tl tc d p v).2 ≤ 10000 := by
  intro d
  induction d with
  | zero =>
    intro m p v σ hd hm hv hP
    obtain ⟨m, rfl⟩ : ∃ m', m = m' + 1 := ⟨m - 1, by omega⟩
    have hP' := hP
    obtain ⟨t1, ⟨t2, t3⟩, p2, pw, w, p4⟩ := hP
    have w1 := w.1
    unfold ShD at t1
    rw [f_X10_number_L38.eq_2]
    have le : nI tl ≤ nI p := by rw [p_leN (by omega) (by omega)]; omega
    refine ⟨σ, ?_, Fr.rf, hP', hv⟩
    simp only [eb_gI, t1, t2, p2, le, List.mem_singleton, if_true]
    rfl
  | succ d ih =>
    intro m p v σ hd hm hv hP
    obtain ⟨m, rfl⟩ : ∃ m', m = m' + 1 := ⟨m - 1, by omega⟩
    have hP' := hP
    obtain ⟨t1, ⟨t2, t3⟩, p2, pw, w, p4⟩ := hP
    have w1 := w.1
    have w2 := w.2 p (by omega)
    unfold ShD at t1
    rw [f_X10_number_L38.eq_2]
    have le : ¬ nI tl ≤ nI p := by rw [p_leN (by omega) (by omega)]; omega
    have ci := d_in (nI (tc p)).toInt64 48 57 σ
    rw [p_i64, p_ntoInt (by omega), show (48 : Int64).toInt = 48 from rfl, show (57 : Int64).toInt = 57 from rfl] at ci
    have c999 : (nI v ≤ 999) = (v ≤ 999) := p_leN (b := 999) (by omega) (by decide)
    simp only [eb_gI, eb_gR, eb_ai, eb_pI, eb_jn_e, t1, t2, p2, le, List.mem_singleton, if_true, if_false, true_and, ne_eq, show ¬ (107 : Nat) = 0 by decide, not_false_eq_true, p_in (show p < 80 by omega) (by decide : 80 < 2 ^ 31), p_cl (show p < 2 ^ 31 by omega), t3 p (by omega), ci, eb_cl_s, eb_b0, c999, nI_1]
    unfold rn
    by_cases h : 48 ≤ tc p ∧ tc p ≤ 57
    · rw [if_pos (show p < tl ∧ 48 ≤ tc p ∧ tc p ≤ 57 from ⟨by omega, h⟩), wi_t.mpr ⟨by omega, by omega⟩]
      simp only [Bool.true_eq_false, if_false]
      have ev : (10 : Int32) * nI v + nI (tc p) - 48 = nI (10 * v + (tc p - 48)) := by
        rw [show (10 : Int32) = nI 10 from rfl, pk_mul, nI_add, show (48 : Int32) = nI 48 from rfl, pk_sub (by omega), show 10 * v + tc p - 48 = 10 * v + (tc p - 48) by omega]
      have hF : Fr sAd σ (eb_sI σ 91 21 (nI (p + 1))) := Fr.sI ⟨rfl, Or.inl rfl⟩
      obtain ⟨σ', g1, g2, g3, g4⟩ := ih m (p + 1) (fD v (tc p - 48)) _ (by omega) (by omega) (by unfold fD; split <;> omega) (hP'.at hF (by rw [eb_I_sI, if_pos rfl, if_pos rfl]) (by rw [eb_I_sI, if_pos rfl, if_neg (by decide)]; exact pw) (by omega))
      refine ⟨σ', ?_, hF.tr g2, g3, g4⟩
      by_cases e : v ≤ 999
      · have ef : fD v (tc p - 48) = 10 * v + (tc p - 48) := by unfold fD; rw [if_neg (by omega)]
        rw [if_pos e, ev, ← ef]
        exact g1
      · have ef : fD v (tc p - 48) = v := by unfold fD; rw [if_pos (by omega)]
        rw [if_neg e]
        rw [ef] at g1 ⊢
        exact g1
    · rw [if_neg (show ¬ (p < tl ∧ 48 ≤ tc p ∧ tc p ≤ 57) from fun z => h z.2), wi_f.mpr (by omega)]
      simp only [if_true]
      exact ⟨σ, rfl, Fr.rf, hP', hv⟩
theorem rn_st {fn : Nat → Nat → Nat} {tl d p v : Nat} {tc : Nat → Nat} (h : ¬ (p < tl ∧ 48 ≤ tc p ∧ tc p ≤ 57)) : rn fn tl tc d p v = (p, v) := by
  cases d with
  | zero => rfl
  | succ d => unfold rn; rw [if_neg h]
set_option maxHeartbeats 8000000 in
theorem d_number {tl n p : Nat} {tc : Nat → Nat} (hn : 100 ≤ n) {σ : eb_S} (hP : PD tl tc p false σ) : ∃ v σ', f_X10_number n 91 σ = some (v, σ') ∧ Fr sAd σ σ' ∧ PD tl tc (nmP (nmr tl tc p) (skp tl tc p)) (decide (nmr tl tc p = none)) σ' ∧ (nmr tl tc p ≠ none → v = nI (nmV (nmr tl tc p))) := by
  obtain ⟨σ1, g1, g2, g3⟩ := d_here hn hP
  have hP1 := g3
  have hb := hr_b hP.2.2.2.2.1 (skp tl tc p)
  obtain ⟨t0, _, _, pw0, _, _⟩ := hP
  obtain ⟨t1, t2, p2, pw, w, p4⟩ := g3
  have pw0 : eb_I σ 91 22 = 0 := pw0
  have w1 := w.1
  have t1s := t1
  unfold ShD at t0 t1
  have ci := d_in (nI (hr tl tc (skp tl tc p))).toInt64 48 57 σ1
  rw [p_i64, p_ntoInt (by omega), show (48 : Int64).toInt = 48 from rfl, show (57 : Int64).toInt = 57 from rfl] at ci
  have rg := rn_ge (fn := fD) (tl := tl) (tc := tc) (tl - skp tl tc p) (skp tl tc p) 0 p4
  by_cases h : 48 ≤ hr tl tc (skp tl tc p) ∧ hr tl tc (skp tl tc p) ≤ 57
  · rw [wi_t.mpr ⟨by omega, by omega⟩] at ci
    obtain ⟨σ2, k1, k2, k3, k4⟩ := d_num_L (n := n) (v1 := nI (skp tl tc p)) (K := fun (w25 : Int32) (s26 : eb_S) => eb_gI s26 [9] 91 21 fun x27 => eb_jn (fun (y28 : Int32) (s29 : eb_S) => eb_pZ s29 [9] 91 22 y28 fun s31 => eb_gI s31 [9] 91 22 fun x32 => eb_jn (fun (y33 : Int32) (s34 : eb_S) => eb_pI s34 [9] 91 21 y33 fun s36 => some (w25, s36)) fun j35 => if x32 = 0 then (eb_gI s31 [9] 91 21 fun x37 => j35 x37 s31) else (j35 (nI (skp tl tc p)) s31)) fun j30 => eb_jn (fun (s38 : eb_S) => j30 1 s38) fun j39 => if 2 < (x27 - nI (skp tl tc p)) then (j39 s26) else (if w25 = 0 then (j39 s26) else (j30 0 s26))) (tl - skp tl tc p) n (skp tl tc p) 0 σ1 rfl (by omega) (by omega) hP1
    rw [nI_0] at k1
    have run : f_X10_number n 91 σ = f_X10_number_L38 n 91 (nI (skp tl tc p)) (fun (w25 : Int32) (s26 : eb_S) => eb_gI s26 [9] 91 21 fun x27 => eb_jn (fun (y28 : Int32) (s29 : eb_S) => eb_pZ s29 [9] 91 22 y28 fun s31 => eb_gI s31 [9] 91 22 fun x32 => eb_jn (fun (y33 : Int32) (s34 : eb_S) => eb_pI s34 [9] 91 21 y33 fun s36 => some (w25, s36)) fun j35 => if x32 = 0 then (eb_gI s31 [9] 91 21 fun x37 => j35 x37 s31) else (j35 (nI (skp tl tc p)) s31)) fun j30 => eb_jn (fun (s38 : eb_S) => j30 1 s38) fun j39 => if 2 < (x27 - nI (skp tl tc p)) then (j39 s26) else (if w25 = 0 then (j39 s26) else (j30 0 s26))) n 0 σ1 := by
      unfold f_X10_number
      simp only [eb_gI, eb_tg, eb_jn_e, t0, t1, pw0, if_true, List.mem_singleton, g1, eb_cl_s, ci, eb_b0, Bool.true_eq_false, if_false, p2]
    rw [run, k1]
    have at2 := k3.2.2.1
    have t2' := k3.1
    unfold ShD at t2'
    have c2 : ((2 : Int32) < nI (rn fD tl tc (tl - skp tl tc p) (skp tl tc p) 0).1 - nI (skp tl tc p)) = (2 < (rn fD tl tc (tl - skp tl tc p) (skp tl tc p) 0).1 - skp tl tc p) := by
      rw [pk_sub (by omega)]
      exact p_ltN (a := 2) (by decide) (by omega)
    have c0 : (nI (rn fD tl tc (tl - skp tl tc p) (skp tl tc p) 0).2 = 0) = ((rn fD tl tc (tl - skp tl tc p) (skp tl tc p) 0).2 = 0) := p_eqN (b := 0) (by omega) (by decide)
    have F12 := g2.tr k2
    have bad : nmr tl tc p = none → ∃ v σ', (some (nI (rn fD tl tc (tl - skp tl tc p) (skp tl tc p) 0).2, eb_sI (eb_sI σ2 91 22 1) 91 21 (nI (skp tl tc p))) : Option (Int32 × eb_S)) = some (v, σ') ∧ Fr sAd σ σ' ∧ PD tl tc (nmP (nmr tl tc p) (skp tl tc p)) (decide (nmr tl tc p = none)) σ' ∧ (nmr tl tc p ≠ none → v = nI (nmV (nmr tl tc p))) := by
      intro nm
      have hF : Fr sAd σ2 (eb_sI (eb_sI σ2 91 22 1) 91 21 (nI (skp tl tc p))) := (Fr.sI ⟨rfl, Or.inr rfl⟩).tr (Fr.sI ⟨rfl, Or.inl rfl⟩)
      refine ⟨_, _, rfl, F12.tr hF, ?_, fun z => absurd nm z⟩
      rw [nm]
      exact k3.at hF (by rw [eb_I_sI, if_pos rfl, if_pos rfl]; rfl) (by rw [eb_I_sI, if_pos rfl, if_neg (by decide), eb_I_sI, if_pos rfl, if_pos rfl]; rfl) p4
    simp only [eb_gI, eb_pI, eb_pZ, eb_jn_e, t2', if_true, List.mem_singleton, at2, c2, c0, eb_T_sI, eb_R_sI, eb_L_sI, eb_J_sI, eb_N_sI, eb_T_sJ, eb_R_sJ, eb_L_sJ, eb_I_sJ, eb_N_sJ, eb_T_rI, eb_R_rI, eb_L_rI, eb_J_rI, eb_N_rI, eb_T_rJ, eb_R_rJ, eb_L_rJ, eb_I_rJ, eb_N_rJ, eb_I_sI, show ¬ (1 : Int32) = 0 by decide, if_false, true_and, or_true, true_or, show ¬ (21 : Nat) = 22 by decide]
    by_cases h2 : 2 < (rn fD tl tc (tl - skp tl tc p) (skp tl tc p) 0).1 - skp tl tc p
    · rw [if_pos h2]
      exact bad (by unfold nmr; rw [if_pos (Or.inr h2)])
    · rw [if_neg h2]
      by_cases e : (rn fD tl tc (tl - skp tl tc p) (skp tl tc p) 0).2 = 0
      · rw [if_pos e]
        exact bad (by unfold nmr; rw [if_pos (Or.inl e)])
      · rw [if_neg e]
        have nm : nmr tl tc p = some ((rn fD tl tc (tl - skp tl tc p) (skp tl tc p) 0).2, (rn fD tl tc (tl - skp tl tc p) (skp tl tc p) 0).1) := by unfold nmr; rw [if_neg (fun z => z.elim e h2)]
        have hF : Fr sAd σ2 (eb_sI (eb_sI σ2 91 22 0) 91 21 (nI (rn fD tl tc (tl - skp tl tc p) (skp tl tc p) 0).1)) := (Fr.sI ⟨rfl, Or.inr rfl⟩).tr (Fr.sI ⟨rfl, Or.inl rfl⟩)
        refine ⟨_, _, rfl, F12.tr hF, ?_, fun _ => by rw [nm]; rfl⟩
        rw [nm]
        exact k3.at hF (by rw [eb_I_sI, if_pos rfl, if_pos rfl]; rfl) (by rw [eb_I_sI, if_pos rfl, if_neg (by decide), eb_I_sI, if_pos rfl, if_pos rfl]; rfl) rg.2
  · rw [wi_f.mpr (by omega)] at ci
    have nd : ¬ (skp tl tc p < tl ∧ 48 ≤ tc (skp tl tc p) ∧ tc (skp tl tc p) ≤ 57) := fun z => h (by unfold hr; rw [if_pos z.1]; exact z.2)
    have nm : nmr tl tc p = none := by unfold nmr; rw [rn_st nd, if_pos (Or.inl rfl)]
    have hF : Fr sAd σ1 (eb_sI σ1 91 22 1) := Fr.sI ⟨rfl, Or.inr rfl⟩
    refine ⟨0, _, ?_, g2.tr hF, ?_, fun z => absurd nm z⟩
    · unfold f_X10_number
      simp [eb_gI, eb_pZ, eb_tg, eb_jn_e, t0, t1, pw0, g1, eb_cl_s, ci, eb_b0]
    · rw [nm]
      exact hP1.at hF (by rw [eb_I_sI, if_pos rfl, if_neg (by decide)]; exact p2) (by rw [eb_I_sI, if_pos rfl, if_pos rfl]; rfl) p4
