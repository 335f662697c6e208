/-! ===== pure: tray, type ===== -/
set_option maxHeartbeats 8000000 in
theorem eq_tray {A : Nat → Nat → Nat} (w : wf A) {ln sz : Nat → Nat} {it : Nat → Nat → Int64} (wh : wfH ln sz) {n : Nat} (hn : 1000 ≤ n) {σ : eb_S} (hb : ShB σ) (hs9 : ShM9 σ) (hX : MX9 A σ) (hG : ShG σ) (hH : XH ln sz it σ) (hd : ShD σ) (hMD : MD A σ) (hD : DH ln sz it σ) (a b i lim v : Int32) : ∃ r σ1 σ2, f_X9_tray n 8 a b i lim v σ = some (r, σ1) ∧ Fr sG σ σ1 ∧ f_X10_tray n 91 a b i lim v σ1 = some (r, σ2) ∧ Fr sGd σ1 σ2 := by
  have d1 := fun σ => d_isSheet a σ
  have d2 := fun σ => d_isLane b σ
  have hbu := hb
  have hdu := hd
  unfold ShB at hbu
  unfold ShD at hdu
  have bad : (wi lim.toInt 0 9999 = false ∨ wi v.toInt 0 2 = false ∨ wi a.toInt 0 3 = false ∨ wi b.toInt 0 3 = false) → ∃ r σ1 σ2, f_X9_tray n 8 a b i lim v σ = some (r, σ1) ∧ Fr sG σ σ1 ∧ f_X10_tray n 91 a b i lim v σ1 = some (r, σ2) ∧ Fr sGd σ1 σ2 := by
    intro hbad
    have x3 := x_in lim 0 9999 0 9999 rfl rfl _ rfl
    have d3 := d_ins lim 0 9999 0 9999 rfl rfl _ rfl
    have x4 := x_in v 0 2 0 2 rfl rfl _ rfl
    have d4 := d_ins v 0 2 0 2 rfl rfl _ rfl
    refine ⟨-1, σ, σ, ?_, Fr.rf, ?_, Fr.rf⟩
    · unfold f_X9_tray
      rw [x3, eb_cl_s]
      cases h3 : wi lim.toInt 0 9999 with
      | false => simp [eb_b0]
      | true =>
        simp only [eb_b0, Bool.true_eq_false, if_false]
        rw [x4, eb_cl_s]
        cases h4 : wi v.toInt 0 2 with
        | false => simp
        | true =>
          have rb := x_refusal_bad (σ := σ) (a := a) (b := b) (by
            rcases hbad with z | z | z | z
            · rw [h3] at z; cases z
            · rw [h4] at z; cases z
            · exact Or.inl z
            · exact Or.inr z) i 8
          simp [eb_tg, hbu, rb, eb_cl_s, m1n]
    · unfold f_X10_tray
      rw [d1, eb_cl_s]
      cases h1 : wi a.toInt 0 3 with
      | false => simp [eb_b0]
      | true =>
        simp only [eb_b0, Bool.true_eq_false, if_false]
        rw [d2, eb_cl_s]
        cases h2 : wi b.toInt 0 3 with
        | false => simp
        | true =>
          simp only [Bool.true_eq_false, if_false]
          rw [d3, eb_cl_s]
          cases h3 : wi lim.toInt 0 9999 with
          | false => simp
          | true =>
            simp only [Bool.true_eq_false, if_false]
            rw [d4, eb_cl_s]
            cases h4 : wi v.toInt 0 2 with
            | false => simp
            | true => rcases hbad with z | z | z | z <;> simp_all
  cases h3 : wi lim.toInt 0 9999 with
  | false => exact bad (Or.inl h3)
  | true =>
  cases h4 : wi v.toInt 0 2 with
  | false => exact bad (Or.inr (Or.inl h4))
  | true =>
  cases h1 : wi a.toInt 0 3 with
  | false => exact bad (Or.inr (Or.inr (Or.inl h1)))
  | true =>
  cases h2 : wi b.toInt 0 3 with
  | false => exact bad (Or.inr (Or.inr (Or.inr h2)))
  | true =>
  rw [h1] at d1
  rw [h2] at d2
  have x3 := x_in lim 0 9999 0 9999 rfl rfl _ h3
  have d3 := d_ins lim 0 9999 0 9999 rfl rfl _ h3
  have x4 := x_in v 0 2 0 2 rfl rfl _ h4
  have d4 := d_ins v 0 2 0 2 rfl rfl _ h4
  have hl0 : 0 ≤ lim.toInt := (wi_t.mp h3).1
  obtain ⟨s, hs, rfl⟩ := wi_nat2 (n := 3) (by decide) h1
  obtain ⟨l, hl, rfl⟩ := wi_nat2 (n := 3) (by decide) h2
  obtain ⟨u, hu, rfl⟩ := wi_nat2 (n := 2) (by decide) h4
  have hs : s < 4 := by omega
  have xr := x_refusal hb hH wh (s := s) (l := l) hs (by omega) i (nI 8)
  have dr := fun (σ' : eb_S) (hd' : ShD σ') (hD' : DH ln sz it σ') => d_why hd' hD' wh (s := s) (l := l) hs (by omega) i (nI 8) (by decide)
  have e8 : nI 8 = 8 := rfl
  by_cases h5 : (0 : Int32) ≤ rfs ln sz s l i (nI 8)
  · obtain ⟨o1, o2, i', rfl, o3, o4⟩ := rfs_at wh hs (by decide) h5
    rw [o2, e8] at xr
    rw [o2, e8] at dr
    have hln : ln s ≠ 0 := by omega
    have F0 : Fr sG σ (eb_sI σ 78 0 0) := Fr.sI (Or.inl ⟨rfl, rfl⟩)
    obtain ⟨bb, σ1, g1, g2, g3, g4⟩ := x_seat_L w (n := n) (s := s) (i := i') hs hln (by omega) n 0 (eb_sI σ 78 0 0) 0 (F0.shG hG) (F0.shM9 hs9) (F0.mx (fun k j h => by unfold sG at h; omega) hX) (hH.fr F0.fq (fun k j h1 h2 z => by unfold sG at z; omega)) rfl (by rw [eb_I_sI, if_pos rfl, if_pos rfl]; exact nI_0.symm) (fun p hp => by omega) (by omega) (by omega)
    have FG : Fr sG σ σ1 := F0.tr g2
    have hG1 := FG.shG hG
    have hb1 := FG.shB hb
    have hGu := hG
    have hGu1 := hG1
    have hbu1 := hb1
    unfold ShG at hGu hGu1
    unfold ShB at hbu1
    rw [nI_0] at g1
    have seat : f_X2_seat n 78 (82 + 2 * s) (nI i') σ = some (bb, σ1) := by
      unfold f_X2_seat
      simp only [eb_pI, hGu, List.mem_singleton, if_true]
      exact g1
    have hr := hb.sh hs
    have hT := (hH.1.at hs).1
    have pre : ∀ (σ' : eb_S), Fr sG σ σ' → ∃ σ2, Fr sGd σ' σ2 ∧ ((sst A (fun p => it s (i' + p)) 8 = none ∧ f_X10_tray n 91 (nI s) (nI l) (nI i') lim (nI u) σ' = some (-2, σ2)) ∨ (sst A (fun p => it s (i' + p)) 8 ≠ none ∧ f_X10_tray n 91 (nI s) (nI l) (nI i') lim (nI u) σ' = (if 2 ≤ nI u then (f_X10_tray_L218 n 91 lim (nI (fullN (fun p => it s (i' + p)) 8)) n 0 0 σ2) else (if nI u = 1 then (eb_cl (eb_tg σ2 91 9 (f_X10_ordersOf n 91 (nI (fullN (fun p => it s (i' + p)) 8)) lim σ2)) fun x38 s37 => some (x38, s37)) else (eb_cl (eb_tg σ2 91 9 (f_X10_isTipped n 91 (nI (fullN (fun p => it s (i' + p)) 8)) lim σ2)) fun b36 s35 => if (eb_b b36) = 0 then (some (0, s35)) else (some (1, s35))))) ∧ ∀ p, p < 8 → eb_I σ2 119 p = wtA A (fun p => it s (i' + p)) p)) := by
      intro σ' F'
      have hd' := F'.shD hd
      have hMD' : MD A σ' := F'.md (fun k j h => by unfold sG at h; omega) hMD
      have hD' : DH ln sz it σ' := hD.fr F'.fq (fun k j h1 h2 z => by unfold sG at z; omega)
      have dr' := dr σ' hd' hD'
      obtain ⟨σ2, k1, k2⟩ := d_seat_L w (n := n) (s := s) (i := i') hs hln (by omega) (v4 := lim) (v5 := nI u) (K := fun (w26 : Int32) (s27 : eb_S) => if 2 ≤ nI u then (f_X10_tray_L218 n 91 lim w26 n 0 0 s27) else (if nI u = 1 then (eb_cl (eb_tg s27 91 9 (f_X10_ordersOf n 91 w26 lim s27)) fun x38 s37 => some (x38, s37)) else (eb_cl (eb_tg s27 91 9 (f_X10_isTipped n 91 w26 lim s27)) fun b36 s35 => if (eb_b b36) = 0 then (some (0, s35)) else (some (1, s35))))) n 0 σ' 0 hd' hMD' hD' rfl (fun p hp => by omega) (by omega) (by omega)
      have z0 : nI (fullN (fun p => it s (i' + p)) 0) = 0 := nI_0
      rw [z0, nI_0] at k2
      have run : f_X10_tray n 91 (nI s) (nI l) (nI i') lim (nI u) σ' = f_X10_tray_L70 n 91 (nI s) (nI i') lim (nI u) (fun (w26 : Int32) (s27 : eb_S) => if 2 ≤ nI u then (f_X10_tray_L218 n 91 lim w26 n 0 0 s27) else (if nI u = 1 then (eb_cl (eb_tg s27 91 9 (f_X10_ordersOf n 91 w26 lim s27)) fun x38 s37 => some (x38, s37)) else (eb_cl (eb_tg s27 91 9 (f_X10_isTipped n 91 w26 lim s27)) fun b36 s35 => if (eb_b b36) = 0 then (some (0, s35)) else (some (1, s35))))) n 0 0 0 σ' := by
        unfold ShD at hd'
        unfold f_X10_tray
        simp only [d1, d2, d3, d4, eb_cl_s, eb_b0, Bool.true_eq_false, if_false, eb_tg, hd', if_true, dr', show (0 : Int32) ≤ 0 by decide]
      refine ⟨σ2, k1, ?_⟩
      rw [run]
      exact k2
    cases bb with
    | false =>
      have hnone := g3.mp rfl
      obtain ⟨σ2, k1, k2⟩ := pre σ1 FG
      rcases k2 with ⟨z1, z2⟩ | ⟨z1, z2⟩
      · refine ⟨-2, σ1, σ2, ?_, FG, z2, k1⟩
        unfold f_X9_tray
        simp [x3, x4, eb_cl_s, eb_b0, eb_tg, hbu, xr, eb_gR, eb_ar, p_in (show s < 4 by omega) (by decide : 4 < 2 ^ 31), p_cl (show s < 2 ^ 31 by omega), hr, hGu, seat]
      · exact absurd hnone z1
    | true =>
      have hsome : sst A (fun p => it s (i' + p)) 8 ≠ none := fun z => by have := g3.mpr z; cases this
      obtain ⟨q1, q2⟩ := g4 rfl
      have hF8 : fullN (fun p => it s (i' + p)) 8 < 256 := fullN_lt _ 8
      have hw1 : ∀ p, p < 8 → bit (fullN (fun p => it s (i' + p)) 8) p → eb_I σ1 79 p = wtA A (fun p => it s (i' + p)) p := fun p hp hbt => q2 p hp ((full8 _ hp).mp hbt)
      have head : ∀ r σ', (eb_lw (nI u) [((0 : Int32), eb_gR σ1 [8] 8 8 fun r12 => eb_gR σ1 [8] 8 8 fun r13 => eb_gI σ1 [2] r13 0 fun x14 => eb_cl (eb_tg σ1 r12 2 (f_X2_tips n r12 x14 lim σ1)) fun b16 s15 => if (eb_b b16) = 0 then (some ((0 : Int32), s15)) else (some (1, s15))), (1, eb_gR σ1 [8] 8 8 fun r17 => eb_cl (eb_tg σ1 r17 2 (f_X2_orders n r17 lim σ1)) fun x19 s18 => some (x19, s18))] (eb_gR σ1 [8] 8 8 fun r20 => eb_cl (eb_tg σ1 r20 2 (f_X2_safe n r20 lim σ1)) fun x22 s21 => some (x22, s21))) = some (r, σ') → f_X9_tray n 8 (nI s) (nI l) (nI i') lim (nI u) σ = some (r, σ') := by
        intro r σ' hh
        unfold f_X9_tray
        simp only [x3, x4, eb_cl_s, eb_b0, Bool.true_eq_false, if_false, eb_tg, hbu, xr, if_true, show (0 : Int32) ≤ 0 by decide, eb_gR, eb_ar, List.mem_singleton, true_and, ne_eq, show ¬ (78 : Nat) = 0 by decide, show ¬ (81 : Nat) = 0 by decide, not_false_eq_true, p_in (show s < 4 by omega) (by decide : 4 < 2 ^ 31), p_cl (show s < 2 ^ 31 by omega), hr, show ¬ 82 + 2 * s = 0 by omega, hGu, seat] at hh ⊢
        exact hh
      rcases (show u = 0 ∨ u = 1 ∨ u = 2 by omega) with rfl | rfl | rfl
      · have tp := x_tips (n := n) (P := fullN (fun p => it s (i' + p)) 8) (by omega) (by omega) (lim := lim) hG1 hw1
        obtain ⟨σ2, k1, k2⟩ := pre σ1 FG
        rcases k2 with ⟨z1, z2⟩ | ⟨z1, z2, z3⟩
        · exact absurd z1 hsome
        · have hd2 := k1.shD (FG.shD hd)
          have td := d_tips (n := n) (P := fullN (fun p => it s (i' + p)) 8) (by omega) (by omega) (lim := lim) hd2 z3
          unfold ShD at hd2
          refine ⟨if tipb (wtA A (fun p => it s (i' + p))) lim (fullN (fun p => it s (i' + p)) 8) = false then 0 else 1, σ1, σ2, head _ _ ?_, FG, ?_, k1⟩
          · simp only [eb_lw, nI_0, if_true, eb_gR, eb_gI, eb_tg, hbu1, hGu1, q1, tp, eb_cl_s, eb_b0, List.mem_singleton, true_and, ne_eq, show ¬ (78 : Nat) = 0 by decide, not_false_eq_true]
            split <;> rfl
          · rw [z2, nI_0, if_neg (by decide), if_neg (by decide)]
            simp only [eb_tg, hd2, if_true, td, eb_cl_s, eb_b0]
            split <;> rfl
      · obtain ⟨σ3, y1, y2⟩ := x_orders (n := n) (F := fullN (fun p => it s (i' + p)) 8) (by omega) hF8 (lim := lim) hG1 q1 hw1
        have FG3 := FG.tr y2
        obtain ⟨σ2, k1, k2⟩ := pre σ3 FG3
        rcases k2 with ⟨z1, z2⟩ | ⟨z1, z2, z3⟩
        · exact absurd z1 hsome
        · have hd2 := k1.shD (FG3.shD hd)
          obtain ⟨σ4, v1, v2⟩ := d_orders (n := n) (F := fullN (fun p => it s (i' + p)) 8) (by omega) hF8 (lim := lim) hl0 hd2 z3
          unfold ShD at hd2
          refine ⟨WW (wtA A (fun p => it s (i' + p))) lim (fullN (fun p => it s (i' + p)) 8), σ3, σ4, head _ _ ?_, FG3, ?_, k1.tr v2⟩
          · simp only [eb_lw, n_lit1, show ¬ (1 : Int32) = 0 by decide, if_false, if_true, eb_gR, eb_tg, hbu1, hGu1, y1, eb_cl_s, List.mem_singleton, true_and, ne_eq, show ¬ (78 : Nat) = 0 by decide, not_false_eq_true]
          · rw [z2, n_lit1, if_neg (by decide), if_pos rfl]
            simp only [eb_tg, hd2, if_true, v1, eb_cl_s]
      · have sf : f_X2_safe n 78 lim σ1 = some (sfS (wtA A (fun p => it s (i' + p))) lim (fullN (fun p => it s (i' + p)) 8) 8, σ1) := by
          have := x_safe_L (n := n) (F := fullN (fun p => it s (i' + p)) 8) (by omega) hF8 (lim := lim) hG1 q1 hw1 n 0 (by omega) (by omega)
          rw [nI_0] at this
          exact this
        obtain ⟨σ2, k1, k2⟩ := pre σ1 FG
        rcases k2 with ⟨z1, z2⟩ | ⟨z1, z2, z3⟩
        · exact absurd z1 hsome
        · have hd2 := k1.shD (FG.shD hd)
          have sd := d_safe_L (n := n) (F := fullN (fun p => it s (i' + p)) 8) (by omega) hF8 (lim := lim) hd2 z3 n 0 (by omega) (by omega)
          rw [nI_0] at sd
          refine ⟨sfS (wtA A (fun p => it s (i' + p))) lim (fullN (fun p => it s (i' + p)) 8) 8, σ1, σ2, head _ _ ?_, FG, ?_, k1⟩
          · simp only [eb_lw, n_lit2, show ¬ (2 : Int32) = 0 by decide, show ¬ (2 : Int32) = 1 by decide, if_false, if_true, eb_gR, eb_tg, hbu1, hGu1, sf, eb_cl_s, List.mem_singleton, true_and, ne_eq, show ¬ (78 : Nat) = 0 by decide, not_false_eq_true]
          · rw [z2, n_lit2, if_pos (by decide)]
            exact sd
  · have dr' := dr σ hd hD
    rw [e8] at xr dr' h5
    exact ⟨rfs ln sz s l i 8, σ, σ, by unfold f_X9_tray; simp [x3, x4, eb_cl_s, eb_b0, eb_tg, hbu, xr, h5], Fr.rf, by unfold f_X10_tray; simp [d1, d2, d3, d4, eb_cl_s, eb_b0, eb_tg, hdu, dr', h5], Fr.rf⟩
-- the tape
def XT (tl : Nat) (tc : Nat → Nat) (σ : eb_S) : Prop := ShT σ ∧ eb_I σ 57 0 = nI tl ∧ ∀ j, j < tl → eb_I σ 58 j = nI (tc j)
def DT (tl : Nat) (tc : Nat → Nat) (σ : eb_S) : Prop := eb_I σ 91 20 = nI tl ∧ ∀ j, j < tl → eb_I σ 107 j = nI (tc j)
def wfT (tl : Nat) (tc : Nat → Nat) : Prop := tl ≤ 80 ∧ ∀ j, j < tl → 32 ≤ tc j ∧ tc j ≤ 126
def sTp (k j : Nat) : Prop := (k = 57 ∧ j = 0) ∨ k = 58
def sTd (k j : Nat) : Prop := (k = 91 ∧ j = 20) ∨ k = 107
theorem nD_sTd : nD sTd := fun k j h => by unfold sTd at h; omega
theorem Fr.shT {S : Nat → Nat → Prop} {σ σ' : eb_S} (h : Fr S σ σ') (hs : ShT σ) : ShT σ' := by
  unfold ShT at *; rw [h.1, h.2.1, h.2.2.1]; exact hs
theorem char_id : ∀ x, x < 127 → vp_nar .char (((nI x).toUInt32 % 65536).toInt32) = nI x := by
  intro x hx
  rw [pk_vc, pk_char, pk_tn (by omega), Nat.mod_eq_of_lt (by omega)]
set_option maxHeartbeats 4000000 in
theorem eq_type {tl : Nat} {tc : Nat → Nat} (wt : wfT tl tc) {σ : eb_S} (hb : ShB σ) (hT : XT tl tc σ) (hd : ShD σ) (hD : DT tl tc σ) (a : Int32) : ∃ r σ1 σ2 tl' tc', f_X9_type 8 a σ = some (r, σ1) ∧ Fr sTp σ σ1 ∧ XT tl' tc' σ1 ∧ f_X10_type 91 a σ1 = some (r, σ2) ∧ Fr sTd σ1 σ2 ∧ DT tl' tc' σ2 ∧ wfT tl' tc' := by
  obtain ⟨t1, t2, t3⟩ := hT
  obtain ⟨y2, y3⟩ := hD
  have wl := wt.1
  have hbu := hb
  have hdu := hd
  have htu := t1
  unfold ShB at hbu
  unfold ShD at hdu
  unfold ShT at htu
  cases h1 : wi a.toInt 32 126 with
  | false =>
    have x1 := x_in a 32 126 32 126 rfl rfl _ h1
    have d1 := d_ins a 32 126 32 126 rfl rfl _ h1
    exact ⟨-1, σ, σ, tl, tc, by unfold f_X9_type; simp [x1, eb_cl_s, eb_b0], Fr.rf, ⟨t1, t2, t3⟩, by unfold f_X10_type; simp [d1, eb_cl_s, eb_b0], Fr.rf, ⟨y2, y3⟩, wt⟩
  | true =>
  have x1 := x_in a 32 126 32 126 rfl rfl _ h1
  have d1 := d_ins a 32 126 32 126 rfl rfl _ h1
  have c10 : ((80 : Int32) ≤ nI tl) = (80 ≤ tl) := p_leN (a := 80) (by decide) (by omega)
  have c11 : (nI tl = (80 : Int32)) = (tl = 80) := p_eqN (b := 80) (by omega) (by decide)
  by_cases h8 : tl = 80
  · have e : nI 80 = 80 := rfl
    subst h8
    exact ⟨-3, σ, σ, 80, tc, by unfold f_X9_type; simp [x1, eb_cl_s, eb_b0, eb_gR, eb_gI, hbu, htu, t2, e], Fr.rf, ⟨t1, t2, t3⟩, by unfold f_X10_type; simp [d1, eb_cl_s, eb_b0, eb_gI, hdu, y2, e], Fr.rf, ⟨y2, y3⟩, wt⟩
  · have ha := wi_t.mp h1
    obtain ⟨x, hx, rfl⟩ := p_nat (x := a) (n := 127) (by decide) (by omega) (by show a.toInt < 127; omega)
    rw [p_ntoInt (by omega)] at ha
    have ci := char_id x (by omega)
    have F1 : Fr sTp σ (eb_sI (eb_sI σ 58 tl (nI x)) 57 0 (nI (tl + 1))) := (Fr.sI (Or.inr rfl)).tr (Fr.sI (Or.inl ⟨rfl, rfl⟩))
    have hd1 := F1.shD hd
    have y21 : eb_I (eb_sI (eb_sI σ 58 tl (nI x)) 57 0 (nI (tl + 1))) 91 20 = nI tl := by rw [F1.2.2.2.2.2 _ _ (fun z => by unfold sTp at z; omega)]; exact y2
    have F2 : Fr sTd (eb_sI (eb_sI σ 58 tl (nI x)) 57 0 (nI (tl + 1))) (eb_sI (eb_sI (eb_sI (eb_sI σ 58 tl (nI x)) 57 0 (nI (tl + 1))) 107 tl (nI x)) 91 20 (nI (tl + 1))) := (Fr.sI (Or.inr rfl)).tr (Fr.sI (Or.inl ⟨rfl, rfl⟩))
    refine ⟨nI (tl + 1), _, _, tl + 1, rup tc tl x, ?_, F1, ⟨F1.shT t1, by rw [eb_I_sI, if_pos rfl, if_pos rfl], fun j hj => ?_⟩, ?_, F2, ⟨by rw [eb_I_sI, if_pos rfl, if_pos rfl], fun j hj => ?_⟩, ⟨by omega, fun j hj => ?_⟩⟩
    · unfold f_X9_type f_X8_add
      simp [x1, eb_cl_s, eb_b0, eb_gR, eb_gI, eb_pI, eb_wc, eb_tg, hbu, htu, t2, c10, show ¬ 80 ≤ tl by omega, p_in (show tl < 80 by omega) (by decide : 80 < 2 ^ 31), p_cl (show tl < 2 ^ 31 by omega), ci, eb_T_sI, eb_R_sI, eb_L_sI, eb_J_sI, eb_N_sI, eb_T_sJ, eb_R_sJ, eb_L_sJ, eb_I_sJ, eb_N_sJ, eb_T_rI, eb_R_rI, eb_L_rI, eb_J_rI, eb_N_rI, eb_T_rJ, eb_R_rJ, eb_L_rJ, eb_I_rJ, eb_N_rJ, eb_I_sI, nI_1]
    · rw [eb_I_sI, if_neg (by decide), eb_I_sI, if_pos rfl]
      unfold rup
      by_cases e : j = tl
      · rw [if_pos e, if_pos e]
      · rw [if_neg e, if_neg e]; exact t3 j (by omega)
    · unfold ShD at hd1
      unfold f_X10_type
      simp [d1, eb_cl_s, eb_b0, eb_gR, eb_gI, eb_pI, eb_wi, hd1, y21, c11, h8, p_in (show tl < 80 by omega) (by decide : 80 < 2 ^ 31), p_cl (show tl < 2 ^ 31 by omega), eb_T_sI, eb_R_sI, eb_L_sI, eb_J_sI, eb_N_sI, eb_T_sJ, eb_R_sJ, eb_L_sJ, eb_I_sJ, eb_N_sJ, eb_T_rI, eb_R_rI, eb_L_rI, eb_J_rI, eb_N_rI, eb_T_rJ, eb_R_rJ, eb_L_rJ, eb_I_rJ, eb_N_rJ]
      simp [eb_I_sI, y2, nI_1]
    · rw [eb_I_sI, if_neg (by decide), eb_I_sI, if_pos rfl]
      unfold rup
      by_cases e : j = tl
      · rw [if_pos e, if_pos e]
      · rw [if_neg e, if_neg e, eb_I_sI, if_neg (by decide), eb_I_sI, if_neg (by decide)]; exact y3 j (by omega)
    · unfold rup
      by_cases e : j = tl
      · rw [if_pos e]; omega
      · rw [if_neg e]; exact wt.2 j (by omega)
