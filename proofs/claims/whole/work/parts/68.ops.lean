/-! ===== pure: thing, stretch, rule, off, set ===== -/
theorem bd_n {A : Nat → Nat → Nat} : ∀ i, 0 < i → i < 6 → aN A ≤ bd A i := fun i h1 h2 => by
  unfold bd
  rw [if_neg (by unfold sca; omega), if_pos h2]
  exact Nat.le_refl _
theorem bd_s {A : Nat → Nat → Nat} : ∀ i, 6 < i → i < 9 → aS A ≤ bd A i := fun i h1 h2 => by
  unfold bd
  rw [if_neg (by unfold sca; omega), if_neg (by omega), if_pos h2]
  exact Nat.le_refl _
theorem bd_l {A : Nat → Nat → Nat} : ∀ i, 12 < i → i < 16 → aLn A ≤ bd A i := fun i h1 h2 => by
  unfold bd
  rw [if_neg (by unfold sca; omega), if_neg (by omega), if_neg (by omega), if_neg (by omega), if_neg (by omega), if_pos h2]
  exact Nat.le_refl _
theorem bd_b {A : Nat → Nat → Nat} : ∀ i, 16 < i → i < 19 → aBn A ≤ bd A i := fun i h1 h2 => by
  unfold bd
  rw [if_neg (by unfold sca; omega), if_neg (by omega), if_neg (by omega), if_neg (by omega), if_neg (by omega), if_neg (by omega)]
  exact Nat.le_refl _
theorem nD_sMk : nD sMk := fun k j h => by unfold sMk at h; omega
set_option maxHeartbeats 4000000 in
theorem eq_thing {A : Nat → Nat → Nat} (w : wf A) {ch : Nat} {σ : eb_S} (hb : ShB σ) (h9 : X9 A ch σ) (hd : ShD σ) (hD : MD A σ) (a v : Int32) : OPM (f_X9_thing 8 a v) (f_X10_thing 91 a v) A ch σ := by
  have wN := w.1
  have hbu := hb
  have hdu := hd
  have hsu := h9.1
  unfold ShB at hbu
  unfold ShD at hdu
  unfold ShM9 at hsu
  cases h1 : wi a.toInt 0 3 with
  | false =>
    have x1 := x_in a 0 3 0 3 rfl rfl _ h1
    have d1 := d_ins a 0 3 0 3 rfl rfl _ h1
    exact OPM.same w h9 hD (r := -1) (by unfold f_X9_thing; simp [x1, eb_cl_s, eb_b0]) (by unfold f_X10_thing; simp [d1, eb_cl_s, eb_b0])
  | true =>
  have x1 := x_in a 0 3 0 3 rfl rfl _ h1
  have d1 := d_ins a 0 3 0 3 rfl rfl _ h1
  cases h2 : wi v.toInt 1 99 with
  | false =>
    have x2 := x_in v 1 99 1 99 rfl rfl _ h2
    have d2 := d_ins v 1 99 1 99 rfl rfl _ h2
    exact OPM.same w h9 hD (r := -1) (by unfold f_X9_thing; simp [x1, x2, eb_cl_s, eb_b0]) (by unfold f_X10_thing; simp [d1, d2, eb_cl_s, eb_b0])
  | true =>
  have x2 := x_in v 1 99 1 99 rfl rfl _ h2
  have d2 := d_ins v 1 99 1 99 rfl rfl _ h2
  have xN := h9.2.1.1
  have c10 : ((10 : Int32) ≤ nI (aN A)) = (10 ≤ aN A) := p_leN (a := 10) (by decide) (by omega)
  have c11 : (nI (aN A) = (10 : Int32)) = (aN A = 10) := p_eqN (b := 10) (by omega) (by decide)
  by_cases h10 : aN A = 10
  · have yN := hD.1
    exact OPM.same w h9 hD (r := -3) (by unfold f_X9_thing; simp [x1, x2, eb_cl_s, eb_b0, eb_gR, eb_gI, hbu, hsu, xN, h10, show nI 10 = 10 from rfl]) (by unfold f_X10_thing; simp [d1, d2, eb_cl_s, eb_b0, eb_gI, hdu, yN, h10, show nI 10 = 10 from rfl])
  · obtain ⟨k, hk, rfl⟩ := wi_nat2 (n := 3) (by decide) h1
    have hv := wi_t.mp h2
    obtain ⟨x, hx, rfl⟩ := p_nat (x := v) (n := 100) (by decide) (by omega) (by show v.toInt < 100; omega)
    rw [p_ntoInt (by omega)] at hv
    obtain ⟨σ1, a1, a2, a3, a4⟩ := x_addThing9 h9.1 h9.2.1.ft bd_sca (N := aN A) (k := k) (w := x) (p := 5) xN (by omega) bd_n
    have a1 : f_X3_addThing 9 (nI k) (nI x) 5 σ = some (nI (aN A), σ1) := a1
    have a2 : Fr sMk σ σ1 := a2
    have hd1 := a2.shD hd
    have hD1 := a2.md nD_sMk hD
    obtain ⟨σ2, b1, b2, b3, b4⟩ := d_comes hd1 hD1.ft bd_sca (N := aN A) (k := k) (w := x) (p := 5) hD1.1 (by omega) bd_n
    have b1 : f_X10_comes 91 (nI k) (nI x) 5 σ1 = some ((), σ2) := b1
    have hd2 := b2.shD hd1
    refine ⟨nI (aN A), σ1, σ2, addT A (aN A) k x 5, ch + 1, ?_, a2, ⟨a2.shM9 h9.1, FT.MX9 (a4.cut bd_addT), by rw [a3, h9.2.2, nI_1]⟩, ?_, b2, FT.MD (b4.cut bd_addT), wf_addT w (by omega) (by omega) (by omega) (by omega) (by omega), Or.inr rfl⟩
    · unfold f_X9_thing; simp [x1, x2, eb_cl_s, eb_b0, eb_gR, eb_gI, eb_tg, hbu, hsu, xN, c10, show ¬ 10 ≤ aN A by omega, a1]
    · have yN := hD1.1
      unfold ShD at hd1 hd2
      unfold f_X10_thing; simp [d1, d2, eb_cl_s, eb_b0, eb_gI, eb_tg, hd1, hd2, yN, c11, h10, b1, b3, nI_pred]
set_option maxHeartbeats 4000000 in
theorem eq_stretch {A : Nat → Nat → Nat} (w : wf A) {ch : Nat} {σ : eb_S} (hb : ShB σ) (h9 : X9 A ch σ) (hd : ShD σ) (hD : MD A σ) (a v : Int32) : OPM (f_X9_stretch 8 a v) (f_X10_stretch 91 a v) A ch σ := by
  have wS := w.2.2.1
  have hbu := hb
  have hdu := hd
  have hsu := h9.1
  unfold ShB at hbu
  unfold ShD at hdu
  unfold ShM9 at hsu
  cases h1 : wi a.toInt 1 99 with
  | false =>
    have x1 := x_in a 1 99 1 99 rfl rfl _ h1
    have d1 := d_ins a 1 99 1 99 rfl rfl _ h1
    exact OPM.same w h9 hD (r := -1) (by unfold f_X9_stretch; simp [x1, eb_cl_s, eb_b0]) (by unfold f_X10_stretch; simp [d1, eb_cl_s, eb_b0])
  | true =>
  have x1 := x_in a 1 99 1 99 rfl rfl _ h1
  have d1 := d_ins a 1 99 1 99 rfl rfl _ h1
  have xN := h9.2.1.2.2.2.2.2.2.1
  have c10 : ((5 : Int32) ≤ nI (aS A)) = (5 ≤ aS A) := p_leN (a := 5) (by decide) (by omega)
  have c11 : (nI (aS A) = (5 : Int32)) = (aS A = 5) := p_eqN (b := 5) (by omega) (by decide)
  by_cases h10 : aS A = 5
  · have yN := hD.2.2.2.2.2.2.1
    exact OPM.same w h9 hD (r := -3) (by unfold f_X9_stretch; simp [x1, eb_cl_s, eb_b0, eb_gR, eb_gI, hbu, hsu, xN, h10, show nI 5 = 5 from rfl]) (by unfold f_X10_stretch; simp [d1, eb_cl_s, eb_b0, eb_gI, hdu, yN, h10, show nI 5 = 5 from rfl])
  · have hv := wi_t.mp h1
    obtain ⟨x, hx, rfl⟩ := p_nat (x := a) (n := 100) (by decide) (by omega) (by show a.toInt < 100; omega)
    rw [p_ntoInt (by omega)] at hv
    have key : ∀ u : Nat, u ≤ 1 → (u = 0 ↔ v = 0) → OPM (f_X9_stretch 8 (nI x) v) (f_X10_stretch 91 (nI x) v) A ch σ := by
      intro u hu huv
      obtain ⟨σ1, a1, a2, a3, a4⟩ := x_addStretch9 h9.1 h9.2.1.ft bd_sca (N := aS A) (k := x) (w := u) xN (by omega) bd_s
      have a2 : Fr sMk σ σ1 := a2
      have hd1 := a2.shD hd
      have hD1 := a2.md nD_sMk hD
      have yN := hD1.2.2.2.2.2.2.1
      have f1 := FT.add slOk_dS hD1.ft bd_sca 7 (aS A) x (c := 97) (s := aS A) (v := nI x) (by decide) (by decide) (bd_s 7 (by decide) (by decide)) rfl rfl rfl
      have g1 := bw_sca (b := bd A) (i0 := 7) (n := aS A + 1) (by decide) bd_sca
      have f2 := FT.add slOk_dS f1 g1 8 (aS A) u (c := 98) (s := aS A) (v := nI u) (by decide) (by decide) (by rw [bw_ne (by decide)]; exact bd_s 8 (by decide) (by decide)) rfl rfl rfl
      have g2 := bw_sca (i0 := 8) (n := aS A + 1) (by decide) g1
      have f3 := FT.sc slOk_dS f2 g2 6 (aS A + 1) (c := 91) (s := 6) (v := nI (aS A + 1)) (by decide) (by decide) rfl rfl rfl
      have tin : eb_in (nI (aS A)) 5 = true := p_in (by omega) (by decide)
      have tcl : (nI (aS A)).toNatClampNeg = aS A := p_cl (by omega)
      refine ⟨nI (aS A), σ1, _, addS A (aS A) x u, ch + 1, ?_, a2, ⟨a2.shM9 h9.1, FT.MX9 (a4.cut bd_addS), by rw [a3, h9.2.2, nI_1]⟩, ?_, ((Fr.sI (by unfold sMd; omega)).tr (Fr.sI (by unfold sMd; omega))).tr (Fr.sI (by unfold sMd; omega)), FT.MD (f3.cut bd_addS), wf_addS w (by omega) (by omega) (by omega) (by omega), Or.inr rfl⟩
      · unfold f_X9_stretch
        rcases (show u = 0 ∨ u = 1 by omega) with rfl | rfl
        · have hv0 : v = 0 := huv.mp rfl
          rw [nI_0] at a1
          simp [x1, eb_cl_s, eb_b0, eb_gR, eb_gI, eb_tg, eb_jn_e, hbu, hsu, xN, c10, show ¬ 5 ≤ aS A by omega, hv0, a1]
        · have hv0 : ¬ v = 0 := fun e => absurd (huv.mpr e) (by decide)
          rw [n_lit1] at a1
          simp [x1, eb_cl_s, eb_b0, eb_gR, eb_gI, eb_tg, eb_jn_e, hbu, hsu, xN, c10, show ¬ 5 ≤ aS A by omega, hv0, a1]
      · unfold ShD at hd1
        unfold f_X10_stretch
        rcases (show u = 0 ∨ u = 1 by omega) with rfl | rfl
        · have hv0 : v = 0 := huv.mp rfl
          simp [d1, eb_cl_s, eb_b0, eb_gR, eb_gI, eb_pI, eb_wi, eb_tg, eb_jn_e, hd1, yN, c11, h10, hv0, eb_T_sI, eb_R_sI, eb_L_sI, eb_J_sI, eb_N_sI, eb_T_sJ, eb_R_sJ, eb_L_sJ, eb_I_sJ, eb_N_sJ, eb_T_rI, eb_R_rI, eb_L_rI, eb_J_rI, eb_N_rI, eb_T_rJ, eb_R_rJ, eb_L_rJ, eb_I_rJ, eb_N_rJ, tin, tcl, eb_I_sI, nI_1, nI_0, nI_pred]
        · have hv0 : ¬ v = 0 := fun e => absurd (huv.mpr e) (by decide)
          simp [d1, eb_cl_s, eb_b0, eb_gR, eb_gI, eb_pI, eb_wi, eb_tg, eb_jn_e, hd1, yN, c11, h10, hv0, eb_T_sI, eb_R_sI, eb_L_sI, eb_J_sI, eb_N_sI, eb_T_sJ, eb_R_sJ, eb_L_sJ, eb_I_sJ, eb_N_sJ, eb_T_rI, eb_R_rI, eb_L_rI, eb_J_rI, eb_N_rI, eb_T_rJ, eb_R_rJ, eb_L_rJ, eb_I_rJ, eb_N_rJ, tin, tcl, eb_I_sI, nI_1, n_lit1, nI_pred]
    by_cases hv0 : v = 0
    · exact key 0 (by decide) ⟨fun _ => hv0, fun _ => rfl⟩
    · exact key 1 (by decide) ⟨fun e => absurd e (by decide), fun e => absurd e hv0⟩
set_option maxHeartbeats 4000000 in
theorem eq_rule {A : Nat → Nat → Nat} (w : wf A) {ch : Nat} {σ : eb_S} (hb : ShB σ) (h9 : X9 A ch σ) (hd : ShD σ) (hD : MD A σ) (a b f : Int32) : OPM (f_X9_rule 8 a b f) (f_X10_rule 91 a b f) A ch σ := by
  have wN := w.1
  have wLn := w.2.2.2.2.2.2.1
  have hbu := hb
  have hdu := hd
  have hsu := h9.1
  unfold ShB at hbu
  unfold ShD at hdu
  unfold ShM9 at hsu
  have it := x_isThing hb h9.1 h9.2.1 w a
  have dt := d_isThing hd hD w a.toInt64
  have iu := x_isThing hb h9.1 h9.2.1 w b
  have du := d_isThing hd hD w b.toInt64
  rw [p_i64] at dt du
  cases h1 : wi a.toInt 0 ((aN A : Int) - 1) with
  | false =>
    rw [h1] at it dt
    exact OPM.same w h9 hD (r := -1) (by unfold f_X9_rule; simp [eb_tg, hbu, it, eb_cl_s, eb_b0]) (by unfold f_X10_rule; simp [eb_tg, hdu, dt, eb_cl_s, eb_b0])
  | true =>
  rw [h1] at it dt
  cases h2 : wi b.toInt 0 ((aN A : Int) - 1) with
  | false =>
    rw [h2] at iu du
    exact OPM.same w h9 hD (r := -1) (by unfold f_X9_rule; simp [eb_tg, hbu, it, iu, eb_cl_s, eb_b0]) (by unfold f_X10_rule; simp [eb_tg, hdu, dt, du, eb_cl_s, eb_b0])
  | true =>
  rw [h2] at iu du
  by_cases hab : a = b
  · subst hab
    exact OPM.same w h9 hD (r := -1) (by unfold f_X9_rule; simp [eb_tg, hbu, it, eb_cl_s, eb_b0]) (by unfold f_X10_rule; simp [eb_tg, hdu, dt, eb_cl_s, eb_b0])
  cases h3 : wi f.toInt 0 1 with
  | false =>
    have x3 := x_in f 0 1 0 1 rfl rfl _ h3
    have d3 := d_ins f 0 1 0 1 rfl rfl _ h3
    exact OPM.same w h9 hD (r := -1) (by unfold f_X9_rule; simp [eb_tg, hbu, it, iu, hab, x3, eb_cl_s, eb_b0]) (by unfold f_X10_rule; simp [eb_tg, hdu, dt, du, hab, d3, eb_cl_s, eb_b0])
  | true =>
  have x3 := x_in f 0 1 0 1 rfl rfl _ h3
  have d3 := d_ins f 0 1 0 1 rfl rfl _ h3
  have xN := h9.2.1.2.2.2.2.2.2.2.2.2.2.2.2.1
  have c10 : ((8 : Int32) ≤ nI (aLn A)) = (8 ≤ aLn A) := p_leN (a := 8) (by decide) (by omega)
  have c11 : (nI (aLn A) = (8 : Int32)) = (aLn A = 8) := p_eqN (b := 8) (by omega) (by decide)
  by_cases h10 : aLn A = 8
  · have yN := hD.2.2.2.2.2.2.2.2.2.2.2.2.1
    exact OPM.same w h9 hD (r := -3) (by unfold f_X9_rule; simp [eb_tg, it, iu, hab, x3, eb_cl_s, eb_b0, eb_gR, eb_gI, hbu, hsu, xN, h10, show nI 8 = 8 from rfl]) (by unfold f_X10_rule; simp [eb_tg, dt, du, hab, d3, eb_cl_s, eb_b0, eb_gI, hdu, yN, h10, show nI 8 = 8 from rfl])
  · obtain ⟨p, hp, rfl⟩ := wi_nat (by omega) h1
    obtain ⟨q, hq, rfl⟩ := wi_nat (by omega) h2
    obtain ⟨k, hk, rfl⟩ := wi_nat2 (n := 1) (by decide) h3
    obtain ⟨σ1, a1, a2, a3, a4⟩ := x_addLaw h9.1 h9.2.1.ft bd_sca (N := aLn A) (k := p) (w := q) (p := k) xN (by omega) bd_l
    have a2 : Fr sMk σ σ1 := a2
    have hd1 := a2.shD hd
    have hD1 := a2.md nD_sMk hD
    have yN := hD1.2.2.2.2.2.2.2.2.2.2.2.2.1
    have dt1 := d_isThing hd1 hD1 w (nI p).toInt64
    have du1 := d_isThing hd1 hD1 w (nI q).toInt64
    rw [p_i64, h1] at dt1
    rw [p_i64, h2] at du1
    have f1 := FT.add slOk_dS hD1.ft bd_sca 13 (aLn A) p (c := 102) (s := aLn A) (v := nI p) (by decide) (by decide) (bd_l 13 (by decide) (by decide)) rfl rfl rfl
    have g1 := bw_sca (b := bd A) (i0 := 13) (n := aLn A + 1) (by decide) bd_sca
    have f2 := FT.add slOk_dS f1 g1 14 (aLn A) q (c := 103) (s := aLn A) (v := nI q) (by decide) (by decide) (by rw [bw_ne (by decide)]; exact bd_l 14 (by decide) (by decide)) rfl rfl rfl
    have g2 := bw_sca (i0 := 14) (n := aLn A + 1) (by decide) g1
    have f3 := FT.add slOk_dS f2 g2 15 (aLn A) k (c := 104) (s := aLn A) (v := nI k) (by decide) (by decide) (by rw [bw_ne (by decide), bw_ne (by decide)]; exact bd_l 15 (by decide) (by decide)) rfl rfl rfl
    have g3 := bw_sca (i0 := 15) (n := aLn A + 1) (by decide) g2
    have f4 := FT.sc slOk_dS f3 g3 12 (aLn A + 1) (c := 91) (s := 12) (v := nI (aLn A + 1)) (by decide) (by decide) rfl rfl rfl
    have tin : eb_in (nI (aLn A)) 8 = true := p_in (by omega) (by decide)
    have tcl : (nI (aLn A)).toNatClampNeg = aLn A := p_cl (by omega)
    refine ⟨nI (aLn A), σ1, _, addL A (aLn A) p q k, ch + 1, ?_, a2, ⟨a2.shM9 h9.1, FT.MX9 (a4.cut bd_addL), by rw [a3, h9.2.2, nI_1]⟩, ?_, (((Fr.sI (by unfold sMd; omega)).tr (Fr.sI (by unfold sMd; omega))).tr (Fr.sI (by unfold sMd; omega))).tr (Fr.sI (by unfold sMd; omega)), FT.MD (f4.cut bd_addL), wf_addL w (by omega) hp hq (fun e => hab (by rw [e])) (by omega), Or.inr rfl⟩
    · unfold f_X9_rule; simp [it, iu, hab, x3, eb_cl_s, eb_b0, eb_gR, eb_gI, eb_tg, hbu, hsu, xN, c10, show ¬ 8 ≤ aLn A by omega, a1]
    · unfold ShD at hd1
      unfold f_X10_rule
      simp [dt1, du1, hab, d3, eb_cl_s, eb_b0, eb_gR, eb_gI, eb_pI, eb_wi, eb_tg, hd1, yN, c11, h10, eb_T_sI, eb_R_sI, eb_L_sI, eb_J_sI, eb_N_sI, eb_T_sJ, eb_R_sJ, eb_L_sJ, eb_I_sJ, eb_N_sJ, eb_T_rI, eb_R_rI, eb_L_rI, eb_J_rI, eb_N_rI, eb_T_rJ, eb_R_rJ, eb_L_rJ, eb_I_rJ, eb_N_rJ, tin, tcl, eb_I_sI, nI_1, nI_pred]
set_option maxHeartbeats 4000000 in
theorem eq_off {A : Nat → Nat → Nat} (w : wf A) {ch : Nat} {σ : eb_S} (hb : ShB σ) (h9 : X9 A ch σ) (hd : ShD σ) (hD : MD A σ) : OPM (f_X9_off 8) (f_X10_off 91) A ch σ := by
  have wLn := w.2.2.2.2.2.2.1
  have hbu := hb
  have hdu := hd
  have hsu := h9.1
  unfold ShB at hbu
  unfold ShD at hdu
  unfold ShM9 at hsu
  have xN := h9.2.1.2.2.2.2.2.2.2.2.2.2.2.2.1
  have yN := hD.2.2.2.2.2.2.2.2.2.2.2.2.1
  have c10 : (nI (aLn A) ≤ (0 : Int32)) = (aLn A ≤ 0) := p_leN (b := 0) (by omega) (by decide)
  have c11 : (nI (aLn A) = (0 : Int32)) = (aLn A = 0) := p_eqN (b := 0) (by omega) (by decide)
  by_cases h10 : aLn A = 0
  · exact OPM.same w h9 hD (r := -4) (by unfold f_X9_off; simp [eb_gR, eb_gI, hbu, hsu, xN, c10, h10, nI_0]) (by unfold f_X10_off; simp [eb_gI, hdu, yN, c11, h10, nI_0])
  · obtain ⟨l, hl⟩ : ∃ l, aLn A = l + 1 := ⟨aLn A - 1, by omega⟩
    have xc := h9.2.2
    have f0 := FT.ch h9.2.1.ft (v := nI (ch + 1))
    have f1 := FT.sc slOk_tS f0 bd_sca 12 l (c := 9) (s := 13) (v := nI l) (by decide) (by decide) rfl rfl rfl
    have a2 : Fr sMk σ (eb_sI (eb_sI σ 9 0 (nI (ch + 1))) 9 13 (nI l)) := (Fr.sI (by unfold sMk; omega)).tr (Fr.sI (by unfold sMk; omega))
    have hd1 := a2.shD hd
    have hD1 := a2.md nD_sMk hD
    have yN1 := hD1.2.2.2.2.2.2.2.2.2.2.2.2.1
    have f2 := FT.sc slOk_dS hD1.ft bd_sca 12 l (c := 91) (s := 12) (v := nI l) (by decide) (by decide) rfl rfl rfl
    have hcut : ∀ i, i < 19 → bd (aup A 12 0 l) i ≤ bd A i := fun i hi => by
      have hl' : A 12 0 = l + 1 := hl
      rcases lt19 hi with rfl | rfl | rfl | rfl | rfl | rfl | rfl | rfl | rfl | rfl | rfl | rfl | rfl | rfl | rfl | rfl | rfl | rfl | rfl <;> simp [bd, sca, aup, aN, aS, aLn, aBn, hl']
    refine ⟨nI l, _, _, aup A 12 0 l, ch + 1, ?_, a2, ⟨a2.shM9 h9.1, FT.MX9 (f1.cut hcut), by simp [eb_I_sI]⟩, ?_, Fr.sI (by unfold sMd; omega), FT.MD (f2.cut hcut), wf_off w (by omega), Or.inr rfl⟩
    · unfold f_X9_off f_X3_dropLaw
      rw [hl] at xN c10
      simp [eb_gR, eb_gI, eb_pI, eb_tg, eb_cl_s, hbu, hsu, xN, xc, c10, eb_T_sI, eb_R_sI, eb_L_sI, eb_J_sI, eb_N_sI, eb_T_sJ, eb_R_sJ, eb_L_sJ, eb_I_sJ, eb_N_sJ, eb_T_rI, eb_R_rI, eb_L_rI, eb_J_rI, eb_N_rI, eb_T_rJ, eb_R_rJ, eb_L_rJ, eb_I_rJ, eb_N_rJ, eb_I_sI, nI_1, nI_pred]
    · unfold ShD at hd1
      unfold f_X10_off
      rw [hl] at yN1 c11
      simp [eb_gI, eb_pI, hd1, yN1, c11, eb_T_sI, eb_R_sI, eb_L_sI, eb_J_sI, eb_N_sI, eb_T_sJ, eb_R_sJ, eb_L_sJ, eb_I_sJ, eb_N_sJ, eb_T_rI, eb_R_rI, eb_L_rI, eb_J_rI, eb_N_rI, eb_T_rJ, eb_R_rJ, eb_L_rJ, eb_I_rJ, eb_N_rJ, eb_I_sI, nI_pred]
theorem wi_neL {a : Int32} {l h : Int} (h2 : wi a.toInt l h = false) {k : Int32} (hk : l ≤ k.toInt ∧ k.toInt ≤ h) : a ≠ k := fun e => wi_f.mp h2 (by rw [e]; exact hk)
theorem wf_set1 {A : Nat → Nat → Nat} (wA : wf A) {t x : Nat} (h1 : 1 ≤ x) (h2 : x ≤ 99) : wf (aup A 2 t x) := by
  obtain ⟨wN, wT, wS, wY, wB, wR, wLn, wL, wBn, wE⟩ := wA
  have e1 : ∀ u, aW (aup A 2 t x) u = if u = t then x else aW A u := fun u => by simp [aup, aW]
  refine ⟨wN, fun u hu => ?_, wS, wY, wB, wR, wLn, wL, wBn, wE⟩
  have h := wT u hu
  rw [e1]
  show aK A u ≤ 3 ∧ 1 ≤ _ ∧ _ ≤ 99 ∧ aP A u ≤ 5 ∧ aL A u ≤ 100 ∧ aB A u ≤ 2
  by_cases e : u = t
  · rw [if_pos e]; omega
  · rw [if_neg e]; omega
theorem d_told1 {A : Nat → Nat → Nat} (w : wf A) {σ : eb_S} (hd : ShD σ) (hD : MD A σ) {t n : Nat} (ht : t < aN A) : f_X10_told n 91 (nI t) 1 σ = some (nI (A 2 t), σ) := by
  have wN := w.1
  have dt := d_isThing hd hD w (nI t).toInt64
  rw [p_i64, p_ntoInt (by omega), wi_t.mpr ⟨by omega, by omega⟩] at dt
  have y := hD.ft 2 t (by decide) (show t < aN A from ht)
  have y : eb_I σ 93 t = nI (A 2 t) := y
  unfold ShD at hd
  unfold f_X10_told
  simp [eb_tg, hd, dt, eb_cl_s, eb_b0, eb_sw, eb_gR, eb_ai, p_in (show t < 10 by omega) (by decide : 10 < 2 ^ 31), p_cl (show t < 2 ^ 31 by omega), y]
theorem wf_set2 {A : Nat → Nat → Nat} (wA : wf A) {t x : Nat} (h1 : 0 ≤ x) (h2 : x ≤ 5) : wf (aup A 3 t x) := by
  obtain ⟨wN, wT, wS, wY, wB, wR, wLn, wL, wBn, wE⟩ := wA
  have e1 : ∀ u, aP (aup A 3 t x) u = if u = t then x else aP A u := fun u => by simp [aup, aP]
  refine ⟨wN, fun u hu => ?_, wS, wY, wB, wR, wLn, wL, wBn, wE⟩
  have h := wT u hu
  rw [e1]
  show aK A u ≤ 3 ∧ 1 ≤ aW A u ∧ aW A u ≤ 99 ∧ _ ≤ 5 ∧ aL A u ≤ 100 ∧ aB A u ≤ 2
  by_cases e : u = t
  · rw [if_pos e]; omega
  · rw [if_neg e]; omega
theorem d_told2 {A : Nat → Nat → Nat} (w : wf A) {σ : eb_S} (hd : ShD σ) (hD : MD A σ) {t n : Nat} (ht : t < aN A) : f_X10_told n 91 (nI t) 2 σ = some (nI (A 3 t), σ) := by
  have wN := w.1
  have dt := d_isThing hd hD w (nI t).toInt64
  rw [p_i64, p_ntoInt (by omega), wi_t.mpr ⟨by omega, by omega⟩] at dt
  have y := hD.ft 3 t (by decide) (show t < aN A from ht)
  have y : eb_I σ 94 t = nI (A 3 t) := y
  unfold ShD at hd
  unfold f_X10_told
  simp [eb_tg, hd, dt, eb_cl_s, eb_b0, eb_sw, eb_gR, eb_ai, p_in (show t < 10 by omega) (by decide : 10 < 2 ^ 31), p_cl (show t < 2 ^ 31 by omega), y]
theorem wf_set3 {A : Nat → Nat → Nat} (wA : wf A) {t x : Nat} (h1 : 0 ≤ x) (h2 : x ≤ 100) : wf (aup A 4 t x) := by
  obtain ⟨wN, wT, wS, wY, wB, wR, wLn, wL, wBn, wE⟩ := wA
  have e1 : ∀ u, aL (aup A 4 t x) u = if u = t then x else aL A u := fun u => by simp [aup, aL]
  refine ⟨wN, fun u hu => ?_, wS, wY, wB, wR, wLn, wL, wBn, wE⟩
  have h := wT u hu
  rw [e1]
  show aK A u ≤ 3 ∧ 1 ≤ aW A u ∧ aW A u ≤ 99 ∧ aP A u ≤ 5 ∧ _ ≤ 100 ∧ aB A u ≤ 2
  by_cases e : u = t
  · rw [if_pos e]; omega
  · rw [if_neg e]; omega
theorem d_told3 {A : Nat → Nat → Nat} (w : wf A) {σ : eb_S} (hd : ShD σ) (hD : MD A σ) {t n : Nat} (ht : t < aN A) : f_X10_told n 91 (nI t) 3 σ = some (nI (A 4 t), σ) := by
  have wN := w.1
  have dt := d_isThing hd hD w (nI t).toInt64
  rw [p_i64, p_ntoInt (by omega), wi_t.mpr ⟨by omega, by omega⟩] at dt
  have y := hD.ft 4 t (by decide) (show t < aN A from ht)
  have y : eb_I σ 95 t = nI (A 4 t) := y
  unfold ShD at hd
  unfold f_X10_told
  simp [eb_tg, hd, dt, eb_cl_s, eb_b0, eb_sw, eb_gR, eb_ai, p_in (show t < 10 by omega) (by decide : 10 < 2 ^ 31), p_cl (show t < 2 ^ 31 by omega), y]
theorem wf_set4 {A : Nat → Nat → Nat} (wA : wf A) {t x : Nat} (h1 : 0 ≤ x) (h2 : x ≤ 2) : wf (aup A 5 t x) := by
  obtain ⟨wN, wT, wS, wY, wB, wR, wLn, wL, wBn, wE⟩ := wA
  have e1 : ∀ u, aB (aup A 5 t x) u = if u = t then x else aB A u := fun u => by simp [aup, aB]
  refine ⟨wN, fun u hu => ?_, wS, wY, wB, wR, wLn, wL, wBn, wE⟩
  have h := wT u hu
  rw [e1]
  show aK A u ≤ 3 ∧ 1 ≤ aW A u ∧ aW A u ≤ 99 ∧ aP A u ≤ 5 ∧ aL A u ≤ 100 ∧ _ ≤ 2
  by_cases e : u = t
  · rw [if_pos e]; omega
  · rw [if_neg e]; omega
theorem d_told4 {A : Nat → Nat → Nat} (w : wf A) {σ : eb_S} (hd : ShD σ) (hD : MD A σ) {t n : Nat} (ht : t < aN A) : f_X10_told n 91 (nI t) 4 σ = some (nI (A 5 t), σ) := by
  have wN := w.1
  have dt := d_isThing hd hD w (nI t).toInt64
  rw [p_i64, p_ntoInt (by omega), wi_t.mpr ⟨by omega, by omega⟩] at dt
  have y := hD.ft 5 t (by decide) (show t < aN A from ht)
  have y : eb_I σ 96 t = nI (A 5 t) := y
  unfold ShD at hd
  unfold f_X10_told
  simp [eb_tg, hd, dt, eb_cl_s, eb_b0, eb_sw, eb_gR, eb_ai, p_in (show t < 10 by omega) (by decide : 10 < 2 ^ 31), p_cl (show t < 2 ^ 31 by omega), y]
set_option maxHeartbeats 8000000 in
theorem eq_set {A : Nat → Nat → Nat} (w : wf A) {ch n : Nat} {σ : eb_S} (hb : ShB σ) (h9 : X9 A ch σ) (hd : ShD σ) (hD : MD A σ) (a f v : Int32) : OPM (f_X9_set 8 a f v) (f_X10_set n 91 a f v) A ch σ := by
  have wN := w.1
  have hbu := hb
  have hdu := hd
  have hsu := h9.1
  unfold ShB at hbu
  unfold ShD at hdu
  unfold ShM9 at hsu
  have it := x_isThing hb h9.1 h9.2.1 w a
  have dt := d_isThing hd hD w a.toInt64
  rw [p_i64] at dt
  cases h1 : wi a.toInt 0 ((aN A : Int) - 1) with
  | false =>
    rw [h1] at it dt
    exact OPM.same w h9 hD (r := -1) (by unfold f_X9_set; simp [eb_tg, hbu, it, eb_cl_s, eb_b0]) (by unfold f_X10_set; simp [eb_tg, hdu, dt, eb_cl_s, eb_b0])
  | true =>
  rw [h1] at it dt
  obtain ⟨t, ht, rfl⟩ := wi_nat (by omega) h1
  have tin : eb_in (nI t) 10 = true := p_in (by omega) (by decide)
  have tcl : (nI t).toNatClampNeg = t := p_cl (by omega)
  cases h2 : wi f.toInt 1 4 with
  | false =>
    have e1 := wi_neL h2 (k := 1) (by decide)
    have e2 := wi_neL h2 (k := 2) (by decide)
    have e3 := wi_neL h2 (k := 3) (by decide)
    have e4 := wi_neL h2 (k := 4) (by decide)
    have d2 := d_ins f 1 4 1 4 rfl rfl _ h2
    exact OPM.same w h9 hD (r := -1) (by unfold f_X9_set; simp [eb_tg, hbu, it, eb_sw, e1, e2, e3, e4, eb_cl_s, eb_b0]) (by unfold f_X10_set; simp [eb_tg, hdu, dt, d2, eb_cl_s, eb_b0])
  | true =>
  have hf := wi_t.mp h2
  obtain ⟨u, hu, rfl⟩ := p_nat (x := f) (n := 5) (by decide) (by omega) (by show f.toInt < 5; omega)
  rw [p_ntoInt (by omega)] at hf
  rcases (show u = 1 ∨ u = 2 ∨ u = 3 ∨ u = 4 by omega) with rfl | rfl | rfl | rfl
  · have dU : ∀ σ, f_X10_in 1 1 4 σ = some (true, σ) := fun σ => by rw [d_in]; rfl
    have dU' : ∀ σ, f_X10_in ((1 : Int32).toInt64) 1 4 σ = some (true, σ) := fun σ => by rw [d_in]; rfl
    rw [n_lit1]
    cases h3 : wi v.toInt 1 99 with
    | false =>
      have x3 := x_in v 1 99 1 99 rfl rfl _ h3
      have d3 := d_ins v 1 99 1 99 rfl rfl _ h3
      exact OPM.same w h9 hD (r := -1) (by unfold f_X9_set; simp [eb_tg, hbu, it, x3, eb_sw, eb_cl_s, eb_b0]) (by unfold f_X10_set; simp [eb_tg, hdu, dt, dU, dU', d3, eb_jn_e, eb_cl_s, eb_b0])
    | true =>
      have x3 := x_in v 1 99 1 99 rfl rfl _ h3
      have d3 := d_ins v 1 99 1 99 rfl rfl _ h3
      have hv := wi_t.mp h3
      obtain ⟨x, hx, rfl⟩ := p_nat (x := v) (n := 100) (by decide) (by omega) (by show v.toInt < 100; omega)
      rw [p_ntoInt (by omega)] at hv
      obtain ⟨σ1, a1, a2, a3⟩ := x_put h9 2 t x (c := 11) (v := nI x) (by decide) (by decide) rfl (show t < aN A from ht) rfl (by simp [hsu]) (by rw [show eb_L σ 11 = 10 by simp [hsu]]; exact tin) (by omega)
      have a1 : f_X3_put 9 11 (nI t) (nI x) σ = some (nI (A 2 t), σ1) := a1
      have hd1 := a2.shD hd
      have hD1 := a2.md nD_sMk hD
      have dt1 := d_isThing hd1 hD1 w (nI t).toInt64
      rw [p_i64, h1] at dt1
      have tl := d_told1 w hd1 hD1 (t := t) (n := n) ht
      obtain ⟨m0, r0⟩ := d_put hD1 2 t x (c := 93) (v := nI x) (by decide) (by decide) rfl rfl
      have y1 : eb_I (eb_sI σ1 93 t (nI x)) 94 t = nI ((aup A 2 t x) 3 t) := m0.ft 3 t (by decide) (show t < aN A from ht)
      obtain ⟨m1, r1⟩ := d_put0 m0 3 t (c := 94) (v := eb_I (eb_sI σ1 93 t (nI x)) 94 t) (by decide) (by decide) rfl y1
      have y2 : eb_I (eb_sI (eb_sI σ1 93 t (nI x)) 94 t (eb_I (eb_sI σ1 93 t (nI x)) 94 t)) 95 t = nI ((aup A 2 t x) 4 t) := m1.ft 4 t (by decide) (show t < aN A from ht)
      obtain ⟨m2, r2⟩ := d_put0 m1 4 t (c := 95) (v := eb_I (eb_sI (eb_sI σ1 93 t (nI x)) 94 t (eb_I (eb_sI σ1 93 t (nI x)) 94 t)) 95 t) (by decide) (by decide) rfl y2
      have y3 : eb_I (eb_sI (eb_sI (eb_sI σ1 93 t (nI x)) 94 t (eb_I (eb_sI σ1 93 t (nI x)) 94 t)) 95 t (eb_I (eb_sI (eb_sI σ1 93 t (nI x)) 94 t (eb_I (eb_sI σ1 93 t (nI x)) 94 t)) 95 t)) 96 t = nI ((aup A 2 t x) 5 t) := m2.ft 5 t (by decide) (show t < aN A from ht)
      obtain ⟨m3, r3⟩ := d_put0 m2 5 t (c := 96) (v := eb_I (eb_sI (eb_sI (eb_sI σ1 93 t (nI x)) 94 t (eb_I (eb_sI σ1 93 t (nI x)) 94 t)) 95 t (eb_I (eb_sI (eb_sI σ1 93 t (nI x)) 94 t (eb_I (eb_sI σ1 93 t (nI x)) 94 t)) 95 t)) 96 t) (by decide) (by decide) rfl y3
      refine ⟨nI (A 2 t), σ1, _, aup A 2 t x, ch + 1, ?_, a2, a3, ?_, ((r0.tr r1).tr r2).tr r3, m3, wf_set1 w (by omega) (by omega), Or.inr rfl⟩
      · unfold f_X9_set
        simp [it, x3, eb_cl_s, eb_b0, eb_gR, eb_tg, eb_sw, hbu, hsu, a1]
      · unfold ShD at hd1
        unfold f_X10_set
        simp [dt1, dU, dU', d3, tl, eb_cl_s, eb_b0, eb_jn_e, eb_tg, eb_gR, eb_ai, eb_wi, hd1, eb_T_sI, eb_R_sI, eb_L_sI, eb_J_sI, eb_N_sI, eb_T_sJ, eb_R_sJ, eb_L_sJ, eb_I_sJ, eb_N_sJ, eb_T_rI, eb_R_rI, eb_L_rI, eb_J_rI, eb_N_rI, eb_T_rJ, eb_R_rJ, eb_L_rJ, eb_I_rJ, eb_N_rJ, tin, tcl]
  · have dU : ∀ σ, f_X10_in 2 1 4 σ = some (true, σ) := fun σ => by rw [d_in]; rfl
    have dU' : ∀ σ, f_X10_in ((2 : Int32).toInt64) 1 4 σ = some (true, σ) := fun σ => by rw [d_in]; rfl
    rw [n_lit2]
    cases h3 : wi v.toInt 0 5 with
    | false =>
      have x3 := x_in v 0 5 0 5 rfl rfl _ h3
      have d3 := d_ins v 0 5 0 5 rfl rfl _ h3
      exact OPM.same w h9 hD (r := -1) (by unfold f_X9_set; simp [eb_tg, hbu, it, x3, eb_sw, eb_cl_s, eb_b0]) (by unfold f_X10_set; simp [eb_tg, hdu, dt, dU, dU', d3, eb_jn_e, eb_cl_s, eb_b0])
    | true =>
      have x3 := x_in v 0 5 0 5 rfl rfl _ h3
      have d3 := d_ins v 0 5 0 5 rfl rfl _ h3
      have hv := wi_t.mp h3
      obtain ⟨x, hx, rfl⟩ := p_nat (x := v) (n := 6) (by decide) (by omega) (by show v.toInt < 6; omega)
      rw [p_ntoInt (by omega)] at hv
      obtain ⟨σ1, a1, a2, a3⟩ := x_put h9 3 t x (c := 12) (v := nI x) (by decide) (by decide) rfl (show t < aN A from ht) rfl (by simp [hsu]) (by rw [show eb_L σ 12 = 10 by simp [hsu]]; exact tin) (by omega)
      have a1 : f_X3_put 9 12 (nI t) (nI x) σ = some (nI (A 3 t), σ1) := a1
      have hd1 := a2.shD hd
      have hD1 := a2.md nD_sMk hD
      have dt1 := d_isThing hd1 hD1 w (nI t).toInt64
      rw [p_i64, h1] at dt1
      have tl := d_told2 w hd1 hD1 (t := t) (n := n) ht
      have y0 : eb_I σ1 93 t = nI (A 2 t) := hD1.ft 2 t (by decide) (show t < aN A from ht)
      obtain ⟨m0, r0⟩ := d_put0 hD1 2 t (c := 93) (v := eb_I σ1 93 t) (by decide) (by decide) rfl y0
      obtain ⟨m1, r1⟩ := d_put m0 3 t x (c := 94) (v := nI x) (by decide) (by decide) rfl rfl
      have y2 : eb_I (eb_sI (eb_sI σ1 93 t (eb_I σ1 93 t)) 94 t (nI x)) 95 t = nI ((aup A 3 t x) 4 t) := m1.ft 4 t (by decide) (show t < aN A from ht)
      obtain ⟨m2, r2⟩ := d_put0 m1 4 t (c := 95) (v := eb_I (eb_sI (eb_sI σ1 93 t (eb_I σ1 93 t)) 94 t (nI x)) 95 t) (by decide) (by decide) rfl y2
      have y3 : eb_I (eb_sI (eb_sI (eb_sI σ1 93 t (eb_I σ1 93 t)) 94 t (nI x)) 95 t (eb_I (eb_sI (eb_sI σ1 93 t (eb_I σ1 93 t)) 94 t (nI x)) 95 t)) 96 t = nI ((aup A 3 t x) 5 t) := m2.ft 5 t (by decide) (show t < aN A from ht)
      obtain ⟨m3, r3⟩ := d_put0 m2 5 t (c := 96) (v := eb_I (eb_sI (eb_sI (eb_sI σ1 93 t (eb_I σ1 93 t)) 94 t (nI x)) 95 t (eb_I (eb_sI (eb_sI σ1 93 t (eb_I σ1 93 t)) 94 t (nI x)) 95 t)) 96 t) (by decide) (by decide) rfl y3
      refine ⟨nI (A 3 t), σ1, _, aup A 3 t x, ch + 1, ?_, a2, a3, ?_, ((r0.tr r1).tr r2).tr r3, m3, wf_set2 w (by omega) (by omega), Or.inr rfl⟩
      · unfold f_X9_set
        simp [it, x3, eb_cl_s, eb_b0, eb_gR, eb_tg, eb_sw, hbu, hsu, a1]
      · unfold ShD at hd1
        unfold f_X10_set
        simp [dt1, dU, dU', d3, tl, eb_cl_s, eb_b0, eb_jn_e, eb_tg, eb_gR, eb_ai, eb_wi, hd1, eb_T_sI, eb_R_sI, eb_L_sI, eb_J_sI, eb_N_sI, eb_T_sJ, eb_R_sJ, eb_L_sJ, eb_I_sJ, eb_N_sJ, eb_T_rI, eb_R_rI, eb_L_rI, eb_J_rI, eb_N_rI, eb_T_rJ, eb_R_rJ, eb_L_rJ, eb_I_rJ, eb_N_rJ, tin, tcl]
  · have dU : ∀ σ, f_X10_in 3 1 4 σ = some (true, σ) := fun σ => by rw [d_in]; rfl
    have dU' : ∀ σ, f_X10_in ((3 : Int32).toInt64) 1 4 σ = some (true, σ) := fun σ => by rw [d_in]; rfl
    rw [n_lit3]
    cases h3 : wi v.toInt 0 100 with
    | false =>
      have x3 := x_in v 0 100 0 100 rfl rfl _ h3
      have d3 := d_ins v 0 100 0 100 rfl rfl _ h3
      exact OPM.same w h9 hD (r := -1) (by unfold f_X9_set; simp [eb_tg, hbu, it, x3, eb_sw, eb_cl_s, eb_b0]) (by unfold f_X10_set; simp [eb_tg, hdu, dt, dU, dU', d3, eb_jn_e, eb_cl_s, eb_b0])
    | true =>
      have x3 := x_in v 0 100 0 100 rfl rfl _ h3
      have d3 := d_ins v 0 100 0 100 rfl rfl _ h3
      have hv := wi_t.mp h3
      obtain ⟨x, hx, rfl⟩ := p_nat (x := v) (n := 101) (by decide) (by omega) (by show v.toInt < 101; omega)
      rw [p_ntoInt (by omega)] at hv
      obtain ⟨σ1, a1, a2, a3⟩ := x_put h9 4 t x (c := 13) (v := nI x - 50) (by decide) (by decide) rfl (show t < aN A from ht) rfl (by simp [hsu]) (by rw [show eb_L σ 13 = 10 by simp [hsu]]; exact tin) (by omega)
      have a1 : f_X3_put 9 13 (nI t) (nI x - 50) σ = some (nI (A 4 t) - 50, σ1) := a1
      have hd1 := a2.shD hd
      have hD1 := a2.md nD_sMk hD
      have dt1 := d_isThing hd1 hD1 w (nI t).toInt64
      rw [p_i64, h1] at dt1
      have tl := d_told3 w hd1 hD1 (t := t) (n := n) ht
      have y0 : eb_I σ1 93 t = nI (A 2 t) := hD1.ft 2 t (by decide) (show t < aN A from ht)
      obtain ⟨m0, r0⟩ := d_put0 hD1 2 t (c := 93) (v := eb_I σ1 93 t) (by decide) (by decide) rfl y0
      have y1 : eb_I (eb_sI σ1 93 t (eb_I σ1 93 t)) 94 t = nI (A 3 t) := m0.ft 3 t (by decide) (show t < aN A from ht)
      obtain ⟨m1, r1⟩ := d_put0 m0 3 t (c := 94) (v := eb_I (eb_sI σ1 93 t (eb_I σ1 93 t)) 94 t) (by decide) (by decide) rfl y1
      obtain ⟨m2, r2⟩ := d_put m1 4 t x (c := 95) (v := nI x) (by decide) (by decide) rfl rfl
      have y3 : eb_I (eb_sI (eb_sI (eb_sI σ1 93 t (eb_I σ1 93 t)) 94 t (eb_I (eb_sI σ1 93 t (eb_I σ1 93 t)) 94 t)) 95 t (nI x)) 96 t = nI ((aup A 4 t x) 5 t) := m2.ft 5 t (by decide) (show t < aN A from ht)
      obtain ⟨m3, r3⟩ := d_put0 m2 5 t (c := 96) (v := eb_I (eb_sI (eb_sI (eb_sI σ1 93 t (eb_I σ1 93 t)) 94 t (eb_I (eb_sI σ1 93 t (eb_I σ1 93 t)) 94 t)) 95 t (nI x)) 96 t) (by decide) (by decide) rfl y3
      refine ⟨nI (A 4 t), σ1, _, aup A 4 t x, ch + 1, ?_, a2, a3, ?_, ((r0.tr r1).tr r2).tr r3, m3, wf_set3 w (by omega) (by omega), Or.inr rfl⟩
      · unfold f_X9_set
        simp [it, x3, eb_cl_s, eb_b0, eb_gR, eb_tg, eb_sw, hbu, hsu, a1, Int32.sub_add_cancel]
      · unfold ShD at hd1
        unfold f_X10_set
        simp [dt1, dU, dU', d3, tl, eb_cl_s, eb_b0, eb_jn_e, eb_tg, eb_gR, eb_ai, eb_wi, hd1, eb_T_sI, eb_R_sI, eb_L_sI, eb_J_sI, eb_N_sI, eb_T_sJ, eb_R_sJ, eb_L_sJ, eb_I_sJ, eb_N_sJ, eb_T_rI, eb_R_rI, eb_L_rI, eb_J_rI, eb_N_rI, eb_T_rJ, eb_R_rJ, eb_L_rJ, eb_I_rJ, eb_N_rJ, tin, tcl]
  · have dU : ∀ σ, f_X10_in 4 1 4 σ = some (true, σ) := fun σ => by rw [d_in]; rfl
    have dU' : ∀ σ, f_X10_in ((4 : Int32).toInt64) 1 4 σ = some (true, σ) := fun σ => by rw [d_in]; rfl
    rw [n_lit4]
    cases h3 : wi v.toInt 0 2 with
    | false =>
      have x3 : ∀ σ, f_X9_isBag v σ = some (false, σ) := fun σ => by rw [x_isBag, h3]
      have d3 := d_ins v 0 2 0 2 rfl rfl _ h3
      exact OPM.same w h9 hD (r := -1) (by unfold f_X9_set; simp [eb_tg, hbu, it, x3, eb_sw, eb_cl_s, eb_b0]) (by unfold f_X10_set; simp [eb_tg, hdu, dt, dU, dU', d3, eb_jn_e, eb_cl_s, eb_b0])
    | true =>
      have x3 : ∀ σ, f_X9_isBag v σ = some (true, σ) := fun σ => by rw [x_isBag, h3]
      have d3 := d_ins v 0 2 0 2 rfl rfl _ h3
      have hv := wi_t.mp h3
      obtain ⟨x, hx, rfl⟩ := p_nat (x := v) (n := 3) (by decide) (by omega) (by show v.toInt < 3; omega)
      rw [p_ntoInt (by omega)] at hv
      obtain ⟨σ1, a1, a2, a3⟩ := x_put h9 5 t x (c := 14) (v := nI x) (by decide) (by decide) rfl (show t < aN A from ht) rfl (by simp [hsu]) (by rw [show eb_L σ 14 = 10 by simp [hsu]]; exact tin) (by omega)
      have a1 : f_X3_put 9 14 (nI t) (nI x) σ = some (nI (A 5 t), σ1) := a1
      have hd1 := a2.shD hd
      have hD1 := a2.md nD_sMk hD
      have dt1 := d_isThing hd1 hD1 w (nI t).toInt64
      rw [p_i64, h1] at dt1
      have tl := d_told4 w hd1 hD1 (t := t) (n := n) ht
      have y0 : eb_I σ1 93 t = nI (A 2 t) := hD1.ft 2 t (by decide) (show t < aN A from ht)
      obtain ⟨m0, r0⟩ := d_put0 hD1 2 t (c := 93) (v := eb_I σ1 93 t) (by decide) (by decide) rfl y0
      have y1 : eb_I (eb_sI σ1 93 t (eb_I σ1 93 t)) 94 t = nI (A 3 t) := m0.ft 3 t (by decide) (show t < aN A from ht)
      obtain ⟨m1, r1⟩ := d_put0 m0 3 t (c := 94) (v := eb_I (eb_sI σ1 93 t (eb_I σ1 93 t)) 94 t) (by decide) (by decide) rfl y1
      have y2 : eb_I (eb_sI (eb_sI σ1 93 t (eb_I σ1 93 t)) 94 t (eb_I (eb_sI σ1 93 t (eb_I σ1 93 t)) 94 t)) 95 t = nI (A 4 t) := m1.ft 4 t (by decide) (show t < aN A from ht)
      obtain ⟨m2, r2⟩ := d_put0 m1 4 t (c := 95) (v := eb_I (eb_sI (eb_sI σ1 93 t (eb_I σ1 93 t)) 94 t (eb_I (eb_sI σ1 93 t (eb_I σ1 93 t)) 94 t)) 95 t) (by decide) (by decide) rfl y2
      obtain ⟨m3, r3⟩ := d_put m2 5 t x (c := 96) (v := nI x) (by decide) (by decide) rfl rfl
      refine ⟨nI (A 5 t), σ1, _, aup A 5 t x, ch + 1, ?_, a2, a3, ?_, ((r0.tr r1).tr r2).tr r3, m3, wf_set4 w (by omega) (by omega), Or.inr rfl⟩
      · unfold f_X9_set
        simp [it, x3, eb_cl_s, eb_b0, eb_gR, eb_tg, eb_sw, hbu, hsu, a1]
      · unfold ShD at hd1
        unfold f_X10_set
        simp [dt1, dU, dU', d3, tl, eb_cl_s, eb_b0, eb_jn_e, eb_tg, eb_gR, eb_ai, eb_wi, hd1, eb_T_sI, eb_R_sI, eb_L_sI, eb_J_sI, eb_N_sI, eb_T_sJ, eb_R_sJ, eb_L_sJ, eb_I_sJ, eb_N_sJ, eb_T_rI, eb_R_rI, eb_L_rI, eb_J_rI, eb_N_rI, eb_T_rJ, eb_R_rJ, eb_L_rJ, eb_I_rJ, eb_N_rJ, tin, tcl]
