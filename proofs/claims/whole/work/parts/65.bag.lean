/-! ===== pure: bag ===== -/
theorem aup_same (A : Nat → Nat → Nat) (i j : Nat) : aup A i j (A i j) = A := by
  funext i' j'
  unfold aup
  by_cases h : i' = i ∧ j' = j
  · rw [if_pos h, h.1, h.2]
  · rw [if_neg h]
/-- the model writes what is there -/
theorem d_put0 {A : Nat → Nat → Nat} {σ : eb_S} (hD : MD A σ) (i0 j0 : Nat) {c : Nat} {v : Int32} (hi : i0 < 19) (h0 : ¬ sca i0) (hc : c = tC 91 i0) (hv : v = nI (A i0 j0)) : MD A (eb_sI σ c j0 v) ∧ Fr sMd σ (eb_sI σ c j0 v) := by
  have h := d_put hD i0 j0 (A i0 j0) hi h0 hc hv
  rw [aup_same] at h
  exact h
theorem wf_holds {A : Nat → Nat → Nat} (w : wf A) {j x : Nat} (hx : x ≤ 999) : wf (aup A 9 j x) := by
  obtain ⟨wN, wT, wS, wY, wB, wR, wLn, wL, wBn, wE⟩ := w
  refine ⟨wN, wT, wS, wY, fun b hb => ?_, wR, wLn, wL, wBn, wE⟩
  show (if 9 = 9 ∧ b = j then x else A 9 b) ≤ 999 ∧ A 10 b ≤ 9999
  have := wB b hb
  by_cases e : b = j
  · rw [if_pos ⟨rfl, e⟩]; exact ⟨hx, this.2⟩
  · rw [if_neg (fun z => e z.2)]; exact this
theorem wf_gives {A : Nat → Nat → Nat} (w : wf A) {j x : Nat} (hx : x ≤ 9999) : wf (aup A 10 j x) := by
  obtain ⟨wN, wT, wS, wY, wB, wR, wLn, wL, wBn, wE⟩ := w
  refine ⟨wN, wT, wS, wY, fun b hb => ?_, wR, wLn, wL, wBn, wE⟩
  show A 9 b ≤ 999 ∧ (if 10 = 10 ∧ b = j then x else A 10 b) ≤ 9999
  have := wB b hb
  by_cases e : b = j
  · rw [if_pos ⟨rfl, e⟩]; exact ⟨this.1, hx⟩
  · rw [if_neg (fun z => e z.2)]; exact this
theorem x_in (v : Int32) (lo hi : Int32) (l h : Int) (hl : lo.toInt = l) (hh : hi.toInt = h) (b : Bool) (hb : wi v.toInt l h = b) (σ : eb_S) : f_X9_within v lo hi σ = some (b, σ) := by rw [x_within, hl, hh, hb]
theorem d_ins (v : Int32) (lo hi : Int64) (l h : Int) (hl : lo.toInt = l) (hh : hi.toInt = h) (b : Bool) (hb : wi v.toInt l h = b) (σ : eb_S) : f_X10_in v.toInt64 lo hi σ = some (b, σ) := by rw [d_in, p_i64, hl, hh, hb]
set_option maxHeartbeats 4000000 in
theorem eq_bag {A : Nat → Nat → Nat} (w : wf A) {ch : Nat} {σ : eb_S} (hb : ShB σ) (h9 : X9 A ch σ) (hd : ShD σ) (hD : MD A σ) (a f v : Int32) : OPM (f_X9_bag 8 a f v) (f_X10_bag 91 a f v) A ch σ := by
  have xb := fun σ => x_isBag a σ
  have db := fun σ => d_isBag a.toInt64 σ
  rw [p_i64] at db
  cases h1 : wi a.toInt 0 2 with
  | false =>
    rw [h1] at xb db
    exact OPM.same w h9 hD (r := -1) (by unfold f_X9_bag; simp [xb, eb_cl_s, eb_b0]) (by unfold f_X10_bag; simp [db, eb_cl_s, eb_b0])
  | true =>
  rw [h1] at xb db
  cases h2 : wi f.toInt 0 1 with
  | false =>
    have x2 := x_in f 0 1 0 1 rfl rfl _ h2
    have d2 := d_ins f 0 1 0 1 rfl rfl _ h2
    exact OPM.same w h9 hD (r := -1) (by unfold f_X9_bag; simp [xb, x2, eb_cl_s, eb_b0]) (by unfold f_X10_bag; simp [db, d2, eb_cl_s, eb_b0])
  | true =>
  have x2 := x_in f 0 1 0 1 rfl rfl _ h2
  have d2 := d_ins f 0 1 0 1 rfl rfl _ h2
  obtain ⟨j, hj, rfl⟩ := wi_nat2 (n := 2) (by decide) h1
  obtain ⟨f', hf, rfl⟩ := wi_nat2 (n := 1) (by decide) h2
  have hsu := h9.1
  unfold ShM9 at hsu
  have hbu := hb
  unfold ShB at hbu
  have jin : eb_in (nI j) 3 = true := p_in (by omega) (by decide)
  have jcl : (nI j).toNatClampNeg = j := p_cl (by omega)
  rcases (show f' = 0 ∨ f' = 1 by omega) with rfl | rfl
  · rw [nI_0] at x2 d2 ⊢
    have d2' : ∀ σ, f_X10_in 0 0 1 σ = some (true, σ) := fun σ => by rw [d_in]; rfl
    cases h3 : wi v.toInt 0 999 with
    | false =>
      have x3 := x_in v 0 999 0 999 rfl rfl _ h3
      have d3 := d_ins v 0 999 0 999 rfl rfl _ h3
      exact OPM.same w h9 hD (r := -1) (by unfold f_X9_bag; simp [xb, x2, x3, eb_cl_s, eb_b0, eb_jn_e]) (by unfold f_X10_bag; simp [db, d2, d2', d3, eb_cl_s, eb_b0, eb_jn_e])
    | true =>
      have x3 := x_in v 0 999 0 999 rfl rfl _ h3
      have d3 := d_ins v 0 999 0 999 rfl rfl _ h3
      obtain ⟨x, hx, rfl⟩ := wi_nat2 (n := 999) (by decide) h3
      obtain ⟨σ1, a1, a2, a3⟩ := x_put h9 9 j x (c := 17) (v := nI x) (by decide) (by decide) rfl (show j < 3 by omega) rfl (by simp [hsu]) (by rw [show eb_L σ 17 = 3 by simp [hsu]]; exact jin) (by omega)
      have hd1 := a2.shD hd
      have hD1 := a2.md (fun k j h => by unfold sMk at h; omega) hD
      obtain ⟨b1, b2⟩ := d_put hD1 9 j x (c := 99) (v := nI x) (by decide) (by decide) rfl rfl
      have hG2 : eb_I (eb_sI σ1 99 j (nI x)) 100 j = nI ((aup A 9 j x) 10 j) := b1.2.2.2.2.2.2.2.2.2.2.1 j (by omega)
      obtain ⟨b3, b4⟩ := d_put0 b1 10 j (c := 100) (v := eb_I (eb_sI σ1 99 j (nI x)) 100 j) (by decide) (by decide) rfl hG2
      have hHd := hD1.2.2.2.2.2.2.2.2.2.1 j (by omega)
      refine ⟨nI (aH A j), σ1, _, aup A 9 j x, ch + 1, ?_, a2, a3, ?_, b2.tr b4, b3, wf_holds w (by omega), Or.inr rfl⟩
      · unfold f_X9_bag
        simp [xb, x2, x3, eb_cl_s, eb_b0, eb_gR, eb_tg, eb_jn_e, hbu, hsu, a1]
        rfl
      · unfold ShD at hd1
        unfold f_X10_bag
        simp [db, d2, d2', d3, eb_cl_s, eb_b0, eb_jn_e, eb_gR, eb_ai, eb_wi, hd1, eb_T_sI, eb_R_sI, eb_L_sI, eb_J_sI, eb_N_sI, eb_T_sJ, eb_R_sJ, eb_L_sJ, eb_I_sJ, eb_N_sJ, eb_T_rI, eb_R_rI, eb_L_rI, eb_J_rI, eb_N_rI, eb_T_rJ, eb_R_rJ, eb_L_rJ, eb_I_rJ, eb_N_rJ, jin, jcl, hHd]
  · have e1 : nI 1 = 1 := rfl
    rw [e1] at x2 d2 ⊢
    have d2' : ∀ σ, f_X10_in 1 0 1 σ = some (true, σ) := fun σ => by rw [d_in]; rfl
    have n10 : ¬ (1 : Int32) = 0 := by decide
    cases h3 : wi v.toInt 0 9999 with
    | false =>
      have x3 := x_in v 0 9999 0 9999 rfl rfl _ h3
      have d3 := d_ins v 0 9999 0 9999 rfl rfl _ h3
      exact OPM.same w h9 hD (r := -1) (by unfold f_X9_bag; simp [xb, x2, x3, eb_cl_s, eb_b0, eb_jn_e, n10]) (by unfold f_X10_bag; simp [db, d2, d2', d3, eb_cl_s, eb_b0, eb_jn_e, n10])
    | true =>
      have x3 := x_in v 0 9999 0 9999 rfl rfl _ h3
      have d3 := d_ins v 0 9999 0 9999 rfl rfl _ h3
      obtain ⟨x, hx, rfl⟩ := wi_nat2 (n := 9999) (by decide) h3
      obtain ⟨σ1, a1, a2, a3⟩ := x_put h9 10 j x (c := 18) (v := nI x) (by decide) (by decide) rfl (show j < 3 by omega) rfl (by simp [hsu]) (by rw [show eb_L σ 18 = 3 by simp [hsu]]; exact jin) (by omega)
      have hd1 := a2.shD hd
      have hD1 := a2.md (fun k j h => by unfold sMk at h; omega) hD
      have hHd := hD1.2.2.2.2.2.2.2.2.2.1 j (by omega)
      have hGd := hD1.2.2.2.2.2.2.2.2.2.2.1 j (by omega)
      obtain ⟨b1, b2⟩ := d_put0 hD1 9 j (c := 99) (v := eb_I σ1 99 j) (by decide) (by decide) rfl hHd
      obtain ⟨b3, b4⟩ := d_put b1 10 j x (c := 100) (v := nI x) (by decide) (by decide) rfl rfl
      refine ⟨nI (aG A j), σ1, _, aup A 10 j x, ch + 1, ?_, a2, a3, ?_, b2.tr b4, b3, wf_gives w (by omega), Or.inr rfl⟩
      · unfold f_X9_bag
        simp [xb, x2, x3, eb_cl_s, eb_b0, eb_gR, eb_tg, eb_jn_e, n10, hbu, hsu, a1]
        rfl
      · unfold ShD at hd1
        unfold f_X10_bag
        simp [db, d2, d2', d3, eb_cl_s, eb_b0, eb_jn_e, n10, eb_gR, eb_ai, eb_wi, hd1, eb_T_sI, eb_R_sI, eb_L_sI, eb_J_sI, eb_N_sI, eb_T_sJ, eb_R_sJ, eb_L_sJ, eb_I_sJ, eb_N_sJ, eb_T_rI, eb_R_rI, eb_L_rI, eb_J_rI, eb_N_rI, eb_T_rJ, eb_R_rJ, eb_L_rJ, eb_I_rJ, eb_N_rJ, jin, jcl, hGd]
