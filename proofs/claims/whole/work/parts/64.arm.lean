/-! ===== pure: arm ===== -/
theorem wf_arm {A : Nat → Nat → Nat} (w : wf A) {j x : Nat} (hj : j < 2) (h1 : 1 ≤ x) (h2 : x ≤ 9) : wf (aup A 11 j x) := by
  obtain ⟨wN, wT, wS, wY, wB, wR, wLn, wL, wBn, wE⟩ := w
  refine ⟨wN, wT, wS, wY, wB, fun i hi => ?_, wLn, wL, wBn, wE⟩
  show 1 ≤ (if 11 = 11 ∧ i = j then x else A 11 i) ∧ (if 11 = 11 ∧ i = j then x else A 11 i) ≤ 9
  by_cases e : i = j
  · rw [if_pos ⟨rfl, e⟩]; exact ⟨h1, h2⟩
  · rw [if_neg (fun z => e z.2)]; exact wR i hi
set_option maxHeartbeats 4000000 in
theorem eq_arm {A : Nat → Nat → Nat} (w : wf A) {ch : Nat} {σ : eb_S} (hb : ShB σ) (h9 : X9 A ch σ) (hd : ShD σ) (hD : MD A σ) (a v : Int32) : OPM (f_X9_arm 8 a v) (f_X10_arm 91 a v) A ch σ := by
  have i1 := x_within a 0 1 σ
  have i2 := x_within v 1 9 σ
  have d1 := d_in a.toInt64 0 1 σ
  have d2 := d_in v.toInt64 1 9 σ
  rw [show ((0 : Int32).toInt) = 0 from rfl, show ((1 : Int32).toInt) = 1 from rfl] at i1
  rw [show ((1 : Int32).toInt) = 1 from rfl, show ((9 : Int32).toInt) = 9 from rfl] at i2
  rw [p_i64, show ((0 : Int64).toInt) = 0 from rfl, show ((1 : Int64).toInt) = 1 from rfl] at d1
  rw [p_i64, show ((1 : Int64).toInt) = 1 from rfl, show ((9 : Int64).toInt) = 9 from rfl] at d2
  cases h1 : wi a.toInt 0 1 with
  | false =>
    rw [h1] at i1 d1
    exact OPM.same w h9 hD (r := -1) (by unfold f_X9_arm; simp [i1, eb_cl_s, eb_b0]) (by unfold f_X10_arm; simp [d1, eb_cl_s, eb_b0])
  | true =>
    rw [h1] at i1 d1
    cases h2 : wi v.toInt 1 9 with
    | false =>
      rw [h2] at i2 d2
      exact OPM.same w h9 hD (r := -1) (by unfold f_X9_arm; simp [i1, i2, eb_cl_s, eb_b0]) (by unfold f_X10_arm; simp [d1, d2, eb_cl_s, eb_b0])
    | true =>
      rw [h2] at i2 d2
      have hv := wi_t.mp h2
      obtain ⟨j, hj, rfl⟩ := wi_nat2 (n := 1) (by decide) h1
      obtain ⟨x, hx, rfl⟩ := p_nat (x := v) (n := 10) (by decide) (by omega) (by show v.toInt < 10; omega)
      rw [p_ntoInt (by omega)] at hv
      have hsu := h9.1
      unfold ShM9 at hsu
      obtain ⟨σ1, a1, a2, a3⟩ := x_put h9 11 j x (c := 19) (v := nI x) (by decide) (by decide) rfl (show j < 2 by omega) rfl (by simp [hsu]) (by rw [show eb_L σ 19 = 2 by simp [hsu]]; exact p_in (by omega) (by decide)) (by omega)
      have hd1 := a2.shD hd
      have hD1 := a2.md (fun k j h => by unfold sMk at h; omega) hD
      obtain ⟨b1, b2⟩ := d_put hD1 11 j x (c := 101) (v := nI x) (by decide) (by decide) rfl rfl
      have hRd := hD1.2.2.2.2.2.2.2.2.2.2.2.1 j (by omega)
      have d1' : f_X10_in (nI j).toInt64 0 1 σ1 = some (true, σ1) := by rw [d_in, p_i64]; rw [show ((0 : Int64).toInt) = 0 from rfl, show ((1 : Int64).toInt) = 1 from rfl, h1]
      have d2' : f_X10_in (nI x).toInt64 1 9 σ1 = some (true, σ1) := by rw [d_in, p_i64]; rw [show ((1 : Int64).toInt) = 1 from rfl, show ((9 : Int64).toInt) = 9 from rfl, h2]
      refine ⟨nI (aR A j), σ1, _, aup A 11 j x, ch + 1, ?_, a2, a3, ?_, b2, b1, wf_arm w (by omega) (by omega) (by omega), Or.inr rfl⟩
      · unfold ShB at hb
        unfold f_X9_arm
        simp [i1, i2, eb_cl_s, eb_b0, eb_gR, eb_tg, hb, hsu, a1]
        rfl
      · unfold ShD at hd1
        unfold f_X10_arm
        simp [d1', d2', eb_cl_s, eb_b0, eb_gR, eb_ai, eb_wi, hd1, p_in (show j < 2 by omega) (by decide : 2 < 2 ^ 31), p_cl (show j < 2 ^ 31 by omega), hRd]
