/-! ===== pure: best and pack, both sides ===== -/
def X9 (A : Nat → Nat → Nat) (ch : Nat) (σ : eb_S) : Prop := ShM9 σ ∧ MX9 A σ ∧ eb_I σ 9 0 = nI ch
def XS0 (A : Nat → Nat → Nat) (ch : Nat) (σ : eb_S) : Prop := ShS0 σ ∧ LZ 59 σ ∧ ∃ z : Int, -1 ≤ z ∧ z ≤ ch ∧ eb_I σ 59 5 = iI z ∧ (z = ch → kB A (nI ch) (bB A) σ)
theorem ShS0.ss {σ : eb_S} (h : ShS0 σ) : SS 59 σ := by
  unfold ShS0 at h
  unfold SS
  simp [h]
theorem X9.fr {A : Nat → Nat → Nat} {ch : Nat} {σ σ' : eb_S} {S : Nat → Nat → Prop} (h : X9 A ch σ) (hF : Fq S σ σ') (hn : nt S 9 24) : X9 A ch σ' := ⟨hF.shM9 hn h.1, hF.mx hn h.2.1, by rw [hF.it hn (by decide) (by decide)]; exact h.2.2⟩
theorem XS0.fr {A : Nat → Nat → Nat} {ch : Nat} {σ σ' : eb_S} {S : Nat → Nat → Prop} (h : XS0 A ch σ) (hF : Fq S σ σ') (hn : nt S 59 63) : XS0 A ch σ' := by
  obtain ⟨a1, a2, z, a3, a4, a5, a6⟩ := h
  refine ⟨hF.shS0 hn a1, fun j hj => by rw [hF.it hn (by decide) (by decide)]; exact a2 j hj, z, a3, a4, by rw [hF.it hn (by decide) (by decide)]; exact a5, fun hz => ?_⟩
  obtain ⟨b1, b2, b3⟩ := a6 hz
  refine ⟨by rw [(hF.t hn (by decide) (by decide)).1]; exact b1, by rw [hF.it hn (by decide) (by decide)]; exact b2, ?_⟩
  match bB A, b3 with
  | none, b3 => show eb_I σ' 59 6 = 0; rw [hF.it hn (by decide) (by decide)]; exact b3
  | some (w0, h0, q), ⟨b1, b2, b3, b4, b5, b6⟩ => exact ⟨by rw [hF.it hn (by decide) (by decide)]; exact b1, by rw [hF.it hn (by decide) (by decide)]; exact b2, by rw [hF.it hn (by decide) (by decide)]; exact b3, b4, b5, fun u hu => by rw [hF.it hn (by decide) (by decide)]; exact b6 u hu⟩
/-- the state has changed: nothing that was solved counts any more -/
theorem XS0.up {A A' : Nat → Nat → Nat} {ch ch' : Nat} {σ : eb_S} (h : XS0 A ch σ) (hc : ch < ch') : XS0 A' ch' σ := by
  obtain ⟨a1, a2, z, a3, a4, a5, a6⟩ := h
  exact ⟨a1, a2, z, a3, by omega, a5, fun hz => by omega⟩
theorem x_ask0 {A : Nat → Nat → Nat} (w : wf A) {n ch : Nat} (hn : 100 ≤ n) (hch : ch < 2 ^ 30) {σ : eb_S} (h9 : X9 A ch σ) (hS : XS0 A ch σ) : ∃ σ1, f_X6_solve n 59 σ = some ((), σ1) ∧ Fr (sv 59) σ σ1 ∧ XS0 A ch σ1 ∧ kB A (nI ch) (bB A) σ1 := by
  obtain ⟨a1, a2, z, a3, a4, a5, a6⟩ := hS
  obtain ⟨b1, b2, b3⟩ := h9
  by_cases hz : z = ch
  · refine ⟨σ, x_solved a1.ss b1 (by rw [a5, b3, hz, nI_iI]), Fr.rf, ⟨a1, a2, z, a3, a4, a5, a6⟩, a6 hz⟩
  · have hne : eb_I σ 59 5 ≠ eb_I σ 9 0 := by
      rw [a5, b3, nI_iI]
      intro e
      have := (p_eqI (a := z) (b := (ch : Int)) (by omega) (by omega)).mp e
      exact hz this
    have hT : eb_T σ 59 = 0 := by unfold ShS0 at a1; exact a1.1
    obtain ⟨σ1, c1, c2, c3, c4⟩ := x_solve w hn (v := 59) (by decide) (ok_best w hn (nI ch)) (i0 := none) a1.ss b1 b2 a2 hne (fun σ' hF' h5 => by
      have hT' : eb_T σ' 59 = 0 := by rw [hF'.1]; exact hT
      refine ⟨eb_sI σ' 59 6 0, ?_, Fr.sI rfl, ?_, ?_, ?_⟩
      · simp [eb_d3, hT', f_X0_begin, eb_pZ]
      · exact hT'
      · rw [eb_I_sI, if_pos rfl, if_neg (by decide), h5, b3]
      · show eb_I _ 59 6 = 0
        rw [eb_I_sI, if_pos rfl, if_pos rfl])
    refine ⟨σ1, c1, c2, ⟨?_, c4, (ch : Int), by omega, by omega, ?_, fun _ => c3⟩, c3⟩
    · unfold ShS0 at a1 ⊢; rw [c2.1, c2.2.1, c2.2.2.1]; exact a1
    · rw [← nI_iI]; exact c3.2.1
theorem nD_sv {v : Nat} (hv : v + 4 < 91) : nD (sv v) := fun k j h => by unfold sv at h; omega
theorem nI_nn {t : Nat} (h : t < 2 ^ 31) {x : Int32} (hx : x < 0) : (nI t = x) = False := by
  rw [eq_iff_iff]
  exact ⟨fun e => by rw [← e] at hx; exact absurd hx (nI_pos h), False.elim⟩
theorem p_nn {t : Nat} (h : t < 2 ^ 31) : ((0 : Int32) ≤ nI t) = True := by rw [← nI_0, p_leN (by decide) h, eq_iff_iff]; exact ⟨fun _ => trivial, fun _ => Nat.zero_le _⟩
theorem m2n : ((0 : Int32) ≤ -2) = False := by decide
theorem m1n : ((0 : Int32) ≤ -1) = False := by decide
theorem m12 : ((-1 : Int32) = -2) = False := by decide
theorem m21 : ((-2 : Int32) = -1) = False := by decide
def vB (acc : Option (Nat × Nat × (Nat → Nat))) (a : Int32) : Int32 := match acc with
  | none => -4
  | some (w0, h0, q) => if a = -2 then nI w0 else if a = -1 then nI h0 else nI (q a.toNatClampNeg)
set_option maxHeartbeats 4000000 in
theorem x_best {A : Nat → Nat → Nat} (w : wf A) {n ch : Nat} (hn : 100 ≤ n) (hch : ch < 2 ^ 30) {σ : eb_S} (hb : ShB σ) (h9 : X9 A ch σ) (hS : XS0 A ch σ) {a : Int32} (ha : a = -2 ∨ a = -1 ∨ ∃ t, t < aN A ∧ a = nI t) : ∃ σ1, f_X9_best n 8 a σ = some (vB (bB A) a, σ1) ∧ Fr (sv 59) σ σ1 ∧ XS0 A ch σ1 := by
  have wN := w.1
  obtain ⟨σ1, c1, c2, c3, c4⟩ := x_ask0 w (n := n) hn hch h9 hS
  refine ⟨σ1, ?_, c2, c3⟩
  have hb1 := c2.shB hb
  have hT1 := c4.1
  have hT0 : eb_T σ 59 = 0 := by rw [← c2.1]; exact hT1
  have hS1 := c3.1
  have it := x_isThing hb h9.1 h9.2.1 w a
  unfold ShB at hb hb1
  unfold ShS0 at hS1
  obtain ⟨_, _, k3⟩ := c4
  revert k3
  cases bB A with
  | none =>
    intro z0
    have z0 : eb_I σ1 59 6 = 0 := z0
    unfold f_X9_best
    rcases ha with h | h | ⟨t, ht, h⟩
    · subst h; simp [eb_jn_e, eb_gR, eb_gI, eb_tg, hb, hb1, c1, eb_cl_s, hT1, hT0, z0, vB]
    · subst h; simp [eb_jn_e, eb_gR, eb_gI, eb_tg, hb, hb1, c1, eb_cl_s, hT1, hT0, z0, vB]
    · subst h
      rw [p_ntoInt (by omega), wi_t.mpr ⟨by omega, by omega⟩] at it
      simp [eb_jn_e, eb_gR, eb_gI, eb_tg, hb, hb1, c1, eb_cl_s, hT1, hT0, z0, vB, nI_nn (show t < 2 ^ 31 by omega) (by decide : (-2 : Int32) < 0), nI_nn (show t < 2 ^ 31 by omega) (by decide : (-1 : Int32) < 0), it, eb_b0]
  | some acc =>
    obtain ⟨w0, h0, q⟩ := acc
    intro z0
    obtain ⟨z1, z2, z3, z4, z5, z6⟩ := z0
    have z1' : ¬ eb_I σ1 59 6 = 0 := by rw [z1]; decide
    unfold f_X9_best
    rcases ha with h | h | ⟨t, ht, h⟩
    · subst h; simp [eb_jn_e, eb_gR, eb_gI, eb_tg, hb, hb1, c1, eb_cl_s, hT1, hT0, z1', vB, z2, m2n]
    · subst h; simp [eb_jn_e, eb_gR, eb_gI, eb_tg, hb, hb1, c1, eb_cl_s, hT1, hT0, z1', vB, z3, m1n, m12]
    · subst h
      rw [p_ntoInt (by omega), wi_t.mpr ⟨by omega, by omega⟩] at it
      simp [eb_jn_e, eb_gR, eb_gI, eb_ai, eb_tg, hb, hb1, hS1, c1, eb_cl_s, hT1, hT0, z1', vB, nI_nn (show t < 2 ^ 31 by omega) (by decide : (-2 : Int32) < 0), nI_nn (show t < 2 ^ 31 by omega) (by decide : (-1 : Int32) < 0), it, eb_b0, p_nn (show t < 2 ^ 31 by omega), p_in (show t < 10 by omega) (by decide : 10 < 2 ^ 31), p_cl (show t < 2 ^ 31 by omega), (z6 t ht).1]
set_option maxHeartbeats 4000000 in
theorem d_best {A : Nat → Nat → Nat} (w : wf A) {n : Nat} (hn : 100000 ≤ n) {σ : eb_S} (hd : ShD σ) (hD : MD A σ) {a : Int32} (ha : a = -2 ∨ a = -1 ∨ ∃ t, t < aN A ∧ a = nI t) : ∃ σ1, f_X10_best n 91 a σ = some (vB (bB A) a, σ1) ∧ Fr sB σ σ1 := by
  have wN := w.1
  obtain ⟨b, σ2, e1, e2, e3, e4, e5⟩ := d_isBest w hn hd hD
  refine ⟨σ2, ?_, e4⟩
  have it := d_isThing hd hD w a.toInt64
  rw [p_i64] at it
  unfold ShD at hd e2
  revert e5
  cases bB A with
  | none =>
    intro z0
    have z0 : eb_b b = 0 := z0
    have zb : b = false := by rw [eb_b0] at z0; exact z0
    unfold f_X10_best
    rcases ha with h | h | ⟨t, ht, h⟩
    · subst h; simp [eb_jn_e, eb_tg, hd, e1, eb_cl_s, z0, vB]
    · subst h; simp [eb_jn_e, eb_tg, hd, e1, eb_cl_s, z0, vB]
    · subst h
      rw [p_ntoInt (by omega), wi_t.mpr ⟨by omega, by omega⟩] at it
      simp [eb_jn_e, eb_tg, hd, e1, eb_cl_s, z0, vB, nI_nn (show t < 2 ^ 31 by omega) (by decide : (-2 : Int32) < 0), nI_nn (show t < 2 ^ 31 by omega) (by decide : (-1 : Int32) < 0), it, eb_b0, zb]
  | some acc =>
    obtain ⟨w0, h0, q⟩ := acc
    intro z0
    obtain ⟨z1, z2, z3, z4, z5, z6⟩ := z0
    have z1' : ¬ eb_b b = 0 := by rw [z1]; decide
    have zb : b = true := by rw [eb_b1] at z1; exact z1
    unfold f_X10_best
    rcases ha with h | h | ⟨t, ht, h⟩
    · subst h; simp [eb_jn_e, eb_gI, eb_tg, hd, e2, e1, eb_cl_s, z1', vB, z2]
    · subst h; simp [eb_jn_e, eb_gI, eb_tg, hd, e2, e1, eb_cl_s, z1', vB, z3, m12]
    · subst h
      rw [p_ntoInt (by omega), wi_t.mpr ⟨by omega, by omega⟩] at it
      simp [eb_jn_e, eb_gR, eb_ai, eb_tg, hd, e2, e1, eb_cl_s, z1', vB, nI_nn (show t < 2 ^ 31 by omega) (by decide : (-2 : Int32) < 0), nI_nn (show t < 2 ^ 31 by omega) (by decide : (-1 : Int32) < 0), it, eb_b0, zb, p_in (show t < 10 by omega) (by decide : 10 < 2 ^ 31), p_cl (show t < 2 ^ 31 by omega), (z6 t ht).1]
theorem eq_best {A : Nat → Nat → Nat} (w : wf A) {n ch : Nat} (hn : 100000 ≤ n) (hch : ch < 2 ^ 30) {σ : eb_S} (hb : ShB σ) (h9 : X9 A ch σ) (hS : XS0 A ch σ) (hd : ShD σ) (hD : MD A σ) (a : Int32) : ∃ r σ1 σ2, f_X9_best n 8 a σ = some (r, σ1) ∧ Fr (sv 59) σ σ1 ∧ XS0 A ch σ1 ∧ f_X10_best n 91 a σ1 = some (r, σ2) ∧ Fr sB σ1 σ2 := by
  have wN := w.1
  by_cases h0 : a = -2 ∨ a = -1 ∨ ∃ t, t < aN A ∧ a = nI t
  · obtain ⟨σ1, x1, x2, x3⟩ := x_best w (n := n) (by omega) hch hb h9 hS h0
    obtain ⟨σ2, d1, d2⟩ := d_best w hn (x2.shD hd) (x2.md (nD_sv (v := 59) (by decide)) hD) h0
    exact ⟨_, σ1, σ2, x1, x2, x3, d1, d2⟩
  · have g1 : ¬ a = -2 := fun e => h0 (Or.inl e)
    have g2 : ¬ a = -1 := fun e => h0 (Or.inr (Or.inl e))
    have g3 : wi a.toInt 0 ((aN A : Int) - 1) = false := by
      cases hw : wi a.toInt 0 ((aN A : Int) - 1) with
      | false => rfl
      | true =>
        obtain ⟨t, ht, e⟩ := wi_nat (by omega) hw
        exact absurd (Or.inr (Or.inr ⟨t, ht, e⟩)) h0
    have it := x_isThing hb h9.1 h9.2.1 w a
    have dt := d_isThing hd hD w a.toInt64
    rw [p_i64] at dt
    rw [g3] at it dt
    unfold ShB at hb
    unfold ShD at hd
    refine ⟨-1, σ, σ, ?_, Fr.rf, hS, ?_, Fr.rf⟩
    · unfold f_X9_best; simp [eb_jn_e, g1, g2, eb_tg, hb, it, eb_cl_s, eb_b0]
    · unfold f_X10_best; simp [eb_jn_e, g1, g2, eb_tg, hd, dt, eb_cl_s, eb_b0]
