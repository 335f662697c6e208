/-! ===== pure: told pulls, solved ===== -/
set_option maxHeartbeats 4000000 in
theorem x_pullsolve {A : Nat → Nat → Nat} (w : wf A) {n ch : Nat} (hn : 100 ≤ n) (hch : ch < 2 ^ 30) {σ σ1 : eb_S} (h9 : X9 A ch σ) (hS : XS5 A ch σ) (hF : Fq sA σ σ1) {tl : Nat → Int64} (hJ : ∀ s, s < aS A → eb_J σ1 74 s = tl s) (hc : (∀ s, s < aS A → eb_J σ 74 s = tl s) ∧ eb_I σ1 69 5 = eb_I σ 69 5 ∨ eb_I σ1 69 5 = -1) : ∃ σ2, f_X6_solve n 69 σ1 = some ((), σ2) ∧ Fr (sv 69) σ1 σ2 ∧ XS5 A ch σ2 ∧ kP A (nI ch) tl (bP A tl) σ2 := by
  obtain ⟨a1, a2, z, a3, a4, a5, a6⟩ := hS
  have h91 : X9 A ch σ1 := h9.fr hF (fun k j x1 x2 z => by unfold sA at z; omega)
  obtain ⟨b1, b2, b3⟩ := h91
  have h51 := hF.shS50 sA_sh a1
  have hZ1 : LZ 69 σ1 := fun j hj => by rw [hF.i (fun z => by unfold sA at z; omega)]; exact a2 j hj
  have hT1 : eb_T σ1 69 = 5 := by unfold ShS5 at h51; exact h51.1
  by_cases hsame : ((∀ s, s < aS A → eb_J σ 74 s = tl s) ∧ eb_I σ1 69 5 = eb_I σ 69 5) ∧ z = ch
  · obtain ⟨⟨c1, c2⟩, hz⟩ := hsame
    obtain ⟨d1, d2, d3, d4⟩ := a6 hz
    have i5 : eb_I σ1 69 5 = nI ch := by rw [c2, a5, hz, nI_iI]
    have k1 : kP A (nI ch) tl (bP A tl) σ1 := by
      refine ⟨h51, i5, hJ, fun hcc => ?_⟩
      rw [bP_cong (tl := tl) (tl' := eb_J σ 74) (fun s hs => (c1 s hs).symm)] at hcc ⊢
      obtain ⟨e1, e2⟩ := d4 hcc
      exact ⟨by rw [hF.i (fun z => by unfold sA at z; omega)]; exact e1, fun hne => ⟨by rw [hF.i (fun z => by unfold sA at z; omega)]; exact (e2 hne).1, fun u hu => by rw [hF.i (fun z => by unfold sA at z; omega)]; exact (e2 hne).2 u hu⟩⟩
    refine ⟨σ1, x_solved h51.ss b1 (by rw [i5, b3]), Fr.rf, ⟨h51, hZ1, (ch : Int), by omega, by omega, by rw [i5, nI_iI], fun _ => ?_⟩, k1⟩
    rw [bP_cong (tl := eb_J σ1 74) (tl' := tl) hJ]
    exact k1.cong (fun s hs => (hJ s hs).symm)
  · have hy : ∃ y : Int, -1 ≤ y ∧ y < ch ∧ eb_I σ1 69 5 = iI y := by
      rcases hc with ⟨c1, c2⟩ | c2
      · exact ⟨z, a3, by
          have : z ≠ ch := fun e => hsame ⟨⟨c1, c2⟩, e⟩
          omega, by rw [c2]; exact a5⟩
      · exact ⟨-1, by omega, by omega, by rw [c2]; rfl⟩
    obtain ⟨y, y1, y2, y3⟩ := hy
    have hne : eb_I σ1 69 5 ≠ eb_I σ1 9 0 := by
      rw [y3, b3, nI_iI]
      intro e
      have := (p_eqI (a := y) (b := (ch : Int)) (by omega) (by omega)).mp e
      omega
    obtain ⟨σ2, c1, c2, c3, c4⟩ := x_solve w hn (v := 69) (by decide) (ok_pulls w hn (nI ch) tl) (i0 := pini A) h51.ss b1 b2 hZ1 hne (fun σ' hF' h5 => by
      have hT' : eb_T σ' 69 = 5 := by rw [hF'.1]; exact hT1
      have G : Fr (s5 69) σ' (eb_sI (eb_sI σ' 69 6 0) 69 7 0) := (Fr.sI (S := s5 69) rfl).tr (Fr.sI (S := s5 69) rfl)
      refine ⟨eb_sI (eb_sI σ' 69 6 0) 69 7 0, ?_, G, ?_, ?_, ?_, ?_⟩
      · simp [eb_d3, hT', f_X5_begin, eb_pI, eb_T_sI, eb_R_sI, eb_L_sI, eb_J_sI, eb_N_sI, eb_T_sJ, eb_R_sJ, eb_L_sJ, eb_I_sJ, eb_N_sJ, eb_T_rI, eb_R_rI, eb_L_rI, eb_J_rI, eb_N_rI, eb_T_rJ, eb_R_rJ, eb_L_rJ, eb_I_rJ, eb_N_rJ]
      · unfold ShS5 at h51 ⊢; rw [G.1, G.2.1, G.2.2.1, hF'.1, hF'.2.1, hF'.2.2.1]; exact h51
      · simp [eb_I_sI]; rw [h5, b3]
      · intro s hs; rw [G.2.2.2.2.1, hF'.2.2.2.2.1]; exact hJ s hs
      · intro _
        refine ⟨?_, fun z => absurd rfl z⟩
        rw [eb_I_sI, if_pos rfl, if_neg (by decide), eb_I_sI, if_pos rfl, if_pos rfl]
        exact nI_0.symm)
    have c3' : kP A (nI ch) tl (bP A tl) σ2 := c3
    have hJ2 : ∀ s, s < aS A → eb_J σ2 74 s = tl s := c3'.2.2.1
    refine ⟨σ2, c1, c2, ⟨c3'.1, c4, (ch : Int), by omega, by omega, ?_, fun _ => ?_⟩, c3'⟩
    · rw [← nI_iI]; exact c3'.2.1
    · rw [bP_cong (tl := eb_J σ2 74) (tl' := tl) hJ2]
      exact c3'.cong (fun s hs => (hJ2 s hs).symm)
/-- a row as one number of digits 0, 1, 2 -/
def dgs (q : Nat → Nat) : Nat → Int32
  | 0 => 0
  | t + 1 => dgs q t * 3 + nI (q t)
theorem x_digits_L {A : Nat → Nat → Nat} (w : wf A) {n : Nat} {q : Nat → Nat} {σ : eb_S} (h5 : ShS5 σ) (hs : ShM9 σ) (hN : eb_I σ 9 1 = nI (aN A)) (hq : ∀ u, u < aN A → eb_I σ 71 u = nI (q u) ∧ q u < 3) : ∀ (m t : Nat), t ≤ aN A → aN A < t + m → f_X5_firstAsDigits_L4 n 69 m (dgs q t) (nI t) σ = some (dgs q (aN A), σ) := by
  intro m
  induction m with
  | zero => intro t h1 h2; omega
  | succ m ih =>
    intro t h1 h2
    have wN := w.1
    unfold ShS5 at h5
    unfold ShM9 at hs
    rw [f_X5_firstAsDigits_L4.eq_2]
    simp only [eb_gR, eb_gI, h5, hs, hN, List.mem_singleton, p_leN (show aN A < 2 ^ 31 by omega) (show t < 2 ^ 31 by omega)]
    by_cases h : aN A ≤ t
    · have : t = aN A := by omega
      subst this
      simp
    · have ih' := ih (t + 1) (by omega) (by omega)
      simp [h, eb_ai, h5, p_in (show t < 10 by omega) (by decide : 10 < 2 ^ 31), p_cl (show t < 2 ^ 31 by omega), (hq t (by omega)).1, nI_1]
      exact ih'
theorem x_digits {A : Nat → Nat → Nat} (w : wf A) {n : Nat} (hn : 100 ≤ n) {q : Nat → Nat} {σ : eb_S} (h5 : ShS5 σ) (hs : ShM9 σ) (hN : eb_I σ 9 1 = nI (aN A)) (hq : ∀ u, u < aN A → eb_I σ 71 u = nI (q u) ∧ q u < 3) : f_X5_firstAsDigits n 69 σ = some (dgs q (aN A), σ) := by
  have wN := w.1
  have := x_digits_L w (n := n) h5 hs hN hq n 0 (by omega) (by omega)
  unfold f_X5_firstAsDigits
  rw [nI_0] at this
  exact this
def vP (A : Nat → Nat → Nat) (acc : Nat × (Nat → Nat) × Int32) (v : Nat) : Int32 := if v = 0 then nI acc.1 else if acc.1 = 0 then -4 else if v = 1 then dgs acc.2.1 (aN A) else acc.2.2
set_option maxHeartbeats 4000000 in
theorem x_pulled {A : Nat → Nat → Nat} (w : wf A) {ln sz : Nat → Nat} {it : Nat → Nat → Int64} (wh : wfH ln sz) {n ch : Nat} (hn : 100 ≤ n) (hch : ch < 2 ^ 30) {σ : eb_S} (hb : ShB σ) (h9 : X9 A ch σ) (hS : XS5 A ch σ) (hH : XH ln sz it σ) {sh l v : Nat} (hsh : sh < 4) (hl4 : l < 4) (hv : v < 3) {i : Int32} (hok : (0 : Int32) ≤ rfs ln sz sh l i (nI (aS A))) : ∃ σ1 i', i = nI i' ∧ i' + aS A ≤ sz sh ∧ f_X9_pulled n 8 (nI sh) (nI l) i (nI v) σ = some (vP A (bP A (fun s => it sh (i' + s))) v, σ1) ∧ Fq (fun k j => sv 69 k j ∨ sA k j) σ σ1 ∧ XS5 A ch σ1 := by
  have wS := w.2.2.1
  have wN := w.1
  obtain ⟨o1, o2, o3⟩ := rfs_ok hok
  have hz := (wh sh hsh).2
  have o2 : 0 ≤ (nI (aS A)).toInt ∧ 0 ≤ i.toInt ∧ i.toInt + (nI (aS A)).toInt ≤ sz sh := of_decide_eq_true o2
  rw [p_ntoInt (by omega)] at o2
  obtain ⟨i', hi', rfl⟩ := p_nat (x := i) (n := 17) (by decide) o2.2.1 (by show i.toInt < 17; omega)
  rw [p_ntoInt (by omega)] at o2
  have hl : ln sh ≠ 0 := by omega
  have hS9 := h9.2.1.2.2.2.2.2.2.1
  have hN9 := h9.2.1.1
  obtain ⟨σ1, a1, a2, a3, a4⟩ := x_asks_L w (n := n) (i := i') (v4 := nI v) hsh hl (by omega) (K := fun s15 => eb_gR s15 [8] 8 6 fun r16 => eb_cl (eb_tg s15 r16 5 (f_X6_solve n r16 s15)) fun _u s17 => if nI v = 0 then (eb_gR s17 [8] 8 6 fun r25 => eb_gI s17 [5] r25 6 fun x26 => some (x26, s17)) else (eb_gR s17 [8] 8 6 fun r18 => eb_gI s17 [5] r18 6 fun x19 => if x19 = 0 then (some ((-4), s17)) else (if nI v = 1 then (eb_gR s17 [8] 8 6 fun r22 => eb_cl (eb_tg s17 r22 5 (f_X5_firstAsDigits n r22 s17)) fun x24 s23 => some (x24, s23)) else (eb_gR s17 [8] 8 6 fun r20 => eb_gI s17 [5] r20 7 fun x21 => some (x21, s17))))) n 0 σ hb h9.1 hS9 hS.1 hH (fun s' hs' => by omega) (by omega) (by omega)
  obtain ⟨σ2, c1, c2, c3, c4⟩ := x_pullsolve w (n := n) hn hch h9 hS a2 (tl := fun s => it sh (i' + s)) a3 (by
    rcases a4 with ⟨x1, x2⟩ | x
    · exact Or.inl ⟨fun s hs => x1 s (by omega) hs, x2⟩
    · exact Or.inr x)
  refine ⟨σ2, i', rfl, by omega, ?_, ?_, c3⟩
  · have iw := x_within (nI v) 0 2 σ
    rw [p_ntoInt (by omega), wi_t.mpr ⟨by show (0 : Int) ≤ v; omega, by show (v : Int) ≤ 2; omega⟩] at iw
    have rf := x_refusal hb hH wh hsh hl4 (nI i') (nI (aS A))
    rw [o3] at rf
    have hb1 := a2.shB0 sA_sh hb
    have hb2 := c2.shB hb1
    have h52 := c4.1
    have h92 : ShM9 σ2 := c2.shM9 (a2.shM9 (fun k j x1 x2 z => by unfold sA at z; omega) h9.1)
    have hN2 : eb_I σ2 9 1 = nI (aN A) := by rw [c2.2.2.2.2.2 _ _ (fun z => by unfold sv at z; omega), a2.i (fun z => by unfold sA at z; omega)]; exact hN9
    have hT2 : eb_T σ2 69 = 5 := by unfold ShS5 at h52; exact h52.1
    have hT1 : eb_T σ1 69 = 5 := by rw [← c2.1]; exact hT2
    obtain ⟨_, _, _, k4⟩ := c4
    have cb := bP_cnt w (tl := fun s => it sh (i' + s))
    obtain ⟨k5, k6⟩ := k4 (by omega)
    have hbu := hb
    have hs9 := h9.1
    unfold ShB at hbu hb1 hb2
    unfold ShM9 at hs9
    rw [nI_0] at a1
    unfold f_X9_pulled
    simp only [iw, eb_cl_s, eb_b0, Bool.true_eq_false, if_false, eb_gR, eb_gI, eb_tg, hbu, hs9, hS9, rf, if_true, true_and, ne_eq, show ¬ (9 : Nat) = 0 by decide, not_false_eq_true, List.mem_singleton, show (0 : Int32) ≤ 0 by decide] at a1 ⊢
    rw [a1]
    simp only [hb1, hb2, true_and, ne_eq, show ¬ (69 : Nat) = 0 by decide, not_false_eq_true, if_true, hT1, hT2, c1, eb_cl_s, k5]
    have e0 : (nI (bP A fun s => it sh (i' + s)).1 = 0) = ((bP A fun s => it sh (i' + s)).1 = 0) := by rw [← nI_0, p_eqN (by omega) (by omega)]
    unfold vP
    rcases (show v = 0 ∨ v = 1 ∨ v = 2 by omega) with rfl | rfl | rfl
    · simp [nI_0]
    · rw [if_neg (show ¬ nI 1 = 0 by decide), if_neg (show ¬ (1 : Nat) = 0 by decide)]
      by_cases c : (bP A fun s => it sh (i' + s)).1 = 0
      · simp [c, nI_0]
      · obtain ⟨_, k8⟩ := k6 c
        have dg := x_digits w hn h52 h92 hN2 k8
        simp [e0, c, dg, eb_cl_s, show nI 1 = 1 from rfl]
    · rw [if_neg (show ¬ nI 2 = 0 by decide), if_neg (show ¬ (2 : Nat) = 0 by decide)]
      by_cases c : (bP A fun s => it sh (i' + s)).1 = 0
      · simp [c, nI_0]
      · obtain ⟨k7, _⟩ := k6 c
        have n21 : ¬ nI 2 = 1 := by decide
        simp [e0, c, k7, n21]
  · exact (a2.mono (fun k j h => Or.inr h)).tr (c2.fq.mono (fun k j h => Or.inl h))
