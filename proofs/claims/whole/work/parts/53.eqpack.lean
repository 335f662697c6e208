/-! ===== pure: pack, both sides ===== -/
def setR (A : Nat → Nat → Nat) (i0 : Nat) (q : Nat → Nat) : Nat → Nat → Nat := fun i j => if i = i0 then q j else A i j
theorem FT.frow {o : Nat} {sl : Nat → Nat → Nat} (so : slOk sl) {e : Nat → Nat → Int32} {b : Nat → Nat} {A : Nat → Nat → Nat} {σ σ' : eb_S} (h : FT o sl e b A σ) (i0 : Nat) (q : Nat → Nat) {c : Nat} (hi : i0 < 19) (h0 : ¬ sca i0) (hc : c = tC o i0) (hF : ∀ k j, k ≠ c → eb_I σ' k j = eb_I σ k j) (hq : ∀ j, j < b i0 → eb_I σ' c j = e i0 (q j)) : FT o sl e b (setR A i0 q) σ' := by
  intro i j hi2 hj
  unfold setR
  by_cases e0 : i = i0
  · subst e0
    rw [if_pos rfl, so.2 i j h0, ← hc]
    exact hq j hj
  · rw [if_neg e0, hF _ _ (fun z => by
      rw [hc] at z
      rcases tC_inj hi2 hi z with y | y
      · exact e0 y
      · exact h0 y.2)]
    exact h i j hi2 hj
theorem wf_bags {A : Nat → Nat → Nat} (w : wf A) {q : Nat → Nat} (hq : ∀ t, t < aN A → q t < 3) : wf (setR A 5 q) := by
  obtain ⟨wN, wT, wS, wY, wB, wR, wLn, wL, wBn, wE⟩ := w
  refine ⟨wN, fun t ht => ?_, wS, wY, wB, wR, wLn, wL, wBn, wE⟩
  have h := wT t ht
  have h2 := hq t ht
  exact ⟨h.1, h.2.1, h.2.2.1, h.2.2.2.1, h.2.2.2.2.1, by show q t ≤ 2; omega⟩
def s14 (k j : Nat) : Prop := k = 14 ∨ (k = 9 ∧ j = 0)
set_option maxHeartbeats 4000000 in
theorem x_packAs {A : Nat → Nat → Nat} (w : wf A) {ch : Nat} {σ : eb_S} (h9 : X9 A ch σ) {r : Nat} {q : Nat → Nat} (hr : RW q (aN A) r σ) (hr2 : r ≠ 14) (hr3 : r ≠ 9) : ∃ σ1, f_X3_packAs 9 r σ = some ((), σ1) ∧ Fr s14 σ σ1 ∧ X9 (setR A 5 q) (ch + 1) σ1 := by
  obtain ⟨hs, hX, hc⟩ := h9
  have wN := w.1
  have hN := hX.1
  have F1 : Fr s14 σ (eb_sI σ 9 0 (nI (ch + 1))) := Fr.sI (Or.inr ⟨rfl, rfl⟩)
  have F2 : Fr s14 (eb_sI σ 9 0 (nI (ch + 1))) (eb_rI (eb_sI σ 9 0 (nI (ch + 1))) 14 (va_cpy (eb_I (eb_sI σ 9 0 (nI (ch + 1))) r) (eb_I (eb_sI σ 9 0 (nI (ch + 1))) 14) 0 0 (aN A))) := Fr.rI (fun j => Or.inl (Or.inl rfl))
  refine ⟨_, ?_, F1.tr F2, (F1.tr F2).shM9 hs, ?_, ?_⟩
  · unfold ShM9 at hs
    unfold f_X3_packAs
    simp [eb_gI, eb_pI, eb_gR, eb_ci, hs, hc, nI_1, eb_T_sI, eb_R_sI, eb_L_sI, eb_J_sI, eb_N_sI, eb_T_sJ, eb_R_sJ, eb_L_sJ, eb_I_sJ, eb_N_sJ, eb_T_rI, eb_R_rI, eb_L_rI, eb_J_rI, eb_N_rI, eb_T_rJ, eb_R_rJ, eb_L_rJ, eb_I_rJ, eb_N_rJ, eb_I_sI, hN, p_cl (show aN A < 2 ^ 31 by omega), p_neg (show aN A < 2 ^ 31 by omega), c0, hr.1, hr.2.1, wN]
  · have f0 : FT 9 tS tE (bd A) A (eb_sI σ 9 0 (nI (ch + 1))) := FT.ch hX.ft
    refine FT.MX9 (FT.frow slOk_tS f0 5 q (c := 14) (by decide) (by decide) rfl (fun k j hk => by rw [eb_I_rI, if_neg hk]) (fun j hj => ?_))
    have hj : j < aN A := hj
    rw [eb_I_rI, if_pos rfl]
    unfold va_cpy
    rw [if_pos ⟨by omega, by omega⟩, show 0 + (j - 0) = j by omega, eb_I_sI, if_neg hr3, hr.at hj]
    rfl
  · rw [eb_I_rI, if_neg (by decide), eb_I_sI, if_pos rfl, if_pos rfl]
def sP (k j : Nat) : Prop := k = 96 ∨ sB k j
theorem d_pack_L {A : Nat → Nat → Nat} (w : wf A) {n : Nat} {K : eb_S → Option (Int32 × eb_S)} : ∀ (m t : Nat) (σ : eb_S), ShD σ → eb_I σ 91 0 = nI (aN A) → (∀ u, u < t → eb_I σ 96 u = eb_I σ 111 u) → t ≤ aN A → aN A < t + m → ∃ σ', f_X10_pack_L12 n 91 K m (nI t) σ = K σ' ∧ Fr (fun k _ => k = 96) σ σ' ∧ ∀ u, u < aN A → eb_I σ' 96 u = eb_I σ 111 u := by
  intro m
  induction m with
  | zero => intro t σ _ _ _ h1 h2; omega
  | succ m ih =>
    intro t σ hs hN hz h1 h2
    have wN := w.1
    have hs' := hs
    unfold ShD at hs
    rw [f_X10_pack_L12.eq_2]
    simp only [eb_gI, hs, hN, List.mem_singleton, if_true, p_leN (show aN A < 2 ^ 31 by omega) (show t < 2 ^ 31 by omega)]
    by_cases h : aN A ≤ t
    · exact ⟨σ, by simp [h], Fr.rf, fun u hu => hz u (by omega)⟩
    · have hF : Fr (fun k _ => k = 96) σ (eb_sI σ 96 t (eb_I σ 111 t)) := Fr.sI rfl
      obtain ⟨σ', g1, g2, g3⟩ := ih (t + 1) (eb_sI σ 96 t (eb_I σ 111 t)) (hF.shD hs') (by rw [eb_I_sI, if_neg (by decide)]; exact hN) (fun u hu => by
        have e2 : eb_I (eb_sI σ 96 t (eb_I σ 111 t)) 111 u = eb_I σ 111 u := by rw [eb_I_sI, if_neg (by omega)]
        rw [e2]
        by_cases e : u = t
        · rw [eb_I_sI, if_pos rfl, if_pos e, e]
        · rw [eb_I_sI, if_pos rfl, if_neg e]; exact hz u (by omega)) (by omega) (by omega)
      refine ⟨σ', by simp [h, eb_gR, eb_ai, eb_wi, hs, p_in (show t < 10 by omega) (by decide : 10 < 2 ^ 31), p_cl (show t < 2 ^ 31 by omega), nI_1, g1], hF.tr g2, fun u hu => ?_⟩
      rw [g3 u hu, eb_I_sI, if_neg (by omega)]
def aPack (A : Nat → Nat → Nat) (acc : Option (Nat × Nat × (Nat → Nat))) : Nat → Nat → Nat := match acc with
  | none => A
  | some (_, _, q) => setR A 5 q
def sX5 (k j : Nat) : Prop := s14 k j ∨ sv 59 k j
set_option maxHeartbeats 4000000 in
theorem eq_pack {A : Nat → Nat → Nat} (w : wf A) {n ch : Nat} (hn : 100000 ≤ n) (hch : ch < 2 ^ 30) {σ : eb_S} (hb : ShB σ) (h9 : X9 A ch σ) (hS : XS0 A ch σ) (hd : ShD σ) (hD : MD A σ) : ∃ r σ1 σ2 A' ch', f_X9_pack n 8 σ = some (r, σ1) ∧ Fr sX5 σ σ1 ∧ X9 A' ch' σ1 ∧ XS0 A' ch' σ1 ∧ f_X10_pack n 91 σ1 = some (r, σ2) ∧ Fr sP σ1 σ2 ∧ MD A' σ2 ∧ wf A' ∧ (A' = A ∧ ch' = ch ∨ ch' = ch + 1 ∧ ∃ q, A' = setR A 5 q) := by
  have wN := w.1
  obtain ⟨σ1, c1, c2, c3, c4⟩ := x_ask0 w (n := n) (by omega) hch h9 hS
  have c2q := c2.fq
  have h91 : X9 A ch σ1 := h9.fr c2q (fun k j h1 h2 z => by unfold sv at z; omega)
  have hd1 := c2.shD hd
  have hD1 := c2.md (nD_sv (v := 59) (by decide)) hD
  have hb1 := c2.shB hb
  have hT1 := c4.1
  have hT0 : eb_T σ 59 = 0 := by rw [← c2.1]; exact hT1
  have hS1 := c3.1
  have hbu := hb
  have hbu1 := hb1
  unfold ShB at hbu hbu1
  unfold ShS0 at hS1
  match hB : bB A, c4.2.2 with
  | none, z0 =>
    have z0 : eb_I σ1 59 6 = 0 := z0
    obtain ⟨b, σ2, e1, e2, e3, e4, e5⟩ := d_isBest w hn hd1 hD1
    rw [hB] at e5
    have zb : b = false := by have : eb_b b = 0 := e5; rw [eb_b0] at this; exact this
    subst zb
    refine ⟨-4, σ1, σ2, A, ch, ?_, c2.mono (fun k j h => Or.inr h), h91, c3, ?_, e4.mono (fun k j h => Or.inr h), e3, w, Or.inl ⟨rfl, rfl⟩⟩
    · unfold f_X9_pack; simp [eb_gR, eb_gI, eb_tg, hbu, hbu1, c1, eb_cl_s, hT1, hT0, z0]
    · unfold ShD at hd1; unfold f_X10_pack; simp [eb_tg, hd1, e1, eb_cl_s, eb_b0]
  | some (w0, h0, q), z0 =>
    obtain ⟨z1, z2, z3, z4, z5, z6⟩ := z0
    have z1' : ¬ eb_I σ1 59 6 = 0 := by rw [z1]; decide
    obtain ⟨σ2, p1, p2, p3⟩ := x_packAs w h91 (r := 61) (q := q) ⟨by simp [hS1], by simp [hS1], z6⟩ (by decide) (by decide)
    have hd2 := p2.shD hd1
    have hD2 : MD A σ2 := p2.md (fun k j h => by unfold s14 at h; omega) hD1
    have hb2 := p2.shB hb1
    unfold ShB at hb2
    have z7 : eb_I σ2 59 7 = nI w0 := by rw [p2.2.2.2.2.2 _ _ (fun z => by unfold s14 at z; omega)]; exact z2
    have hT2 : eb_T σ2 59 = 0 := by rw [p2.1]; exact hT1
    have w' : wf (setR A 5 q) := wf_bags w (fun t ht => (z6 t ht).2)
    obtain ⟨b, σ3, e1, e2, e3, e4, e5⟩ := d_isBest w hn hd2 hD2
    rw [hB] at e5
    obtain ⟨y1, y2, y3, y4, y5, y6⟩ := e5
    have zb : b = true := by rw [eb_b1] at y1; exact y1
    subst zb
    obtain ⟨σ4, l1, l2, l3⟩ := d_pack_L w (n := n) (K := fun s8 => eb_gI s8 [9] 91 31 fun x9 => some (x9, s8)) n 0 σ3 e2 e3.1 (fun u hu => by omega) (by omega) (by omega)
    rw [nI_0] at l1
    have hs4 := l2.shD e2
    unfold ShD at hs4
    refine ⟨nI w0, σ2, σ4, setR A 5 q, ch + 1, ?_, (c2.mono (fun k j h => Or.inr h)).tr (p2.mono (fun k j h => Or.inl h)), p3, (c3.fr p2.fq (fun k j h1 h2 z => by unfold s14 at z; omega)).up (by omega), ?_, (e4.mono (fun k j h => Or.inr h)).tr (l2.mono (fun k j h => Or.inl h)), ?_, w', Or.inr ⟨rfl, q, rfl⟩⟩
    · unfold f_X9_pack; simp [eb_gR, eb_gI, eb_tg, hbu, hbu1, c1, eb_cl_s, hT1, hT0, z1', hS1, h91.1.1, p1, hb2, hT2, z7]
    · unfold ShD at hd2
      unfold f_X10_pack
      simp only [eb_tg, hd2, if_true, e1, eb_cl_s, eb_b0, Bool.true_eq_false, if_false, l1]
      simp [eb_gI, hs4, l2.2.2.2.2.2 91 31 (by decide), y2]
    · refine FT.MD (FT.frow slOk_dS e3.ft 5 q (c := 96) (by decide) (by decide) rfl (fun k j hk => l2.2.2.2.2.2 k j hk) (fun j hj => ?_))
      have hj : j < aN A := hj
      rw [l3 j hj]
      exact (y6 j hj).1
