/-! ===== pure: the model's best ===== -/
def sF (k _j : Nat) : Prop := k = 111
theorem nD_sF : nD sF := fun k j h => by unfold sF at h; omega
set_option maxHeartbeats 2000000 in
theorem d_finds_L {n : Nat} : ∀ (m t : Nat) (σ : eb_S), ShD σ → (∀ u, u < t → eb_I σ 111 u = eb_I σ 110 u) → t ≤ 10 → 10 < t + m → ∃ σ', f_X10_finds_L2 n 91 m (nI t) σ = some ((), σ') ∧ Fr sF σ σ' ∧ ∀ u, u < 10 → eb_I σ' 111 u = eb_I σ 110 u := by
  intro m
  induction m with
  | zero => intro t σ _ _ h1 h2; omega
  | succ m ih =>
    intro t σ hs hz h1 h2
    have hs' := hs
    unfold ShD at hs
    rw [f_X10_finds_L2.eq_2]
    have e : ((10 : Int32) ≤ nI t) = (10 ≤ t) := p_leN (a := 10) (b := t) (by decide) (by omega)
    simp only [eb_cl_s, eb_b0, eb_b1, eb_jn_e, eb_tg, eb_ts, eb_d3, eb_gI, eb_gR, eb_pI, eb_pZ, eb_pR, eb_ai, eb_ac, eb_al, eb_ar, eb_wi, eb_wc, eb_wl, eb_wr, eb_ln, eb_xi, eb_zb, eb_sw, eb_lw, hs, e]
    by_cases h : 10 ≤ t
    · exact ⟨σ, by simp [h], Fr.rf, fun u hu => hz u (by omega)⟩
    · have hF : Fr sF σ (eb_sI σ 111 t (eb_I σ 110 t)) := Fr.sI rfl
      obtain ⟨σ', g1, g2, g3⟩ := ih (t + 1) (eb_sI σ 111 t (eb_I σ 110 t)) (hF.shD hs') (fun u hu => by
        have e2 : eb_I (eb_sI σ 111 t (eb_I σ 110 t)) 110 u = eb_I σ 110 u := by rw [eb_I_sI, if_neg (by omega)]
        rw [e2]
        by_cases e : u = t
        · rw [eb_I_sI, if_pos rfl, if_pos e, e]
        · rw [eb_I_sI, if_pos rfl, if_neg e]; exact hz u (by omega)) (by omega) (by omega)
      refine ⟨σ', by simp [h, p_in (show t < 10 by omega) (by decide : 10 < 2 ^ 31), p_cl (show t < 2 ^ 31 by omega), nI_1, g1], hF.tr g2, fun u hu => ?_⟩
      rw [g3 u hu, eb_I_sI, if_neg (by omega)]
theorem d_finds {n : Nat} (hn : 100 ≤ n) {σ : eb_S} (hs : ShD σ) : ∃ σ', f_X10_finds n 91 σ = some ((), σ') ∧ Fr sF σ σ' ∧ ∀ u, u < 10 → eb_I σ' 111 u = eb_I σ 110 u :=
  d_finds_L n 0 σ hs (fun u hu => by omega) (by omega) (by omega)
/-- a better packing takes the place of the one that was found -/
def bt (A : Nat → Nat → Nat) (p : Nat → Nat) (acc : Option (Nat × Nat × (Nat → Nat))) : Option (Nat × Nat × (Nat → Nat)) := match acc with
  | none => some (wst A p (aS A), whl A p (aS A), p)
  | some (w0, h0, q) => if wst A p (aS A) < w0 ∨ (wst A p (aS A) = w0 ∧ whl A p (aS A) < h0) then some (wst A p (aS A), whl A p (aS A), p) else some (w0, h0, q)
noncomputable def gB (A : Nat → Nat → Nat) (p : Nat → Nat) (acc : Option (Nat × Nat × (Nat → Nat))) : Option (Nat × Nat × (Nat → Nat)) := @ite _ (lawfulP A p) (Classical.propDecidable _) (bt A p acc) acc
theorem gB_t {A : Nat → Nat → Nat} {p : Nat → Nat} (h : lawfulP A p) (acc : Option (Nat × Nat × (Nat → Nat))) : gB A p acc = bt A p acc := by unfold gB; rw [if_pos h]
theorem gB_f {A : Nat → Nat → Nat} {p : Nat → Nat} (h : ¬ lawfulP A p) (acc : Option (Nat × Nat × (Nat → Nat))) : gB A p acc = acc := by unfold gB; rw [if_neg h]
/-- what the model may change meanwhile -/
def sB (k j : Nat) : Prop := k = 110 ∨ k = 111 ∨ (k = 91 ∧ (j = 27 ∨ j = 28 ∨ j = 31 ∨ j = 32))
theorem nD_sB : nD sB := fun k j h => by unfold sB at h; omega
theorem sU_sB : ∀ k j, sU k j → sB k j := fun k j h => by unfold sU at h; unfold sB; omega
theorem sT_sB : ∀ k j, sT k j → sB k j := fun k j h => by unfold sT at h; unfold sB; omega
theorem sF_sB : ∀ k j, sF k j → sB k j := fun k j h => by unfold sF at h; unfold sB; omega
def aBest (N : Nat) (acc : Option (Nat × Nat × (Nat → Nat))) (v : Int32) (σ : eb_S) : Prop := match acc with
  | none => v = 0
  | some (w0, h0, q) => v = 1 ∧ eb_I σ 91 31 = nI w0 ∧ eb_I σ 91 32 = nI h0 ∧ w0 < 2 ^ 31 ∧ h0 < 2 ^ 31 ∧ ∀ u, u < N → eb_I σ 111 u = nI (q u) ∧ q u < 3
def rBest (A : Nat → Nat → Nat) (σ0 : eb_S) (p : Nat → Nat) (acc : Option (Nat × Nat × (Nat → Nat))) (x : Int32 × eb_S) : Prop := ShD x.2 ∧ MD A x.2 ∧ TR (aN A) p x.2 ∧ Fr sB σ0 x.2 ∧ aBest (aN A) acc x.1 x.2
def lBest (n : Nat) (m : Nat) (x : Int32 × eb_S) : Option (Bool × eb_S) := f_X10_isBest_L8 n 91 m x.1 1 x.2
def tBest (n : Nat) (m : Nat) (x : Int32 × eb_S) : Option (Bool × eb_S) := eb_cl (f_X10_turns n 91 3 x.2) fun b s => f_X10_isBest_L8 n 91 m x.1 (eb_b b) s
theorem aBest_Fr {N : Nat} {acc : Option (Nat × Nat × (Nat → Nat))} {v : Int32} {σ σ' : eb_S} {S : Nat → Nat → Prop} (hF : Fr S σ σ') (h1 : ¬ S 91 31) (h2 : ¬ S 91 32) (h3 : ∀ j, ¬ S 111 j) (h : aBest N acc v σ) : aBest N acc v σ' := by
  match acc, h with
  | none, h => exact h
  | some (w0, h0, q), ⟨a1, a2, a3, a4, a5, a6⟩ => exact ⟨a1, by rw [hF.2.2.2.2.2 _ _ h1]; exact a2, by rw [hF.2.2.2.2.2 _ _ h2]; exact a3, a4, a5, fun u hu => by rw [hF.2.2.2.2.2 _ _ (h3 u)]; exact a6 u hu⟩
theorem TR.fr {N : Nat} {p : Nat → Nat} {σ σ' : eb_S} {S : Nat → Nat → Prop} (hF : Fr S σ σ') (h3 : ∀ j, ¬ S 110 j) (h : TR N p σ) : TR N p σ' := fun u hu => by rw [hF.2.2.2.2.2 _ _ (h3 u)]; exact h u hu
set_option maxHeartbeats 4000000 in
theorem d_best_step {A : Nat → Nat → Nat} (w : wf A) {n : Nat} (hn : 100 ≤ n) {σ0 : eb_S} (m : Nat) (p : Nat → Nat) (acc : Option (Nat × Nat × (Nat → Nat))) (x : Int32 × eb_S) (h : rBest A σ0 p acc x) : ∃ x', lBest n (m + 1) x = tBest n m x' ∧ rBest A σ0 p (gB A p acc) x' := by
  obtain ⟨v, σ⟩ := x
  obtain ⟨hs, hD, hT, hF, hA⟩ := h
  dsimp only at hs hD hT hF hA
  obtain ⟨b, hb1, hb2⟩ := d_isLawful hs hD w (hT.rw hs) hn
  unfold lBest tBest
  dsimp only
  rw [f_X10_isBest_L8.eq_2]
  have hs' := hs
  unfold ShD at hs
  simp only [eb_gR, eb_tg, hs, List.mem_singleton, hb1, eb_cl_s, eb_jn_e, eb_b0, if_true, show ¬ (1 : Int32) = 0 by decide, if_false, ne_eq, and_self, not_false_eq_true, show ¬ (110 : Nat) = 0 by decide]
  cases b with
  | false =>
    have hl : ¬ lawfulP A p := fun z => by have := hb2.mpr z; cases this
    exact ⟨(v, σ), by simp [hs], hs', hD, hT, hF, by rw [gB_f hl]; exact hA⟩
  | true =>
    have hl : lawfulP A p := hb2.mp rfl
    obtain ⟨σ1, u1, u2, u3, u4⟩ := d_unevens w (r := 110) (by decide) hn hs' hD (hT.rw hs')
    have hs1 := u2.shD hs'
    have hs1' := hs1
    unfold ShD at hs1
    have hT1 : TR (aN A) p σ1 := hT.fr u2 (fun j z => by unfold sU at z; omega)
    have hA1 : aBest (aN A) acc v σ1 := aBest_Fr u2 (fun z => by unfold sU at z; omega) (fun z => by unfold sU at z; omega) (fun j z => by unfold sU at z; omega) hA
    have wl := wst_le w p (aS A)
    have hl2 := whl_le w p (aS A) (Nat.le_refl _)
    have wS := w.2.2.1
    -- the better one is kept
    have hF3 : Fr sB σ1 (eb_sI (eb_sI σ1 91 31 (nI (wst A p (aS A)))) 91 32 (nI (whl A p (aS A)))) := (Fr.sI (by unfold sB; omega)).tr (Fr.sI (by unfold sB; omega))
    obtain ⟨σ2, f1, f2, f3⟩ := d_finds hn (hF3.shD hs1')
    have keep : rBest A σ0 p (some (wst A p (aS A), whl A p (aS A), p)) (1, σ2) := by
      refine ⟨f2.shD (hF3.shD hs1'), f2.md nD_sF (hF3.md nD_sB (u2.md nD_sU hD)), ?_, hF.tr ((u2.mono sU_sB).tr (hF3.tr (f2.mono sF_sB))), rfl, ?_, ?_, by omega, by omega, fun u hu => ?_⟩
      · intro u hu
        rw [f2.2.2.2.2.2 _ _ (fun z => by unfold sF at z; omega), eb_I_sI, if_neg (by omega), eb_I_sI, if_neg (by omega)]
        exact hT1 u hu
      · rw [f2.2.2.2.2.2 _ _ (fun z => by unfold sF at z; omega)]; simp [eb_I_sI]
      · rw [f2.2.2.2.2.2 _ _ (fun z => by unfold sF at z; omega)]; simp [eb_I_sI]
      · have wN := w.1
        dsimp only
        rw [f3 u (by omega), eb_I_sI, if_neg (by omega), eb_I_sI, if_neg (by omega)]
        exact hT1 u hu
    have hk2 := keep.1
    dsimp only at hk2
    unfold ShD at hk2
    rw [gB_t hl]
    match acc, hA1 with
    | none, hv =>
      have hv : v = 0 := hv
      subst hv
      refine ⟨(1, σ2), ?_, keep⟩
      simp [hs, u1, eb_cl_s, eb_gI, eb_pI, eb_tg, hs1, eb_T_sI, eb_R_sI, eb_L_sI, eb_J_sI, eb_N_sI, eb_T_sJ, eb_R_sJ, eb_L_sJ, eb_I_sJ, eb_N_sJ, eb_T_rI, eb_R_rI, eb_L_rI, eb_J_rI, eb_N_rI, eb_T_rJ, eb_R_rJ, eb_L_rJ, eb_I_rJ, eb_N_rJ, u3, u4, eb_I_sI, f1, hk2]
    | some (w0, h0, q), ⟨a1, a2, a3, a4, a5, a6⟩ =>
      subst a1
      have stay : rBest A σ0 p (some (w0, h0, q)) (1, σ1) := ⟨hs1', u2.md nD_sU hD, hT1, hF.tr (u2.mono sU_sB), rfl, a2, a3, a4, a5, a6⟩
      have c1 : (nI (wst A p (aS A)) < nI w0) = (wst A p (aS A) < w0) := p_ltN (by omega) a4
      have c2 : (nI (wst A p (aS A)) = nI w0) = (wst A p (aS A) = w0) := p_eqN (by omega) a4
      have c3 : (nI h0 ≤ nI (whl A p (aS A))) = (h0 ≤ whl A p (aS A)) := p_leN a5 (by omega)
      by_cases e1 : wst A p (aS A) < w0
      · refine ⟨(1, σ2), ?_, by simp only [bt, e1, true_or, if_true]; exact keep⟩
        simp [hs, u1, eb_cl_s, eb_gI, eb_pI, eb_tg, hs1, eb_T_sI, eb_R_sI, eb_L_sI, eb_J_sI, eb_N_sI, eb_T_sJ, eb_R_sJ, eb_L_sJ, eb_I_sJ, eb_N_sJ, eb_T_rI, eb_R_rI, eb_L_rI, eb_J_rI, eb_N_rI, eb_T_rJ, eb_R_rJ, eb_L_rJ, eb_I_rJ, eb_N_rJ, u3, u4, eb_I_sI, f1, hk2, a2, a3, c1, e1]
      · by_cases e2 : wst A p (aS A) = w0
        · by_cases e3 : h0 ≤ whl A p (aS A)
          · refine ⟨(1, σ1), ?_, by show rBest A σ0 p (ite _ _ _) _; rw [if_neg (by omega)]; exact stay⟩
            simp [hs, u1, eb_cl_s, eb_gI, eb_pI, eb_tg, hs1, u3, u4, a2, a3, c1, c2, c3, e1, e2, e3]
          · refine ⟨(1, σ2), ?_, by show rBest A σ0 p (ite _ _ _) _; rw [if_pos (by omega)]; exact keep⟩
            have c4 : (nI (wst A p (aS A)) = nI w0) = True := by rw [c2]; exact eq_true e2
            have c5 : (nI (wst A p (aS A)) < nI w0) = False := by rw [c1]; exact eq_false e1
            simp [hs, u1, eb_cl_s, eb_gI, eb_pI, eb_tg, hs1, eb_T_sI, eb_R_sI, eb_L_sI, eb_J_sI, eb_N_sI, eb_T_sJ, eb_R_sJ, eb_L_sJ, eb_I_sJ, eb_N_sJ, eb_T_rI, eb_R_rI, eb_L_rI, eb_J_rI, eb_N_rI, eb_T_rJ, eb_R_rJ, eb_L_rJ, eb_I_rJ, eb_N_rJ, u3, u4, eb_I_sI, f1, hk2, a2, a3, c5, c4, c3, e3]
        · refine ⟨(1, σ1), ?_, by show rBest A σ0 p (ite _ _ _) _; rw [if_neg (by omega)]; exact stay⟩
          simp [hs, u1, eb_cl_s, eb_gI, eb_pI, eb_tg, hs1, u3, u4, a2, a3, c1, c2, e1, e2]

theorem d_best_turn {A : Nat → Nat → Nat} (w : wf A) {n : Nat} (hn : 100 ≤ n) {σ0 : eb_S} (m : Nat) (p : Nat → Nat) (acc : Option (Nat × Nat × (Nat → Nat))) (x : Int32 × eb_S) (t : Nat) (h : rBest A σ0 p acc x) (ht : t < aN A) (hp : p t < 2) (hf : ∀ u, t < u → u < aN A → p u = 2) : ∃ x', tBest n m x = lBest n m x' ∧ rBest A σ0 (rfil (aN A) (t + 1) 0 (rup p t (p t + 1))) acc x' := by
  obtain ⟨v, σ⟩ := x
  obtain ⟨hs, hD, hT, hF, hA⟩ := h
  dsimp only at hs hD hT hF hA
  obtain ⟨σ1, g1, g2, g3⟩ := d_turns hn (mm := 2) (by decide) w hs hD hT ht hp hf
  refine ⟨(v, σ1), ?_, g2.shD hs, g2.md nD_sT hD, g3, hF.tr (g2.mono sT_sB), aBest_Fr g2 (fun z => by unfold sT at z; omega) (fun z => by unfold sT at z; omega) (fun j z => by unfold sT at z; omega) hA⟩
  unfold tBest lBest
  dsimp only
  rw [show (3 : Int32) = nI (2 + 1) from rfl, g1, eb_cl_s]
  rfl
/-- the best of all rows, the earliest of equals -/
noncomputable def bB (A : Nat → Nat → Nat) : Option (Nat × Nat × (Nat → Nat)) := en (gB A) [0, 1, 2] (aN A) 0 (fun _ => 0) none
theorem d_isBest {A : Nat → Nat → Nat} (w : wf A) {n : Nat} (hn : 100000 ≤ n) {σ : eb_S} (hs : ShD σ) (hD : MD A σ) : ∃ b σ', f_X10_isBest n 91 σ = some (b, σ') ∧ ShD σ' ∧ MD A σ' ∧ Fr sB σ σ' ∧ aBest (aN A) (bB A) (eb_b b) σ' := by
  have wN := w.1
  obtain ⟨σ1, g1, g2, g3⟩ := d_begins (n := n) (by omega) hs
  have h3 : 3 ^ aN A ≤ 3 ^ 10 := Nat.pow_le_pow_right (by decide) wN
  have h4 : 3 ^ 10 = 59049 := by decide
  have r0 : rBest A σ (fun _ => 0) none (0, σ1) := ⟨g2.shD hs, g2.md nD_sT hD, fun u hu => ⟨by rw [g3 u (by omega)]; exact nI_0.symm, by show 0 < 3; omega⟩, g2.mono sT_sB, rfl⟩
  obtain ⟨m, hm⟩ : ∃ m, n = (m + 1) + 3 ^ aN A := ⟨n - 1 - 3 ^ aN A, by omega⟩
  obtain ⟨x', a1, a2⟩ := blk3 (N := aN A) (R := rBest A σ) (L := lBest n) (Tn := tBest n) (fun m p acc x h => d_best_step w (by omega) m p acc x h) (fun m p acc x t h h1 h2 h3 => d_best_turn w (by omega) m p acc x t h h1 h2 h3) (aN A) 0 (by omega) (fun _ => 0) none (0, σ1) (m + 1) r0 (fun _ _ _ => rfl)
  obtain ⟨v, σ2⟩ := x'
  obtain ⟨hs2, hD2, hT2, hF2, hA2⟩ := a2
  dsimp only at hs2 hD2 hT2 hF2 hA2
  obtain ⟨σ3, e1, e2⟩ := d_turnsE (n := n) (by omega) (mm := 2) (by decide) w hs2 hD2 hT2 (fun u hu => by unfold rfil; rw [if_pos ⟨by omega, hu⟩])
  have hA3 := aBest_Fr e2 (fun z => by unfold sT at z; omega) (fun z => by unfold sT at z; omega) (fun j z => by unfold sT at z; omega) hA2
  have run : f_X10_isBest n 91 σ = eb_zb v fun b => some (b, σ3) := by
    have hs' := hs
    unfold ShD at hs'
    unfold f_X10_isBest
    simp only [eb_tg, hs', if_true, g1, eb_cl_s]
    have : f_X10_isBest_L8 n 91 n 0 1 σ1 = lBest n ((m + 1) + 3 ^ aN A) (0, σ1) := by rw [← hm]; rfl
    rw [this, a1]
    unfold tBest
    dsimp only
    rw [show (3 : Int32) = nI (2 + 1) from rfl, e1, eb_cl_s, f_X10_isBest_L8.eq_2, if_pos (by decide)]
  have fin : ∀ b : Bool, v = eb_b b → f_X10_isBest n 91 σ = some (b, σ3) := by
    intro b hb
    rw [run, hb]
    cases b <;> rfl
  have out : ∀ b : Bool, v = eb_b b → ∃ b σ', f_X10_isBest n 91 σ = some (b, σ') ∧ ShD σ' ∧ MD A σ' ∧ Fr sB σ σ' ∧ aBest (aN A) (bB A) (eb_b b) σ' := fun b hb => ⟨b, σ3, fin b hb, e2.shD hs2, e2.md nD_sT hD2, hF2.tr (e2.mono sT_sB), by rw [← hb]; exact hA3⟩
  have hcase : v = 0 ∨ v = 1 := by
    revert hA2
    unfold aBest
    cases en (gB A) [0, 1, 2] (aN A) 0 (fun _ => 0) none with
    | none => intro h; exact Or.inl h
    | some z => intro h; exact Or.inr h.1
  rcases hcase with h | h
  · exact out false h
  · exact out true h
