/-! ===== pure: sheet, drop, item, film ===== -/
theorem Fq.shD0 {S : Nat → Nat → Prop} {σ σ' : eb_S} (h : Fq S σ σ') (hn : ∀ k, ¬ S k 1000) (hs : ShD σ) : ShD σ' := by
  obtain ⟨e1, e2, e3⟩ := h.shape hn
  unfold ShD at hs ⊢; rw [e1, e2, e3]; exact hs
theorem Fq.shH0 {S : Nat → Nat → Prop} {σ σ' : eb_S} (h : Fq S σ σ') (hn : ∀ k, ¬ S k 1000) (hs : ShH σ) : ShH σ' := by
  obtain ⟨e1, e2, e3⟩ := h.shape hn
  unfold ShH at hs ⊢; rw [e1, e2, e3]; exact hs
theorem Fq.shM90 {S : Nat → Nat → Prop} {σ σ' : eb_S} (h : Fq S σ σ') (hn : ∀ k, ¬ S k 1000) (hs : ShM9 σ) : ShM9 σ' := by
  obtain ⟨e1, e2, e3⟩ := h.shape hn
  unfold ShM9 at hs ⊢; rw [e1, e2, e3]; exact hs
theorem Fq.md {S : Nat → Nat → Prop} {σ σ' : eb_S} (h : Fq S σ σ') (hn : nD S) {A : Nat → Nat → Nat} (hX : MD A σ) : MD A σ' := by
  refine FT.MD (fun i j hi hj => ?_)
  rw [h.i (fun z => ?_)]
  · exact hX.ft i j hi hj
  · have hz := hn _ _ z
    by_cases s0 : sca i
    · rw [tC_sca s0] at hz
      refine hz.1 ⟨rfl, ?_⟩
      unfold dS
      rw [if_pos s0]
      exact s0
    · have := tC_bd hi s0
      exact hz.2 ⟨this.2.2.1, this.2.2.2⟩
theorem DH.fq {ln sz : Nat → Nat} {it : Nat → Nat → Int64} {σ σ' : eb_S} {S : Nat → Nat → Prop} (h : DH ln sz it σ) (hF : Fq S σ σ') (hn : nt S 115 117) : DH ln sz it σ' := fun s hs => by
  obtain ⟨a1, a2⟩ := h s hs
  refine ⟨by rw [hF.it hn (by decide) (by decide)]; exact a1, fun hl => ⟨by rw [hF.it hn (by decide) (by decide)]; exact (a2 hl).1, fun j hj => ?_⟩⟩
  rw [hF.jj (hn _ _ (by decide) (by decide))]
  exact (a2 hl).2 j hj
def iup (it : Nat → Nat → Int64) (s : Nat) (g : Nat → Int64) : Nat → Nat → Int64 := fun u => if u = s then g else it u
def sXs (s k j : Nat) : Prop := (k = 82 + 2 * s ∨ k = 83 + 2 * s) ∧ j < 1000
def sDs (s k j : Nat) : Prop := ((k = 115 ∨ k = 116) ∧ j = s ∧ j < 4) ∨ (k = 117 ∧ 16 * s ≤ j ∧ j < 16 * s + 16 ∧ j < 64) ∨ (k = 118 ∧ j < 1000)
def sH (k j : Nat) : Prop := 82 ≤ k ∧ k ≤ 89 ∧ j < 1000
def sHd (k j : Nat) : Prop := 115 ≤ k ∧ k ≤ 118 ∧ j < 1000
theorem sXs_H {s : Nat} (hs : s < 4) : ∀ k j, sXs s k j → sH k j := fun k j h => by unfold sXs at h; unfold sH; omega
theorem sDs_H {s : Nat} : ∀ k j, sDs s k j → sHd k j := fun k j h => by unfold sDs at h; unfold sHd; omega
theorem sXs_0 {s : Nat} : ∀ k, ¬ sXs s k 1000 := fun k h => by unfold sXs at h; omega
theorem sDs_0 {s : Nat} : ∀ k, ¬ sDs s k 1000 := fun k h => by unfold sDs at h; omega
theorem sH_0 : ∀ k, ¬ sH k 1000 := fun k h => by unfold sH at h; omega
theorem sHd_0 : ∀ k, ¬ sHd k 1000 := fun k h => by unfold sHd at h; omega
theorem XH.up {ln sz : Nat → Nat} {it : Nat → Nat → Int64} {σ σ' : eb_S} (h : XH ln sz it σ) {s l z : Nat} {g : Nat → Int64} (hs : s < 4) (hF : Fq (sXs s) σ σ') (h0 : eb_I σ' (82 + 2 * s) 0 = nI l - 1) (h1 : l ≠ 0 → eb_I σ' (82 + 2 * s) 1 = nI z ∧ ∀ j, j < 16 → eb_J σ' (83 + 2 * s) j = g j) : XH (rup ln s l) (rup sz s z) (iup it s g) σ' := by
  refine ⟨hF.shH0 sXs_0 h.1, fun u hu => ?_⟩
  unfold rup iup
  by_cases e : u = s
  · subst e
    simp only [if_true]
    exact ⟨h0, h1⟩
  · simp only [e, if_false]
    obtain ⟨a1, a2⟩ := h.2 u hu
    refine ⟨by rw [hF.i (fun z => by unfold sXs at z; omega)]; exact a1, fun hl => ⟨by rw [hF.i (fun z => by unfold sXs at z; omega)]; exact (a2 hl).1, fun j hj => ?_⟩⟩
    rw [hF.jj (fun z => by unfold sXs at z; omega)]
    exact (a2 hl).2 j hj
theorem DH.up {ln sz : Nat → Nat} {it : Nat → Nat → Int64} {σ σ' : eb_S} (h : DH ln sz it σ) {s l z : Nat} {g : Nat → Int64} (hF : Fq (sDs s) σ σ') (h0 : eb_I σ' 115 s = nI l - 1) (h1 : l ≠ 0 → eb_I σ' 116 s = nI z ∧ ∀ j, j < 16 → eb_J σ' 117 (16 * s + j) = g j) : DH (rup ln s l) (rup sz s z) (iup it s g) σ' := fun u hu => by
  unfold rup iup
  by_cases e : u = s
  · subst e
    simp only [if_true]
    exact ⟨h0, h1⟩
  · simp only [e, if_false]
    obtain ⟨a1, a2⟩ := h u hu
    refine ⟨by rw [hF.i (fun z => by unfold sDs at z; omega)]; exact a1, fun hl => ⟨by rw [hF.i (fun z => by unfold sDs at z; omega)]; exact (a2 hl).1, fun j hj => ?_⟩⟩
    rw [hF.jj (fun z => by unfold sDs at z; omega)]
    exact (a2 hl).2 j hj
def OPH (fx fd : eb_S → Option (Int32 × eb_S)) (σ : eb_S) : Prop := ∃ r σ1 σ2 ln' sz' it', fx σ = some (r, σ1) ∧ Fq sH σ σ1 ∧ XH ln' sz' it' σ1 ∧ fd σ1 = some (r, σ2) ∧ Fq sHd σ1 σ2 ∧ DH ln' sz' it' σ2 ∧ wfH ln' sz'
theorem OPH.same {fx fd : eb_S → Option (Int32 × eb_S)} {σ : eb_S} {r : Int32} {ln sz : Nat → Nat} {it : Nat → Nat → Int64} (wh : wfH ln sz) (hH : XH ln sz it σ) (hD : DH ln sz it σ) (h1 : fx σ = some (r, σ)) (h2 : fd σ = some (r, σ)) : OPH fx fd σ := ⟨r, σ, σ, ln, sz, it, h1, Fq.rf, hH, h2, Fq.rf, hD, wh⟩
theorem wfH_up {ln sz : Nat → Nat} (wh : wfH ln sz) {s l z : Nat} (hl : l ≤ 4) (hz : z ≤ 16) : wfH (rup ln s l) (rup sz s z) := fun u hu => by
  unfold rup
  by_cases e : u = s
  · simp only [e, if_true]; exact ⟨hl, hz⟩
  · simp only [e, if_false]; exact wh u hu
theorem DH.x {ln sz : Nat → Nat} {it : Nat → Nat → Int64} {σ σ' : eb_S} (h : DH ln sz it σ) (hF : Fq sH σ σ') : DH ln sz it σ' := h.fq hF (fun k j h1 h2 z => by unfold sH at z; omega)
set_option maxHeartbeats 4000000 in
theorem x_renew_L {n s : Nat} (hs : s < 4) : ∀ (m k : Nat) (σ : eb_S), ShH σ → (∀ j, j < k → eb_J σ (83 + 2 * s) j = 0) → k ≤ 16 → 16 < k + m → ∃ σ', f_X7_renew_L12 n (82 + 2 * s) m (nI k) σ = some ((), σ') ∧ Fq (fun a b => a = 83 + 2 * s ∧ b < 1000) σ σ' ∧ (∀ a b, eb_I σ' a b = eb_I σ a b) ∧ ∀ j, j < 16 → eb_J σ' (83 + 2 * s) j = 0 := by
  intro m
  induction m with
  | zero => intro k σ _ _ h1 h2; omega
  | succ m ih =>
    intro k σ hh hz h1 h2
    have a := hh.at hs
    rw [f_X7_renew_L12.eq_2]
    by_cases h : 16 ≤ k
    · rw [if_pos (show (16 : Int32) ≤ nI k by rw [show (16 : Int32) = nI 16 from rfl, p_leN (by decide) (by omega)]; exact h)]
      exact ⟨σ, rfl, Fq.rf, fun _ _ => rfl, fun j hj => hz j (by omega)⟩
    · rw [if_neg (show ¬ (16 : Int32) ≤ nI k by rw [show (16 : Int32) = nI 16 from rfl, p_leN (by decide) (by omega)]; exact h)]
      have hF : Fq (fun a b => a = 83 + 2 * s ∧ b < 1000) σ (eb_sJ σ (83 + 2 * s) k 0) := Fq.sJ ⟨rfl, by omega⟩
      obtain ⟨σ', g1, g2, g3, g4⟩ := ih (k + 1) (eb_sJ σ (83 + 2 * s) k 0) (hF.shH0 (fun k z => by omega) hh) (fun j hj => by
        rw [eb_J_sJ, if_pos rfl]
        by_cases e : j = k
        · rw [if_pos e]
        · rw [if_neg e]; exact hz j (by omega)) (by omega) (by omega)
      refine ⟨σ', ?_, hF.tr g2, fun a b => g3 a b, g4⟩
      simp [eb_gR, eb_wl, a, p_in (show k < 16 by omega) (by decide : 16 < 2 ^ 31), p_cl (show k < 2 ^ 31 by omega), nI_1, g1]
theorem x_renew {ln sz : Nat → Nat} {it : Nat → Nat → Int64} {n s l z : Nat} (hn : 100 ≤ n) (hs : s < 4) {σ : eb_S} (hH : XH ln sz it σ) : ∃ σ', f_X7_renew n (82 + 2 * s) (nI l) (nI z) σ = some ((), σ') ∧ Fq (sXs s) σ σ' ∧ XH (rup ln s (l + 1)) (rup sz s z) (iup it s (fun _ => 0)) σ' := by
  have a := hH.1.at hs
  have F1 : Fq (sXs s) σ (eb_sI (eb_sI σ (82 + 2 * s) 0 (nI l)) (82 + 2 * s) 1 (nI z)) := (Fq.sI (S := sXs s) ⟨Or.inl rfl, by decide⟩).tr (Fq.sI (S := sXs s) ⟨Or.inl rfl, by decide⟩)
  obtain ⟨σ', g1, g2, g3, g4⟩ := x_renew_L (n := n) hs n 0 _ (F1.shH0 sXs_0 hH.1) (fun j hj => by omega) (by omega) (by omega)
  have F2 := F1.tr (g2.mono (fun k j h => show sXs s k j from ⟨Or.inr h.1, h.2⟩))
  refine ⟨σ', ?_, F2, hH.up hs F2 ?_ (fun _ => ⟨?_, g4⟩)⟩
  · rw [nI_0] at g1
    unfold f_X7_renew
    simp [eb_pI, a, eb_T_sI, eb_R_sI, eb_L_sI, eb_J_sI, eb_N_sI, eb_T_sJ, eb_R_sJ, eb_L_sJ, eb_I_sJ, eb_N_sJ, eb_T_rI, eb_R_rI, eb_L_rI, eb_J_rI, eb_N_rI, eb_T_rJ, eb_R_rJ, eb_L_rJ, eb_I_rJ, eb_N_rJ, g1]
  · rw [g3, nI_pred]
    simp [eb_I_sI]
  · rw [g3]
    simp [eb_I_sI]
set_option maxHeartbeats 4000000 in
theorem d_renew_L {n s : Nat} (hs : s < 4) {z : Int32} : ∀ (m k : Nat) (σ : eb_S), ShD σ → (∀ j, j < k → eb_J σ 117 (16 * s + j) = 0) → k ≤ 16 → 16 < k + m → ∃ σ', f_X10_sheet_L46 n 91 (nI s) z m (nI k) σ = some (z, σ') ∧ Fq (sDs s) σ σ' ∧ (∀ a b, eb_I σ' a b = eb_I σ a b) ∧ ∀ j, j < 16 → eb_J σ' 117 (16 * s + j) = 0 := by
  intro m
  induction m with
  | zero => intro k σ _ _ h1 h2; omega
  | succ m ih =>
    intro k σ hd hz h1 h2
    rw [f_X10_sheet_L46.eq_2]
    by_cases h : 16 ≤ k
    · rw [if_pos (show (16 : Int32) ≤ nI k by rw [show (16 : Int32) = nI 16 from rfl, p_leN (by decide) (by omega)]; exact h)]
      exact ⟨σ, rfl, Fq.rf, fun _ _ => rfl, fun j hj => hz j (by omega)⟩
    · rw [if_neg (show ¬ (16 : Int32) ≤ nI k by rw [show (16 : Int32) = nI 16 from rfl, p_leN (by decide) (by omega)]; exact h)]
      have hF : Fq (sDs s) σ (eb_sJ σ 117 (16 * s + k) 0) := Fq.sJ (by unfold sDs; omega)
      obtain ⟨σ', g1, g2, g3, g4⟩ := ih (k + 1) (eb_sJ σ 117 (16 * s + k) 0) (hF.shD0 sDs_0 hd) (fun j hj => by
        rw [eb_J_sJ, if_pos rfl]
        by_cases e : 16 * s + j = 16 * s + k
        · rw [if_pos e]
        · rw [if_neg e]; exact hz j (by omega)) (by omega) (by omega)
      refine ⟨σ', ?_, hF.tr g2, fun a b => g3 a b, g4⟩
      have ex : (16 : Int32) * nI s + nI k = nI (16 * s + k) := by rw [show (16 : Int32) = nI 16 from rfl, pk_mul, nI_add]
      unfold ShD at hd
      simp [eb_gR, eb_wl, hd, ex, p_in (show 16 * s + k < 64 by omega) (by decide : 64 < 2 ^ 31), p_cl (show 16 * s + k < 2 ^ 31 by omega), nI_1, g1]
set_option maxHeartbeats 4000000 in
theorem eq_sheet {ln sz : Nat → Nat} {it : Nat → Nat → Int64} (wh : wfH ln sz) {n : Nat} (hn : 100 ≤ n) {σ : eb_S} (hb : ShB σ) (hH : XH ln sz it σ) (hd : ShD σ) (hD : DH ln sz it σ) (a b c : Int32) : OPH (f_X9_sheet n 8 a b c) (f_X10_sheet n 91 a b c) σ := by
  have x1 := fun σ => x_isSheet a σ
  have d1 := fun σ => d_isSheet a σ
  have d2 := fun σ => d_isLane b σ
  cases h1 : wi a.toInt 0 3 with
  | false =>
    rw [h1] at x1 d1
    exact OPH.same wh hH hD (r := -1) (by unfold f_X9_sheet; simp [x1, eb_cl_s, eb_b0]) (by unfold f_X10_sheet; simp [d1, eb_cl_s, eb_b0])
  | true =>
  rw [h1] at x1 d1
  cases h2 : wi b.toInt 0 3 with
  | false =>
    rw [h2] at d2
    have x2 := x_in b 0 3 0 3 rfl rfl _ h2
    exact OPH.same wh hH hD (r := -1) (by unfold f_X9_sheet; simp [x1, x2, eb_cl_s, eb_b0]) (by unfold f_X10_sheet; simp [d1, d2, eb_cl_s, eb_b0])
  | true =>
  rw [h2] at d2
  have x2 := x_in b 0 3 0 3 rfl rfl _ h2
  by_cases h3 : c ≤ 16
  · by_cases h4 : (0 : Int32) ≤ c
    · obtain ⟨s, hs, rfl⟩ := wi_nat2 (n := 3) (by decide) h1
      obtain ⟨l, hl, rfl⟩ := wi_nat2 (n := 3) (by decide) h2
      have hc1 : c.toInt ≤ 16 := Int32.le_iff_toInt_le.mp h3
      have hc0 : 0 ≤ c.toInt := Int32.le_iff_toInt_le.mp h4
      obtain ⟨z, hz, rfl⟩ := p_nat (x := c) (n := 17) (by decide) hc0 (by show c.toInt < 17; omega)
      obtain ⟨σ1, a1, a2, a3⟩ := x_renew (n := n) (s := s) (l := l) (z := z) hn (by omega) hH
      have a2H := a2.mono (sXs_H (s := s) (by omega))
      have hd1 := a2H.shD0 sH_0 hd
      have hD1 := hD.x a2H
      have F1 : Fq (sDs s) σ1 (eb_sI (eb_sI σ1 115 s (nI l)) 116 s (nI z)) := (Fq.sI (S := sDs s) (by unfold sDs; omega)).tr (Fq.sI (S := sDs s) (by unfold sDs; omega))
      obtain ⟨σ2, g1, g2, g3, g4⟩ := d_renew_L (n := n) (s := s) (by omega) (z := nI z) n 0 _ (F1.shD0 sDs_0 hd1) (fun j hj => by omega) (by omega) (by omega)
      have F2 := F1.tr g2
      refine ⟨nI z, σ1, σ2, rup ln s (l + 1), rup sz s z, iup it s (fun _ => 0), ?_, a2H, a3, ?_, F2.mono sDs_H, hD1.up F2 ?_ (fun _ => ⟨?_, g4⟩), wfH_up wh (by omega) (by omega)⟩
      · have hr := hb.sh (s := s) (by omega)
        have hT := (hH.1.at (s := s) (by omega)).1
        unfold ShB at hb
        unfold f_X9_sheet
        simp [x1, x2, eb_cl_s, eb_b0, h3, h4, eb_gR, eb_ar, eb_tg, hb, p_in (show s < 4 by omega) (by decide : 4 < 2 ^ 31), p_cl (show s < 2 ^ 31 by omega), hr, hT, a1]
      · unfold ShD at hd1
        rw [nI_0] at g1
        unfold f_X10_sheet
        simp [d1, d2, eb_cl_s, eb_b0, h3, h4, eb_gR, eb_wi, hd1, eb_T_sI, eb_R_sI, eb_L_sI, eb_J_sI, eb_N_sI, eb_T_sJ, eb_R_sJ, eb_L_sJ, eb_I_sJ, eb_N_sJ, eb_T_rI, eb_R_rI, eb_L_rI, eb_J_rI, eb_N_rI, eb_T_rJ, eb_R_rJ, eb_L_rJ, eb_I_rJ, eb_N_rJ, p_in (show s < 4 by omega) (by decide : 4 < 2 ^ 31), p_cl (show s < 2 ^ 31 by omega), g1]
      · rw [g3, nI_pred]
        simp [eb_I_sI]
      · rw [g3]
        simp [eb_I_sI]
    · exact OPH.same wh hH hD (r := -14) (by unfold f_X9_sheet; simp [x1, x2, eb_cl_s, eb_b0, h3, h4]) (by unfold f_X10_sheet; simp [d1, d2, eb_cl_s, eb_b0, h3, h4])
  · exact OPH.same wh hH hD (r := -1) (by unfold f_X9_sheet; simp [x1, x2, eb_cl_s, eb_b0, h3]) (by unfold f_X10_sheet; simp [d1, d2, eb_cl_s, eb_b0, h3])
set_option maxHeartbeats 4000000 in
theorem eq_drop {ln sz : Nat → Nat} {it : Nat → Nat → Int64} (wh : wfH ln sz) {σ : eb_S} (hb : ShB σ) (hH : XH ln sz it σ) (hd : ShD σ) (hD : DH ln sz it σ) (a : Int32) : OPH (f_X9_drop 8 a) (f_X10_drop 91 a) σ := by
  have x1 := fun σ => x_isSheet a σ
  have d1 := fun σ => d_isSheet a σ
  cases h1 : wi a.toInt 0 3 with
  | false =>
    rw [h1] at x1 d1
    exact OPH.same wh hH hD (r := -1) (by unfold f_X9_drop; simp [x1, eb_cl_s, eb_b0]) (by unfold f_X10_drop; simp [d1, eb_cl_s, eb_b0])
  | true =>
  rw [h1] at x1 d1
  obtain ⟨s, hs, rfl⟩ := wi_nat2 (n := 3) (by decide) h1
  have hs : s < 4 := by omega
  have hr := hb.sh hs
  have at' := hH.1.at hs
  obtain ⟨l1, l2, l3⟩ := p_l1 (wh s hs).1
  obtain ⟨xh1, xh2⟩ := hH.2 s hs
  obtain ⟨dh1, dh2⟩ := hD s hs
  have sin : eb_in (nI s) 4 = true := p_in hs (by decide)
  have scl : (nI s).toNatClampNeg = s := p_cl (by omega)
  have hbu := hb
  have hdu := hd
  unfold ShB at hbu
  unfold ShD at hdu
  by_cases c0 : ln s = 0
  · have q1 : ((0 : Int32) ≤ nI (ln s) - 1) = False := by rw [l1]; exact eq_false (fun z => z c0)
    have q3 : (nI (ln s) - 1 = -1) = True := by rw [l3]; exact eq_true c0
    exact OPH.same wh hH hD (r := -11) (by unfold f_X9_drop f_X7_isMissing; simp [x1, eb_cl_s, eb_b0, eb_gR, eb_gI, eb_ar, eb_tg, hbu, sin, scl, hr, at', xh1, q3]) (by unfold f_X10_drop; simp [d1, eb_cl_s, eb_b0, eb_gR, eb_ai, hdu, sin, scl, dh1, q1])
  · have q1 : ((0 : Int32) ≤ nI (ln s) - 1) = True := by rw [l1]; exact eq_true c0
    have q3 : (nI (ln s) - 1 = -1) = False := by rw [l3]; exact eq_false c0
    have xz := (xh2 c0).1
    have F1 : Fq (sXs s) σ (eb_sI (eb_sI σ (82 + 2 * s) 0 (-1)) (82 + 2 * s) 1 0) := (Fq.sI (S := sXs s) ⟨Or.inl rfl, by decide⟩).tr (Fq.sI (S := sXs s) ⟨Or.inl rfl, by decide⟩)
    have F1H := F1.mono (sXs_H (s := s) hs)
    have hd1 := F1H.shD0 sH_0 hd
    have hD1 := hD.x F1H
    obtain ⟨dh3, dh4⟩ := hD1 s hs
    have F2 : Fq (sDs s) (eb_sI (eb_sI σ (82 + 2 * s) 0 (-1)) (82 + 2 * s) 1 0) (eb_sI (eb_sI (eb_sI σ (82 + 2 * s) 0 (-1)) (82 + 2 * s) 1 0) 115 s (-1)) := Fq.sI (S := sDs s) (by unfold sDs; omega)
    refine ⟨nI (sz s), _, _, rup ln s 0, rup sz s 0, iup it s (fun _ => 0), ?_, F1H, hH.up hs F1 (by simp [eb_I_sI, nI_0]) (fun z => absurd rfl z), ?_, F2.mono sDs_H, hD1.up F2 (by simp [eb_I_sI, nI_0]) (fun z => absurd rfl z), wfH_up wh (by omega) (by omega)⟩
    · unfold f_X9_drop f_X7_isMissing f_X7_lose
      simp [x1, eb_cl_s, eb_b0, eb_gR, eb_gI, eb_pI, eb_ar, eb_tg, hbu, sin, scl, hr, at', xh1, q3, xz, eb_T_sI, eb_R_sI, eb_L_sI, eb_J_sI, eb_N_sI, eb_T_sJ, eb_R_sJ, eb_L_sJ, eb_I_sJ, eb_N_sJ, eb_T_rI, eb_R_rI, eb_L_rI, eb_J_rI, eb_N_rI, eb_T_rJ, eb_R_rJ, eb_L_rJ, eb_I_rJ, eb_N_rJ]
    · have dz := (dh4 c0).1
      unfold ShD at hd1
      unfold f_X10_drop
      rw [eb_I_sI] at dz
      simp [d1, eb_cl_s, eb_b0, eb_gR, eb_ai, eb_wi, hd1, sin, scl, dh3, q1, eb_T_sI, eb_R_sI, eb_L_sI, eb_J_sI, eb_N_sI, eb_T_sJ, eb_R_sJ, eb_L_sJ, eb_I_sJ, eb_N_sJ, eb_T_rI, eb_R_rI, eb_L_rI, eb_J_rI, eb_N_rI, eb_T_rJ, eb_R_rJ, eb_L_rJ, eb_I_rJ, eb_N_rJ]
      simp [eb_I_sI] at dz ⊢
      exact dz
