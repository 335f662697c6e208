/-! ===== pure: restore ===== -/
set_option maxHeartbeats 4000000 in
theorem d_back_L {n c len k : Nat} (hk : k + len ≤ 110) (hc : c ≠ 114) : ∀ (m t : Nat) (σ : eb_S), ShD σ → eb_T σ c = 11 → eb_L σ c = len → (∀ j, j < t → eb_I σ c j = eb_I σ 114 (k + j)) → t ≤ len → len < t + m → ∃ σ', f_X10_givesBack_L2 n 91 (nI k) c m (nI t) σ = some (nI (k + len), σ') ∧ Fr (fun a _ => a = c) σ σ' ∧ ∀ j, j < len → eb_I σ' c j = eb_I σ 114 (k + j) := by
  intro m
  induction m with
  | zero => intro t σ _ _ _ _ h1 h2; omega
  | succ m ih =>
    intro t σ hd T1 L1 hz h1 h2
    have hdu := hd
    unfold ShD at hdu
    rw [f_X10_givesBack_L2.eq_2]
    by_cases h : len ≤ t
    · have e : t = len := by omega
      subst e
      have le : nI t ≤ nI t := by rw [p_leN (by omega) (by omega)]; exact Nat.le_refl _
      exact ⟨σ, by simp [eb_ln, T1, L1, ofN, le, nI_add], Fr.rf, hz⟩
    · have nle : ¬ nI len ≤ nI t := by rw [p_leN (by omega) (by omega)]; exact h
      have hF : Fr (fun a _ => a = c) σ (eb_sI σ c t (eb_I σ 114 (k + t))) := Fr.sI rfl
      have e114 : ∀ q, eb_I (eb_sI σ c t (eb_I σ 114 (k + t))) 114 q = eb_I σ 114 q := fun q => by rw [eb_I_sI, if_neg (fun z => hc z.symm)]
      obtain ⟨σ', g1, g2, g3⟩ := ih (t + 1) (eb_sI σ c t (eb_I σ 114 (k + t))) (hF.shD hd) T1 L1 (fun j hj => by
        rw [e114, eb_I_sI, if_pos rfl]
        by_cases e : j = t
        · rw [if_pos e, e]
        · rw [if_neg e]; exact hz j (by omega)) (by omega) (by omega)
      refine ⟨σ', ?_, hF.tr g2, fun j hj => by rw [g3 j hj, e114]⟩
      simp [eb_ln, eb_gR, eb_ai, eb_wi, T1, L1, ofN, nle, hdu, p_in (show t < len by omega) (show len < 2 ^ 31 by omega), p_cl (show t < 2 ^ 31 by omega), nI_add, p_in (show k + t < 110 by omega) (by decide : 110 < 2 ^ 31), p_cl (show k + t < 2 ^ 31 by omega), nI_1, g1]
def FTl (L : List Nat) (B : Nat → Nat → Nat) (σ : eb_S) : Prop := ∀ i, i ∈ L → ∀ j, j < bd B i → eb_I σ (tC 91 i) (dS i j) = nI (B i j)
def RS (L : List Nat) (B : Nat → Nat → Nat) (σ0 σ : eb_S) : Prop := Fr sMd σ0 σ ∧ DI B σ ∧ FTl L B σ
theorem d_back {n : Nat} (hn : 100 ≤ n) {B : Nat → Nat → Nat} {L : List Nat} {σ0 σ : eb_S} (hd : ShD σ0) (h : RS L B σ0 σ) (hL : ∀ i, i ∈ L → i < 19) (i0 len : Nat) {c k : Nat} (hi : i0 < 19) (h0 : ¬ sca i0) (hc : c = tC 91 i0) (hk : k = iO i0) (hl : len ≤ 10) (hkl : k + len ≤ 110) (hb : bd B i0 ≤ len) (hT : eb_T σ0 c = 11) (hLn : eb_L σ0 c = len) : ∃ σ', f_X10_givesBack n 91 (nI k) c σ = some (nI (k + len), σ') ∧ RS (i0 :: L) B σ0 σ' := by
  obtain ⟨F, hDI, hF⟩ := h
  have hcb := tC_bd hi h0
  rw [← hc] at hcb
  obtain ⟨σ', g1, g2, g3⟩ := d_back_L (n := n) (c := c) (len := len) (k := k) hkl (by omega) n 0 σ (F.shD hd) (by rw [F.1]; exact hT) (by rw [F.2.2.1]; exact hLn) (fun j hj => by omega) (by omega) (by omega)
  have F2 : Fr sMd σ σ' := g2.mono (fun a b e => Or.inr (by omega))
  refine ⟨σ', g1, F.tr F2, fun i j hi2 hj => ?_, fun i hi2 j hj => ?_⟩
  · rw [g2.2.2.2.2.2 _ _ (show ¬ (114 : Nat) = c by omega)]
    exact hDI i j hi2 hj
  · by_cases e : i = i0
    · subst e
      rw [slOk_dS.2 i j h0, ← hc, g3 j (by omega), hk]
      exact hDI i j hi hj
    · rcases List.mem_cons.mp hi2 with z | z
      · exact absurd z e
      · rw [g2.2.2.2.2.2 _ _ (fun y => by
          rw [hc] at y
          rcases tC_inj (hL i z) hi y with q | q
          · exact e q
          · exact h0 q.2)]
        exact hF i z j hj
theorem bd_cap {B : Nat → Nat → Nat} (w : wf B) : (∀ i, 0 < i → i < 6 → bd B i ≤ 10) ∧ (∀ i, 6 < i → i < 9 → bd B i ≤ 5) ∧ (∀ i, 12 < i → i < 16 → bd B i ≤ 8) ∧ (∀ i, 16 < i → bd B i ≤ 6) := by
  have wN := w.1
  have wS := w.2.2.1
  have wLn := w.2.2.2.2.2.2.1
  have wBn := w.2.2.2.2.2.2.2.2.1
  refine ⟨fun i h1 h2 => ?_, fun i h1 h2 => ?_, fun i h1 h2 => ?_, fun i h1 => ?_⟩
  · unfold bd; rw [if_neg (by unfold sca; omega), if_pos h2]; exact wN
  · unfold bd; rw [if_neg (by unfold sca; omega), if_neg (by omega), if_pos h2]; exact wS
  · unfold bd; rw [if_neg (by unfold sca; omega), if_neg (by omega), if_neg (by omega), if_neg (by omega), if_neg (by omega), if_pos h2]; exact wLn
  · unfold bd; rw [if_neg (by unfold sca; omega), if_neg (by omega), if_neg (by omega), if_neg (by omega), if_neg (by omega), if_neg (by omega)]; exact wBn
set_option maxHeartbeats 8000000 in
theorem d_restore {B : Nat → Nat → Nat} (w : wf B) {n : Nat} (hn : 100 ≤ n) {σ : eb_S} (hd : ShD σ) (h36 : eb_I σ 91 36 = 1) (hDI : DI B σ) : ∃ σ', f_X10_restore n 91 σ = some (1, σ') ∧ Fr sMd σ σ' ∧ MD B σ' := by
  have hdu := hd
  unfold ShD at hdu
  obtain ⟨cN, cS, cL, cB⟩ := bd_cap w
  have i0 : eb_I σ 114 0 = nI (B 0 0) := hDI 0 0 (by decide) (show 0 < 1 by decide)
  have i1 : eb_I σ 114 1 = nI (B 6 0) := hDI 6 0 (by decide) (show 0 < 1 by decide)
  have i2 : eb_I σ 114 2 = nI (B 12 0) := hDI 12 0 (by decide) (show 0 < 1 by decide)
  have i3 : eb_I σ 114 3 = nI (B 16 0) := hDI 16 0 (by decide) (show 0 < 1 by decide)
  have R3 : RS [16, 12, 6, 0] B σ (eb_sI (eb_sI (eb_sI (eb_sI σ 91 0 (nI (B 0 0))) 91 6 (nI (B 6 0))) 91 12 (nI (B 12 0))) 91 16 (nI (B 16 0))) := by
    refine ⟨(((Fr.sI (Or.inl (by omega))).tr (Fr.sI (Or.inl (by omega)))).tr (Fr.sI (Or.inl (by omega)))).tr (Fr.sI (Or.inl (by omega))), fun i j hi hj => ?_, fun i hi j hj => ?_⟩
    · rw [eb_I_sI, if_neg (by decide), eb_I_sI, if_neg (by decide), eb_I_sI, if_neg (by decide), eb_I_sI, if_neg (by decide)]
      exact hDI i j hi hj
    · have hj1 : j < 1 := by
        have := bd_sca (A := B) i (by
          simp only [List.mem_cons, List.not_mem_nil, or_false] at hi
          unfold sca; omega)
        omega
      have j0 : j = 0 := by omega
      subst j0
      simp only [List.mem_cons, List.not_mem_nil, or_false] at hi
      rcases hi with rfl | rfl | rfl | rfl <;> simp [tC, dS, sca, eb_I_sI]
  obtain ⟨σ4, g4, R4⟩ := d_back (n := n) hn hd R3 (by decide) 1 10 (c := 92) (k := 4) (by decide) (by decide) rfl (by decide) (by decide) (by decide) (cN 1 (by decide) (by decide)) (by simp [hdu]) (by simp [hdu])
  obtain ⟨σ14, g14, R14⟩ := d_back (n := n) hn hd R4 (by decide) 2 10 (c := 93) (k := 14) (by decide) (by decide) rfl (by decide) (by decide) (by decide) (cN 2 (by decide) (by decide)) (by simp [hdu]) (by simp [hdu])
  obtain ⟨σ24, g24, R24⟩ := d_back (n := n) hn hd R14 (by decide) 3 10 (c := 94) (k := 24) (by decide) (by decide) rfl (by decide) (by decide) (by decide) (cN 3 (by decide) (by decide)) (by simp [hdu]) (by simp [hdu])
  obtain ⟨σ34, g34, R34⟩ := d_back (n := n) hn hd R24 (by decide) 4 10 (c := 95) (k := 34) (by decide) (by decide) rfl (by decide) (by decide) (by decide) (cN 4 (by decide) (by decide)) (by simp [hdu]) (by simp [hdu])
  obtain ⟨σ44, g44, R44⟩ := d_back (n := n) hn hd R34 (by decide) 5 10 (c := 96) (k := 44) (by decide) (by decide) rfl (by decide) (by decide) (by decide) (cN 5 (by decide) (by decide)) (by simp [hdu]) (by simp [hdu])
  obtain ⟨σ54, g54, R54⟩ := d_back (n := n) hn hd R44 (by decide) 7 5 (c := 97) (k := 54) (by decide) (by decide) rfl (by decide) (by decide) (by decide) (cS 7 (by decide) (by decide)) (by simp [hdu]) (by simp [hdu])
  obtain ⟨σ59, g59, R59⟩ := d_back (n := n) hn hd R54 (by decide) 8 5 (c := 98) (k := 59) (by decide) (by decide) rfl (by decide) (by decide) (by decide) (cS 8 (by decide) (by decide)) (by simp [hdu]) (by simp [hdu])
  obtain ⟨σ64, g64, R64⟩ := d_back (n := n) hn hd R59 (by decide) 9 3 (c := 99) (k := 64) (by decide) (by decide) rfl (by decide) (by decide) (by decide) (show bd B 9 ≤ 3 from Nat.le_refl 3) (by simp [hdu]) (by simp [hdu])
  obtain ⟨σ67, g67, R67⟩ := d_back (n := n) hn hd R64 (by decide) 10 3 (c := 100) (k := 67) (by decide) (by decide) rfl (by decide) (by decide) (by decide) (show bd B 10 ≤ 3 from Nat.le_refl 3) (by simp [hdu]) (by simp [hdu])
  obtain ⟨σ70, g70, R70⟩ := d_back (n := n) hn hd R67 (by decide) 11 2 (c := 101) (k := 70) (by decide) (by decide) rfl (by decide) (by decide) (by decide) (show bd B 11 ≤ 2 from Nat.le_refl 2) (by simp [hdu]) (by simp [hdu])
  obtain ⟨σ72, g72, R72⟩ := d_back (n := n) hn hd R70 (by decide) 13 8 (c := 102) (k := 72) (by decide) (by decide) rfl (by decide) (by decide) (by decide) (cL 13 (by decide) (by decide)) (by simp [hdu]) (by simp [hdu])
  obtain ⟨σ80, g80, R80⟩ := d_back (n := n) hn hd R72 (by decide) 14 8 (c := 103) (k := 80) (by decide) (by decide) rfl (by decide) (by decide) (by decide) (cL 14 (by decide) (by decide)) (by simp [hdu]) (by simp [hdu])
  obtain ⟨σ88, g88, R88⟩ := d_back (n := n) hn hd R80 (by decide) 15 8 (c := 104) (k := 88) (by decide) (by decide) rfl (by decide) (by decide) (by decide) (cL 15 (by decide) (by decide)) (by simp [hdu]) (by simp [hdu])
  obtain ⟨σ98, g98, R98⟩ := d_back (n := n) hn hd R88 (by decide) 17 6 (c := 105) (k := 98) (by decide) (by decide) rfl (by decide) (by decide) (by decide) (cB 17 (by decide)) (by simp [hdu]) (by simp [hdu])
  obtain ⟨σ104, g104, R104⟩ := d_back (n := n) hn hd R98 (by decide) 18 6 (c := 106) (k := 104) (by decide) (by decide) rfl (by decide) (by decide) (by decide) (cB 18 (by decide)) (by simp [hdu]) (by simp [hdu])
  have g4 : f_X10_givesBack n 91 4 92 (eb_sI (eb_sI (eb_sI (eb_sI σ 91 0 (nI (B 0 0))) 91 6 (nI (B 6 0))) 91 12 (nI (B 12 0))) 91 16 (nI (B 16 0))) = some (nI (4 + 10), σ4) := g4
  have g98 : f_X10_givesBack n 91 98 105 σ88 = some (nI (98 + 6), σ98) := g98
  have g104 : f_X10_givesBack n 91 104 106 σ98 = some (nI (104 + 6), σ104) := g104
  refine ⟨σ104, ?_, R104.1, FT.MD (fun i j hi hj => R104.2.2 i ?_ j hj)⟩
  · unfold f_X10_restore
    simp only [eb_gR, eb_gI, eb_ai, eb_pI, eb_tg, hdu, h36, eb_T_sI, eb_R_sI, eb_L_sI, eb_J_sI, eb_N_sI, eb_T_sJ, eb_R_sJ, eb_L_sJ, eb_I_sJ, eb_N_sJ, eb_T_rI, eb_R_rI, eb_L_rI, eb_J_rI, eb_N_rI, eb_T_rJ, eb_R_rJ, eb_L_rJ, eb_I_rJ, eb_N_rJ, List.mem_singleton, if_true, true_and, ne_eq, show ¬ (92 : Nat) = 0 by decide, show ¬ (93 : Nat) = 0 by decide, show ¬ (94 : Nat) = 0 by decide, show ¬ (95 : Nat) = 0 by decide, show ¬ (96 : Nat) = 0 by decide, show ¬ (97 : Nat) = 0 by decide, show ¬ (98 : Nat) = 0 by decide, show ¬ (99 : Nat) = 0 by decide, show ¬ (100 : Nat) = 0 by decide, show ¬ (101 : Nat) = 0 by decide, show ¬ (102 : Nat) = 0 by decide, show ¬ (103 : Nat) = 0 by decide, show ¬ (104 : Nat) = 0 by decide, show ¬ (105 : Nat) = 0 by decide, show ¬ (106 : Nat) = 0 by decide, show ¬ (114 : Nat) = 0 by decide, not_false_eq_true, eb_in0, eb_in1, eb_in2, eb_in3, c0, c1, c2, c3', eb_I_sI, show ¬ (114 : Nat) = 91 by decide, show ¬ (1 : Int32) = 0 by decide, if_false, i0, i1, i2, i3]
    rw [g4]
    simp only [eb_cl_s, hdu, eb_T_sI, eb_R_sI, eb_L_sI, eb_J_sI, eb_N_sI, eb_T_sJ, eb_R_sJ, eb_L_sJ, eb_I_sJ, eb_N_sJ, eb_T_rI, eb_R_rI, eb_L_rI, eb_J_rI, eb_N_rI, eb_T_rJ, eb_R_rJ, eb_L_rJ, eb_I_rJ, eb_N_rJ, R4.1.1, R4.1.2.1, R14.1.1, R14.1.2.1, R24.1.1, R24.1.2.1, R34.1.1, R34.1.2.1, R44.1.1, R44.1.2.1, R54.1.1, R54.1.2.1, R59.1.1, R59.1.2.1, R64.1.1, R64.1.2.1, R67.1.1, R67.1.2.1, R70.1.1, R70.1.2.1, R72.1.1, R72.1.2.1, R80.1.1, R80.1.2.1, R88.1.1, R88.1.2.1, R98.1.1, R98.1.2.1, R104.1.1, R104.1.2.1, List.mem_singleton, if_true, true_and, ne_eq, show ¬ (92 : Nat) = 0 by decide, show ¬ (93 : Nat) = 0 by decide, show ¬ (94 : Nat) = 0 by decide, show ¬ (95 : Nat) = 0 by decide, show ¬ (96 : Nat) = 0 by decide, show ¬ (97 : Nat) = 0 by decide, show ¬ (98 : Nat) = 0 by decide, show ¬ (99 : Nat) = 0 by decide, show ¬ (100 : Nat) = 0 by decide, show ¬ (101 : Nat) = 0 by decide, show ¬ (102 : Nat) = 0 by decide, show ¬ (103 : Nat) = 0 by decide, show ¬ (104 : Nat) = 0 by decide, show ¬ (105 : Nat) = 0 by decide, show ¬ (106 : Nat) = 0 by decide, show ¬ (114 : Nat) = 0 by decide, not_false_eq_true, g4, g14, g24, g34, g44, g54, g59, g64, g67, g70, g72, g80, g88, g98, g104, im80, im88]
  · rcases lt19 hi with rfl | rfl | rfl | rfl | rfl | rfl | rfl | rfl | rfl | rfl | rfl | rfl | rfl | rfl | rfl | rfl | rfl | rfl | rfl <;> decide
/-- the image on both sides -/
def IM (im : Bool) (B : Nat → Nat → Nat) (σ : eb_S) : Prop := ShM25 σ ∧ eb_I σ 8 11 = eb_b im ∧ eb_I σ 91 36 = eb_b im ∧ (im = true → MX25 B σ ∧ DI B σ ∧ wf B)
def sIx (k j : Nat) : Prop := (25 ≤ k ∧ k ≤ 40) ∨ (k = 8 ∧ j = 11)
def sId (k j : Nat) : Prop := k = 114 ∨ (k = 91 ∧ j = 36)
theorem nD_sId : nD sId := fun k j h => by unfold sId at h; omega
theorem Fr.shM25 {S : Nat → Nat → Prop} {σ σ' : eb_S} (h : Fr S σ σ') (hs : ShM25 σ) : ShM25 σ' := by
  unfold ShM25 at *; rw [h.1, h.2.1, h.2.2.1]; exact hs
theorem eq_image {A : Nat → Nat → Nat} (w : wf A) {n : Nat} (hn : 100 ≤ n) {im : Bool} {B : Nat → Nat → Nat} {σ : eb_S} (hb : ShB σ) (hs : ShM9 σ) (hX : MX9 A σ) (hd : ShD σ) (hD : MD A σ) (hI : IM im B σ) : ∃ r σ1 σ2, f_X9_image 8 σ = some (r, σ1) ∧ Fr sIx σ σ1 ∧ f_X10_image n 91 σ1 = some (r, σ2) ∧ Fr sId σ1 σ2 ∧ IM true A σ2 := by
  have t := x_tkA25_9 hI.1 hs
  have F := tkA25_9_fr (σ := σ)
  have F1 : Fr sIx σ (eb_sI (tkA 25 9 σ) 8 11 1) := (F.mono (fun k j h => Or.inl h)).tr (Fr.sI (Or.inr ⟨rfl, rfl⟩))
  have ft := tkA25_9_ft w hX.ft
  have hd1 := F1.shD hd
  have hD1 : MD A (eb_sI (tkA 25 9 σ) 8 11 1) := F1.md (fun k j h => by unfold sIx at h; omega) hD
  obtain ⟨σ2, g1, g2, g3, g4⟩ := d_image w hn hd1 hD1
  have F2 : Fr sId (eb_sI (tkA 25 9 σ) 8 11 1) σ2 := g2
  refine ⟨1, _, σ2, ?_, F1, g1, F2, F2.shM25 (F1.shM25 hI.1), ?_, g3, fun _ => ⟨?_, g4, w⟩⟩
  · have T1 := F.1
    unfold ShB at hb
    have hM := hI.1
    unfold ShM25 at hM
    unfold f_X9_image
    simp [eb_gR, eb_tg, eb_pZ, hb, hM, t, eb_cl_s, T1]
  · rw [F2.2.2.2.2.2 _ _ (fun z => by unfold sId at z; omega), eb_I_sI, if_pos rfl, if_pos rfl]; rfl
  · have m : MX25 A (tkA 25 9 σ) := FT.MX25 ft
    have m1 : MX25 A (eb_sI (tkA 25 9 σ) 8 11 1) := (Fr.sI (S := fun k _ => k = 8) rfl).fq.mx25 (fun k j h1 h2 z => by omega) m
    exact F2.fq.mx25 (fun k j h1 h2 z => by unfold sId at z; omega) m1
theorem eq_restore {A : Nat → Nat → Nat} (w : wf A) {n ch : Nat} (hn : 100 ≤ n) {im : Bool} {B : Nat → Nat → Nat} {σ : eb_S} (hb : ShB σ) (h9 : X9 A ch σ) (hd : ShD σ) (hD : MD A σ) (hI : IM im B σ) : OPM (f_X9_restore 8) (f_X10_restore n 91) A ch σ := by
  obtain ⟨i1, i2, i3, i4⟩ := hI
  cases im with
  | false =>
    have i2 : eb_I σ 8 11 = 0 := i2
    have i3 : eb_I σ 91 36 = 0 := i3
    unfold ShB at hb
    have hdu := hd
    unfold ShD at hdu
    exact OPM.same w h9 hD (r := -4) (by unfold f_X9_restore; simp [eb_gI, hb, i2]) (by unfold f_X10_restore; simp [eb_gI, hdu, i3])
  | true =>
    have i2 : eb_I σ 8 11 = 1 := i2
    have i3 : eb_I σ 91 36 = 1 := i3
    obtain ⟨m1, m2, wB⟩ := i4 rfl
    have t := x_tkA9_25 h9.1 i1
    have F : Fr sMk σ (tkA 9 25 σ) := tkA9_25_fr (σ := σ)
    have ft := tkA9_25_ft wB m1.ft
    have hd1 := F.shD hd
    have i36 : eb_I (tkA 9 25 σ) 91 36 = 1 := by rw [F.2.2.2.2.2 _ _ (fun z => by unfold sMk at z; omega)]; exact i3
    have hDI : DI B (tkA 9 25 σ) := fun i j hi hj => by rw [F.2.2.2.2.2 _ _ (fun z => by unfold sMk at z; omega)]; exact m2 i j hi hj
    obtain ⟨σ2, g1, g2, g3⟩ := d_restore wB hn hd1 i36 hDI
    refine ⟨1, _, σ2, B, ch + 1, ?_, F, ⟨F.shM9 h9.1, FT.MX9 ft, by rw [tkA9_25_ch, h9.2.2, nI_1]⟩, g1, g2, g3, wB, Or.inr rfl⟩
    have hM := h9.1
    unfold ShB at hb
    unfold ShM9 at hM
    unfold f_X9_restore
    simp [eb_gI, eb_gR, eb_tg, hb, hM, i2, t, eb_cl_s]
