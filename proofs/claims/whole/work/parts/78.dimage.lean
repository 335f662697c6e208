/-! ===== pure: the model's image ===== -/
def iO (i : Nat) : Nat := if i = 0 then 0 else if i = 1 then 4 else if i = 2 then 14 else if i = 3 then 24 else if i = 4 then 34 else if i = 5 then 44 else if i = 6 then 1 else if i = 7 then 54 else if i = 8 then 59 else if i = 9 then 64 else if i = 10 then 67 else if i = 11 then 70 else if i = 12 then 2 else if i = 13 then 72 else if i = 14 then 80 else if i = 15 then 88 else if i = 16 then 3 else if i = 17 then 98 else if i = 18 then 104 else 0
def DI (B : Nat → Nat → Nat) (σ : eb_S) : Prop := ∀ i j, i < 19 → j < bd B i → eb_I σ 114 (iO i + j) = nI (B i j)
def s114 (k _j : Nat) : Prop := k = 114
theorem nD_s114 : nD s114 := fun k j h => by unfold s114 at h; omega
def gIm (σ : eb_S) (q : Nat) : Int32 := if q < 4 then (if q = 0 then eb_I σ 91 0 else if q = 1 then eb_I σ 91 6 else if q = 2 then eb_I σ 91 12 else eb_I σ 91 16) else if q < 14 then eb_I σ 92 (q - 4) else if q < 24 then eb_I σ 93 (q - 14) else if q < 34 then eb_I σ 94 (q - 24) else if q < 44 then eb_I σ 95 (q - 34) else if q < 54 then eb_I σ 96 (q - 44) else if q < 59 then eb_I σ 97 (q - 54) else if q < 64 then eb_I σ 98 (q - 59) else if q < 67 then eb_I σ 99 (q - 64) else if q < 70 then eb_I σ 100 (q - 67) else if q < 72 then eb_I σ 101 (q - 70) else if q < 80 then eb_I σ 102 (q - 72) else if q < 88 then eb_I σ 103 (q - 80) else if q < 96 then eb_I σ 104 (q - 88) else if q < 98 then eb_I σ 114 q else if q < 104 then eb_I σ 105 (q - 98) else if q < 110 then eb_I σ 106 (q - 104) else eb_I σ 114 q
def Qn (σ0 : eb_S) (g : Nat → Int32) (k : Nat) (σ : eb_S) : Prop := Fr s114 σ0 σ ∧ ∀ q, eb_I σ 114 q = if q < k then g q else eb_I σ0 114 q
theorem Qn.put {σ0 : eb_S} {g : Nat → Int32} {k : Nat} {σ : eb_S} (h : Qn σ0 g k σ) {x : Int32} (hx : x = g k) : Qn σ0 g (k + 1) (eb_sI σ 114 k x) := by
  refine ⟨h.1.tr (Fr.sI rfl), fun q => ?_⟩
  rw [eb_I_sI, if_pos rfl]
  by_cases e : q = k
  · rw [if_pos e, if_pos (by omega), hx, e]
  · rw [if_neg e, h.2 q]
    by_cases e2 : q < k
    · rw [if_pos e2, if_pos (by omega)]
    · rw [if_neg e2, if_neg (by omega)]
theorem Qn.skip {σ0 : eb_S} {g : Nat → Int32} {k d : Nat} {σ : eb_S} (h : Qn σ0 g k σ) (hx : ∀ q, k ≤ q → q < k + d → g q = eb_I σ0 114 q) : Qn σ0 g (k + d) σ := by
  refine ⟨h.1, fun q => ?_⟩
  rw [h.2 q]
  by_cases e2 : q < k
  · rw [if_pos e2, if_pos (by omega)]
  · rw [if_neg e2]
    by_cases e3 : q < k + d
    · rw [if_pos e3, hx q (by omega) e3]
    · rw [if_neg e3]
theorem ofN (n : Nat) : Int32.ofNat n = nI n := rfl
set_option maxHeartbeats 4000000 in
theorem d_notes_L {σ0 : eb_S} {g : Nat → Int32} {n c len k : Nat} (hd : ShD σ0) (hk : k + len ≤ 110) (hc : c ≠ 114) (hT : eb_T σ0 c = 11) (hL : eb_L σ0 c = len) (hg : ∀ j, j < len → eb_I σ0 c j = g (k + j)) : ∀ (m t : Nat) (σ : eb_S), Qn σ0 g (k + t) σ → t ≤ len → len < t + m → ∃ σ', f_X10_notes_L2 n 91 c (nI k) m (nI t) σ = some (nI (k + len), σ') ∧ Qn σ0 g (k + len) σ' := by
  intro m
  induction m with
  | zero => intro t σ _ h1 h2; omega
  | succ m ih =>
    intro t σ hQ h1 h2
    have F := hQ.1
    have hd1 := F.shD hd
    have T1 : eb_T σ c = 11 := by rw [F.1]; exact hT
    have L1 : eb_L σ c = len := by rw [F.2.2.1]; exact hL
    unfold ShD at hd1
    rw [f_X10_notes_L2.eq_2]
    by_cases h : len ≤ t
    · have e : t = len := by omega
      subst e
      have le : nI t ≤ nI t := by rw [p_leN (by omega) (by omega)]; exact Nat.le_refl _
      exact ⟨σ, by simp [eb_ln, T1, L1, ofN, le, nI_add], hQ⟩
    · have nle : ¬ nI len ≤ nI t := by rw [p_leN (by omega) (by omega)]; exact h
      have rd : eb_I σ c t = g (k + t) := by rw [F.2.2.2.2.2 c t (fun z => hc z)]; exact hg t (by omega)
      obtain ⟨σ', g1, g2⟩ := ih (t + 1) (eb_sI σ 114 (k + t) (eb_I σ c t)) (hQ.put rd) (by omega) (by omega)
      refine ⟨σ', ?_, g2⟩
      simp [eb_ln, eb_gR, eb_ai, eb_wi, T1, L1, ofN, nle, hd1, p_in (show t < len by omega) (show len < 2 ^ 31 by omega), p_cl (show t < 2 ^ 31 by omega), nI_add, p_in (show k + t < 110 by omega) (by decide : 110 < 2 ^ 31), p_cl (show k + t < 2 ^ 31 by omega), nI_1, g1]
theorem d_notes {σ0 : eb_S} {g : Nat → Int32} {n c len k : Nat} (hn : 100 ≤ n) (hl : len ≤ 10) (hd : ShD σ0) (hk : k + len ≤ 110) (hc : c ≠ 114) (hT : eb_T σ0 c = 11) (hL : eb_L σ0 c = len) (hg : ∀ j, j < len → eb_I σ0 c j = g (k + j)) {σ : eb_S} (hQ : Qn σ0 g k σ) : ∃ σ', f_X10_notes n 91 c (nI k) σ = some (nI (k + len), σ') ∧ Qn σ0 g (k + len) σ' :=
  d_notes_L hd hk hc hT hL hg n 0 σ hQ (by omega) (by omega)
theorem eb_in0 : eb_in 0 110 = true := by decide
theorem eb_in1 : eb_in 1 110 = true := by decide
theorem eb_in2 : eb_in 2 110 = true := by decide
theorem eb_in3 : eb_in 3 110 = true := by decide
theorem c3' : (3 : Int32).toNatClampNeg = 3 := by decide
theorem im80 : nI (70 + 2) + 8 = nI 80 := by decide
theorem im88 : nI (70 + 2) + 16 = nI 88 := by decide
set_option maxHeartbeats 8000000 in
theorem d_image {A : Nat → Nat → Nat} (w : wf A) {n : Nat} (hn : 100 ≤ n) {σ : eb_S} (hd : ShD σ) (hD : MD A σ) : ∃ σ', f_X10_image n 91 σ = some (1, σ') ∧ Fr (fun k j => k = 114 ∨ (k = 91 ∧ j = 36)) σ σ' ∧ eb_I σ' 91 36 = 1 ∧ DI A σ' := by
  have hdu := hd
  unfold ShD at hdu
  have Q0 : Qn σ (gIm σ) 0 σ := ⟨Fr.rf, fun q => by rw [if_neg (by omega)]⟩
  have Q1 := Q0.put (x := eb_I σ 91 0) rfl
  have Q2 := Q1.put (x := eb_I σ 91 6) rfl
  have Q3 := Q2.put (x := eb_I σ 91 12) rfl
  have Q4 := Q3.put (x := eb_I σ 91 16) rfl
  obtain ⟨σ4, g4, Q14⟩ := d_notes (n := n) (c := 92) (len := 10) (k := 4) hn (by decide) hd (by decide) (by decide) (by simp [hdu]) (by simp [hdu]) (fun j hj => by
    unfold gIm
    rw [if_neg (by omega), if_pos (by omega), show 4 + j - 4 = j by omega]) Q4
  obtain ⟨σ14, g14, Q24⟩ := d_notes (n := n) (c := 93) (len := 10) (k := 14) hn (by decide) hd (by decide) (by decide) (by simp [hdu]) (by simp [hdu]) (fun j hj => by
    unfold gIm
    rw [if_neg (by omega), if_neg (by omega), if_pos (by omega), show 14 + j - 14 = j by omega]) Q14
  obtain ⟨σ24, g24, Q34⟩ := d_notes (n := n) (c := 94) (len := 10) (k := 24) hn (by decide) hd (by decide) (by decide) (by simp [hdu]) (by simp [hdu]) (fun j hj => by
    unfold gIm
    rw [if_neg (by omega), if_neg (by omega), if_neg (by omega), if_pos (by omega), show 24 + j - 24 = j by omega]) Q24
  obtain ⟨σ34, g34, Q44⟩ := d_notes (n := n) (c := 95) (len := 10) (k := 34) hn (by decide) hd (by decide) (by decide) (by simp [hdu]) (by simp [hdu]) (fun j hj => by
    unfold gIm
    rw [if_neg (by omega), if_neg (by omega), if_neg (by omega), if_neg (by omega), if_pos (by omega), show 34 + j - 34 = j by omega]) Q34
  obtain ⟨σ44, g44, Q54⟩ := d_notes (n := n) (c := 96) (len := 10) (k := 44) hn (by decide) hd (by decide) (by decide) (by simp [hdu]) (by simp [hdu]) (fun j hj => by
    unfold gIm
    rw [if_neg (by omega), if_neg (by omega), if_neg (by omega), if_neg (by omega), if_neg (by omega), if_pos (by omega), show 44 + j - 44 = j by omega]) Q44
  obtain ⟨σ54, g54, Q59⟩ := d_notes (n := n) (c := 97) (len := 5) (k := 54) hn (by decide) hd (by decide) (by decide) (by simp [hdu]) (by simp [hdu]) (fun j hj => by
    unfold gIm
    rw [if_neg (by omega), if_neg (by omega), if_neg (by omega), if_neg (by omega), if_neg (by omega), if_neg (by omega), if_pos (by omega), show 54 + j - 54 = j by omega]) Q54
  obtain ⟨σ59, g59, Q64⟩ := d_notes (n := n) (c := 98) (len := 5) (k := 59) hn (by decide) hd (by decide) (by decide) (by simp [hdu]) (by simp [hdu]) (fun j hj => by
    unfold gIm
    rw [if_neg (by omega), if_neg (by omega), if_neg (by omega), if_neg (by omega), if_neg (by omega), if_neg (by omega), if_neg (by omega), if_pos (by omega), show 59 + j - 59 = j by omega]) Q59
  obtain ⟨σ64, g64, Q67⟩ := d_notes (n := n) (c := 99) (len := 3) (k := 64) hn (by decide) hd (by decide) (by decide) (by simp [hdu]) (by simp [hdu]) (fun j hj => by
    unfold gIm
    rw [if_neg (by omega), if_neg (by omega), if_neg (by omega), if_neg (by omega), if_neg (by omega), if_neg (by omega), if_neg (by omega), if_neg (by omega), if_pos (by omega), show 64 + j - 64 = j by omega]) Q64
  obtain ⟨σ67, g67, Q70⟩ := d_notes (n := n) (c := 100) (len := 3) (k := 67) hn (by decide) hd (by decide) (by decide) (by simp [hdu]) (by simp [hdu]) (fun j hj => by
    unfold gIm
    rw [if_neg (by omega), if_neg (by omega), if_neg (by omega), if_neg (by omega), if_neg (by omega), if_neg (by omega), if_neg (by omega), if_neg (by omega), if_neg (by omega), if_pos (by omega), show 67 + j - 67 = j by omega]) Q67
  obtain ⟨σ70, g70, Q72⟩ := d_notes (n := n) (c := 101) (len := 2) (k := 70) hn (by decide) hd (by decide) (by decide) (by simp [hdu]) (by simp [hdu]) (fun j hj => by
    unfold gIm
    rw [if_neg (by omega), if_neg (by omega), if_neg (by omega), if_neg (by omega), if_neg (by omega), if_neg (by omega), if_neg (by omega), if_neg (by omega), if_neg (by omega), if_neg (by omega), if_pos (by omega), show 70 + j - 70 = j by omega]) Q70
  obtain ⟨σ72, g72, Q80⟩ := d_notes (n := n) (c := 102) (len := 8) (k := 72) hn (by decide) hd (by decide) (by decide) (by simp [hdu]) (by simp [hdu]) (fun j hj => by
    unfold gIm
    rw [if_neg (by omega), if_neg (by omega), if_neg (by omega), if_neg (by omega), if_neg (by omega), if_neg (by omega), if_neg (by omega), if_neg (by omega), if_neg (by omega), if_neg (by omega), if_neg (by omega), if_pos (by omega), show 72 + j - 72 = j by omega]) Q72
  obtain ⟨σ80, g80, Q88⟩ := d_notes (n := n) (c := 103) (len := 8) (k := 80) hn (by decide) hd (by decide) (by decide) (by simp [hdu]) (by simp [hdu]) (fun j hj => by
    unfold gIm
    rw [if_neg (by omega), if_neg (by omega), if_neg (by omega), if_neg (by omega), if_neg (by omega), if_neg (by omega), if_neg (by omega), if_neg (by omega), if_neg (by omega), if_neg (by omega), if_neg (by omega), if_neg (by omega), if_pos (by omega), show 80 + j - 80 = j by omega]) Q80
  obtain ⟨σ88, g88, Q96⟩ := d_notes (n := n) (c := 104) (len := 8) (k := 88) hn (by decide) hd (by decide) (by decide) (by simp [hdu]) (by simp [hdu]) (fun j hj => by
    unfold gIm
    rw [if_neg (by omega), if_neg (by omega), if_neg (by omega), if_neg (by omega), if_neg (by omega), if_neg (by omega), if_neg (by omega), if_neg (by omega), if_neg (by omega), if_neg (by omega), if_neg (by omega), if_neg (by omega), if_neg (by omega), if_pos (by omega), show 88 + j - 88 = j by omega]) Q88
  have QS := Q96.skip (d := 2) (fun q h1 h2 => by
    unfold gIm
    rw [if_neg (by omega), if_neg (by omega), if_neg (by omega), if_neg (by omega), if_neg (by omega), if_neg (by omega), if_neg (by omega), if_neg (by omega), if_neg (by omega), if_neg (by omega), if_neg (by omega), if_neg (by omega), if_neg (by omega), if_neg (by omega), if_pos (by omega)])
  obtain ⟨σ98, g98, Q104⟩ := d_notes (n := n) (c := 105) (len := 6) (k := 98) hn (by decide) hd (by decide) (by decide) (by simp [hdu]) (by simp [hdu]) (fun j hj => by
    unfold gIm
    rw [if_neg (by omega), if_neg (by omega), if_neg (by omega), if_neg (by omega), if_neg (by omega), if_neg (by omega), if_neg (by omega), if_neg (by omega), if_neg (by omega), if_neg (by omega), if_neg (by omega), if_neg (by omega), if_neg (by omega), if_neg (by omega), if_neg (by omega), if_pos (by omega), show 98 + j - 98 = j by omega]) QS
  obtain ⟨σ104, g104, Q110⟩ := d_notes (n := n) (c := 106) (len := 6) (k := 104) hn (by decide) hd (by decide) (by decide) (by simp [hdu]) (by simp [hdu]) (fun j hj => by
    unfold gIm
    rw [if_neg (by omega), if_neg (by omega), if_neg (by omega), if_neg (by omega), if_neg (by omega), if_neg (by omega), if_neg (by omega), if_neg (by omega), if_neg (by omega), if_neg (by omega), if_neg (by omega), if_neg (by omega), if_neg (by omega), if_neg (by omega), if_neg (by omega), if_neg (by omega), if_pos (by omega), show 104 + j - 104 = j by omega]) Q104
  have g4 : f_X10_notes n 91 92 4 (eb_sI (eb_sI (eb_sI (eb_sI σ 114 0 (eb_I σ 91 0)) 114 1 (eb_I σ 91 6)) 114 2 (eb_I σ 91 12)) 114 3 (eb_I σ 91 16)) = some (nI 14, σ4) := g4
  have g98 : f_X10_notes n 91 105 98 σ88 = some (nI 104, σ98) := g98
  have g104 : f_X10_notes n 91 106 104 σ98 = some (nI 110, σ104) := g104
  have F : Fr (fun k j => k = 114 ∨ (k = 91 ∧ j = 36)) σ σ104 := Q110.1.mono (fun k j h => Or.inl h)
  have F2 : Fr (fun k j => k = 114 ∨ (k = 91 ∧ j = 36)) σ (eb_sI σ104 91 36 1) := F.tr (Fr.sI (Or.inr ⟨rfl, rfl⟩))
  refine ⟨_, ?_, F2, by rw [eb_I_sI, if_pos rfl, if_pos rfl], fun i j hi hj => ?_⟩
  · unfold f_X10_image
    simp only [eb_gR, eb_gI, eb_wi, eb_tg, hdu, eb_T_sI, eb_R_sI, eb_L_sI, eb_J_sI, eb_N_sI, eb_T_sJ, eb_R_sJ, eb_L_sJ, eb_I_sJ, eb_N_sJ, eb_T_rI, eb_R_rI, eb_L_rI, eb_J_rI, eb_N_rI, eb_T_rJ, eb_R_rJ, eb_L_rJ, eb_I_rJ, eb_N_rJ, List.mem_singleton, if_true, true_and, ne_eq, show ¬ (92 : Nat) = 0 by decide, show ¬ (93 : Nat) = 0 by decide, show ¬ (94 : Nat) = 0 by decide, show ¬ (95 : Nat) = 0 by decide, show ¬ (96 : Nat) = 0 by decide, show ¬ (97 : Nat) = 0 by decide, show ¬ (98 : Nat) = 0 by decide, show ¬ (99 : Nat) = 0 by decide, show ¬ (100 : Nat) = 0 by decide, show ¬ (101 : Nat) = 0 by decide, show ¬ (102 : Nat) = 0 by decide, show ¬ (103 : Nat) = 0 by decide, show ¬ (104 : Nat) = 0 by decide, show ¬ (105 : Nat) = 0 by decide, show ¬ (106 : Nat) = 0 by decide, show ¬ (114 : Nat) = 0 by decide, not_false_eq_true, eb_in0, eb_in1, eb_in2, eb_in3, c0, c1, c2, c3', eb_I_sI, show ¬ (91 : Nat) = 114 by decide, if_false]
    rw [g4]
    simp only [eb_cl_s, eb_pZ, hdu, eb_T_sI, eb_R_sI, eb_L_sI, eb_J_sI, eb_N_sI, eb_T_sJ, eb_R_sJ, eb_L_sJ, eb_I_sJ, eb_N_sJ, eb_T_rI, eb_R_rI, eb_L_rI, eb_J_rI, eb_N_rI, eb_T_rJ, eb_R_rJ, eb_L_rJ, eb_I_rJ, eb_N_rJ, Q14.1.1, Q14.1.2.1, Q24.1.1, Q24.1.2.1, Q34.1.1, Q34.1.2.1, Q44.1.1, Q44.1.2.1, Q54.1.1, Q54.1.2.1, Q59.1.1, Q59.1.2.1, Q64.1.1, Q64.1.2.1, Q67.1.1, Q67.1.2.1, Q70.1.1, Q70.1.2.1, Q72.1.1, Q72.1.2.1, Q80.1.1, Q80.1.2.1, Q88.1.1, Q88.1.2.1, Q96.1.1, Q96.1.2.1, Q104.1.1, Q104.1.2.1, Q110.1.1, Q110.1.2.1, List.mem_singleton, if_true, true_and, ne_eq, show ¬ (92 : Nat) = 0 by decide, show ¬ (93 : Nat) = 0 by decide, show ¬ (94 : Nat) = 0 by decide, show ¬ (95 : Nat) = 0 by decide, show ¬ (96 : Nat) = 0 by decide, show ¬ (97 : Nat) = 0 by decide, show ¬ (98 : Nat) = 0 by decide, show ¬ (99 : Nat) = 0 by decide, show ¬ (100 : Nat) = 0 by decide, show ¬ (101 : Nat) = 0 by decide, show ¬ (102 : Nat) = 0 by decide, show ¬ (103 : Nat) = 0 by decide, show ¬ (104 : Nat) = 0 by decide, show ¬ (105 : Nat) = 0 by decide, show ¬ (106 : Nat) = 0 by decide, show ¬ (114 : Nat) = 0 by decide, not_false_eq_true, g4, g14, g24, g34, g44, g54, g59, g64, g67, g70, g72, g80, g88, g98, g104, im80, im88]
    simp
  · have rd := Q110.2 (iO i + j)
    rw [eb_I_sI, if_neg (by decide), rd]
    have hb := hj
    have wN := w.1
    have wS := w.2.2.1
    have wLn := w.2.2.2.2.2.2.1
    have wBn := w.2.2.2.2.2.2.2.2.1
    unfold aN at wN
    unfold aS at wS
    unfold aLn at wLn
    unfold aBn at wBn
    have ft := hD.ft i j hi hj
    rcases lt19 hi with rfl | rfl | rfl | rfl | rfl | rfl | rfl | rfl | rfl | rfl | rfl | rfl | rfl | rfl | rfl | rfl | rfl | rfl | rfl
    · simp only [bd, sca, aN, aS, aLn, aBn] at hb
      have hb : j < 1 := by simp at hb; omega
      have e : iO 0 = 0 := by decide
      have j0 : j = 0 := by omega
      subst j0
      rw [e, if_pos (by omega)]
      exact ft
    · simp only [bd, sca, aN, aS, aLn, aBn] at hb
      have hb : j < 10 := by simp at hb; omega
      have e : iO 1 = 4 := by decide
      rw [e, if_pos (by omega)]
      unfold gIm
      rw [if_neg (by omega), if_pos (by omega), show 4 + j - 4 = j by omega]
      exact ft
    · simp only [bd, sca, aN, aS, aLn, aBn] at hb
      have hb : j < 10 := by simp at hb; omega
      have e : iO 2 = 14 := by decide
      rw [e, if_pos (by omega)]
      unfold gIm
      rw [if_neg (by omega), if_neg (by omega), if_pos (by omega), show 14 + j - 14 = j by omega]
      exact ft
    · simp only [bd, sca, aN, aS, aLn, aBn] at hb
      have hb : j < 10 := by simp at hb; omega
      have e : iO 3 = 24 := by decide
      rw [e, if_pos (by omega)]
      unfold gIm
      rw [if_neg (by omega), if_neg (by omega), if_neg (by omega), if_pos (by omega), show 24 + j - 24 = j by omega]
      exact ft
    · simp only [bd, sca, aN, aS, aLn, aBn] at hb
      have hb : j < 10 := by simp at hb; omega
      have e : iO 4 = 34 := by decide
      rw [e, if_pos (by omega)]
      unfold gIm
      rw [if_neg (by omega), if_neg (by omega), if_neg (by omega), if_neg (by omega), if_pos (by omega), show 34 + j - 34 = j by omega]
      exact ft
    · simp only [bd, sca, aN, aS, aLn, aBn] at hb
      have hb : j < 10 := by simp at hb; omega
      have e : iO 5 = 44 := by decide
      rw [e, if_pos (by omega)]
      unfold gIm
      rw [if_neg (by omega), if_neg (by omega), if_neg (by omega), if_neg (by omega), if_neg (by omega), if_pos (by omega), show 44 + j - 44 = j by omega]
      exact ft
    · simp only [bd, sca, aN, aS, aLn, aBn] at hb
      have hb : j < 1 := by simp at hb; omega
      have e : iO 6 = 1 := by decide
      have j0 : j = 0 := by omega
      subst j0
      rw [e, if_pos (by omega)]
      exact ft
    · simp only [bd, sca, aN, aS, aLn, aBn] at hb
      have hb : j < 5 := by simp at hb; omega
      have e : iO 7 = 54 := by decide
      rw [e, if_pos (by omega)]
      unfold gIm
      rw [if_neg (by omega), if_neg (by omega), if_neg (by omega), if_neg (by omega), if_neg (by omega), if_neg (by omega), if_pos (by omega), show 54 + j - 54 = j by omega]
      exact ft
    · simp only [bd, sca, aN, aS, aLn, aBn] at hb
      have hb : j < 5 := by simp at hb; omega
      have e : iO 8 = 59 := by decide
      rw [e, if_pos (by omega)]
      unfold gIm
      rw [if_neg (by omega), if_neg (by omega), if_neg (by omega), if_neg (by omega), if_neg (by omega), if_neg (by omega), if_neg (by omega), if_pos (by omega), show 59 + j - 59 = j by omega]
      exact ft
    · simp only [bd, sca, aN, aS, aLn, aBn] at hb
      have hb : j < 3 := by simp at hb; omega
      have e : iO 9 = 64 := by decide
      rw [e, if_pos (by omega)]
      unfold gIm
      rw [if_neg (by omega), if_neg (by omega), if_neg (by omega), if_neg (by omega), if_neg (by omega), if_neg (by omega), if_neg (by omega), if_neg (by omega), if_pos (by omega), show 64 + j - 64 = j by omega]
      exact ft
    · simp only [bd, sca, aN, aS, aLn, aBn] at hb
      have hb : j < 3 := by simp at hb; omega
      have e : iO 10 = 67 := by decide
      rw [e, if_pos (by omega)]
      unfold gIm
      rw [if_neg (by omega), if_neg (by omega), if_neg (by omega), if_neg (by omega), if_neg (by omega), if_neg (by omega), if_neg (by omega), if_neg (by omega), if_neg (by omega), if_pos (by omega), show 67 + j - 67 = j by omega]
      exact ft
    · simp only [bd, sca, aN, aS, aLn, aBn] at hb
      have hb : j < 2 := by simp at hb; omega
      have e : iO 11 = 70 := by decide
      rw [e, if_pos (by omega)]
      unfold gIm
      rw [if_neg (by omega), if_neg (by omega), if_neg (by omega), if_neg (by omega), if_neg (by omega), if_neg (by omega), if_neg (by omega), if_neg (by omega), if_neg (by omega), if_neg (by omega), if_pos (by omega), show 70 + j - 70 = j by omega]
      exact ft
    · simp only [bd, sca, aN, aS, aLn, aBn] at hb
      have hb : j < 1 := by simp at hb; omega
      have e : iO 12 = 2 := by decide
      have j0 : j = 0 := by omega
      subst j0
      rw [e, if_pos (by omega)]
      exact ft
    · simp only [bd, sca, aN, aS, aLn, aBn] at hb
      have hb : j < 8 := by simp at hb; omega
      have e : iO 13 = 72 := by decide
      rw [e, if_pos (by omega)]
      unfold gIm
      rw [if_neg (by omega), if_neg (by omega), if_neg (by omega), if_neg (by omega), if_neg (by omega), if_neg (by omega), if_neg (by omega), if_neg (by omega), if_neg (by omega), if_neg (by omega), if_neg (by omega), if_pos (by omega), show 72 + j - 72 = j by omega]
      exact ft
    · simp only [bd, sca, aN, aS, aLn, aBn] at hb
      have hb : j < 8 := by simp at hb; omega
      have e : iO 14 = 80 := by decide
      rw [e, if_pos (by omega)]
      unfold gIm
      rw [if_neg (by omega), if_neg (by omega), if_neg (by omega), if_neg (by omega), if_neg (by omega), if_neg (by omega), if_neg (by omega), if_neg (by omega), if_neg (by omega), if_neg (by omega), if_neg (by omega), if_neg (by omega), if_pos (by omega), show 80 + j - 80 = j by omega]
      exact ft
    · simp only [bd, sca, aN, aS, aLn, aBn] at hb
      have hb : j < 8 := by simp at hb; omega
      have e : iO 15 = 88 := by decide
      rw [e, if_pos (by omega)]
      unfold gIm
      rw [if_neg (by omega), if_neg (by omega), if_neg (by omega), if_neg (by omega), if_neg (by omega), if_neg (by omega), if_neg (by omega), if_neg (by omega), if_neg (by omega), if_neg (by omega), if_neg (by omega), if_neg (by omega), if_neg (by omega), if_pos (by omega), show 88 + j - 88 = j by omega]
      exact ft
    · simp only [bd, sca, aN, aS, aLn, aBn] at hb
      have hb : j < 1 := by simp at hb; omega
      have e : iO 16 = 3 := by decide
      have j0 : j = 0 := by omega
      subst j0
      rw [e, if_pos (by omega)]
      exact ft
    · simp only [bd, sca, aN, aS, aLn, aBn] at hb
      have hb : j < 6 := by simp at hb; omega
      have e : iO 17 = 98 := by decide
      rw [e, if_pos (by omega)]
      unfold gIm
      rw [if_neg (by omega), if_neg (by omega), if_neg (by omega), if_neg (by omega), if_neg (by omega), if_neg (by omega), if_neg (by omega), if_neg (by omega), if_neg (by omega), if_neg (by omega), if_neg (by omega), if_neg (by omega), if_neg (by omega), if_neg (by omega), if_neg (by omega), if_pos (by omega), show 98 + j - 98 = j by omega]
      exact ft
    · simp only [bd, sca, aN, aS, aLn, aBn] at hb
      have hb : j < 6 := by simp at hb; omega
      have e : iO 18 = 104 := by decide
      rw [e, if_pos (by omega)]
      unfold gIm
      rw [if_neg (by omega), if_neg (by omega), if_neg (by omega), if_neg (by omega), if_neg (by omega), if_neg (by omega), if_neg (by omega), if_neg (by omega), if_neg (by omega), if_neg (by omega), if_neg (by omega), if_neg (by omega), if_neg (by omega), if_neg (by omega), if_neg (by omega), if_neg (by omega), if_pos (by omega), show 104 + j - 104 = j by omega]
      exact ft
