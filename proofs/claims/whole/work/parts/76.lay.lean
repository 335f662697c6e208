/-! ===== pure: lay ===== -/
def bgP (it : Nat → Nat → Int64) (s i t : Nat) : Prop := 0 ≤ (it s (i + t)).toInt ∧ (it s (i + t)).toInt ≤ 2
def bgQ (it : Nat → Nat → Int64) (s i t : Nat) : Nat := (it s (i + t)).toInt.toNat
theorem bgQ_i {it : Nat → Nat → Int64} {s i t : Nat} (h : bgP it s i t) : (it s (i + t)).toInt32 = nI (bgQ it s i t) ∧ bgQ it s i t ≤ 2 := by
  unfold bgP at h
  unfold bgQ
  refine ⟨?_, by omega⟩
  rw [← Int32.toInt_inj, Int64.toInt_toInt32, p_ntoInt (by omega), Int.toNat_of_nonneg h.1]
  exact Int.bmod_eq_of_le (by omega) (by omega)
set_option maxHeartbeats 4000000 in
theorem x_lay_L1 {A : Nat → Nat → Nat} (w : wf A) {ln sz : Nat → Nat} {it : Nat → Nat → Int64} {n s i : Nat} (hs : s < 4) (hln : ln s ≠ 0) (hi : i + aN A ≤ 16) {K : eb_S → Option (Int32 × eb_S)} {σ : eb_S} (hb : ShB σ) (hs9 : ShM9 σ) (hX : MX9 A σ) (hH : XH ln sz it σ) : ∀ (m k : Nat), k ≤ aN A → aN A < k + m → ((∀ t, k ≤ t → t < aN A → bgP it s i t) ∧ f_X9_lay_L27 n 8 (nI s) (nI i) K m (nI k) σ = K σ) ∨ (¬ (∀ t, k ≤ t → t < aN A → bgP it s i t) ∧ f_X9_lay_L27 n 8 (nI s) (nI i) K m (nI k) σ = some (-2, σ)) := by
  intro m
  induction m with
  | zero => intro k h1 h2; omega
  | succ m ih =>
    intro k h1 h2
    have wN := w.1
    have xN := hX.1
    have hr := hb.sh (s := s) hs
    have at' := hH.1.at (s := s) hs
    have hbu := hb
    have hsu := hs9
    unfold ShB at hbu
    unfold ShM9 at hsu
    rw [f_X9_lay_L27.eq_2]
    by_cases h : aN A ≤ k
    · have e : k = aN A := by omega
      subst e
      have le : nI (aN A) ≤ nI (aN A) := by rw [p_leN (by omega) (by omega)]; exact Nat.le_refl _
      exact Or.inl ⟨fun t h1 h2 => by omega, by simp [eb_gR, eb_gI, hbu, hsu, xN, le]⟩
    · have nle : ¬ nI (aN A) ≤ nI k := by rw [p_leN (by omega) (by omega)]; omega
      have rd := ((hH.2 s hs).2 hln).2 (i + k) (by omega)
      have c0 : (lg_cmp (it s (i + k)) 0 < 0) = ((it s (i + k)).toInt < 0) := by rw [p_lgl]; rfl
      have c3 : (lg_cmp (it s (i + k)) 3 < 0) = ((it s (i + k)).toInt < 3) := by rw [p_lgl]; rfl
      simp only [eb_gR, eb_gI, eb_ar, eb_al, hbu, hsu, xN, nle, if_false, List.mem_singleton, if_true, true_and, ne_eq, show ¬ (9 : Nat) = 0 by decide, show ¬ (81 : Nat) = 0 by decide, not_false_eq_true, p_in (show s < 4 by omega) (by decide : 4 < 2 ^ 31), p_cl (show s < 2 ^ 31 by omega), hr, at', show ¬ 82 + 2 * s = 0 by omega, show ¬ 83 + 2 * s = 0 by omega, nI_add, p_in (show i + k < 16 by omega) (by decide : 16 < 2 ^ 31), p_cl (show i + k < 2 ^ 31 by omega), rd, c0, c3, nI_1]
      by_cases e1 : (it s (i + k)).toInt < 0
      · right
        refine ⟨fun z => ?_, by rw [if_pos e1]⟩
        have := z k (Nat.le_refl _) (by omega)
        unfold bgP at this
        omega
      · rw [if_neg e1]
        by_cases e2 : (it s (i + k)).toInt < 3
        · rw [if_pos e2]
          rcases ih (k + 1) (by omega) (by omega) with ⟨z1, z2⟩ | ⟨z1, z2⟩
          · left
            refine ⟨fun t t1 t2 => ?_, z2⟩
            by_cases e : t = k
            · subst e; unfold bgP; omega
            · exact z1 t (by omega) t2
          · right
            exact ⟨fun z => z1 (fun t t1 t2 => z t (by omega) t2), z2⟩
        · right
          refine ⟨fun z => ?_, by rw [if_neg e2]⟩
          have := z k (Nat.le_refl _) (by omega)
          unfold bgP at this
          omega
set_option maxHeartbeats 4000000 in
theorem d_lay_L1 {A : Nat → Nat → Nat} (w : wf A) {ln sz : Nat → Nat} {it : Nat → Nat → Int64} {n s i : Nat} (hs : s < 4) (hln : ln s ≠ 0) (hi : i + aN A ≤ 16) {K : eb_S → Option (Int32 × eb_S)} {σ : eb_S} (hd : ShD σ) (hD : MD A σ) (hH : DH ln sz it σ) : ∀ (m k : Nat), k ≤ aN A → aN A < k + m → ((∀ t, k ≤ t → t < aN A → bgP it s i t) ∧ f_X10_lay_L40 n 91 (nI s) (nI i) K m (nI k) σ = K σ) ∨ (¬ (∀ t, k ≤ t → t < aN A → bgP it s i t) ∧ f_X10_lay_L40 n 91 (nI s) (nI i) K m (nI k) σ = some (-2, σ)) := by
  intro m
  induction m with
  | zero => intro k h1 h2; omega
  | succ m ih =>
    intro k h1 h2
    have wN := w.1
    have yN := hD.1
    have hdu := hd
    unfold ShD at hdu
    rw [f_X10_lay_L40.eq_2]
    by_cases h : aN A ≤ k
    · have e : k = aN A := by omega
      subst e
      have le : nI (aN A) ≤ nI (aN A) := by rw [p_leN (by omega) (by omega)]; exact Nat.le_refl _
      exact Or.inl ⟨fun t h1 h2 => by omega, by simp [eb_gI, hdu, yN, le]⟩
    · have nle : ¬ nI (aN A) ≤ nI k := by rw [p_leN (by omega) (by omega)]; omega
      have rd := ((hH s hs).2 hln).2 (i + k) (by omega)
      have ex := p_x16 s i k
      rw [show 16 * s + i + k = 16 * s + (i + k) by omega] at ex
      have ib := d_isBag (it s (i + k)) σ
      simp only [eb_gR, eb_gI, eb_al, hdu, yN, nle, if_false, List.mem_singleton, if_true, true_and, ne_eq, show ¬ (117 : Nat) = 0 by decide, not_false_eq_true, ex, p_in (show 16 * s + (i + k) < 64 by omega) (by decide : 64 < 2 ^ 31), p_cl (show 16 * s + (i + k) < 2 ^ 31 by omega), rd, ib, eb_cl_s, eb_b0, nI_1]
      cases e1 : wi (it s (i + k)).toInt 0 2 with
      | false =>
        right
        refine ⟨fun z => ?_, by simp⟩
        exact wi_f.mp e1 (z k (Nat.le_refl _) (by omega))
      | true =>
        simp only [Bool.true_eq_false, if_false]
        rcases ih (k + 1) (by omega) (by omega) with ⟨z1, z2⟩ | ⟨z1, z2⟩
        · left
          refine ⟨fun t t1 t2 => ?_, z2⟩
          by_cases e : t = k
          · subst e; exact wi_t.mp e1
          · exact z1 t (by omega) t2
        · right
          exact ⟨fun z => z1 (fun t t1 t2 => z t (by omega) t2), z2⟩
def lyA (A : Nat → Nat → Nat) (q : Nat → Nat) : Nat → Nat → Nat → Nat
  | 0 => A
  | k + 1 => aup (lyA A q k) 5 k (q k)
theorem lyA_N {A : Nat → Nat → Nat} {q : Nat → Nat} : ∀ k, aN (lyA A q k) = aN A
  | 0 => rfl
  | k + 1 => by
    have ih := lyA_N (A := A) (q := q) k
    have e : aN (aup (lyA A q k) 5 k (q k)) = aN (lyA A q k) := by simp [aup, aN]
    exact e.trans ih
theorem lyA_w {A : Nat → Nat → Nat} (w : wf A) {q : Nat → Nat} : ∀ k, (∀ t, t < k → q t ≤ 2) → wf (lyA A q k)
  | 0, _ => w
  | k + 1, h => wf_set4 (lyA_w w k (fun t ht => h t (by omega))) (by omega) (h k (by omega))
set_option maxHeartbeats 4000000 in
theorem x_lay_L2 {A : Nat → Nat → Nat} (w : wf A) {ln sz : Nat → Nat} {it : Nat → Nat → Int64} {n s i : Nat} (hs : s < 4) (hln : ln s ≠ 0) (hi : i + aN A ≤ 16) (hq : ∀ t, t < aN A → bgP it s i t) {ch : Nat} {K : eb_S → Option (Int32 × eb_S)} : ∀ (m k : Nat) (σ : eb_S), ShB σ → X9 (lyA A (bgQ it s i) k) (ch + k) σ → XH ln sz it σ → k ≤ aN A → aN A < k + m → ∃ σ', f_X9_lay_L83 n 8 (nI s) (nI i) K m (nI k) σ = K σ' ∧ Fr sMk σ σ' ∧ X9 (lyA A (bgQ it s i) (aN A)) (ch + aN A) σ' := by
  intro m
  induction m with
  | zero => intro k σ _ _ _ h1 h2; omega
  | succ m ih =>
    intro k σ hb h9 hH h1 h2
    have wN := w.1
    have xN := h9.2.1.1
    rw [lyA_N] at xN
    have hr := hb.sh (s := s) hs
    have at' := hH.1.at (s := s) hs
    have hbu := hb
    have hsu := h9.1
    unfold ShB at hbu
    unfold ShM9 at hsu
    rw [f_X9_lay_L83.eq_2]
    by_cases h : aN A ≤ k
    · have e : k = aN A := by omega
      subst e
      have le : nI (aN A) ≤ nI (aN A) := by rw [p_leN (by omega) (by omega)]; exact Nat.le_refl _
      exact ⟨σ, by simp [eb_gR, eb_gI, hbu, hsu, xN, le], Fr.rf, h9⟩
    · have nle : ¬ nI (aN A) ≤ nI k := by rw [p_leN (by omega) (by omega)]; omega
      have rd := ((hH.2 s hs).2 hln).2 (i + k) (by omega)
      obtain ⟨q1, q2⟩ := bgQ_i (hq k (by omega))
      obtain ⟨σ1, a1, a2, a3⟩ := x_put h9 5 k (bgQ it s i k) (c := 14) (v := nI (bgQ it s i k)) (by decide) (by decide) rfl (show k < aN (lyA A (bgQ it s i) k) by rw [lyA_N]; omega) rfl (by simp [hsu]) (by rw [show eb_L σ 14 = 10 by simp [hsu]]; exact p_in (by omega) (by decide)) (by omega)
      obtain ⟨σ', g1, g2, g3⟩ := ih (k + 1) σ1 (a2.shB hb) a3 (hH.fr a2.fq (fun k j h1 h2 z => by unfold sMk at z; omega)) (by omega) (by omega)
      refine ⟨σ', ?_, a2.tr g2, g3⟩
      simp [eb_gR, eb_gI, eb_ar, eb_al, eb_tg, eb_cl_s, hbu, hsu, xN, nle, p_in (show s < 4 by omega) (by decide : 4 < 2 ^ 31), p_cl (show s < 2 ^ 31 by omega), hr, at', nI_add, p_in (show i + k < 16 by omega) (by decide : 16 < 2 ^ 31), p_cl (show i + k < 2 ^ 31 by omega), rd, q1, a1, nI_1, g1]
set_option maxHeartbeats 4000000 in
theorem d_lay_L2 {A : Nat → Nat → Nat} (w : wf A) {ln sz : Nat → Nat} {it : Nat → Nat → Int64} {n s i : Nat} (hs : s < 4) (hln : ln s ≠ 0) (hi : i + aN A ≤ 16) (hq : ∀ t, t < aN A → bgP it s i t) {K : eb_S → Option (Int32 × eb_S)} : ∀ (m k : Nat) (σ : eb_S), ShD σ → MD (lyA A (bgQ it s i) k) σ → DH ln sz it σ → k ≤ aN A → aN A < k + m → ∃ σ', f_X10_lay_L81 n 91 (nI s) (nI i) K m (nI k) σ = K σ' ∧ Fr sMd σ σ' ∧ MD (lyA A (bgQ it s i) (aN A)) σ' := by
  intro m
  induction m with
  | zero => intro k σ _ _ _ h1 h2; omega
  | succ m ih =>
    intro k σ hd hD hH h1 h2
    have wN := w.1
    have yN := hD.1
    rw [lyA_N] at yN
    have hdu := hd
    unfold ShD at hdu
    rw [f_X10_lay_L81.eq_2]
    by_cases h : aN A ≤ k
    · have e : k = aN A := by omega
      subst e
      have le : nI (aN A) ≤ nI (aN A) := by rw [p_leN (by omega) (by omega)]; exact Nat.le_refl _
      exact ⟨σ, by simp [eb_gI, hdu, yN, le], Fr.rf, hD⟩
    · have nle : ¬ nI (aN A) ≤ nI k := by rw [p_leN (by omega) (by omega)]; omega
      have rd := ((hH s hs).2 hln).2 (i + k) (by omega)
      obtain ⟨q1, q2⟩ := bgQ_i (hq k (by omega))
      have ex := p_x16 s i k
      rw [show 16 * s + i + k = 16 * s + (i + k) by omega] at ex
      obtain ⟨m1, m2⟩ := d_put hD 5 k (bgQ it s i k) (c := 96) (v := nI (bgQ it s i k)) (by decide) (by decide) rfl rfl
      obtain ⟨σ', g1, g2, g3⟩ := ih (k + 1) _ (m2.shD hd) m1 (hH.fr m2.fq (fun k j h1 h2 z => by unfold sMd at z; omega)) (by omega) (by omega)
      refine ⟨σ', ?_, m2.tr g2, g3⟩
      simp [eb_gR, eb_gI, eb_al, eb_wi, hdu, yN, nle, ex, p_in (show 16 * s + (i + k) < 64 by omega) (by decide : 64 < 2 ^ 31), p_cl (show 16 * s + (i + k) < 2 ^ 31 by omega), rd, q1, p_in (show k < 10 by omega) (by decide : 10 < 2 ^ 31), p_cl (show k < 2 ^ 31 by omega), nI_1, g1]
/-- as OPM, with as many changes as THINGS -/
def OPN (fx fd : eb_S → Option (Int32 × eb_S)) (A : Nat → Nat → Nat) (ch : Nat) (σ : eb_S) : Prop := ∃ r σ1 σ2 A' ch', fx σ = some (r, σ1) ∧ Fr sMk σ σ1 ∧ X9 A' ch' σ1 ∧ fd σ1 = some (r, σ2) ∧ Fr sMd σ1 σ2 ∧ MD A' σ2 ∧ wf A' ∧ (A' = A ∧ ch' = ch ∨ ch < ch') ∧ ch' ≤ ch + 16
theorem OPM.n {fx fd : eb_S → Option (Int32 × eb_S)} {A : Nat → Nat → Nat} {ch : Nat} {σ : eb_S} (h : OPM fx fd A ch σ) : OPN fx fd A ch σ := by
  obtain ⟨r, σ1, σ2, A', ch', h1, h2, h3, h4, h5, h6, h7, h8⟩ := h
  refine ⟨r, σ1, σ2, A', ch', h1, h2, h3, h4, h5, h6, h7, h8.imp id (fun z => by omega), ?_⟩
  rcases h8 with z | z
  · omega
  · omega
set_option maxHeartbeats 4000000 in
theorem eq_lay {A : Nat → Nat → Nat} (w : wf A) {ln sz : Nat → Nat} {it : Nat → Nat → Int64} (wh : wfH ln sz) {n ch : Nat} (hn : 100 ≤ n) {σ : eb_S} (hb : ShB σ) (h9 : X9 A ch σ) (hH : XH ln sz it σ) (hd : ShD σ) (hMD : MD A σ) (hD : DH ln sz it σ) (a b i : Int32) : OPN (f_X9_lay n 8 a b i) (f_X10_lay n 91 a b i) A ch σ := by
  have wN := w.1
  have xN := h9.2.1.1
  have yN := hMD.1
  have d1 := fun σ => d_isSheet a σ
  have d2 := fun σ => d_isLane b σ
  have hbu := hb
  have hdu := hd
  have hsu := h9.1
  unfold ShB at hbu
  unfold ShD at hdu
  unfold ShM9 at hsu
  cases h1 : wi a.toInt 0 3 with
  | false =>
    rw [h1] at d1
    have rb := x_refusal_bad (σ := σ) (Or.inl h1 : wi a.toInt 0 3 = false ∨ wi b.toInt 0 3 = false) i (nI (aN A))
    exact (OPM.same w h9 hMD (r := -1) (by unfold f_X9_lay; simp [eb_gR, eb_gI, eb_tg, hbu, hsu, xN, rb, eb_cl_s, m1n]) (by unfold f_X10_lay; simp [d1, eb_cl_s, eb_b0])).n
  | true =>
  rw [h1] at d1
  cases h2 : wi b.toInt 0 3 with
  | false =>
    rw [h2] at d2
    have rb := x_refusal_bad (σ := σ) (Or.inr h2 : wi a.toInt 0 3 = false ∨ wi b.toInt 0 3 = false) i (nI (aN A))
    exact (OPM.same w h9 hMD (r := -1) (by unfold f_X9_lay; simp [eb_gR, eb_gI, eb_tg, hbu, hsu, xN, rb, eb_cl_s, m1n]) (by unfold f_X10_lay; simp [d1, d2, eb_cl_s, eb_b0])).n
  | true =>
  rw [h2] at d2
  obtain ⟨s, hs, rfl⟩ := wi_nat2 (n := 3) (by decide) h1
  obtain ⟨l, hl, rfl⟩ := wi_nat2 (n := 3) (by decide) h2
  have hs : s < 4 := by omega
  have hp : 0 ≤ (nI (aN A)).toInt := by rw [p_ntoInt (by omega)]; omega
  have xr := x_refusal hb hH wh (s := s) (l := l) hs (by omega) i (nI (aN A))
  have dr := fun (σ' : eb_S) (hd' : ShD σ') (hD' : DH ln sz it σ') => d_why hd' hD' wh (s := s) (l := l) hs (by omega) i (nI (aN A)) hp
  by_cases h3 : (0 : Int32) ≤ rfs ln sz s l i (nI (aN A))
  · obtain ⟨o1, o2, i', rfl, o3, o4⟩ := rfs_at wh hs (by omega) h3
    rw [o2] at xr dr
    have hln : ln s ≠ 0 := by omega
    have X1 := x_lay_L1 w (n := n) (s := s) (i := i') hs hln (by omega) (K := fun s11 => f_X9_lay_L83 n 8 (nI s) (nI i') (fun s23 => eb_gR s23 [8] 8 0 fun r24 => eb_cl (eb_tg s23 r24 3 (f_X3_whyUnlawful n r24 s23)) fun x26 s25 => some (x26, s25)) n 0 s11) hb h9.1 h9.2.1 hH n 0 (by omega) (by omega)
    have D1 := fun (σ' : eb_S) (hd' : ShD σ') (hMD' : MD A σ') (hD' : DH ln sz it σ') => d_lay_L1 w (n := n) (s := s) (i := i') hs hln (by omega) (K := fun s13 => f_X10_lay_L81 n 91 (nI s) (nI i') (fun s19 => eb_gR s19 [9] 91 5 fun r20 => eb_cl (eb_tg s19 91 9 (f_X10_whyNot n 91 r20 s19)) fun x22 s21 => some (x22, s21)) n 0 s13) hd' hMD' hD' n 0 (by omega) (by omega)
    rw [nI_0] at X1
    simp only [nI_0] at D1
    rcases X1 with ⟨z1, z2⟩ | ⟨z1, z2⟩
    · have hq : ∀ t, t < aN A → bgP it s i' t := fun t ht => z1 t (by omega) ht
      obtain ⟨σ1, g1, g2, g3⟩ := x_lay_L2 w (n := n) (s := s) (i := i') hs hln (by omega) hq (ch := ch) (K := fun s23 => eb_gR s23 [8] 8 0 fun r24 => eb_cl (eb_tg s23 r24 3 (f_X3_whyUnlawful n r24 s23)) fun x26 s25 => some (x26, s25)) n 0 σ hb h9 hH (by omega) (by omega)
      have w' := lyA_w w (q := bgQ it s i') (aN A) (fun t ht => (bgQ_i (hq t ht)).2)
      obtain ⟨r1, y1, y2⟩ := x_why g3.1 g3.2.1 w' hn
      have hd1 := g2.shD hd
      have hMD1 := g2.md nD_sMk hMD
      have hD1 : DH ln sz it σ1 := hD.fr g2.fq (fun k j h1 h2 z => by unfold sMk at z; omega)
      obtain ⟨σ2, k1, k2, k3⟩ := d_lay_L2 w (n := n) (s := s) (i := i') hs hln (by omega) hq (K := fun s19 => eb_gR s19 [9] 91 5 fun r20 => eb_cl (eb_tg s19 91 9 (f_X10_whyNot n 91 r20 s19)) fun x22 s21 => some (x22, s21)) n 0 σ1 hd1 hMD1 hD1 (by omega) (by omega)
      have hd2 := k2.shD hd1
      obtain ⟨r2, v1, v2⟩ := d_whyNot hd2 k3 w' (MD.bags hd2 k3 w') hn
      cases y2.eq v2
      have hb1 := g2.shB hb
      refine ⟨r1, σ1, σ2, lyA A (bgQ it s i') (aN A), ch + aN A, ?_, g2, g3, ?_, k2, k3, w', ?_, by omega⟩
      · rw [nI_0] at g1
        unfold f_X9_lay
        simp only [eb_gR, eb_gI, eb_tg, hbu, hsu, xN, xr, eb_cl_s, List.mem_singleton, if_true, true_and, ne_eq, show ¬ (9 : Nat) = 0 by decide, not_false_eq_true, show (0 : Int32) ≤ 0 by decide] at z2 g1 ⊢
        rw [z2, g1]
        have g31 := g3.1
        unfold ShB at hb1
        unfold ShM9 at g31
        simp [hb1, g31, y1, eb_cl_s]
      · rcases D1 σ1 hd1 hMD1 hD1 with ⟨u1, u2⟩ | ⟨u1, u2⟩
        · have yN1 := hMD1.1
          have dr1 := dr σ1 hd1 hD1
          unfold ShD at hd1 hd2
          rw [nI_0] at k1
          unfold f_X10_lay
          simp only [d1, d2, eb_gR, eb_gI, eb_tg, hd1, yN1, dr1, eb_cl_s, eb_b0, Bool.true_eq_false, if_false, List.mem_singleton, if_true, show (0 : Int32) ≤ 0 by decide] at u2 k1 ⊢
          rw [u2, k1]
          simp [hd2, v1, eb_cl_s]
        · exact absurd z1 u1
      · by_cases e : aN A = 0
        · left
          rw [e]
          exact ⟨rfl, by omega⟩
        · right; omega
    · refine (OPM.same w h9 hMD (r := -2) ?_ ?_).n
      · unfold f_X9_lay
        simp only [eb_gR, eb_gI, eb_tg, hbu, hsu, xN, xr, eb_cl_s, List.mem_singleton, if_true, true_and, ne_eq, show ¬ (9 : Nat) = 0 by decide, not_false_eq_true, show (0 : Int32) ≤ 0 by decide] at z2 ⊢
        exact z2
      · rcases D1 σ hd hMD hD with ⟨u1, u2⟩ | ⟨u1, u2⟩
        · exact absurd u1 z1
        · have dr1 := dr σ hd hD
          unfold f_X10_lay
          simp only [d1, d2, eb_gR, eb_gI, eb_tg, hdu, yN, dr1, eb_cl_s, eb_b0, Bool.true_eq_false, if_false, List.mem_singleton, if_true, show (0 : Int32) ≤ 0 by decide] at u2 ⊢
          exact u2
  · have dr1 := dr σ hd hD
    exact (OPM.same w h9 hMD (r := rfs ln sz s l i (nI (aN A))) (by unfold f_X9_lay; simp [eb_gR, eb_gI, eb_tg, hbu, hsu, xN, xr, eb_cl_s, h3]) (by unfold f_X10_lay; simp [d1, d2, eb_gI, eb_tg, hdu, yN, dr1, eb_cl_s, eb_b0, h3])).n
