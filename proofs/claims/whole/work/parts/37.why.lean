/-! ===== pure: why not lawful ===== -/
theorem MX9.bags {A : Nat → Nat → Nat} {σ : eb_S} (hs : ShM9 σ) (hX : MX9 A σ) (w : wf A) : RW (aB A) (aN A) 14 σ := by
  obtain ⟨hN, hK, hW, hP, hL, hB, hS, hY, hU, hH, hG, hR, hLn, hL1, hL2, hLk, hBn, hB1, hB2⟩ := hX
  unfold ShM9 at hs
  refine ⟨by simp [hs], by simp [hs], fun t ht => ⟨hB t ht, ?_⟩⟩
  have := w.2.1 t ht
  omega
theorem RW.sub {p : Nat → Nat} {n n' r : Nat} {σ : eb_S} (h : RW p n r σ) (hn : n' ≤ n) : RW p n' r σ := ⟨h.1, h.2.1, fun t ht => h.2.2 t (by omega)⟩
/-- a step of 'for all from t on' -/
theorem all_step {n t : Nat} {Q : Nat → Prop} (ht : t < n) : (∀ u, t ≤ u → u < n → Q u) ↔ Q t ∧ ∀ u, t + 1 ≤ u → u < n → Q u := by
  constructor
  · intro hh; exact ⟨hh t (Nat.le_refl _) ht, fun u h3 h4 => hh u (by omega) h4⟩
  · intro hh u h3 h4
    by_cases e : u = t
    · subst e; exact hh.1
    · exact hh.2 u (by omega) h4
theorem all_end {n t : Nat} {Q : Nat → Prop} (ht : n ≤ t) : (∀ u, t ≤ u → u < n → Q u) ↔ True := by
  constructor
  · intro _; trivial
  · intro _ u h3 h4; omega
set_option maxHeartbeats 2000000 in
theorem x_bagsHold_L12 {A : Nat → Nat → Nat} {σ : eb_S} (hs : ShM9 σ) (hX : MX9 A σ) (w : wf A) {s n : Nat} (h5 : s < 5) (hn : 100 ≤ n) {K : eb_S → Option (Bool × eb_S)} : ∀ (m b : Nat), b ≤ 3 → 3 < b + m → ((∀ b', b ≤ b' → b' < 3 → ldB A (aB A) b' s (aN A) ≤ aH A b') ∧ f_X3_bagsHold_L12 n 9 (nI s) K m (nI b) σ = K σ) ∨ (¬ (∀ b', b ≤ b' → b' < 3 → ldB A (aB A) b' s (aN A) ≤ aH A b') ∧ f_X3_bagsHold_L12 n 9 (nI s) K m (nI b) σ = some (false, σ)) := by
  intro m
  induction m with
  | zero => intro b h1 h2; omega
  | succ m ih =>
    intro b h1 h2
    obtain ⟨hN, hK, hW, hP, hL, hB, hS, hY, hU, hH, hG, hR, hLn, hL1, hL2, hLk, hBn, hB1, hB2⟩ := id hX
    obtain ⟨wN, wT, wS, wY, wB, wR, wLn, wL, wBn, wE⟩ := id w
    have hs' := hs
    unfold ShM9 at hs
    rw [f_X3_bagsHold_L12.eq_2]
    have e3 : ((3 : Int32) ≤ nI b) = (3 ≤ b) := p_leN (a := 3) (b := b) (by decide) (by omega)
    simp only [eb_cl_s, eb_b0, eb_b1, eb_jn_e, eb_tg, eb_ts, eb_d3, eb_gI, eb_gR, eb_pI, eb_pZ, eb_pR, eb_ai, eb_ac, eb_al, eb_ar, eb_wi, eb_wc, eb_wl, eb_wr, eb_ln, eb_xi, eb_zb, eb_sw, eb_lw, hs, e3]
    by_cases h : 3 ≤ b
    · exact Or.inl ⟨fun b' h3 h4 => by omega, by simp [h]⟩
    · have ih' := ih (b + 1) (by omega) (by omega)
      have wb := wB b (by omega)
      have hl := ldB_le w (aB A) b s (aN A) (Nat.le_refl _)
      rw [all_step (show b < 3 by omega)]
      simp only [h, if_false, if_true, x_bagLoad hs' hX w (show b < 3 by omega) h5 hn, eb_cl_s, hs, p_in (show b < 3 by omega) (by decide : 3 < 2 ^ 31), p_cl (show b < 2 ^ 31 by omega), hH b (by omega), p_leN (show ldB A (aB A) b s (aN A) < 2 ^ 31 by omega) (show aH A b < 2 ^ 31 by omega), nI_1]
      by_cases hc : ldB A (aB A) b s (aN A) ≤ aH A b
      · rcases ih' with ⟨g1, g2⟩ | ⟨g1, g2⟩
        · exact Or.inl ⟨⟨hc, g1⟩, by simp [hc, g2]⟩
        · exact Or.inr ⟨fun z => g1 z.2, by simp [hc, g2]⟩
      · exact Or.inr ⟨fun z => hc z.1, by simp [hc]⟩
set_option maxHeartbeats 2000000 in
theorem x_bagsHold_L2 {A : Nat → Nat → Nat} {σ : eb_S} (hs : ShM9 σ) (hX : MX9 A σ) (w : wf A) {n : Nat} (hn : 100 ≤ n) : ∀ (m s : Nat), s ≤ aS A → aS A < s + m → ∃ b, f_X3_bagsHold_L2 n 9 m (nI s) σ = some (b, σ) ∧ (b = true ↔ ∀ s', s ≤ s' → s' < aS A → ∀ b, b < 3 → ldB A (aB A) b s' (aN A) ≤ aH A b) := by
  intro m
  induction m with
  | zero => intro s h1 h2; omega
  | succ m ih =>
    intro s h1 h2
    obtain ⟨hN, hK, hW, hP, hL, hB, hS, hY, hU, hH, hG, hR, hLn, hL1, hL2, hLk, hBn, hB1, hB2⟩ := id hX
    have wS := w.2.2.1
    have hs' := hs
    unfold ShM9 at hs
    rw [f_X3_bagsHold_L2.eq_2]
    simp only [eb_cl_s, eb_b0, eb_b1, eb_jn_e, eb_tg, eb_ts, eb_d3, eb_gI, eb_gR, eb_pI, eb_pZ, eb_pR, eb_ai, eb_ac, eb_al, eb_ar, eb_wi, eb_wc, eb_wl, eb_wr, eb_ln, eb_xi, eb_zb, eb_sw, eb_lw, hs, hS, p_leN (show aS A < 2 ^ 31 by omega) (show s < 2 ^ 31 by omega)]
    by_cases h : aS A ≤ s
    · exact ⟨true, by simp [h], by rw [all_end h]; simp⟩
    · obtain ⟨b, ih1, ih2⟩ := ih (s + 1) (by omega) (by omega)
      rw [all_step (show s < aS A by omega)]
      rcases x_bagsHold_L12 hs' hX w (show s < 5 by omega) hn (K := fun s6 => f_X3_bagsHold_L2 n 9 m (nI s + 1) s6) n 0 (by omega) (by omega) with ⟨g1, g2⟩ | ⟨g1, g2⟩
      · refine ⟨b, ?_, ?_⟩
        · simp only [h, if_false, if_true, List.mem_singleton]
          rw [nI_0] at g2
          rw [g2, nI_1, ih1]
        · rw [ih2]
          exact ⟨fun z => ⟨fun b hb => g1 b (Nat.zero_le _) hb, z⟩, fun z => z.2⟩
      · refine ⟨false, ?_, ?_⟩
        · simp only [h, if_false, if_true, List.mem_singleton]
          rw [nI_0] at g2
          rw [g2]
        · simp only [Bool.false_eq_true, false_iff]
          exact fun z => g1 (fun b _ hb => z.1 b hb)
theorem x_bagsHold {A : Nat → Nat → Nat} {σ : eb_S} (hs : ShM9 σ) (hX : MX9 A σ) (w : wf A) {n : Nat} (hn : 100 ≤ n) : ∃ b, f_X3_bagsHold n 9 σ = some (b, σ) ∧ (b = true ↔ holdP A (aB A)) := by
  have := w.2.2.1
  obtain ⟨b, h1, h2⟩ := x_bagsHold_L2 hs hX w hn n 0 (by omega) (by omega)
  exact ⟨b, h1, h2.trans ⟨fun h l hl => h l (Nat.zero_le _) hl, fun h l _ hl => h l hl⟩⟩
set_option maxHeartbeats 2000000 in
theorem x_why_L11 {A : Nat → Nat → Nat} {σ : eb_S} (hs : ShM9 σ) (hX : MX9 A σ) (w : wf A) {n : Nat} (hn : 100 ≤ n) {K : eb_S → Option (Int32 × eb_S)} : ∀ (m t : Nat), t ≤ aN A → aN A < t + m → ((∀ u, t ≤ u → u < aN A → lawT A (aB A) u) ∧ f_X3_whyUnlawful_L11 n 9 K m (nI t) σ = K σ) ∨ (¬ (∀ u, t ≤ u → u < aN A → lawT A (aB A) u) ∧ f_X3_whyUnlawful_L11 n 9 K m (nI t) σ = some (2, σ)) := by
  intro m
  induction m with
  | zero => intro b h1 h2; omega
  | succ m ih =>
    intro t h1 h2
    obtain ⟨hN, hK, hW, hP, hL, hB, hS, hY, hU, hH, hG, hR, hLn, hL1, hL2, hLk, hBn, hB1, hB2⟩ := id hX
    have wN := w.1
    have hs' := hs
    unfold ShM9 at hs
    rw [f_X3_whyUnlawful_L11.eq_2]
    simp only [eb_cl_s, eb_b0, eb_b1, eb_jn_e, eb_tg, eb_ts, eb_d3, eb_gI, eb_gR, eb_pI, eb_pZ, eb_pR, eb_ai, eb_ac, eb_al, eb_ar, eb_wi, eb_wc, eb_wl, eb_wr, eb_ln, eb_xi, eb_zb, eb_sw, eb_lw, hs, hN, p_leN (show aN A < 2 ^ 31 by omega) (show t < 2 ^ 31 by omega)]
    by_cases h : aN A ≤ t
    · exact Or.inl ⟨fun b' h3 h4 => by omega, by simp [h]⟩
    · have ih' := ih (t + 1) (by omega) (by omega)
      obtain ⟨b, q1, q2⟩ := x_keepsLaws hs' hX w (show t < aN A by omega) ((MX9.bags hs' hX w).sub (show t + 1 ≤ aN A by omega)) hn
      rw [all_step (show t < aN A by omega), ← q2]
      cases b with
      | true =>
        rcases ih' with ⟨g1, g2⟩ | ⟨g1, g2⟩
        · exact Or.inl ⟨⟨rfl, g1⟩, by simp [h, q1, eb_cl_s, nI_1, g2]⟩
        · exact Or.inr ⟨fun z => g1 z.2, by simp [h, q1, eb_cl_s, nI_1, g2]⟩
      | false => exact Or.inr ⟨fun z => Bool.false_ne_true z.1, by simp [h, q1, eb_cl_s]⟩
set_option maxHeartbeats 2000000 in
theorem x_why_L41 {A : Nat → Nat → Nat} {σ : eb_S} (hs : ShM9 σ) (hX : MX9 A σ) (w : wf A) {n : Nat} (hn : 100 ≤ n) : ∀ (m t : Nat), t ≤ aN A → aN A < t + m → ((∀ u, t ≤ u → u < aN A → softT A (aB A) u) ∧ f_X3_whyUnlawful_L41 n 9 m (nI t) σ = some (0, σ)) ∨ (¬ (∀ u, t ≤ u → u < aN A → softT A (aB A) u) ∧ f_X3_whyUnlawful_L41 n 9 m (nI t) σ = some (3, σ)) := by
  intro m
  induction m with
  | zero => intro b h1 h2; omega
  | succ m ih =>
    intro t h1 h2
    obtain ⟨hN, hK, hW, hP, hL, hB, hS, hY, hU, hH, hG, hR, hLn, hL1, hL2, hLk, hBn, hB1, hB2⟩ := id hX
    have wN := w.1
    have hs' := hs
    unfold ShM9 at hs
    rw [f_X3_whyUnlawful_L41.eq_2]
    simp only [eb_cl_s, eb_b0, eb_b1, eb_jn_e, eb_tg, eb_ts, eb_d3, eb_gI, eb_gR, eb_pI, eb_pZ, eb_pR, eb_ai, eb_ac, eb_al, eb_ar, eb_wi, eb_wc, eb_wl, eb_wr, eb_ln, eb_xi, eb_zb, eb_sw, eb_lw, hs, hN, p_leN (show aN A < 2 ^ 31 by omega) (show t < 2 ^ 31 by omega)]
    by_cases h : aN A ≤ t
    · exact Or.inl ⟨fun b' h3 h4 => by omega, by simp [h]⟩
    · have ih' := ih (t + 1) (by omega) (by omega)
      obtain ⟨b, q1, q2⟩ := x_liesSoftly hs' hX w (show t < aN A by omega) ((MX9.bags hs' hX w).sub (show t + 1 ≤ aN A by omega)) hn
      rw [all_step (show t < aN A by omega), ← q2]
      cases b with
      | true =>
        rcases ih' with ⟨g1, g2⟩ | ⟨g1, g2⟩
        · exact Or.inl ⟨⟨rfl, g1⟩, by simp [h, q1, eb_cl_s, nI_1, g2]⟩
        · exact Or.inr ⟨fun z => g1 z.2, by simp [h, q1, eb_cl_s, nI_1, g2]⟩
      | false => exact Or.inr ⟨fun z => Bool.false_ne_true z.1, by simp [h, q1, eb_cl_s]⟩
/-- why a packing isn't lawful -/
def whyR (A : Nat → Nat → Nat) (p : Nat → Nat) (r : Int32) : Prop := (¬ holdP A p → r = 1) ∧ (holdP A p → ¬ lawP A p → r = 2) ∧ (holdP A p → lawP A p → ¬ softP A p → r = 3) ∧ (holdP A p → lawP A p → softP A p → r = 0)
theorem whyR.eq {A : Nat → Nat → Nat} {p : Nat → Nat} {r r' : Int32} (h : whyR A p r) (h' : whyR A p r') : r = r' := by
  by_cases h1 : holdP A p
  · by_cases h2 : lawP A p
    · by_cases h3 : softP A p
      · rw [h.2.2.2 h1 h2 h3, h'.2.2.2 h1 h2 h3]
      · rw [h.2.2.1 h1 h2 h3, h'.2.2.1 h1 h2 h3]
    · rw [h.2.1 h1 h2, h'.2.1 h1 h2]
  · rw [h.1 h1, h'.1 h1]
set_option maxHeartbeats 2000000 in
theorem x_why {A : Nat → Nat → Nat} {σ : eb_S} (hs : ShM9 σ) (hX : MX9 A σ) (w : wf A) {n : Nat} (hn : 100 ≤ n) : ∃ r, f_X3_whyUnlawful n 9 σ = some (r, σ) ∧ whyR A (aB A) r := by
  have hs' := hs
  have wN := w.1
  unfold ShM9 at hs
  unfold f_X3_whyUnlawful
  obtain ⟨b, h1, h2⟩ := x_bagsHold hs' hX w hn
  simp only [eb_cl_s, eb_b0, eb_b1, eb_jn_e, eb_tg, eb_ts, eb_d3, eb_gI, eb_gR, eb_pI, eb_pZ, eb_pR, eb_ai, eb_ac, eb_al, eb_ar, eb_wi, eb_wc, eb_wl, eb_wr, eb_ln, eb_xi, eb_zb, eb_sw, eb_lw, hs, if_true, h1]
  cases b with
  | false =>
    have hh : ¬ holdP A (aB A) := fun z => by have := h2.mpr z; cases this
    exact ⟨1, by simp, fun _ => rfl, fun z => absurd z hh, fun z => absurd z hh, fun z => absurd z hh⟩
  | true =>
    have hh := h2.mp rfl
    have e1 : (∀ u, 0 ≤ u → u < aN A → lawT A (aB A) u) ↔ lawP A (aB A) := ⟨fun h => (lawP_iff w _).mpr (fun t ht => h t (Nat.zero_le _) ht), fun h u _ hu => (lawP_iff w _).mp h u hu⟩
    have e2 : (∀ u, 0 ≤ u → u < aN A → softT A (aB A) u) ↔ softP A (aB A) := ⟨fun h => (softP_iff _).mpr (fun t ht => h t (Nat.zero_le _) ht), fun h u _ hu => (softP_iff _).mp h u hu⟩
    rcases x_why_L11 hs' hX w hn (K := fun s7 => f_X3_whyUnlawful_L41 n 9 n 0 s7) n 0 (by omega) (by omega) with ⟨g1, g2⟩ | ⟨g1, g2⟩
    · rw [nI_0] at g2
      rcases x_why_L41 hs' hX w hn n 0 (by omega) (by omega) with ⟨k1, k2⟩ | ⟨k1, k2⟩
      · rw [nI_0] at k2
        exact ⟨0, by simp [g2, k2], fun z => absurd hh z, fun _ z => absurd (e1.mp g1) z, fun _ _ z => absurd (e2.mp k1) z, fun _ _ _ => rfl⟩
      · rw [nI_0] at k2
        exact ⟨3, by simp [g2, k2], fun z => absurd hh z, fun _ z => absurd (e1.mp g1) z, fun _ _ _ => rfl, fun _ _ z => absurd (e2.mpr z) k1⟩
    · rw [nI_0] at g2
      exact ⟨2, by simp [g2], fun z => absurd hh z, fun _ _ => rfl, fun _ z => absurd (e1.mpr z) g1, fun _ z => absurd (e1.mpr z) g1⟩
