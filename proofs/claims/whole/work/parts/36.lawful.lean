/-! ===== pure: what is lawful ===== -/
theorem eb_zb_b {τ : Type} (b : Bool) (K : Bool → Option τ) : eb_zb (eb_b b) K = K b := by cases b <;> rfl
def lawQ (A : Nat → Nat → Nat) (p : Nat → Nat) (l : Nat) : Prop := p (aL1 A l) = p (aL2 A l) ↔ aLk A l = 1
def lawP (A : Nat → Nat → Nat) (p : Nat → Nat) : Prop := ∀ l, l < aLn A → lawQ A p l
def lawT (A : Nat → Nat → Nat) (p : Nat → Nat) (t : Nat) : Prop := ∀ l, l < aLn A → max (aL1 A l) (aL2 A l) = t → lawQ A p l
def softQ (A : Nat → Nat → Nat) (p : Nat → Nat) (a b : Nat) : Prop := aK A a = 2 → p a = p b → aW A b ≤ aW A a
def softP (A : Nat → Nat → Nat) (p : Nat → Nat) : Prop := ∀ a, a < aN A → ∀ b, b < aN A → softQ A p a b
def softT (A : Nat → Nat → Nat) (p : Nat → Nat) (t : Nat) : Prop := ∀ u, u < t → softQ A p u t ∧ softQ A p t u
def holdP (A : Nat → Nat → Nat) (p : Nat → Nat) : Prop := ∀ s, s < aS A → ∀ b, b < 3 → ldB A p b s (aN A) ≤ aH A b
theorem lawP_iff {A : Nat → Nat → Nat} (w : wf A) (p : Nat → Nat) : lawP A p ↔ ∀ t, t < aN A → lawT A p t := by
  constructor
  · intro h t _ l hl _; exact h l hl
  · intro h l hl
    have := w.2.2.2.2.2.2.2.1 l hl
    exact h (max (aL1 A l) (aL2 A l)) (by omega) l hl rfl
theorem softP_iff {A : Nat → Nat → Nat} (p : Nat → Nat) : softP A p ↔ ∀ t, t < aN A → softT A p t := by
  constructor
  · intro h t ht u hu; exact ⟨h u (by omega) t ht, h t ht u (by omega)⟩
  · intro h a ha b hb
    rcases Nat.lt_trichotomy a b with hab | hab | hab
    · exact (h b hb a hab).1
    · subst hab; intro _ _; exact Nat.le_refl _
    · exact (h a ha b hab).2
/-- a row of bags, up to n -/
theorem RW.at {p : Nat → Nat} {n r : Nat} {σ : eb_S} (h : RW p n r σ) {t : Nat} (ht : t < n) : eb_I σ r t = nI (p t) := (h.2.2 t ht).1
theorem RW.lt {p : Nat → Nat} {n r : Nat} {σ : eb_S} (h : RW p n r σ) {t : Nat} (ht : t < n) : p t < 3 := (h.2.2 t ht).2
set_option maxHeartbeats 2000000 in
theorem x_keepsLaws_L {A : Nat → Nat → Nat} {σ : eb_S} (hs : ShM9 σ) (hX : MX9 A σ) (w : wf A) {p : Nat → Nat} {r t n : Nat} (ht : t < aN A) (hr : RW p (t + 1) r σ) : ∀ (m l : Nat), l ≤ aLn A → aLn A < l + m → ∃ b, f_X3_keepsLaws_L2 n 9 r (nI t) m (nI l) σ = some (b, σ) ∧ (b = true ↔ ∀ l', l ≤ l' → l' < aLn A → max (aL1 A l') (aL2 A l') = t → lawQ A p l') := by
  intro m
  induction m with
  | zero => intro l h1 h2; omega
  | succ m ih =>
    intro l h1 h2
    obtain ⟨hN, hK, hW, hP, hL, hB, hS, hY, hU, hH, hG, hR, hLn, hL1, hL2, hLk, hBn, hB1, hB2⟩ := id hX
    obtain ⟨wN, wT, wS, wY, wB, wR, wLn, wL, wBn, wE⟩ := id w
    have hs' := hs
    unfold ShM9 at hs
    rw [f_X3_keepsLaws_L2.eq_2]
    simp only [eb_cl_s, eb_b0, eb_b1, eb_jn_e, eb_tg, eb_ts, eb_d3, eb_gI, eb_gR, eb_pI, eb_pZ, eb_pR, eb_ai, eb_ac, eb_al, eb_ar, eb_wi, eb_wc, eb_wl, eb_wr, eb_ln, eb_xi, eb_zb, eb_sw, eb_lw, hs, hLn, hr.1, hr.2.1, p_leN (show aLn A < 2 ^ 31 by omega) (show l < 2 ^ 31 by omega)]
    by_cases h : aLn A ≤ l
    · exact ⟨true, by simp [h], by simp; intro l' h3 h4; omega⟩
    · have wl := wL l (by omega)
      obtain ⟨b, ih1, ih2⟩ := ih (l + 1) (by omega) (by omega)
      have hin := p_in (show l < 8 by omega) (by decide : 8 < 2 ^ 31)
      have hcl := p_cl (show l < 2 ^ 31 by omega)
      have hmx := p_maxN (show aL1 A l < 2 ^ 31 by omega) (show aL2 A l < 2 ^ 31 by omega)
      have step : (∀ l', l ≤ l' → l' < aLn A → max (aL1 A l') (aL2 A l') = t → lawQ A p l') ↔ (max (aL1 A l) (aL2 A l) = t → lawQ A p l) ∧ ∀ l', l + 1 ≤ l' → l' < aLn A → max (aL1 A l') (aL2 A l') = t → lawQ A p l' := by
        constructor
        · intro hh; exact ⟨hh l (by omega) (by omega), fun l' h3 h4 => hh l' (by omega) h4⟩
        · intro hh l' h3 h4
          by_cases e : l' = l
          · subst e; exact hh.1
          · exact hh.2 l' (by omega) h4
      simp only [h, if_false, hin, hcl, hL1 l (by omega), hL2 l (by omega), hLk l (by omega), hmx, p_eqN (show max (aL1 A l) (aL2 A l) < 2 ^ 31 by omega) (show t < 2 ^ 31 by omega), nI_1]
      by_cases hm : max (aL1 A l) (aL2 A l) = t
      · have i1 := p_in (show aL1 A l < 10 by omega) (by decide : 10 < 2 ^ 31)
        have i2 := p_in (show aL2 A l < 10 by omega) (by decide : 10 < 2 ^ 31)
        have k1 := p_cl (show aL1 A l < 2 ^ 31 by omega)
        have k2 := p_cl (show aL2 A l < 2 ^ 31 by omega)
        have r1 := hr.at (show aL1 A l < t + 1 by omega)
        have r2 := hr.at (show aL2 A l < t + 1 by omega)
        have b1 := hr.lt (show aL1 A l < t + 1 by omega)
        have b2 := hr.lt (show aL2 A l < t + 1 by omega)
        have ek : (nI (aLk A l) = 0) = (aLk A l = 0) := p_eqN (a := aLk A l) (b := 0) (by omega) (by decide)
        have ep : (nI (p (aL1 A l)) = nI (p (aL2 A l))) = (p (aL1 A l) = p (aL2 A l)) := p_eqN (by omega) (by omega)
        by_cases q1 : p (aL1 A l) = p (aL2 A l) <;> by_cases q2 : aLk A l = 0
        · refine ⟨false, by simp [hm, i1, i2, k1, k2, r1, r2, ek, q1, q2, nI_0], ?_⟩
          simp only [Bool.false_eq_true, false_iff]
          intro hh
          have := (hh l (Nat.le_refl _) (by omega) hm).mp q1
          omega
        · refine ⟨b, by simp [hm, i1, i2, k1, k2, r1, r2, ek, q1, q2, ih1], ?_⟩
          rw [ih2, step]
          exact ⟨fun hh => ⟨fun _ => ⟨fun _ => by omega, fun _ => q1⟩, hh⟩, fun hh => hh.2⟩
        · refine ⟨b, by simp [hm, i1, i2, k1, k2, r1, r2, ek, ep, q1, q2, nI_0, ih1], ?_⟩
          rw [ih2, step]
          exact ⟨fun hh => ⟨fun _ => ⟨fun h9 => absurd h9 q1, fun h9 => by omega⟩, hh⟩, fun hh => hh.2⟩
        · refine ⟨false, by simp [hm, i1, i2, k1, k2, r1, r2, ek, ep, q1, q2], ?_⟩
          simp only [Bool.false_eq_true, false_iff]
          intro hh
          have := (hh l (Nat.le_refl _) (by omega) hm).mpr (by omega)
          exact q1 this
      · refine ⟨b, by simp [hm, ih1], ?_⟩
        rw [ih2, step]
        exact ⟨fun hh => ⟨fun h9 => absurd h9 hm, hh⟩, fun hh => hh.2⟩
theorem x_keepsLaws {A : Nat → Nat → Nat} {σ : eb_S} (hs : ShM9 σ) (hX : MX9 A σ) (w : wf A) {p : Nat → Nat} {r t n : Nat} (ht : t < aN A) (hr : RW p (t + 1) r σ) (hn : 100 ≤ n) : ∃ b, f_X3_keepsLaws n 9 r (nI t) σ = some (b, σ) ∧ (b = true ↔ lawT A p t) := by
  have := w.2.2.2.2.2.2.1
  obtain ⟨b, h1, h2⟩ := x_keepsLaws_L hs hX w ht hr (n := n) n 0 (by omega) (by omega)
  exact ⟨b, h1, h2.trans ⟨fun h l hl => h l (Nat.zero_le _) hl, fun h l _ hl => h l hl⟩⟩
set_option maxHeartbeats 2000000 in
theorem x_crushes {A : Nat → Nat → Nat} {σ : eb_S} (hs : ShM9 σ) (hX : MX9 A σ) (w : wf A) {a b : Nat} (ha : a < aN A) (hb : b < aN A) : ∃ c, f_X3_crushes 9 (nI a) (nI b) σ = some (c, σ) ∧ (c = false ↔ (aK A b = 2 → aW A a ≤ aW A b)) := by
  obtain ⟨hN, hK, hW, hP, hL, hB, hS, hY, hU, hH, hG, hR, hLn, hL1, hL2, hLk, hBn, hB1, hB2⟩ := id hX
  obtain ⟨wN, wT, wS, wY, wB, wR, wLn, wL, wBn, wE⟩ := id w
  have wa := wT a ha
  have wb := wT b hb
  unfold ShM9 at hs
  unfold f_X3_crushes
  have ek : (nI (aK A b) = 2) = (aK A b = 2) := p_eqN (a := aK A b) (b := 2) (by omega) (by decide)
  simp only [eb_cl_s, eb_b0, eb_b1, eb_jn_e, eb_tg, eb_ts, eb_d3, eb_gI, eb_gR, eb_pI, eb_pZ, eb_pR, eb_ai, eb_ac, eb_al, eb_ar, eb_wi, eb_wc, eb_wl, eb_wr, eb_ln, eb_xi, eb_zb, eb_sw, eb_lw, hs, p_in (show a < 10 by omega) (by decide : 10 < 2 ^ 31), p_in (show b < 10 by omega) (by decide : 10 < 2 ^ 31), p_cl (show a < 2 ^ 31 by omega), p_cl (show b < 2 ^ 31 by omega), hK b hb, hW a ha, hW b hb, ek, p_leN (show aW A a < 2 ^ 31 by omega) (show aW A b < 2 ^ 31 by omega)]
  by_cases h1 : aK A b = 2
  · by_cases h2 : aW A a ≤ aW A b
    · exact ⟨false, by simp [h1, h2], by simp [h1, h2]⟩
    · exact ⟨true, by simp [h1, h2], by simp [h1, h2]⟩
  · exact ⟨false, by simp [h1], by simp [h1]⟩
set_option maxHeartbeats 2000000 in
theorem x_liesSoftly_L {A : Nat → Nat → Nat} {σ : eb_S} (hs : ShM9 σ) (hX : MX9 A σ) (w : wf A) {p : Nat → Nat} {r t n : Nat} (ht : t < aN A) (hr : RW p (t + 1) r σ) : ∀ (m u : Nat), u ≤ t → t < u + m → ∃ b, f_X3_liesSoftly_L2 n 9 r (nI t) m (nI u) σ = some (b, σ) ∧ (b = true ↔ ∀ u', u ≤ u' → u' < t → softQ A p u' t ∧ softQ A p t u') := by
  intro m
  induction m with
  | zero => intro u h1 h2; omega
  | succ m ih =>
    intro u h1 h2
    have wN := w.1
    have hs' := hs
    unfold ShM9 at hs
    rw [f_X3_liesSoftly_L2.eq_2]
    simp only [eb_cl_s, eb_b0, eb_b1, eb_jn_e, eb_tg, eb_ts, eb_d3, eb_gI, eb_gR, eb_pI, eb_pZ, eb_pR, eb_ai, eb_ac, eb_al, eb_ar, eb_wi, eb_wc, eb_wl, eb_wr, eb_ln, eb_xi, eb_zb, eb_sw, eb_lw, hs, hr.1, hr.2.1, p_leN (show t < 2 ^ 31 by omega) (show u < 2 ^ 31 by omega)]
    by_cases h : t ≤ u
    · exact ⟨true, by simp [h], by simp; intro u' h3 h4; omega⟩
    · obtain ⟨b, ih1, ih2⟩ := ih (u + 1) (by omega) (by omega)
      obtain ⟨c, hc1, hc2⟩ := x_crushes hs' hX w (show u < aN A by omega) ht
      obtain ⟨c', hc1', hc2'⟩ := x_crushes hs' hX w ht (show u < aN A by omega)
      have step : (∀ u', u ≤ u' → u' < t → softQ A p u' t ∧ softQ A p t u') ↔ (softQ A p u t ∧ softQ A p t u) ∧ ∀ u', u + 1 ≤ u' → u' < t → softQ A p u' t ∧ softQ A p t u' := by
        constructor
        · intro hh; exact ⟨hh u (by omega) (by omega), fun l' h3 h4 => hh l' (by omega) h4⟩
        · intro hh l' h3 h4
          by_cases e : l' = u
          · subst e; exact hh.1
          · exact hh.2 l' (by omega) h4
      have b1 := hr.lt (show u < t + 1 by omega)
      have b2 := hr.lt (show t < t + 1 by omega)
      have ep : (nI (p u) = nI (p t)) = (p u = p t) := p_eqN (by omega) (by omega)
      simp only [h, if_false, p_in (show u < 10 by omega) (by decide : 10 < 2 ^ 31), p_in (show t < 10 by omega) (by decide : 10 < 2 ^ 31), p_cl (show t < 2 ^ 31 by omega), p_cl (show u < 2 ^ 31 by omega), hr.at (show u < t + 1 by omega), hr.at (show t < t + 1 by omega), ep, nI_1, hc1]
      by_cases hp : p u = p t
      · cases c with
        | true =>
          refine ⟨false, by simp [hp, eb_cl_s], ?_⟩
          simp only [Bool.false_eq_true, false_iff]
          intro hh
          have := hc2.mpr (fun k => (hh u (Nat.le_refl _) (by omega)).2 k hp.symm)
          cases this
        | false =>
          cases c' with
          | true =>
            refine ⟨false, by simp [hp, eb_cl_s, hs, hc1'], ?_⟩
            simp only [Bool.false_eq_true, false_iff]
            intro hh
            have := hc2'.mpr (fun k => (hh u (Nat.le_refl _) (by omega)).1 k hp)
            cases this
          | false =>
            refine ⟨b, by simp [hp, eb_cl_s, hs, hc1', ih1], ?_⟩
            rw [ih2, step]
            exact ⟨fun hh => ⟨⟨fun k _ => hc2'.mp rfl k, fun k _ => hc2.mp rfl k⟩, hh⟩, fun hh => hh.2⟩
      · refine ⟨b, by simp [hp, ih1], ?_⟩
        rw [ih2, step]
        exact ⟨fun hh => ⟨⟨fun _ h9 => absurd h9 hp, fun _ h9 => absurd h9.symm hp⟩, hh⟩, fun hh => hh.2⟩
theorem x_liesSoftly {A : Nat → Nat → Nat} {σ : eb_S} (hs : ShM9 σ) (hX : MX9 A σ) (w : wf A) {p : Nat → Nat} {r t n : Nat} (ht : t < aN A) (hr : RW p (t + 1) r σ) (hn : 100 ≤ n) : ∃ b, f_X3_liesSoftly n 9 r (nI t) σ = some (b, σ) ∧ (b = true ↔ softT A p t) := by
  have := w.1
  obtain ⟨b, h1, h2⟩ := x_liesSoftly_L hs hX w ht hr (n := n) n 0 (by omega) (by omega)
  exact ⟨b, h1, h2.trans ⟨fun h l hl => h l (Nat.zero_le _) hl, fun h l _ hl => h l hl⟩⟩
