/-! ===== pure: the model's tests of a row ===== -/
set_option maxHeartbeats 2000000 in
theorem d_doHold_L12 {A : Nat → Nat → Nat} {σ : eb_S} (hs : ShD σ) (hX : MD A σ) (w : wf A) {p : Nat → Nat} {r : Nat} (hr : RW p (aN A) r σ) {b n : Nat} (hb : b < 3) (hn : 100 ≤ n) {K : Int32 → eb_S → Option (Bool × eb_S)} : ∀ (m s : Nat) (is : Bool), s ≤ aS A → aS A < s + m → ∃ is', f_X10_doHold_L12 n 91 r (nI b) K m (eb_b is) (nI s) σ = K (eb_b is') σ ∧ (is' = true ↔ is = true ∧ ∀ s', s ≤ s' → s' < aS A → ldB A p b s' (aN A) ≤ aH A b) := by
  intro m
  induction m with
  | zero => intro s is h1 h2; omega
  | succ m ih =>
    intro s is h1 h2
    obtain ⟨hN, hK, hW, hP, hL, hB, hS, hY, hU, hH, hG, hR, hLn, hL1, hL2, hLk, hBn, hB1, hB2⟩ := id hX
    obtain ⟨wN, wT, wS, wY, wB, wR, wLn, wL, wBn, wE⟩ := id w
    have hs' := hs
    unfold ShD at hs
    rw [f_X10_doHold_L12.eq_2]
    simp only [eb_cl_s, eb_b0, eb_b1, eb_jn_e, eb_tg, eb_ts, eb_d3, eb_gI, eb_gR, eb_pI, eb_pZ, eb_pR, eb_ai, eb_ac, eb_al, eb_ar, eb_wi, eb_wc, eb_wl, eb_wr, eb_ln, eb_xi, eb_zb, eb_sw, eb_lw, hs, hS, p_leN (show aS A < 2 ^ 31 by omega) (show s < 2 ^ 31 by omega)]
    by_cases h : aS A ≤ s
    · exact ⟨is, by simp [h], by rw [all_end h]; simp⟩
    · rw [all_step (show s < aS A by omega)]
      have wb := wB b hb
      have hl := ldB_le w p b s (aN A) (Nat.le_refl _)
      obtain ⟨i0, a1, a2⟩ := ih (s + 1) false (by omega) (by omega)
      obtain ⟨i1, b1, b2⟩ := ih (s + 1) true (by omega) (by omega)
      rw [show eb_b false = 0 from rfl] at a1
      rw [show eb_b true = 1 from rfl] at b1
      simp only [h, if_false, nI_1]
      cases is with
      | false => exact ⟨i0, by simp [a1], by rw [a2]; simp⟩
      | true =>
        simp only [d_loads hs' hX w hr hb (show s < 5 by omega) hn, eb_cl_s, hs, p_in (show b < 3 by omega) (by decide : 3 < 2 ^ 31), p_cl (show b < 2 ^ 31 by omega), hH b hb, p_ltN (show aH A b < 2 ^ 31 by omega) (show ldB A p b s (aN A) < 2 ^ 31 by omega)]
        by_cases hc : aH A b < ldB A p b s (aN A)
        · exact ⟨i0, by simp [hc, a1, eb_cl_s, hs, p_in (show b < 3 by omega) (by decide : 3 < 2 ^ 31), p_cl (show b < 2 ^ 31 by omega), hH b hb, p_ltN (show aH A b < 2 ^ 31 by omega) (show ldB A p b s (aN A) < 2 ^ 31 by omega)], by rw [a2]; simp; intro z; omega⟩
        · exact ⟨i1, by simp [hc, b1, eb_cl_s, hs, p_in (show b < 3 by omega) (by decide : 3 < 2 ^ 31), p_cl (show b < 2 ^ 31 by omega), hH b hb, p_ltN (show aH A b < 2 ^ 31 by omega) (show ldB A p b s (aN A) < 2 ^ 31 by omega)], by rw [b2]; simp; intro z; omega⟩
set_option maxHeartbeats 2000000 in
theorem d_doHold_L4 {A : Nat → Nat → Nat} {σ : eb_S} (hs : ShD σ) (hX : MD A σ) (w : wf A) {p : Nat → Nat} {r : Nat} (hr : RW p (aN A) r σ) {n : Nat} (hn : 100 ≤ n) : ∀ (m b : Nat) (is : Bool), b ≤ 3 → 3 < b + m → ∃ is', f_X10_doHold_L4 n 91 r m (eb_b is) (nI b) σ = some (is', σ) ∧ (is' = true ↔ is = true ∧ ∀ b', b ≤ b' → b' < 3 → ∀ s', 0 ≤ s' → s' < aS A → ldB A p b' s' (aN A) ≤ aH A b') := by
  intro m
  induction m with
  | zero => intro s is h1 h2; omega
  | succ m ih =>
    intro b is h1 h2
    have wS := w.2.2.1
    rw [f_X10_doHold_L4.eq_2]
    have e3 : ((3 : Int32) ≤ nI b) = (3 ≤ b) := p_leN (a := 3) (b := b) (by decide) (by omega)
    simp only [e3, eb_zb_b]
    by_cases h : 3 ≤ b
    · exact ⟨is, by simp [h], by rw [all_end h]; simp⟩
    · rw [all_step (show b < 3 by omega)]
      obtain ⟨i1, g1, g2⟩ := d_doHold_L12 hs hX w hr (show b < 3 by omega) hn (K := fun w11 s12 => f_X10_doHold_L4 n 91 r m w11 (nI b + 1) s12) n 0 is (by omega) (by omega)
      obtain ⟨i2, k1, k2⟩ := ih (b + 1) i1 (by omega) (by omega)
      rw [nI_0] at g1
      refine ⟨i2, by simp only [h, if_false]; rw [g1, nI_1, k1], ?_⟩
      rw [k2, g2, and_assoc]
theorem d_doHold {A : Nat → Nat → Nat} {σ : eb_S} (hs : ShD σ) (hX : MD A σ) (w : wf A) {p : Nat → Nat} {r : Nat} (hr : RW p (aN A) r σ) {n : Nat} (hn : 100 ≤ n) : ∃ b, f_X10_doHold n 91 r σ = some (b, σ) ∧ (b = true ↔ holdP A p) := by
  obtain ⟨b, h1, h2⟩ := d_doHold_L4 hs hX w hr hn n 0 true (by omega) (by omega)
  refine ⟨b, h1, h2.trans ⟨fun h s hs' b hb => h.2 b (Nat.zero_le _) hb s (Nat.zero_le _) hs', fun h => ⟨rfl, fun b _ hb s _ hs' => h s hs' b hb⟩⟩⟩
set_option maxHeartbeats 2000000 in
theorem d_areLaws_L {A : Nat → Nat → Nat} {σ : eb_S} (hs : ShD σ) (hX : MD A σ) (w : wf A) {p : Nat → Nat} {r : Nat} (hr : RW p (aN A) r σ) {n : Nat} : ∀ (m l : Nat) (is : Bool), l ≤ aLn A → aLn A < l + m → ∃ is', f_X10_areLaws_L4 n 91 r m (eb_b is) (nI l) σ = some (is', σ) ∧ (is' = true ↔ is = true ∧ ∀ l', l ≤ l' → l' < aLn A → lawQ A p l') := by
  intro m
  induction m with
  | zero => intro s is h1 h2; omega
  | succ m ih =>
    intro l is h1 h2
    obtain ⟨hN, hK, hW, hP, hL, hB, hS, hY, hU, hH, hG, hR, hLn, hL1, hL2, hLk, hBn, hB1, hB2⟩ := id hX
    obtain ⟨wN, wT, wS, wY, wB, wR, wLn, wL, wBn, wE⟩ := id w
    have hs' := hs
    unfold ShD at hs
    rw [f_X10_areLaws_L4.eq_2]
    simp only [eb_cl_s, eb_b0, eb_b1, eb_jn_e, eb_tg, eb_ts, eb_d3, eb_gI, eb_gR, eb_pI, eb_pZ, eb_pR, eb_ai, eb_ac, eb_al, eb_ar, eb_wi, eb_wc, eb_wl, eb_wr, eb_ln, eb_xi, eb_zb, eb_sw, eb_lw, hs, hLn, hr.1, hr.2.1, p_leN (show aLn A < 2 ^ 31 by omega) (show l < 2 ^ 31 by omega)]
    by_cases h : aLn A ≤ l
    · exact ⟨is, by have := eb_zb_b is (fun b => some (b, σ)); unfold eb_zb at this; simp [h] at this ⊢; simpa [eb_b0, eb_b1] using this, by rw [all_end h]; simp⟩
    · rw [all_step (show l < aLn A by omega)]
      have wl := wL l (by omega)
      obtain ⟨i0, a1, a2⟩ := ih (l + 1) false (by omega) (by omega)
      obtain ⟨i1, b1, b2⟩ := ih (l + 1) true (by omega) (by omega)
      rw [show eb_b false = 0 from rfl] at a1
      rw [show eb_b true = 1 from rfl] at b1
      simp only [h, if_false, nI_1]
      cases is with
      | false => exact ⟨i0, by simp [a1], by rw [a2]; simp⟩
      | true =>
        have u1 := hr.lt wl.1
        have u2 := hr.lt wl.2.1
        have ek : (nI (aLk A l) = 1) = (aLk A l = 1) := p_eqN (a := aLk A l) (b := 1) (by omega) (by decide)
        have ep : (nI (p (aL1 A l)) = nI (p (aL2 A l))) = (p (aL1 A l) = p (aL2 A l)) := p_eqN (by omega) (by omega)
        simp only [p_in (show l < 8 by omega) (by decide : 8 < 2 ^ 31), p_cl (show l < 2 ^ 31 by omega), hL1 l (by omega), hL2 l (by omega), hLk l (by omega), p_in (show aL1 A l < 10 by omega) (by decide : 10 < 2 ^ 31), p_in (show aL2 A l < 10 by omega) (by decide : 10 < 2 ^ 31), p_cl (show aL1 A l < 2 ^ 31 by omega), p_cl (show aL2 A l < 2 ^ 31 by omega), hr.at wl.1, hr.at wl.2.1, ek, ep]
        by_cases q1 : p (aL1 A l) = p (aL2 A l) <;> by_cases q2 : aLk A l = 1
        · have hq : lawQ A p l := ⟨fun _ => q2, fun _ => q1⟩
          exact ⟨i1, by simp [q1, q2, b1], by rw [b2]; simp [hq]⟩
        · have hq : ¬ lawQ A p l := fun z => q2 (z.mp q1)
          exact ⟨i0, by simp [q1, q2, a1], by rw [a2]; simp [hq]⟩
        · have hq : ¬ lawQ A p l := fun z => q1 (z.mpr q2)
          exact ⟨i0, by simp [q1, q2, a1], by rw [a2]; simp [hq]⟩
        · have hq : lawQ A p l := ⟨fun z => absurd z q1, fun z => absurd z q2⟩
          exact ⟨i1, by simp [q1, q2, b1], by rw [b2]; simp [hq]⟩
theorem d_areLaws {A : Nat → Nat → Nat} {σ : eb_S} (hs : ShD σ) (hX : MD A σ) (w : wf A) {p : Nat → Nat} {r : Nat} (hr : RW p (aN A) r σ) {n : Nat} (hn : 100 ≤ n) : ∃ b, f_X10_areLaws n 91 r σ = some (b, σ) ∧ (b = true ↔ lawP A p) := by
  have := w.2.2.2.2.2.2.1
  obtain ⟨b, h1, h2⟩ := d_areLaws_L hs hX w hr (n := n) n 0 true (by omega) (by omega)
  exact ⟨b, h1, h2.trans ⟨fun h l hl => h.2 l (Nat.zero_le _) hl, fun h => ⟨rfl, fun l _ hl => h l hl⟩⟩⟩
set_option maxHeartbeats 2000000 in
theorem d_areSoft_L15 {A : Nat → Nat → Nat} {σ : eb_S} (hs : ShD σ) (hX : MD A σ) (w : wf A) {p : Nat → Nat} {r : Nat} (hr : RW p (aN A) r σ) {a n : Nat} (ha : a < aN A) {K : Int32 → eb_S → Option (Bool × eb_S)} : ∀ (m b : Nat) (is : Bool), b ≤ aN A → aN A < b + m → ∃ is', f_X10_areSoft_L15 n 91 r (nI a) K m (eb_b is) (nI b) σ = K (eb_b is') σ ∧ (is' = true ↔ is = true ∧ ∀ b', b ≤ b' → b' < aN A → softQ A p a b') := by
  intro m
  induction m with
  | zero => intro s is h1 h2; omega
  | succ m ih =>
    intro b is h1 h2
    obtain ⟨hN, hK, hW, hP, hL, hB, hS, hY, hU, hH, hG, hR, hLn, hL1, hL2, hLk, hBn, hB1, hB2⟩ := id hX
    obtain ⟨wN, wT, wS, wY, wB, wR, wLn, wL, wBn, wE⟩ := id w
    have wa := wT a ha
    have hs' := hs
    unfold ShD at hs
    rw [f_X10_areSoft_L15.eq_2]
    have ek : (nI (aK A a) = 2) = (aK A a = 2) := p_eqN (a := aK A a) (b := 2) (by omega) (by decide)
    simp only [eb_cl_s, eb_b0, eb_b1, eb_jn_e, eb_tg, eb_ts, eb_d3, eb_gI, eb_gR, eb_pI, eb_pZ, eb_pR, eb_ai, eb_ac, eb_al, eb_ar, eb_wi, eb_wc, eb_wl, eb_wr, eb_ln, eb_xi, eb_zb, eb_sw, eb_lw, hs, hN, hr.1, hr.2.1, p_leN (show aN A < 2 ^ 31 by omega) (show b < 2 ^ 31 by omega), p_in (show a < 10 by omega) (by decide : 10 < 2 ^ 31), p_cl (show a < 2 ^ 31 by omega), hK a ha, ek]
    by_cases h : aN A ≤ b
    · exact ⟨is, by simp [h], by rw [all_end h]; simp⟩
    · by_cases hk : aK A a = 2
      · rw [all_step (show b < aN A by omega)]
        have wb := wT b (by omega)
        obtain ⟨i0, a1, a2⟩ := ih (b + 1) false (by omega) (by omega)
        obtain ⟨i1, b1, b2⟩ := ih (b + 1) true (by omega) (by omega)
        rw [show eb_b false = 0 from rfl] at a1
        rw [show eb_b true = 1 from rfl] at b1
        simp only [h, hk, if_false, if_true, nI_1]
        cases is with
        | false => exact ⟨i0, by simp [a1], by rw [a2]; simp⟩
        | true =>
          have u1 := hr.lt ha
          have u2 := hr.lt (show b < aN A by omega)
          have ep : (nI (p a) = nI (p b)) = (p a = p b) := p_eqN (by omega) (by omega)
          simp only [p_in (show b < 10 by omega) (by decide : 10 < 2 ^ 31), p_cl (show b < 2 ^ 31 by omega), hr.at ha, hr.at (show b < aN A by omega), ep, hW a ha, hW b (by omega), p_ltN (show aW A a < 2 ^ 31 by omega) (show aW A b < 2 ^ 31 by omega)]
          by_cases q1 : p a = p b
          · by_cases q2 : aW A a < aW A b
            · have hq : ¬ softQ A p a b := fun z => by have := z hk q1; omega
              exact ⟨i0, by simp [q1, q2, a1], by rw [a2]; simp [hq]⟩
            · have hq : softQ A p a b := fun _ _ => by omega
              exact ⟨i1, by simp [q1, q2, b1], by rw [b2]; simp [hq]⟩
          · have hq : softQ A p a b := fun _ z => absurd z q1
            exact ⟨i1, by simp [q1, b1], by rw [b2]; simp [hq]⟩
      · refine ⟨is, by simp [h, hk], ?_⟩
        constructor
        · intro z; exact ⟨z, fun b' _ _ k => absurd k hk⟩
        · intro z; exact z.1
set_option maxHeartbeats 2000000 in
theorem d_areSoft_L4 {A : Nat → Nat → Nat} {σ : eb_S} (hs : ShD σ) (hX : MD A σ) (w : wf A) {p : Nat → Nat} {r : Nat} (hr : RW p (aN A) r σ) {n : Nat} (hn : 100 ≤ n) : ∀ (m a : Nat) (is : Bool), a ≤ aN A → aN A < a + m → ∃ is', f_X10_areSoft_L4 n 91 r m (eb_b is) (nI a) σ = some (is', σ) ∧ (is' = true ↔ is = true ∧ ∀ a', a ≤ a' → a' < aN A → ∀ b, 0 ≤ b → b < aN A → softQ A p a' b) := by
  intro m
  induction m with
  | zero => intro s is h1 h2; omega
  | succ m ih =>
    intro a is h1 h2
    obtain ⟨hN, hK, hW, hP, hL, hB, hS, hY, hU, hH, hG, hR, hLn, hL1, hL2, hLk, hBn, hB1, hB2⟩ := id hX
    have wN := w.1
    have hs' := hs
    unfold ShD at hs
    rw [f_X10_areSoft_L4.eq_2]
    simp only [eb_gI, hs, hN, eb_zb_b, p_leN (show aN A < 2 ^ 31 by omega) (show a < 2 ^ 31 by omega)]
    by_cases h : aN A ≤ a
    · exact ⟨is, by simp [h], by rw [all_end h]; simp⟩
    · rw [all_step (show a < aN A by omega)]
      obtain ⟨i1, g1, g2⟩ := d_areSoft_L15 hs' hX w hr (show a < aN A by omega) (n := n) (K := fun w18 s19 => f_X10_areSoft_L4 n 91 r m w18 (nI a + 1) s19) n 0 is (by omega) (by omega)
      obtain ⟨i2, k1, k2⟩ := ih (a + 1) i1 (by omega) (by omega)
      rw [nI_0] at g1
      refine ⟨i2, by simp only [h, if_false, List.mem_singleton, if_true]; rw [g1, nI_1, k1], ?_⟩
      rw [k2, g2, and_assoc]
theorem d_areSoft {A : Nat → Nat → Nat} {σ : eb_S} (hs : ShD σ) (hX : MD A σ) (w : wf A) {p : Nat → Nat} {r : Nat} (hr : RW p (aN A) r σ) {n : Nat} (hn : 100 ≤ n) : ∃ b, f_X10_areSoft n 91 r σ = some (b, σ) ∧ (b = true ↔ softP A p) := by
  have := w.1
  obtain ⟨b, h1, h2⟩ := d_areSoft_L4 hs hX w hr hn n 0 true (by omega) (by omega)
  exact ⟨b, h1, h2.trans ⟨fun h a ha b hb => h.2 a (Nat.zero_le _) ha b (Nat.zero_le _) hb, fun h => ⟨rfl, fun a _ ha b _ hb => h a ha b hb⟩⟩⟩
theorem d_whyNot {A : Nat → Nat → Nat} {σ : eb_S} (hs : ShD σ) (hX : MD A σ) (w : wf A) {p : Nat → Nat} {r : Nat} (hr : RW p (aN A) r σ) {n : Nat} (hn : 100 ≤ n) : ∃ v, f_X10_whyNot n 91 r σ = some (v, σ) ∧ whyR A p v := by
  obtain ⟨b1, h1, g1⟩ := d_doHold hs hX w hr hn
  obtain ⟨b2, h2, g2⟩ := d_areLaws hs hX w hr hn
  obtain ⟨b3, h3, g3⟩ := d_areSoft hs hX w hr hn
  unfold ShD at hs
  unfold f_X10_whyNot
  simp only [eb_cl_s, eb_b0, eb_b1, eb_jn_e, eb_tg, eb_ts, eb_d3, eb_gI, eb_gR, eb_pI, eb_pZ, eb_pR, eb_ai, eb_ac, eb_al, eb_ar, eb_wi, eb_wc, eb_wl, eb_wr, eb_ln, eb_xi, eb_zb, eb_sw, eb_lw, hs, if_true, h1, h2, h3]
  unfold whyR
  rw [← g1, ← g2, ← g3]
  cases b1 <;> cases b2 <;> cases b3 <;> exact ⟨_, by simp; rfl, by simp⟩
def lawfulP (A : Nat → Nat → Nat) (p : Nat → Nat) : Prop := lawP A p ∧ softP A p ∧ holdP A p
theorem d_isLawful {A : Nat → Nat → Nat} {σ : eb_S} (hs : ShD σ) (hX : MD A σ) (w : wf A) {p : Nat → Nat} {r : Nat} (hr : RW p (aN A) r σ) {n : Nat} (hn : 100 ≤ n) : ∃ b, f_X10_isLawful n 91 r σ = some (b, σ) ∧ (b = true ↔ lawfulP A p) := by
  obtain ⟨b1, h1, g1⟩ := d_doHold hs hX w hr hn
  obtain ⟨b2, h2, g2⟩ := d_areLaws hs hX w hr hn
  obtain ⟨b3, h3, g3⟩ := d_areSoft hs hX w hr hn
  unfold ShD at hs
  unfold f_X10_isLawful lawfulP
  simp only [eb_cl_s, eb_b0, eb_b1, eb_jn_e, eb_tg, eb_ts, eb_d3, eb_gI, eb_gR, eb_pI, eb_pZ, eb_pR, eb_ai, eb_ac, eb_al, eb_ar, eb_wi, eb_wc, eb_wl, eb_wr, eb_ln, eb_xi, eb_zb, eb_sw, eb_lw, hs, if_true, h1, h2, h3]
  rw [← g1, ← g2, ← g3]
  cases b1 <;> cases b2 <;> cases b3 <;> exact ⟨_, by simp; rfl, by simp⟩
theorem eq_lawful {A : Nat → Nat → Nat} {σ : eb_S} (hb : ShB σ) (hs : ShM9 σ) (hX : MX9 A σ) (w : wf A) (hd : ShD σ) (hD : MD A σ) {n : Nat} (hn : 100 ≤ n) : ∃ r, f_X9_lawful n 8 σ = some (r, σ) ∧ f_X10_lawful n 91 σ = some (r, σ) := by
  obtain ⟨r1, h1, g1⟩ := x_why hs hX w hn
  obtain ⟨r2, h2, g2⟩ := d_whyNot hd hD w (MD.bags hd hD w) hn
  cases g1.eq g2
  unfold ShB at hb
  unfold ShM9 at hs
  unfold ShD at hd
  unfold f_X9_lawful f_X10_lawful
  exact ⟨r1, by simp [eb_cl_s, eb_b0, eb_b1, eb_jn_e, eb_tg, eb_ts, eb_d3, eb_gI, eb_gR, eb_pI, eb_pZ, eb_pR, eb_ai, eb_ac, eb_al, eb_ar, eb_wi, eb_wc, eb_wl, eb_wr, eb_ln, eb_xi, eb_zb, eb_sw, eb_lw, hb, hs, h1], by simp [eb_cl_s, eb_b0, eb_b1, eb_jn_e, eb_tg, eb_ts, eb_d3, eb_gI, eb_gR, eb_pI, eb_pZ, eb_pR, eb_ai, eb_ac, eb_al, eb_ar, eb_wi, eb_wc, eb_wl, eb_wr, eb_ln, eb_xi, eb_zb, eb_sw, eb_lw, hd, h2]⟩
