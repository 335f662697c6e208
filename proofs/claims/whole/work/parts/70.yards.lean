/-! ===== pure: yards, hands, paper ===== -/
def yds (A : Nat → Nat → Nat) (rt : Nat → Nat) : Nat → Nat → Nat → Option (Nat × Nat)
  | 0, _, _ => none
  | d + 1, s, mis => if mis ≤ rt s * aY A s then some (wy A s * rt s + mis, rt s) else yds A rt d (s + 1) (mis - rt s * aY A s)
def yva (v : Int32) (o : Option (Nat × Nat)) (z : Int32) : Int32 := match o with
  | none => z
  | some q => fr q.1 q.2 v
def tot (A : Nat → Nat → Nat) (rt : Nat → Nat) : Nat → Nat → Nat
  | 0, _ => 0
  | d + 1, s => rt s * aY A s + tot A rt d (s + 1)
theorem yds_some {A : Nat → Nat → Nat} {rt : Nat → Nat} : ∀ (d s mis : Nat), 1 ≤ mis → mis ≤ tot A rt d s → yds A rt d s mis ≠ none
  | 0, s, mis, h1, h2 => by
    have : tot A rt 0 s = 0 := rfl
    omega
  | d + 1, s, mis, h1, h2 => by
    have e : tot A rt (d + 1) s = rt s * aY A s + tot A rt d (s + 1) := rfl
    unfold yds
    by_cases h : mis ≤ rt s * aY A s
    · rw [if_pos h]; exact fun z => by cases z
    · rw [if_neg h]
      exact yds_some d (s + 1) _ (by omega) (by omega)
set_option maxHeartbeats 4000000 in
theorem x_yard_L {A : Nat → Nat → Nat} {σ : eb_S} (hb : ShB σ) (hs : ShM9 σ) (hX : MX9 A σ) (w : wf A) {rt : Nat → Nat} (hrt : ∀ s, s < aS A → eb_I σ 90 s = nI (rt s) ∧ rt s ≤ 40000) {n : Nat} {v : Int32} {K : Int32 → Int32 → Int32 → eb_S → Option (Int32 × eb_S)} (hK : ∀ mis s, s < aS A → 1 ≤ mis → mis ≤ rt s * aY A s → K (nI mis) (nI (wy A s)) (nI s) σ = some (fr (wy A s * rt s + mis) (rt s) v, σ)) : ∀ (d m s mis : Nat), s + d = aS A → d < m → 1 ≤ mis → mis ≤ 10000000 → f_X9_yardOf_L8 n 8 v K m (nI mis) (nI (wy A s)) (nI s) σ = some (yva v (yds A rt d s mis) (-4), σ) := by
  intro d
  have wS := w.2.2.1
  have xS := hX.2.2.2.2.2.2.1
  have hbu := hb
  have hsu := hs
  unfold ShB at hbu
  unfold ShM9 at hsu
  induction d with
  | zero =>
    intro m s mis h1 h2 h3 h4
    obtain ⟨m, rfl⟩ : ∃ m', m = m' + 1 := ⟨m - 1, by omega⟩
    have e : s = aS A := by omega
    subst e
    rw [f_X9_yardOf_L8.eq_2]
    have le : nI (aS A) ≤ nI (aS A) := by rw [p_leN (by omega) (by omega)]; exact Nat.le_refl _
    simp [eb_gR, eb_gI, hbu, hsu, xS, le, yds, yva]
  | succ d ih =>
    intro m s mis h1 h2 h3 h4
    obtain ⟨m, rfl⟩ : ∃ m', m = m' + 1 := ⟨m - 1, by omega⟩
    have hs5 : s < aS A := by omega
    have r1 := hrt s hs5
    have wy1 := w.2.2.2.1 s hs5
    have xY := hX.2.2.2.2.2.2.2.1 s hs5
    have hm : rt s * aY A s ≤ 40000 * 99 := Nat.mul_le_mul r1.2 (by omega)
    rw [f_X9_yardOf_L8.eq_2]
    have nle : ¬ nI (aS A) ≤ nI s := by rw [p_leN (by omega) (by omega)]; omega
    have sin : eb_in (nI s) 5 = true := p_in (by omega) (by decide)
    have scl : (nI s).toNatClampNeg = s := p_cl (by omega)
    have cmp : (nI (rt s * aY A s) < nI mis) = (rt s * aY A s < mis) := p_ltN (by omega) (by omega)
    unfold yds
    by_cases h : mis ≤ rt s * aY A s
    · have hk := hK mis s hs5 h3 h
      rw [if_pos h]
      simp only [eb_gR, eb_gI, eb_ai, hbu, hsu, xS, nle, sin, scl, r1.1, xY, pk_mul, cmp, List.mem_singleton, if_true, if_false, true_and, and_true, ne_eq, show ¬ (9 : Nat) = 0 by decide, show ¬ (90 : Nat) = 0 by decide, show ¬ (15 : Nat) = 0 by decide, not_false_eq_true, show ¬ rt s * aY A s < mis by omega]
      exact hk
    · rw [if_neg h]
      have ih' := ih m (s + 1) (mis - rt s * aY A s) (by omega) (by omega) (by omega) (by omega)
      simp only [eb_gR, eb_gI, eb_ai, hbu, hsu, xS, nle, sin, scl, r1.1, xY, pk_mul, cmp, List.mem_singleton, if_true, if_false, true_and, and_true, ne_eq, show ¬ (9 : Nat) = 0 by decide, show ¬ (90 : Nat) = 0 by decide, show ¬ (15 : Nat) = 0 by decide, not_false_eq_true, show rt s * aY A s < mis by omega, nI_add, nI_1, pk_sub (show rt s * aY A s ≤ mis by omega)]
      exact ih'
theorem x_yard {A : Nat → Nat → Nat} {σ : eb_S} (hb : ShB σ) (hs : ShM9 σ) (hX : MX9 A σ) (w : wf A) {rt : Nat → Nat} (hrt : ∀ s, s < aS A → eb_I σ 90 s = nI (rt s) ∧ rt s ≤ 40000) {n mis : Nat} {v : Int32} (hn : 100 ≤ n) (h1 : 1 ≤ mis) (h2 : mis ≤ 10000000) : f_X9_yardOf n 8 (nI mis) v σ = some (yva v (yds A rt (aS A) 0 mis) (-4), σ) := by
  have wS := w.2.2.1
  unfold f_X9_yardOf
  refine x_yard_L hb hs hX w hrt (fun mis s hs5 h3 h4 => ?_) (aS A) n 0 mis (by omega) (by omega) h1 h2
  have r1 := hrt s hs5
  have wy1 := w.2.2.2.1 s hs5
  have wy2 := wy_le w s (by omega)
  have hm : rt s * aY A s ≤ 40000 * 99 := Nat.mul_le_mul r1.2 (by omega)
  have hm2 : wy A s * rt s ≤ 500 * 40000 := Nat.mul_le_mul (by omega) r1.2
  have hp : 0 < rt s := by
    rcases Nat.eq_zero_or_pos (rt s) with z | z
    · rw [z, Nat.zero_mul] at h4; omega
    · exact z
  have l1 := x_low (u := wy A s * rt s + mis) (l := rt s) (n := n) (by omega) hp (by omega) hn v σ
  unfold ShB at hb
  simp [eb_gR, eb_ai, hb, p_in (show s < 5 by omega) (by decide : 5 < 2 ^ 31), p_cl (show s < 2 ^ 31 by omega), r1.1, pk_mul, nI_add, l1, eb_cl_s]
-- hands
def ldh (A : Nat → Nat → Nat) (b s : Nat) : Nat := ldB A (aB A) b s (aN A) * (1 + aU A s)
def rth (A : Nat → Nat → Nat) (b s : Nat) : Nat := ldh A b s * (aR A 0 + aR A 1)
def brn (A : Nat → Nat → Nat) (b : Nat) : Nat → Nat
  | 0 => 0
  | k + 1 => brn A b k + ldh A b k * aY A k
theorem ldh_le {A : Nat → Nat → Nat} (w : wf A) {b s : Nat} (hs : s < aS A) : ldh A b s ≤ 1980 := by
  have h1 := ldB_le w (aB A) b s (aN A) (Nat.le_refl _)
  have h2 := w.1
  have h3 := w.2.2.2.1 s hs
  have : ldh A b s ≤ 990 * 2 := Nat.mul_le_mul (by omega) (by omega)
  exact this
theorem rth_le {A : Nat → Nat → Nat} (w : wf A) {b s : Nat} (hs : s < aS A) : rth A b s ≤ 40000 := by
  have h1 := ldh_le w (b := b) hs
  have h2 := w.2.2.2.2.2.1 0 (by decide)
  have h3 := w.2.2.2.2.2.1 1 (by decide)
  have : rth A b s ≤ 1980 * 18 := Nat.mul_le_mul h1 (by omega)
  omega
theorem brn_le {A : Nat → Nat → Nat} (w : wf A) {b : Nat} : ∀ k, k ≤ aS A → brn A b k ≤ 196020 * k
  | 0, _ => Nat.le_refl _
  | k + 1, h => by
    have h1 := brn_le w (b := b) k (by omega)
    have h2 := ldh_le w (b := b) (show k < aS A by omega)
    have h3 := w.2.2.2.1 k (by omega)
    have h4 : ldh A b k * aY A k ≤ 1980 * 99 := Nat.mul_le_mul h2 (by omega)
    show brn A b k + ldh A b k * aY A k ≤ _
    omega
theorem tot_brn {A : Nat → Nat → Nat} {b S : Nat} : ∀ (d s : Nat), s + d = S → tot A (rth A b) d s + brn A b s * (aR A 0 + aR A 1) = brn A b S * (aR A 0 + aR A 1)
  | 0, s, h => by
    have : s = S := by omega
    subst this
    show 0 + _ = _
    omega
  | d + 1, s, h => by
    have ih := tot_brn (A := A) (b := b) (S := S) d (s + 1) (by omega)
    have e1 : brn A b (s + 1) = brn A b s + ldh A b s * aY A s := rfl
    have e2 : tot A (rth A b) (d + 1) s = rth A b s * aY A s + tot A (rth A b) d (s + 1) := rfl
    rw [e1, Nat.add_mul] at ih
    rw [e2]
    have e3 : rth A b s * aY A s = ldh A b s * aY A s * (aR A 0 + aR A 1) := by
      unfold rth
      rw [Nat.mul_right_comm]
    omega
def s90 (k _j : Nat) : Prop := k = 90
set_option maxHeartbeats 4000000 in
theorem x_hands_L {A : Nat → Nat → Nat} (w : wf A) {b n : Nat} (hb3 : b < 3) (hn : 100 ≤ n) {v2 v3 v4 : Int32} (hv4 : v4 = nI (aR A 0 + aR A 1)) {K : Int32 → eb_S → Option (Int32 × eb_S)} : ∀ (m k : Nat) (σ : eb_S), ShB σ → ShM9 σ → MX9 A σ → (∀ i, i < k → eb_I σ 90 i = nI (rth A b i)) → k ≤ aS A → aS A < k + m → ∃ σ', f_X9_hands_L47 n 8 (nI b) v2 v3 v4 K m (nI (brn A b k)) (nI k) σ = K (nI (brn A b (aS A))) σ' ∧ Fr s90 σ σ' ∧ ∀ i, i < aS A → eb_I σ' 90 i = nI (rth A b i) := by
  intro m
  induction m with
  | zero => intro k σ _ _ _ _ h1 h2; omega
  | succ m ih =>
    intro k σ hb hs hX hz h1 h2
    have wS := w.2.2.1
    have xS := hX.2.2.2.2.2.2.1
    have hbu := hb
    have hsu := hs
    unfold ShB at hbu
    unfold ShM9 at hsu
    rw [f_X9_hands_L47.eq_2]
    by_cases h : aS A ≤ k
    · have e : k = aS A := by omega
      subst e
      have le : nI (aS A) ≤ nI (aS A) := by rw [p_leN (by omega) (by omega)]; exact Nat.le_refl _
      exact ⟨σ, by simp [eb_gR, eb_gI, hbu, hsu, xS, le], Fr.rf, hz⟩
    · have nle : ¬ nI (aS A) ≤ nI k := by rw [p_leN (by omega) (by omega)]; omega
      have hk : k < aS A := by omega
      have bl := x_bagLoad hs hX w (b := b) (s := k) (n := n) hb3 (by omega) hn
      have st := x_steep hs hX w hk
      have xY := hX.2.2.2.2.2.2.2.1 k hk
      have hF : Fr s90 σ (eb_sI σ 90 k (nI (rth A b k))) := Fr.sI rfl
      obtain ⟨σ', g1, g2, g3⟩ := ih (k + 1) (eb_sI σ 90 k (nI (rth A b k))) (hF.shB hb) (hF.shM9 hs) (hF.mx (fun k j h => by unfold s90 at h; omega) hX) (fun i hi => by
        rw [eb_I_sI, if_pos rfl]
        by_cases e : i = k
        · rw [if_pos e, e]
        · rw [if_neg e]; exact hz i (by omega)) (by omega) (by omega)
      refine ⟨σ', ?_, hF.tr g2, g3⟩
      simp [eb_gR, eb_gI, eb_ai, eb_wi, eb_tg, eb_cl_s, hbu, hsu, xS, nle, bl, st, xY, hv4, p_in (show k < 5 by omega) (by decide : 5 < 2 ^ 31), p_cl (show k < 2 ^ 31 by omega), pk_mul, nI_add, nI_1]
      rw [hv4] at g1
      exact g1
set_option maxHeartbeats 4000000 in
theorem x_hands {A : Nat → Nat → Nat} (w : wf A) {b n : Nat} (hb3 : b < 3) (hn : 100 ≤ n) {v : Int32} {σ : eb_S} (hb : ShB σ) (hs : ShM9 σ) (hX : MX9 A σ) (hv : wi v.toInt 0 1 = true) : ∃ σ', f_X9_hands n 8 (nI b) v σ = some (if brn A b (aS A) = 0 then fr 0 1 v else yva v (yds A (rth A b) (aS A) 0 (aR A 0 * brn A b (aS A))) (-4), σ') ∧ Fr s90 σ σ' := by
  have wS := w.2.2.1
  have wR0 := w.2.2.2.2.2.1 0 (by decide)
  have wR1 := w.2.2.2.2.2.1 1 (by decide)
  have bl := brn_le w (b := b) (aS A) (Nat.le_refl _)
  obtain ⟨σ', g1, g2, g3⟩ := x_hands_L w (b := b) (n := n) hb3 hn (v2 := v) (v3 := nI (aR A 0)) (v4 := nI (aR A 0 + aR A 1)) rfl (K := fun (w24 : Int32) (s25 : eb_S) => if w24 = 0 then (eb_cl (f_X9_inLowestTerms n 0 1 v s25) fun x29 s28 => some (x29, s28)) else (eb_cl (eb_tg s25 8 8 (f_X9_yardOf n 8 (nI (aR A 0) * w24) v s25)) fun x27 s26 => some (x27, s26))) n 0 σ hb hs hX (fun i hi => by omega) (by omega) (by omega)
  refine ⟨σ', ?_, g2⟩
  have hb1 := g2.shB hb
  have hs1 := g2.shM9 hs
  have hX1 : MX9 A σ' := g2.mx (fun k j h => by unfold s90 at h; omega) hX
  have xb := x_isBag (nI b) σ
  rw [p_ntoInt (by omega), wi_t.mpr ⟨by omega, by omega⟩] at xb
  have x2 := x_in v 0 1 0 1 rfl rfl _ hv
  have xR := hX.2.2.2.2.2.2.2.2.2.2.2.1
  have hbu := hb
  have hsu := hs
  unfold ShB at hbu
  unfold ShM9 at hsu
  rw [nI_0] at g1
  rw [show nI (brn A b 0) = 0 from nI_0] at g1
  unfold f_X9_hands
  simp only [xb, x2, eb_cl_s, eb_b0, Bool.true_eq_false, if_false, eb_gR, eb_ai, hbu, hsu, List.mem_singleton, if_true, true_and, ne_eq, show ¬ (9 : Nat) = 0 by decide, show ¬ (19 : Nat) = 0 by decide, not_false_eq_true, i02, i12, c0, c1, xR 0 (by decide), xR 1 (by decide), nI_add]
  refine g1.trans ?_
  have e0 : (nI (brn A b (aS A)) = 0) = (brn A b (aS A) = 0) := p_eqN (b := 0) (by omega) (by decide)
  simp only [e0]
  by_cases h0 : brn A b (aS A) = 0
  · rw [if_pos h0, if_pos h0]
    have l1 : f_X9_inLowestTerms n 0 1 v σ' = some (fr 0 1 v, σ') := x_low (u := 0) (l := 1) (n := n) (by decide) (by decide) (by decide) hn v σ'
    rw [l1, eb_cl_s]
  · rw [if_neg h0, if_neg h0]
    have hm : aR A 0 * brn A b (aS A) ≤ 9 * 980100 := Nat.mul_le_mul (by omega) (by omega)
    have hm1 : 1 * 1 ≤ aR A 0 * brn A b (aS A) := Nat.mul_le_mul (by omega) (by omega)
    have yd := x_yard hb1 hs1 hX1 w (rt := rth A b) (fun s hs5 => ⟨g3 s hs5, rth_le w hs5⟩) (n := n) (mis := aR A 0 * brn A b (aS A)) (v := v) hn (by omega) (by omega)
    unfold ShB at hb1
    rw [pk_mul, yd]
    simp [eb_tg, hb1, eb_cl_s]
theorem d_brn_L {A : Nat → Nat → Nat} (w : wf A) {b n : Nat} (hb3 : b < 3) (hn : 100 ≤ n) {v : Int32} {σ : eb_S} (hd : ShD σ) (hD : MD A σ) {K : Int32 → eb_S → Option (Int32 × eb_S)} : ∀ (m k : Nat), k ≤ aS A → aS A < k + m → f_X10_hands_L25 n 91 (nI b) v K m (nI (brn A b k)) (nI k) σ = K (nI (brn A b (aS A))) σ := by
  intro m
  induction m with
  | zero => intro k h1 h2; omega
  | succ m ih =>
    intro k h1 h2
    have wS := w.2.2.1
    have yS := hD.2.2.2.2.2.2.1
    have hdu := hd
    unfold ShD at hdu
    rw [f_X10_hands_L25.eq_2]
    by_cases h : aS A ≤ k
    · have e : k = aS A := by omega
      subst e
      have le : nI (aS A) ≤ nI (aS A) := by rw [p_leN (by omega) (by omega)]; exact Nat.le_refl _
      simp [eb_gI, hdu, yS, le]
    · have nle : ¬ nI (aS A) ≤ nI k := by rw [p_leN (by omega) (by omega)]; omega
      have hk : k < aS A := by omega
      have ld := d_loads hd hD w (MD.bags hd hD w) (b := b) (s := k) (n := n) hb3 (by omega) hn
      have yY := hD.2.2.2.2.2.2.2.1 k hk
      have yU := hD.2.2.2.2.2.2.2.2.1 k hk
      have ih' := ih (k + 1) (by omega) (by omega)
      have e1 : (1 : Int32) + nI (aU A k) = nI (1 + aU A k) := nI_add 1 _
      have e2 : ldB A (aB A) b k (aN A) * aY A k * (1 + aU A k) = ldh A b k * aY A k := by
        unfold ldh
        rw [Nat.mul_right_comm]
      simp [eb_gR, eb_gI, eb_ai, eb_tg, eb_cl_s, hdu, yS, nle, ld, yY, yU, p_in (show k < 5 by omega) (by decide : 5 < 2 ^ 31), p_cl (show k < 2 ^ 31 by omega), e1, pk_mul, nI_add, nI_1, e2]
      exact ih'
set_option maxHeartbeats 4000000 in
theorem d_yard_L {A : Nat → Nat → Nat} (w : wf A) {b n all : Nat} (hb3 : b < 3) (hn : 100 ≤ n) (hall : 0 < all) (hall2 : all < 2 ^ 31) {v v4 : Int32} (hv4 : v4 = nI (aR A 0 + aR A 1)) {σ : eb_S} (hd : ShD σ) (hD : MD A σ) {K : Int32 → Int32 → Int32 → eb_S → Option (Int32 × eb_S)} (hK : ∀ mis s, s < aS A → 1 ≤ mis → mis ≤ rth A b s * aY A s → K (nI mis) (nI s) (nI (rth A b s)) σ = some (fr (wy A s * rth A b s + mis) (rth A b s) v, σ)) : ∀ (d m s mis : Nat), s + d = aS A → d < m → 1 ≤ mis → mis ≤ 10000000 → f_X10_hands_L100 n 91 (nI b) v (nI all) v4 K m (nI mis) (nI s) σ = some (yva v (yds A (rth A b) d s mis) v, σ) := by
  intro d
  have wS := w.2.2.1
  have yS := hD.2.2.2.2.2.2.1
  have hdu := hd
  unfold ShD at hdu
  induction d with
  | zero =>
    intro m s mis h1 h2 h3 h4
    obtain ⟨m, rfl⟩ : ∃ m', m = m' + 1 := ⟨m - 1, by omega⟩
    have e : s = aS A := by omega
    subst e
    rw [f_X10_hands_L100.eq_2]
    have le : nI (aS A) ≤ nI (aS A) := by rw [p_leN (by omega) (by omega)]; exact Nat.le_refl _
    simp [eb_gI, hdu, yS, le, yds, yva]
  | succ d ih =>
    intro m s mis h1 h2 h3 h4
    obtain ⟨m, rfl⟩ : ∃ m', m = m' + 1 := ⟨m - 1, by omega⟩
    have hs5 : s < aS A := by omega
    have r1 := rth_le w (b := b) hs5
    have wy1 := w.2.2.2.1 s hs5
    have yY := hD.2.2.2.2.2.2.2.1 s hs5
    have yU := hD.2.2.2.2.2.2.2.2.1 s hs5
    have hm : rth A b s * aY A s ≤ 40000 * 99 := Nat.mul_le_mul r1 (by omega)
    rw [f_X10_hands_L100.eq_2]
    have nle : ¬ nI (aS A) ≤ nI s := by rw [p_leN (by omega) (by omega)]; omega
    have nal : ¬ nI all ≤ 0 := nI_nle hall hall2
    have sin : eb_in (nI s) 5 = true := p_in (by omega) (by decide)
    have scl : (nI s).toNatClampNeg = s := p_cl (by omega)
    have ld := d_loads hd hD w (MD.bags hd hD w) (b := b) (s := s) (n := n) hb3 (by omega) hn
    have e1 : (1 : Int32) + nI (aU A s) = nI (1 + aU A s) := nI_add 1 _
    have e2 : ldB A (aB A) b s (aN A) * (1 + aU A s) * (aR A 0 + aR A 1) = rth A b s := rfl
    have cmp : (nI (rth A b s * aY A s) < nI mis) = (rth A b s * aY A s < mis) := p_ltN (by omega) (by omega)
    unfold yds
    by_cases h : mis ≤ rth A b s * aY A s
    · have hk := hK mis s hs5 h3 h
      rw [if_pos h]
      simp only [eb_gR, eb_gI, eb_ai, eb_tg, eb_cl_s, hdu, yS, nle, nal, sin, scl, ld, yY, yU, e1, hv4, pk_mul, e2, cmp, List.mem_singleton, if_true, if_false, true_and, and_true, ne_eq, show ¬ (96 : Nat) = 0 by decide, show ¬ (97 : Nat) = 0 by decide, show ¬ (98 : Nat) = 0 by decide, not_false_eq_true, show ¬ rth A b s * aY A s < mis by omega]
      exact hk
    · rw [if_neg h]
      have ih' := ih m (s + 1) (mis - rth A b s * aY A s) (by omega) (by omega) (by omega) (by omega)
      simp only [eb_gR, eb_gI, eb_ai, eb_tg, eb_cl_s, hdu, yS, nle, nal, sin, scl, ld, yY, yU, e1, hv4, pk_mul, e2, cmp, List.mem_singleton, if_true, if_false, true_and, and_true, ne_eq, show ¬ (96 : Nat) = 0 by decide, show ¬ (97 : Nat) = 0 by decide, show ¬ (98 : Nat) = 0 by decide, not_false_eq_true, show rth A b s * aY A s < mis by omega, nI_1, pk_sub (show rth A b s * aY A s ≤ mis by omega)]
      rw [hv4] at ih'
      exact ih'
