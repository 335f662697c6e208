/-! ===== pure: hands and paper, both sides ===== -/
set_option maxHeartbeats 4000000 in
theorem d_hands {A : Nat → Nat → Nat} (w : wf A) {b n : Nat} (hb3 : b < 3) (hn : 100 ≤ n) {v : Int32} {σ : eb_S} (hd : ShD σ) (hD : MD A σ) (hv : wi v.toInt 0 1 = true) : f_X10_hands n 91 (nI b) v σ = some (if brn A b (aS A) = 0 then v else yva v (yds A (rth A b) (aS A) 0 (aR A 0 * brn A b (aS A))) v, σ) := by
  have wS := w.2.2.1
  have wR0 := w.2.2.2.2.2.1 0 (by decide)
  have bl := brn_le w (b := b) (aS A) (Nat.le_refl _)
  have yR := hD.2.2.2.2.2.2.2.2.2.2.2.1
  have yS := hD.2.2.2.2.2.2.1
  have xb : ∀ σ, f_X10_isBag (nI b).toInt64 σ = some (true, σ) := fun σ => by rw [d_isBag, p_i64, p_ntoInt (by omega), wi_t.mpr ⟨by omega, by omega⟩]
  have x2 := d_ins v 0 1 0 1 rfl rfl _ hv
  have hdu := hd
  unfold ShD at hdu
  unfold f_X10_hands
  simp only [xb, x2, eb_cl_s, eb_b0, Bool.true_eq_false, if_false]
  have g := fun K => d_brn_L w (b := b) (n := n) hb3 hn (v := v) hd hD (K := K) n 0 (by omega) (by omega)
  have g' : ∀ K, f_X10_hands_L25 n 91 (nI b) v K n 0 0 σ = K (nI (brn A b (aS A))) σ := fun K => by
    have := g K
    rw [show nI (brn A b 0) = 0 from nI_0, nI_0] at this
    exact this
  rw [g']
  simp only [eb_gR, eb_ai, hdu, List.mem_singleton, if_true, true_and, ne_eq, show ¬ (101 : Nat) = 0 by decide, not_false_eq_true, i02, i12, c0, c1, yR 0 (by decide), yR 1 (by decide), nI_add, pk_mul]
  by_cases h0 : brn A b (aS A) = 0
  · rw [if_pos h0, h0]
    obtain ⟨n, rfl⟩ : ∃ m', n = m' + 1 := ⟨n - 1, by omega⟩
    rw [f_X10_hands_L100.eq_2]
    simp only [eb_gI, hdu, List.mem_singleton, if_true, yS, nI_0, show ((0 : Int32) ≤ 0) = True from eq_true (by decide), ite_self]
  · rw [if_neg h0]
    have hm : brn A b (aS A) * aR A 0 ≤ 980100 * 9 := Nat.mul_le_mul (by omega) (by omega)
    have hm1 : 1 * 1 ≤ brn A b (aS A) * aR A 0 := Nat.mul_le_mul (by omega) (by omega)
    have yd := d_yard_L w (b := b) (n := n) (all := brn A b (aS A)) hb3 hn (by omega) (by omega) (v := v) (v4 := nI (aR A 0 + aR A 1)) rfl hd hD (K := fun (w31 : Int32) (w32 : Int32) (w33 : Int32) (s34 : eb_S) => eb_cl (eb_tg s34 91 9 (f_X10_wayTo n 91 w32 s34)) fun x36 s35 => eb_cl (f_X10_part n ((x36 * w33) + w31) w33 v s35) fun x38 s37 => some (x38, s37)) (fun mis s hs5 h3 h4 => by
      have r1 := rth_le w (b := b) hs5
      have wy1 := w.2.2.2.1 s hs5
      have wy2 := wy_le w s (by omega)
      have hm : rth A b s * aY A s ≤ 40000 * 99 := Nat.mul_le_mul r1 (by omega)
      have hm2 : wy A s * rth A b s ≤ 500 * 40000 := Nat.mul_le_mul (by omega) r1
      have hp : 0 < rth A b s := by
        rcases Nat.eq_zero_or_pos (rth A b s) with z | z
        · rw [z, Nat.zero_mul] at h4; omega
        · exact z
      have l1 := d_part (u := wy A s * rth A b s + mis) (l := rth A b s) (n := n) (by omega) hp (by omega) hn v σ
      have wt := d_way (n := n) (e := s) hd hD w (by omega) hn
      simp only [eb_tg, hdu, if_true, wt, eb_cl_s, pk_mul, nI_add, l1]) (aS A) n 0 (brn A b (aS A) * aR A 0) (by omega) (by omega) (by omega) (by omega)
    rw [nI_0] at yd
    rw [Nat.mul_comm (aR A 0)]
    exact yd
set_option maxHeartbeats 4000000 in
theorem eq_hands {A : Nat → Nat → Nat} {σ : eb_S} (hb : ShB σ) (hs : ShM9 σ) (hX : MX9 A σ) (w : wf A) (hd : ShD σ) (hD : MD A σ) (a v : Int32) {n : Nat} (hn : 100 ≤ n) : ∃ r σ1, f_X9_hands n 8 a v σ = some (r, σ1) ∧ Fr s90 σ σ1 ∧ f_X10_hands n 91 a v σ1 = some (r, σ1) := by
  have xb := fun σ => x_isBag a σ
  have db := fun σ => d_isBag a.toInt64 σ
  rw [p_i64] at db
  cases h1 : wi a.toInt 0 2 with
  | false =>
    rw [h1] at xb db
    exact ⟨-1, σ, by unfold f_X9_hands; simp [xb, eb_cl_s, eb_b0], Fr.rf, by unfold f_X10_hands; simp [db, eb_cl_s, eb_b0]⟩
  | true =>
  rw [h1] at xb db
  cases h2 : wi v.toInt 0 1 with
  | false =>
    have x2 := x_in v 0 1 0 1 rfl rfl _ h2
    have d2 := d_ins v 0 1 0 1 rfl rfl _ h2
    exact ⟨-1, σ, by unfold f_X9_hands; simp [xb, x2, eb_cl_s, eb_b0], Fr.rf, by unfold f_X10_hands; simp [db, d2, eb_cl_s, eb_b0]⟩
  | true =>
  obtain ⟨b, hb3, rfl⟩ := wi_nat2 (n := 2) (by decide) h1
  obtain ⟨σ1, g1, g2⟩ := x_hands w (b := b) (n := n) (by omega) hn hb hs hX h2
  have dh := d_hands w (b := b) (n := n) (by omega) hn (g2.shD hd) (g2.md (fun k j h => by unfold s90 at h; omega) hD) h2
  refine ⟨_, σ1, g1, g2, ?_⟩
  rw [dh]
  congr 2
  by_cases h0 : brn A b (aS A) = 0
  · rw [if_pos h0, if_pos h0]
    obtain ⟨u, hu, rfl⟩ := wi_nat2 (n := 1) (by decide) h2
    rcases (show u = 0 ∨ u = 1 by omega) with rfl | rfl
    · decide
    · decide
  · rw [if_neg h0, if_neg h0]
    have hm : aR A 0 * brn A b (aS A) ≤ tot A (rth A b) (aS A) 0 := by
      have e := tot_brn (A := A) (b := b) (S := aS A) (aS A) 0 (by omega)
      have e0 : brn A b 0 = 0 := rfl
      rw [e0, Nat.zero_mul, Nat.add_zero] at e
      rw [e, Nat.mul_comm]
      exact Nat.mul_le_mul (Nat.le_refl _) (by omega)
    have wR0 := w.2.2.2.2.2.1 0 (by decide)
    have hm1 : 1 * 1 ≤ aR A 0 * brn A b (aS A) := Nat.mul_le_mul (by omega) (by omega)
    have ys := yds_some (A := A) (rt := rth A b) (aS A) 0 (aR A 0 * brn A b (aS A)) (by omega) hm
    match yds A (rth A b) (aS A) 0 (aR A 0 * brn A b (aS A)), ys with
    | none, z => exact absurd rfl z
    | some q, _ => rfl
-- paper
def wl (A : Nat → Nat → Nat) (b s : Nat) : Nat → Nat
  | 0 => 0
  | t + 1 => wl A b s t + if aB A t = b ∧ aK A t % 2 = 1 then ldT A t s else 0
def wld (A : Nat → Nat → Nat) (b s : Nat) : Nat := wl A b s (aN A)
theorem wl_le {A : Nat → Nat → Nat} (w : wf A) (b s : Nat) : ∀ t, t ≤ aN A → wl A b s t ≤ 99 * t
  | 0, _ => Nat.le_refl _
  | t + 1, h => by
    have h1 := wl_le w b s t (by omega)
    have h2 := ldT_le w (show t < aN A by omega) s
    unfold wl
    split <;> omega
theorem wld_le {A : Nat → Nat → Nat} (w : wf A) (b s : Nat) : wld A b s ≤ 990 := by
  have := wl_le w b s (aN A) (Nat.le_refl _)
  have := w.1
  unfold wld
  omega
theorem x_isWet {A : Nat → Nat → Nat} {σ : eb_S} (hs : ShM9 σ) (hX : MX9 A σ) (w : wf A) {t : Nat} (ht : t < aN A) : f_X3_isWet 9 (nI t) σ = some (decide (aK A t % 2 = 1), σ) := by
  have wN := w.1
  have wt := w.2.1 t ht
  have xK := hX.2.1 t ht
  unfold ShM9 at hs
  unfold f_X3_isWet
  simp only [eb_gR, eb_ai, eb_xi, hs, List.mem_singleton, if_true, true_and, ne_eq, show ¬ (10 : Nat) = 0 by decide, not_false_eq_true, p_in (show t < 10 by omega) (by decide : 10 < 2 ^ 31), p_cl (show t < 2 ^ 31 by omega), xK, p_in (show aK A t < 4 by omega) (by decide : 4 < 2 ^ 31), p_cl (show aK A t < 2 ^ 31 by omega), p_melt wt.1]
  rcases (show aK A t = 0 ∨ aK A t = 1 ∨ aK A t = 2 ∨ aK A t = 3 by omega) with h | h | h | h <;> rw [h] <;> rfl
set_option maxHeartbeats 4000000 in
theorem x_wet_L {A : Nat → Nat → Nat} {σ : eb_S} (hs : ShM9 σ) (hX : MX9 A σ) (w : wf A) {b s n : Nat} (hb : b < 3) (h5 : s < 5) : ∀ (m t : Nat), t ≤ aN A → aN A < t + m → f_X3_wetLoad_L5 n 9 (nI b) (nI s) m (nI (wl A b s t)) (nI t) σ = some (nI (wld A b s), σ) := by
  intro m
  induction m with
  | zero => intro t h1 h2; omega
  | succ m ih =>
    intro t h1 h2
    have wN := w.1
    have xN := hX.1
    have hsu := hs
    unfold ShM9 at hsu
    rw [f_X3_wetLoad_L5.eq_2]
    by_cases h : aN A ≤ t
    · have e : t = aN A := by omega
      subst e
      have le : nI (aN A) ≤ nI (aN A) := by rw [p_leN (by omega) (by omega)]; exact Nat.le_refl _
      simp [eb_gI, hsu, xN, le, wld]
    · have nle : ¬ nI (aN A) ≤ nI t := by rw [p_leN (by omega) (by omega)]; omega
      have ht : t < aN A := by omega
      have wt := w.2.1 t ht
      have xB := hX.2.2.2.2.2.1 t ht
      have ih' := ih (t + 1) (by omega) (by omega)
      have wet := x_isWet hs hX w ht
      have tl := x_thingLoad hs hX w ht h5
      simp only [wl] at ih'
      simp only [eb_gI, eb_gR, eb_ai, eb_tg, eb_jn_e, hsu, xN, nle, List.mem_singleton, if_true, if_false, true_and, ne_eq, show ¬ (14 : Nat) = 0 by decide, not_false_eq_true, p_in (show t < 10 by omega) (by decide : 10 < 2 ^ 31), p_cl (show t < 2 ^ 31 by omega), xB, p_eqN (show aB A t < 2 ^ 31 by omega) (show b < 2 ^ 31 by omega), wet, tl, eb_cl_s, eb_b0, decide_eq_false_iff_not, nI_1]
      by_cases e1 : aB A t = b
      · by_cases e2 : aK A t % 2 = 1
        · rw [if_pos ⟨e1, e2⟩] at ih'
          rw [if_pos e1, if_neg (fun z => z e2), nI_add]
          exact ih'
        · rw [if_neg (fun z => e2 z.2)] at ih'
          rw [if_pos e1, if_pos e2]
          simpa using ih'
      · rw [if_neg (fun z => e1 z.1)] at ih'
        rw [if_neg e1]
        simpa using ih'
set_option maxHeartbeats 4000000 in
theorem x_paper_L {A : Nat → Nat → Nat} (w : wf A) {b n : Nat} (hb3 : b < 3) (hn : 100 ≤ n) {v2 : Int32} {K : eb_S → Option (Int32 × eb_S)} : ∀ (m k : Nat) (σ : eb_S), ShB σ → ShM9 σ → MX9 A σ → (∀ i, i < k → eb_I σ 90 i = nI (wld A b i)) → k ≤ aS A → aS A < k + m → ∃ σ', f_X9_paper_L35 n 8 (nI b) v2 K m (nI k) σ = K σ' ∧ Fr s90 σ σ' ∧ ∀ i, i < aS A → eb_I σ' 90 i = nI (wld A b i) := by
  intro m
  induction m with
  | zero => intro k σ _ _ _ _ h1 h2; omega
  | succ m ih =>
    intro k σ hb hs hX hz h1 h2
    have wS := w.2.2.1
    have wN := w.1
    have xS := hX.2.2.2.2.2.2.1
    have hbu := hb
    have hsu := hs
    unfold ShB at hbu
    unfold ShM9 at hsu
    rw [f_X9_paper_L35.eq_2]
    by_cases h : aS A ≤ k
    · have e : k = aS A := by omega
      subst e
      have le : nI (aS A) ≤ nI (aS A) := by rw [p_leN (by omega) (by omega)]; exact Nat.le_refl _
      exact ⟨σ, by simp [eb_gR, eb_gI, hbu, hsu, xS, le], Fr.rf, hz⟩
    · have nle : ¬ nI (aS A) ≤ nI k := by rw [p_leN (by omega) (by omega)]; omega
      have hk : k < aS A := by omega
      have bl : f_X3_wetLoad n 9 (nI b) (nI k) σ = some (nI (wld A b k), σ) := x_wet_L hs hX w (b := b) (s := k) (n := n) hb3 (by omega) n 0 (by omega) (by omega)
      have hF : Fr s90 σ (eb_sI σ 90 k (nI (wld A b k))) := Fr.sI rfl
      obtain ⟨σ', g1, g2, g3⟩ := ih (k + 1) (eb_sI σ 90 k (nI (wld A b k))) (hF.shB hb) (hF.shM9 hs) (hF.mx (fun k j h => by unfold s90 at h; omega) hX) (fun i hi => by
        rw [eb_I_sI, if_pos rfl]
        by_cases e : i = k
        · rw [if_pos e, e]
        · rw [if_neg e]; exact hz i (by omega)) (by omega) (by omega)
      refine ⟨σ', ?_, hF.tr g2, g3⟩
      simp [eb_gR, eb_gI, eb_ai, eb_wi, eb_tg, eb_cl_s, hbu, hsu, xS, nle, bl, p_in (show k < 5 by omega) (by decide : 5 < 2 ^ 31), p_cl (show k < 2 ^ 31 by omega), nI_1]
      exact g1
set_option maxHeartbeats 4000000 in
theorem d_wet_L {A : Nat → Nat → Nat} {σ : eb_S} (hd : ShD σ) (hD : MD A σ) (w : wf A) {b s n : Nat} (hb : b < 3) (h5 : s < 5) {v2 v3 : Int32} {K : Int32 → eb_S → Option (Int32 × eb_S)} : ∀ (m t : Nat), t ≤ aN A → aN A < t + m → f_X10_paper_L54 n 91 (nI b) v2 v3 (nI s) K m (nI (wl A b s t)) (nI t) σ = K (nI (wld A b s)) σ := by
  intro m
  induction m with
  | zero => intro t h1 h2; omega
  | succ m ih =>
    intro t h1 h2
    have wN := w.1
    have yN := hD.1
    have hdu := hd
    unfold ShD at hdu
    rw [f_X10_paper_L54.eq_2]
    by_cases h : aN A ≤ t
    · have e : t = aN A := by omega
      subst e
      have le : nI (aN A) ≤ nI (aN A) := by rw [p_leN (by omega) (by omega)]; exact Nat.le_refl _
      simp [eb_gI, hdu, yN, le, wld]
    · have nle : ¬ nI (aN A) ≤ nI t := by rw [p_leN (by omega) (by omega)]; omega
      have ht : t < aN A := by omega
      have wt := w.2.1 t ht
      have yB := hD.2.2.2.2.2.1 t ht
      have yK := hD.2.1 t ht
      have ih' := ih (t + 1) (by omega) (by omega)
      have tl := d_loadOf hd hD w ht h5
      have e2 : nI (aK A t) - nI (aK A t) / 2 * 2 = nI (aK A t % 2) := pk_rem (d := 2) (by omega) (by decide) (by decide)
      have e3 : (nI (aK A t % 2) = 1) = (aK A t % 2 = 1) := p_eqN (b := 1) (by omega) (by decide)
      simp only [wl] at ih'
      simp only [eb_gI, eb_gR, eb_ai, eb_tg, eb_jn_e, hdu, yN, nle, List.mem_singleton, if_true, if_false, true_and, ne_eq, show ¬ (96 : Nat) = 0 by decide, show ¬ (92 : Nat) = 0 by decide, show ¬ (2 : Int32) = 0 by decide, not_false_eq_true, p_in (show t < 10 by omega) (by decide : 10 < 2 ^ 31), p_cl (show t < 2 ^ 31 by omega), yB, yK, p_eqN (show aB A t < 2 ^ 31 by omega) (show b < 2 ^ 31 by omega), tl, eb_cl_s, e2, e3, nI_1]
      by_cases e1 : aB A t = b
      · by_cases e2 : aK A t % 2 = 1
        · rw [if_pos ⟨e1, e2⟩] at ih'
          rw [if_pos e1, if_pos e2, nI_add]
          exact ih'
        · rw [if_neg (fun z => e2 z.2)] at ih'
          rw [if_pos e1, if_neg e2]
          simpa using ih'
      · rw [if_neg (fun z => e1 z.1)] at ih'
        rw [if_neg e1]
        simpa using ih'
set_option maxHeartbeats 4000000 in
theorem d_paper_L {A : Nat → Nat → Nat} (w : wf A) {b n : Nat} (hb3 : b < 3) (hn : 100 ≤ n) (hg : 0 < aG A b) {v : Int32} {σ : eb_S} (hd : ShD σ) (hD : MD A σ) {K : Int32 → Int32 → Int32 → eb_S → Option (Int32 × eb_S)} (hK : ∀ mis s, s < aS A → 1 ≤ mis → mis ≤ wld A b s * aY A s → K (nI mis) (nI s) (nI (wld A b s)) σ = some (fr (wy A s * wld A b s + mis) (wld A b s) v, σ)) : ∀ (d m s mis : Nat), s + d = aS A → d < m → 1 ≤ mis → mis ≤ 10000 → f_X10_paper_L30 n 91 (nI b) v K m (nI mis) (nI s) σ = some (yva v (yds A (wld A b) d s mis) (-4), σ) := by
  intro d
  have wS := w.2.2.1
  have wN := w.1
  have yS := hD.2.2.2.2.2.2.1
  have yG := hD.2.2.2.2.2.2.2.2.2.2.1 b hb3
  have wG := w.2.2.2.2.1 b hb3
  have hdu := hd
  unfold ShD at hdu
  induction d with
  | zero =>
    intro m s mis h1 h2 h3 h4
    obtain ⟨m, rfl⟩ : ∃ m', m = m' + 1 := ⟨m - 1, by omega⟩
    have e : s = aS A := by omega
    subst e
    rw [f_X10_paper_L30.eq_2]
    have le : nI (aS A) ≤ nI (aS A) := by rw [p_leN (by omega) (by omega)]; exact Nat.le_refl _
    simp [eb_gI, hdu, yS, le, yds, yva]
  | succ d ih =>
    intro m s mis h1 h2 h3 h4
    obtain ⟨m, rfl⟩ : ∃ m', m = m' + 1 := ⟨m - 1, by omega⟩
    have hs5 : s < aS A := by omega
    have r1 := wld_le w b s
    have wy1 := w.2.2.2.1 s hs5
    have yY := hD.2.2.2.2.2.2.2.1 s hs5
    have hm : wld A b s * aY A s ≤ 990 * 99 := Nat.mul_le_mul r1 (by omega)
    rw [f_X10_paper_L30.eq_2]
    have nle : ¬ nI (aS A) ≤ nI s := by rw [p_leN (by omega) (by omega)]; omega
    have nal : ¬ nI (aG A b) ≤ 0 := nI_nle hg (by omega)
    have sin : eb_in (nI s) 5 = true := p_in (by omega) (by decide)
    have scl : (nI s).toNatClampNeg = s := p_cl (by omega)
    have bin : eb_in (nI b) 3 = true := p_in (by omega) (by decide)
    have bcl : (nI b).toNatClampNeg = b := p_cl (by omega)
    have ld := fun K => d_wet_L hd hD w (b := b) (s := s) (n := n) hb3 (by omega) (v2 := v) (v3 := nI mis) (K := K) n 0 (by omega) (by omega)
    have cmp : (nI (wld A b s * aY A s) < nI mis) = (wld A b s * aY A s < mis) := p_ltN (by omega) (by omega)
    have e0 : nI (wl A b s 0) = 0 := nI_0
    rw [e0, nI_0] at ld
    unfold yds
    simp only [eb_gR, eb_gI, eb_ai, hdu, yS, nle, nal, bin, bcl, yG, List.mem_singleton, if_true, if_false, true_and, and_true, ne_eq, show ¬ (100 : Nat) = 0 by decide, not_false_eq_true, ld]
    by_cases h : mis ≤ wld A b s * aY A s
    · have hk := hK mis s hs5 h3 h
      rw [if_pos h]
      simp only [hdu, sin, scl, yY, pk_mul, cmp, if_true, if_false, true_and, and_true, ne_eq, show ¬ (97 : Nat) = 0 by decide, not_false_eq_true, show ¬ wld A b s * aY A s < mis by omega]
      exact hk
    · rw [if_neg h]
      have ih' := ih m (s + 1) (mis - wld A b s * aY A s) (by omega) (by omega) (by omega) (by omega)
      simp only [hdu, sin, scl, yY, pk_mul, cmp, if_true, if_false, true_and, and_true, ne_eq, show ¬ (97 : Nat) = 0 by decide, not_false_eq_true, show wld A b s * aY A s < mis by omega, nI_1, pk_sub (show wld A b s * aY A s ≤ mis by omega)]
      exact ih'
set_option maxHeartbeats 4000000 in
theorem eq_paper {A : Nat → Nat → Nat} {σ : eb_S} (hb : ShB σ) (hs : ShM9 σ) (hX : MX9 A σ) (w : wf A) (hd : ShD σ) (hD : MD A σ) (a v : Int32) {n : Nat} (hn : 100 ≤ n) : ∃ r σ1, f_X9_paper n 8 a v σ = some (r, σ1) ∧ Fr s90 σ σ1 ∧ f_X10_paper n 91 a v σ1 = some (r, σ1) := by
  have wS := w.2.2.1
  have xb := fun σ => x_isBag a σ
  have db := fun σ => d_isBag a.toInt64 σ
  rw [p_i64] at db
  cases h1 : wi a.toInt 0 2 with
  | false =>
    rw [h1] at xb db
    exact ⟨-1, σ, by unfold f_X9_paper; simp [xb, eb_cl_s, eb_b0], Fr.rf, by unfold f_X10_paper; simp [db, eb_cl_s, eb_b0]⟩
  | true =>
  rw [h1] at xb db
  cases h2 : wi v.toInt 0 1 with
  | false =>
    have x2 := x_in v 0 1 0 1 rfl rfl _ h2
    have d2 := d_ins v 0 1 0 1 rfl rfl _ h2
    exact ⟨-1, σ, by unfold f_X9_paper; simp [xb, x2, eb_cl_s, eb_b0], Fr.rf, by unfold f_X10_paper; simp [db, d2, eb_cl_s, eb_b0]⟩
  | true =>
  have x2 := x_in v 0 1 0 1 rfl rfl _ h2
  have d2 := d_ins v 0 1 0 1 rfl rfl _ h2
  obtain ⟨b, hb3, rfl⟩ := wi_nat2 (n := 2) (by decide) h1
  have hb3 : b < 3 := by omega
  have wG := w.2.2.2.2.1 b hb3
  have xG := hX.2.2.2.2.2.2.2.2.2.2.1 b hb3
  have hbu := hb
  have hsu := hs
  have hdu := hd
  unfold ShB at hbu
  unfold ShM9 at hsu
  unfold ShD at hdu
  have bin : eb_in (nI b) 3 = true := p_in hb3 (by decide)
  have bcl : (nI b).toNatClampNeg = b := p_cl (by omega)
  by_cases hg : aG A b = 0
  · have yG := hD.2.2.2.2.2.2.2.2.2.2.1 b hb3
    have yS := hD.2.2.2.2.2.2.1
    rw [hg, nI_0] at xG yG
    refine ⟨-4, σ, ?_, Fr.rf, ?_⟩
    · unfold f_X9_paper; simp [xb, x2, eb_cl_s, eb_b0, eb_gR, eb_ai, hbu, hsu, bin, bcl, xG]
    · obtain ⟨n, rfl⟩ : ∃ m', n = m' + 1 := ⟨n - 1, by omega⟩
      unfold f_X10_paper
      simp only [db, d2, eb_cl_s, eb_b0, Bool.true_eq_false, if_false, eb_gR, eb_ai, hdu, bin, bcl, yG, List.mem_singleton, if_true, true_and, ne_eq, show ¬ (100 : Nat) = 0 by decide, not_false_eq_true]
      rw [f_X10_paper_L30.eq_2]
      simp only [eb_gR, eb_gI, eb_ai, hdu, bin, bcl, yG, yS, List.mem_singleton, if_true, true_and, ne_eq, show ¬ (100 : Nat) = 0 by decide, not_false_eq_true, show ((0 : Int32) ≤ 0) = True from eq_true (by decide), ite_self]
  · obtain ⟨σ1, g1, g2, g3⟩ := x_paper_L w (b := b) (n := n) hb3 hn (v2 := v) (K := fun (s15 : eb_S) => eb_gR s15 [8] 8 0 fun r16 => eb_gR s15 [3] r16 11 fun r17 => eb_ai s15 r17 (nI b) fun x18 => eb_cl (eb_tg s15 8 8 (f_X9_yardOf n 8 x18 v s15)) fun x20 s19 => some (x20, s19)) n 0 σ hb hs hX (fun i hi => by omega) (by omega) (by omega)
    have hb1 := g2.shB hb
    have hs1 := g2.shM9 hs
    have hX1 : MX9 A σ1 := g2.mx (fun k j h => by unfold s90 at h; omega) hX
    have hd1 := g2.shD hd
    have hD1 : MD A σ1 := g2.md (fun k j h => by unfold s90 at h; omega) hD
    have xG1 := hX1.2.2.2.2.2.2.2.2.2.2.1 b hb3
    have yG1 := hD1.2.2.2.2.2.2.2.2.2.2.1 b hb3
    have yd := x_yard hb1 hs1 hX1 w (rt := wld A b) (fun s hs5 => ⟨g3 s hs5, by have := wld_le w b s; omega⟩) (n := n) (mis := aG A b) (v := v) hn (by omega) (by omega)
    have zd := d_paper_L w (b := b) (n := n) hb3 hn (by omega) (v := v) hd1 hD1 (K := fun (w28 : Int32) (w29 : Int32) (w30 : Int32) (s31 : eb_S) => eb_cl (eb_tg s31 91 9 (f_X10_wayTo n 91 w29 s31)) fun x33 s32 => eb_cl (f_X10_part n ((x33 * w30) + w28) w30 v s32) fun x35 s34 => some (x35, s34)) (fun mis s hs5 h3 h4 => by
      have r1 := wld_le w b s
      have wy1 := w.2.2.2.1 s hs5
      have wy2 := wy_le w s (by omega)
      have hm : wld A b s * aY A s ≤ 990 * 99 := Nat.mul_le_mul r1 (by omega)
      have hm2 : wy A s * wld A b s ≤ 500 * 990 := Nat.mul_le_mul (by omega) r1
      have hp : 0 < wld A b s := by
        rcases Nat.eq_zero_or_pos (wld A b s) with z | z
        · rw [z, Nat.zero_mul] at h4; omega
        · exact z
      have l1 := d_part (u := wy A s * wld A b s + mis) (l := wld A b s) (n := n) (by omega) hp (by omega) hn v σ1
      have wt := d_way (n := n) (e := s) hd1 hD1 w (by omega) hn
      have hdu1 := hd1
      unfold ShD at hdu1
      simp only [eb_tg, hdu1, if_true, wt, eb_cl_s, pk_mul, nI_add, l1]) (aS A) n 0 (aG A b) (by omega) (by omega) (by omega) (by omega)
    refine ⟨yva v (yds A (wld A b) (aS A) 0 (aG A b)) (-4), σ1, ?_, g2, ?_⟩
    · have ng : ¬ nI (aG A b) = 0 := nI_ne0 (by omega) (by omega)
      rw [nI_0] at g1
      unfold f_X9_paper
      simp only [xb, x2, eb_cl_s, eb_b0, Bool.true_eq_false, if_false, eb_gR, eb_ai, hbu, hsu, bin, bcl, xG, ng, List.mem_singleton, if_true, true_and, ne_eq, show ¬ (9 : Nat) = 0 by decide, show ¬ (18 : Nat) = 0 by decide, not_false_eq_true] at g1 ⊢
      rw [g1]
      unfold ShB at hb1
      unfold ShM9 at hs1
      simp [hb1, hs1, bin, bcl, xG1, eb_tg, yd, eb_cl_s]
    · rw [nI_0] at zd
      unfold ShD at hd1
      unfold f_X10_paper
      simp only [db, d2, eb_cl_s, eb_b0, Bool.true_eq_false, if_false, eb_gR, eb_ai, hd1, bin, bcl, yG1, List.mem_singleton, if_true, true_and, ne_eq, show ¬ (100 : Nat) = 0 by decide, not_false_eq_true] at zd ⊢
      exact zd
