/-! ===== pure: buying, the model's side ===== -/
theorem d_apart {A : Nat → Nat → Nat} (w : wf A) {a b : Nat} (ha : a < aN A) (hb : b < aN A) {σ : eb_S} (hd : ShD σ) (hD : MD A σ) : f_X10_apart 91 (nI a) (nI b) σ = some (nI (dst A a b), σ) := by
  have wN := w.1
  have w1 := w.2.1 a ha
  have w2 := w.2.1 b hb
  have yL := hD.2.2.2.2.1
  have eab : (if (0 : Int32) ≤ nI (aL A a) - nI (aL A b) then nI (aL A a) - nI (aL A b) else -(nI (aL A a) - nI (aL A b))) = nI (dst A a b) := by
    rw [nI_iI (aL A a), nI_iI (aL A b), iI_sub]
    exact p_abs2 (by omega) (by omega)
  unfold ShD at hd
  unfold f_X10_apart
  simp only [eb_gR, eb_ai, eb_tg, hd, List.mem_singleton, if_true, true_and, ne_eq, show ¬ (95 : Nat) = 0 by decide, not_false_eq_true, p_in (show a < 10 by omega) (by decide : 10 < 2 ^ 31), p_cl (show a < 2 ^ 31 by omega), p_in (show b < 10 by omega) (by decide : 10 < 2 ^ 31), p_cl (show b < 2 ^ 31 by omega), yL a ha, yL b hb, d_plain, eb_cl_s, eab]
set_option maxHeartbeats 4000000 in
theorem d_cw_L {A : Nat → Nat → Nat} (w : wf A) {S n : Nat} (hS : S < 2 ^ 31) {σ : eb_S} (hd : ShD σ) (hD : MD A σ) : ∀ (m k : Nat), k ≤ aN A → aN A < k + m → f_X10_bought_L4 n 91 (nI S) m (nI (wsm A S k)) (nI k) σ = some (nI (cw A S), σ) := by
  intro m
  induction m with
  | zero => intro k h1 h2; omega
  | succ m ih =>
    intro k h1 h2
    have wN := w.1
    have yN := hD.1
    have hdu := hd
    unfold ShD at hdu
    rw [f_X10_bought_L4.eq_2]
    by_cases h : aN A ≤ k
    · have e : k = aN A := by omega
      subst e
      have le : nI (aN A) ≤ nI (aN A) := by rw [p_leN (by omega) (by omega)]; exact Nat.le_refl _
      simp [eb_gI, hdu, yN, le, cw]
    · have nle : ¬ nI (aN A) ≤ nI k := by rw [p_leN (by omega) (by omega)]; omega
      have ih' := ih (k + 1) (by omega) (by omega)
      have es : wsm A S (k + 1) = wsm A S k + if bit S k then aW A k else 0 := rfl
      rw [es, ← nI_add] at ih'
      simp only [eb_gR, eb_gI, eb_ai, eb_jn_e, hdu, yN, nle, List.mem_singleton, if_true, if_false, true_and, ne_eq, show ¬ (93 : Nat) = 0 by decide, not_false_eq_true, bit_i hS (show k < 31 by omega), nI_1, p_in (show k < 10 by omega) (by decide : 10 < 2 ^ 31), p_cl (show k < 2 ^ 31 by omega), hD.2.2.1 k (show k < aN A by omega)]
      by_cases hb : bit S k
      · rw [if_pos hb] at ih' ⊢
        exact ih'
      · rw [if_neg hb, nI_0] at ih'
        rw [if_neg hb]
        exact ih'
theorem d_bought {A : Nat → Nat → Nat} (w : wf A) {S n : Nat} (hn : 100 ≤ n) (hS : S < 2 ^ 31) {σ : eb_S} (hd : ShD σ) (hD : MD A σ) : f_X10_bought n 91 (nI S) σ = some (nI (cw A S), σ) := by
  have wN := w.1
  have := d_cw_L w (n := n) hS hd hD n 0 (by omega) (by omega)
  rw [show nI (wsm A S 0) = 0 from nI_0, nI_0] at this
  exact this
theorem ix10 (S t : Nat) : (10 : Int32) * nI S + nI t = nI (S * 10 + t) := by rw [show (10 : Int32) = nI 10 from rfl, pk_mul, nI_add, Nat.mul_comm]
def lmv (o : Option (Nat × Nat)) : Int32 := match o with
  | none => -1
  | some q => nI q.2
theorem mnr_s {f : Nat → Nat} {S k : Nat} (hb : ¬ bit S k) : mnr f S (k + 1) = match mnr f S k with
    | none => some (k, f k)
    | some (t, c) => if f k < c then some (k, f k) else some (t, c) := by
  show (if bit S k then _ else _) = _
  rw [if_neg hb]
  rfl
theorem mnr_b {f : Nat → Nat} {S k : Nat} (hb : bit S k) : mnr f S (k + 1) = mnr f S k := by
  show (if bit S k then _ else _) = _
  rw [if_pos hb]
set_option maxHeartbeats 4000000 in
theorem d_on_L {A : Nat → Nat → Nat} (w : wf A) {S l n : Nat} (hn : 100 ≤ n) {σ : eb_S} (hd : ShD σ) (hD : MD A σ) (hS : S < 2 ^ aN A) (hl : l < aN A) (hT : TB A 112 0 (S + 1) σ) : ∀ (m k : Nat), k ≤ aN A → aN A < k + m → f_X10_onFrom_L40 n 91 (nI S) (nI l) m (lmv (mnr (fc A S (some l)) S k)) (nI k) σ = some (lmv (mnr (fc A S (some l)) S (aN A)), σ) := by
  intro m
  induction m with
  | zero => intro k h1 h2; omega
  | succ m ih =>
    intro k h1 h2
    have wN := w.1
    have hp := pw10 w
    have yN := hD.1
    have hdu := hd
    unfold ShD at hdu
    rw [f_X10_onFrom_L40.eq_2]
    by_cases h : aN A ≤ k
    · have e : k = aN A := by omega
      subst e
      have le : nI (aN A) ≤ nI (aN A) := by rw [p_leN (by omega) (by omega)]; exact Nat.le_refl _
      simp [eb_gI, hdu, yN, le]
    · have nle : ¬ nI (aN A) ≤ nI k := by rw [p_leN (by omega) (by omega)]; omega
      have hk : k < aN A := by omega
      have ih' := ih (k + 1) (by omega) (by omega)
      simp only [eb_gI, eb_jn_e, hdu, yN, nle, List.mem_singleton, if_true, if_false, bit_z (show S < 2 ^ 31 by omega) (show k < 31 by omega), nI_1]
      by_cases hb : bit S k
      · rw [mnr_b hb] at ih'
        rw [if_neg (fun z => z hb)]
        exact ih'
      · have ap := d_apart w hl hk hd hD
        have bo := d_bought w (n := n) hn (show S < 2 ^ 31 by omega) hd hD
        have g := or_gt hb
        have g2 := or_lt2 hS hk
        have tb := hT (S ||| 2 ^ k) k (by omega) g2 hk (or_bit_iff.mpr (Or.inr rfl))
        have oi := or_i (S := S) (t := k) (by omega)
        have fb := fc_b w (t := k) (lo := some l) hS hk (fun l' h => by cases h; exact hl)
        have ef : dst A l k * cw A S + TT A (S ||| 2 ^ k) k = fc A S (some l) k := by
          show _ = cw A S * dst A l k + _
          rw [Nat.mul_comm]
        rw [if_pos hb]
        simp only [eb_gR, eb_ai, eb_tg, hdu, List.mem_singleton, if_true, true_and, ne_eq, show ¬ (112 : Nat) = 0 by decide, not_false_eq_true, ap, bo, eb_cl_s, oi, ix10, p_in (show (S ||| 2 ^ k) * 10 + k < 10240 by omega) (by decide : 10240 < 2 ^ 31), p_cl (show (S ||| 2 ^ k) * 10 + k < 2 ^ 31 by omega), tb, pk_mul, nI_add, ef]
        rw [mnr_s hb] at ih'
        cases hm : mnr (fc A S (some l)) S k with
        | none =>
          rw [hm] at ih'
          dsimp only at ih'
          rw [if_pos (show lmv none < 0 by decide)]
          exact ih'
        | some q =>
          obtain ⟨t, c'⟩ := q
          rw [hm] at ih'
          dsimp only at ih'
          obtain ⟨m1, m2, m3⟩ := mnr_ok _ _ _ hm
          have fb2 := fc_b w (t := t) (lo := some l) hS (by omega) (fun l' h => by cases h; exact hl)
          rw [← m3] at fb2
          have e1 : lmv (some (t, c')) = nI c' := rfl
          rw [e1, if_neg (nI_pos (by omega))]
          by_cases hc : fc A S (some l) k < c'
          · rw [if_pos hc] at ih'
            rw [if_neg (show ¬ nI c' ≤ nI (fc A S (some l) k) by rw [p_leN (by omega) (by omega)]; omega)]
            exact ih'
          · rw [if_neg hc] at ih'
            rw [if_pos (show nI c' ≤ nI (fc A S (some l) k) by rw [p_leN (by omega) (by omega)]; omega)]
            exact ih'
set_option maxHeartbeats 4000000 in
theorem d_on {A : Nat → Nat → Nat} (w : wf A) {S l n : Nat} (hn : 100 ≤ n) {σ : eb_S} (hd : ShD σ) (hD : MD A σ) (hS : S < 2 ^ aN A) (hl : l < aN A) (hT : TB A 112 0 (S + 1) σ) : f_X10_onFrom n 91 (nI S) (nI l) σ = some (nI (TT A S l), σ) := by
  have wN := w.1
  have hp := pw10 w
  have hp0 : 0 < 2 ^ aN A := Nat.two_pow_pos _
  have yN := hD.1
  have hdu := hd
  unfold ShD at hdu
  have shl := b_shl (aN A) (by omega)
  have em1 : nI (2 ^ aN A) - 1 = nI (2 ^ aN A - 1) := pk_sub (b := 1) (by omega)
  have e2 : (nI S = nI (2 ^ aN A - 1)) = (S = 2 ^ aN A - 1) := p_eqN (by omega) (by omega)
  have te := TT_eq (A := A) (S := S) (l := l) hS
  unfold bdy at te
  unfold f_X10_onFrom
  simp only [eb_gI, hdu, List.mem_singleton, if_true, yN, shl, em1, e2]
  by_cases hf : S = 2 ^ aN A - 1
  · rw [if_pos hf] at te ⊢
    have wl := w.2.1 l hl
    have eab : (if (0 : Int32) ≤ nI (aL A l) - 50 then nI (aL A l) - 50 else -(nI (aL A l) - 50)) = nI ((aL A l : Int) - 50).natAbs := by
      rw [nI_iI (aL A l), show (50 : Int32) = iI 50 from rfl, iI_sub]
      exact p_abs2 (by omega) (by omega)
    have bo := d_bought w (n := n) hn (show 2 ^ aN A - 1 < 2 ^ 31 by omega) hd hD
    have et : ((aL A l : Int) - 50).natAbs * cw A (2 ^ aN A - 1) = TT A S l := by rw [te, hf, Nat.mul_comm]
    simp only [eb_gR, eb_ai, eb_tg, hdu, List.mem_singleton, if_true, true_and, ne_eq, show ¬ (95 : Nat) = 0 by decide, not_false_eq_true, p_in (show l < 10 by omega) (by decide : 10 < 2 ^ 31), p_cl (show l < 2 ^ 31 by omega), hD.2.2.2.2.1 l hl, d_plain, eb_cl_s, eab, bo, pk_mul, et]
  · rw [if_neg hf] at te ⊢
    have lo := d_on_L w (n := n) hn hd hD hS hl hT n 0 (by omega) (by omega)
    have ex2 : ∃ t, t < aN A ∧ ¬ bit S t := by
      apply Classical.byContradiction
      intro hn'
      exact hf (all_full hS (fun t ht => Classical.byContradiction (fun z => hn' ⟨t, ht, z⟩)))
    obtain ⟨t0, ht0, hb0⟩ := ex2
    have hsm := mnr_some (f := fc A S (some l)) (S := S) (aN A) t0 ht0 hb0
    cases hm : mnr (fc A S (some l)) S (aN A) with
    | none => exact absurd hm hsm
    | some q =>
      obtain ⟨t, cc⟩ := q
      have te2 : TT A S l = cc := by
        rw [te]
        have : mnr (fun t => cw A S * dst A l t + TT A (S ||| 2 ^ t) t) S (aN A) = some (t, cc) := hm
        rw [this]
        rfl
      rw [hm, nI_0] at lo
      rw [te2]
      exact lo
def s112 (k _j : Nat) : Prop := k = 112
theorem nD_s112 : nD s112 := fun k j h => by unfold s112 at h; omega
set_option maxHeartbeats 4000000 in
theorem d_buy_L1 {A : Nat → Nat → Nat} (w : wf A) {S n : Nat} (hn : 100 ≤ n) (hS : S < 2 ^ aN A) {v1 : Int32} {K : eb_S → Option (Int32 × eb_S)} : ∀ (m k : Nat) (σ : eb_S), ShD σ → MD A σ → TB A 112 0 (S + 1) σ → (∀ l, l < k → bit S l → eb_I σ 112 (S * 10 + l) = nI (TT A S l)) → k ≤ aN A → aN A < k + m → ∃ σ', f_X10_buying_L31 n 91 v1 (nI S) K m (nI k) σ = K σ' ∧ Fr s112 σ σ' ∧ TB A 112 0 S σ' := by
  intro m
  induction m with
  | zero => intro k σ _ _ _ _ h1 h2; omega
  | succ m ih =>
    intro k σ hd hD hT hz h1 h2
    have wN := w.1
    have hp := pw10 w
    have yN := hD.1
    have hdu := hd
    unfold ShD at hdu
    rw [f_X10_buying_L31.eq_2]
    by_cases h : aN A ≤ k
    · have e : k = aN A := by omega
      subst e
      have le : nI (aN A) ≤ nI (aN A) := by rw [p_leN (by omega) (by omega)]; exact Nat.le_refl _
      refine ⟨σ, by simp [eb_gI, hdu, yN, le], Fr.rf, fun S' l hS' hS2 hl hb => ?_⟩
      by_cases e : S' = S
      · subst e; exact hz l hl hb
      · exact hT S' l (by omega) hS2 hl hb
    · have nle : ¬ nI (aN A) ≤ nI k := by rw [p_leN (by omega) (by omega)]; omega
      have hk : k < aN A := by omega
      simp only [eb_gI, eb_jn_e, hdu, yN, nle, List.mem_singleton, if_true, if_false, bit_i (show S < 2 ^ 31 by omega) (show k < 31 by omega), nI_1]
      by_cases hb : bit S k
      · rw [if_pos hb]
        have on := d_on w (n := n) hn hd hD hS hk hT
        have F1 : Fr s112 σ (eb_sI σ 112 (S * 10 + k) (nI (TT A S k))) := Fr.sI rfl
        obtain ⟨σ', g1, g2, g3⟩ := ih (k + 1) _ (F1.shD hd) (F1.md nD_s112 hD) (fun S' l hS' hS2 hl hbl => by
          rw [eb_I_sI, if_pos rfl, if_neg (by omega)]
          exact hT S' l hS' hS2 hl hbl) (fun l hl hbl => by
          rw [eb_I_sI, if_pos rfl]
          by_cases e : l = k
          · subst e; rw [if_pos rfl]
          · rw [if_neg (by omega)]; exact hz l (by omega) hbl) (by omega) (by omega)
        refine ⟨σ', ?_, F1.tr g2, g3⟩
        simp only [eb_gR, eb_wi, eb_tg, hdu, List.mem_singleton, if_true, true_and, ne_eq, show ¬ (112 : Nat) = 0 by decide, not_false_eq_true, on, eb_cl_s, ix10, p_in (show S * 10 + k < 10240 by omega) (by decide : 10240 < 2 ^ 31), p_cl (show S * 10 + k < 2 ^ 31 by omega)]
        exact g1
      · rw [if_neg hb]
        exact ih (k + 1) σ hd hD hT (fun l hl hbl => by
          by_cases e : l = k
          · subst e; exact absurd hbl hb
          · exact hz l (by omega) hbl) (by omega) (by omega)
theorem d_buy_L2 {A : Nat → Nat → Nat} (w : wf A) {n : Nat} (hn : 100 ≤ n) {v1 : Int32} {K : eb_S → Option (Int32 × eb_S)} : ∀ (S m : Nat) (σ : eb_S), ShD σ → MD A σ → TB A 112 0 (S + 1) σ → S < 2 ^ aN A → S < m → ∃ σ', f_X10_buying_L25 n 91 v1 K m (nI S) σ = K σ' ∧ Fr s112 σ σ' ∧ TB A 112 0 1 σ' := by
  intro S
  have hp := pw10 w
  have wN := w.1
  induction S with
  | zero =>
    intro m σ hd hD hT hS hm
    obtain ⟨m, rfl⟩ : ∃ m', m = m' + 1 := ⟨m - 1, by omega⟩
    rw [f_X10_buying_L25.eq_2, nI_0, if_pos (by decide)]
    exact ⟨σ, rfl, Fr.rf, hT⟩
  | succ S ih =>
    intro m σ hd hD hT hS hm
    obtain ⟨m, rfl⟩ : ∃ m', m = m' + 1 := ⟨m - 1, by omega⟩
    rw [f_X10_buying_L25.eq_2, if_neg (nI_nle (by omega) (by omega))]
    obtain ⟨σ1, g1, g2, g3⟩ := d_buy_L1 w (n := n) hn hS (v1 := v1) (K := fun (s12 : eb_S) => f_X10_buying_L25 n 91 v1 K m (nI (S + 1) + (-1)) s12) n 0 σ hd hD hT (fun l hl => by omega) (by omega) (by omega)
    obtain ⟨σ', k1, k2, k3⟩ := ih m σ1 (g2.shD hd) (g2.md nD_s112 hD) g3 (by omega) (by omega)
    refine ⟨σ', ?_, g2.tr k2, k3⟩
    rw [nI_0] at g1
    rw [g1]
    show f_X10_buying_L25 n 91 v1 K m (nI (S + 1) + (-1)) σ1 = _
    rw [pk_m1]
    exact k1
def nmv (o : Option (Nat × Nat)) : Int32 := match o with
  | none => -1
  | some q => nI q.1
def qmv (o : Option (Nat × Nat)) : Int32 := match o with
  | none => 0
  | some q => nI q.2
set_option maxHeartbeats 8000000 in
theorem d_buy_L3 {A : Nat → Nat → Nat} (w : wf A) {S n kk : Nat} {lo : Option Nat} (hn : 100 ≤ n) {v1 v4 : Int32} {σ : eb_S} (hd : ShD σ) (hD : MD A σ) (hS : S < 2 ^ aN A) (hlo : ∀ l, lo = some l → l < aN A) (hk0 : kk = 0 ↔ lo = none) (hkk : kk ≤ 10) (hT : TB A 112 0 1 σ) {K : Int32 → Int32 → eb_S → Option (Int32 × eb_S)} : ∀ (m k : Nat), k ≤ aN A → aN A < k + m → f_X10_buying_L119 n 91 v1 (nI S) (lov lo) v4 (nI kk) K m (nmv (mnr (fc A S lo) S k)) (qmv (mnr (fc A S lo) S k)) (nI k) σ = K (nmv (mnr (fc A S lo) S (aN A))) (qmv (mnr (fc A S lo) S (aN A))) σ := by
  intro m
  induction m with
  | zero => intro k h1 h2; omega
  | succ m ih =>
    intro k h1 h2
    have wN := w.1
    have hp := pw10 w
    have yN := hD.1
    have hdu := hd
    unfold ShD at hdu
    rw [f_X10_buying_L119.eq_2]
    by_cases h : aN A ≤ k
    · have e : k = aN A := by omega
      subst e
      have le : nI (aN A) ≤ nI (aN A) := by rw [p_leN (by omega) (by omega)]; exact Nat.le_refl _
      simp [eb_gI, hdu, yN, le]
    · have nle : ¬ nI (aN A) ≤ nI k := by rw [p_leN (by omega) (by omega)]; omega
      have hk : k < aN A := by omega
      have ih' := ih (k + 1) (by omega) (by omega)
      simp only [eb_gI, eb_jn_e, hdu, yN, nle, List.mem_singleton, if_true, if_false, bit_i (show S < 2 ^ 31 by omega) (show k < 31 by omega), nI_1]
      by_cases hb : bit S k
      · rw [mnr_b hb] at ih'
        rw [if_pos hb, if_pos (by decide)]
        exact ih'
      · rw [if_neg hb]
        have g := or_gt hb
        have g2 := or_lt2 hS hk
        have tb := hT (S ||| 2 ^ k) k (by omega) g2 hk (or_bit_iff.mpr (Or.inr rfl))
        have oi := or_i (S := S) (t := k) (by omega)
        have fb := fc_b w (t := k) (lo := lo) hS hk hlo
        have kz : (nI kk = 0) = (kk = 0) := p_eqN (b := 0) (by omega) (by decide)
        have fin : ∀ X : Option (Int32 × eb_S), X = (if nI (fc A S lo k) < 0 then f_X10_buying_L119 n 91 v1 (nI S) (lov lo) v4 (nI kk) K m (nmv (mnr (fc A S lo) S k)) (qmv (mnr (fc A S lo) S k)) (nI (k + 1)) σ else if nmv (mnr (fc A S lo) S k) < 0 then f_X10_buying_L119 n 91 v1 (nI S) (lov lo) v4 (nI kk) K m (nI k) (nI (fc A S lo k)) (nI (k + 1)) σ else if qmv (mnr (fc A S lo) S k) ≤ nI (fc A S lo k) then f_X10_buying_L119 n 91 v1 (nI S) (lov lo) v4 (nI kk) K m (nmv (mnr (fc A S lo) S k)) (qmv (mnr (fc A S lo) S k)) (nI (k + 1)) σ else f_X10_buying_L119 n 91 v1 (nI S) (lov lo) v4 (nI kk) K m (nI k) (nI (fc A S lo k)) (nI (k + 1)) σ) → X = K (nmv (mnr (fc A S lo) S (aN A))) (qmv (mnr (fc A S lo) S (aN A))) σ := by
          intro X hXe
          rw [hXe, if_neg (nI_pos (by omega))]
          rw [mnr_s hb] at ih'
          cases hm : mnr (fc A S lo) S k with
          | none =>
            rw [hm] at ih'
            dsimp only at ih'
            rw [if_pos (show nmv none < 0 by decide)]
            exact ih'
          | some q =>
            obtain ⟨t, c'⟩ := q
            rw [hm] at ih'
            dsimp only at ih'
            obtain ⟨m1, m2, m3⟩ := mnr_ok _ _ _ hm
            have fb2 := fc_b w (t := t) (lo := lo) hS (by omega) hlo
            rw [← m3] at fb2
            have e1 : nmv (some (t, c')) = nI t := rfl
            have e2 : qmv (some (t, c')) = nI c' := rfl
            rw [e1, e2, if_neg (nI_pos (by omega))]
            by_cases hc : fc A S lo k < c'
            · rw [if_pos hc] at ih'
              rw [if_neg (show ¬ nI c' ≤ nI (fc A S lo k) by rw [p_leN (by omega) (by omega)]; omega)]
              exact ih'
            · rw [if_neg hc] at ih'
              rw [if_pos (show nI c' ≤ nI (fc A S lo k) by rw [p_leN (by omega) (by omega)]; omega)]
              exact ih'
        apply fin
        cases lo with
        | none =>
          have h0 : kk = 0 := hk0.mpr rfl
          have ef : (0 : Int32) + nI (TT A (S ||| 2 ^ k) k) = nI (fc A S none k) := by
            rw [show (0 : Int32) = nI 0 from rfl, nI_add]; rfl
          simp only [kz, h0, if_true, eb_gR, eb_ai, hdu, List.mem_singleton, true_and, ne_eq, show ¬ (112 : Nat) = 0 by decide, not_false_eq_true, oi, ix10, p_in (show (S ||| 2 ^ k) * 10 + k < 10240 by omega) (by decide : 10240 < 2 ^ 31), p_cl (show (S ||| 2 ^ k) * 10 + k < 2 ^ 31 by omega), tb, ef]
          rfl
        | some l =>
          have h0 : ¬ kk = 0 := fun z => by cases hk0.mp z
          have hl := hlo l rfl
          have ap := d_apart w hl hk hd hD
          have bo := d_bought w (n := n) hn (show S < 2 ^ 31 by omega) hd hD
          have lv2 : lov (some l) = nI l := rfl
          have ef : dst A l k * cw A S + TT A (S ||| 2 ^ k) k = fc A S (some l) k := by
            show _ = cw A S * dst A l k + _
            rw [Nat.mul_comm]
          simp only [kz, h0, if_false, lv2, eb_gR, eb_ai, eb_tg, hdu, List.mem_singleton, if_true, true_and, ne_eq, show ¬ (112 : Nat) = 0 by decide, not_false_eq_true, ap, bo, eb_cl_s, oi, ix10, p_in (show (S ||| 2 ^ k) * 10 + k < 10240 by omega) (by decide : 10240 < 2 ^ 31), p_cl (show (S ||| 2 ^ k) * 10 + k < 2 ^ 31 by omega), tb, pk_mul, nI_add, ef]
          rfl
