/-! ===== pure: a search's rows ===== -/
def SS (v : Nat) (σ : eb_S) : Prop := (eb_T σ v ∈ [0, 4, 5]) ∧ eb_R σ v 0 = 9 ∧ eb_R σ v 1 = v + 1 ∧ eb_T σ (v + 1) = 11 ∧ eb_L σ (v + 1) = 10 ∧ eb_R σ v 2 = v + 2 ∧ eb_T σ (v + 2) = 11 ∧ eb_L σ (v + 2) = 10 ∧ eb_R σ v 3 = v + 3 ∧ eb_T σ (v + 3) = 11 ∧ eb_L σ (v + 3) = 15 ∧ eb_R σ v 4 = v + 4 ∧ eb_T σ (v + 4) = 11 ∧ eb_L σ (v + 4) = 55
theorem Fr.ss {S : Nat → Nat → Prop} {σ σ' : eb_S} {v : Nat} (h : Fr S σ σ') (hs : SS v σ) : SS v σ' := by
  unfold SS at hs ⊢; rw [h.1, h.2.1, h.2.2.1]; exact hs
/-- all loads of the things below t on stretch s -/
def lsum (A : Nat → Nat → Nat) (s : Nat) : Nat → Nat
  | 0 => 0
  | t + 1 => lsum A s t + ldT A t s
theorem lsum_mono {A : Nat → Nat → Nat} {s t : Nat} : ∀ d, lsum A s t ≤ lsum A s (t + d)
  | 0 => Nat.le_refl _
  | d + 1 => Nat.le_trans (lsum_mono d) (Nat.le_add_right _ _)
theorem lsum_mono' {A : Nat → Nat → Nat} {s t u : Nat} (h : t ≤ u) : lsum A s t ≤ lsum A s u := by
  obtain ⟨d, rfl⟩ : ∃ d, u = t + d := ⟨u - t, by omega⟩
  exact lsum_mono d
theorem lsum_le {A : Nat → Nat → Nat} (w : wf A) (s : Nat) : ∀ t, t ≤ aN A → lsum A s t ≤ 99 * t
  | 0, _ => Nat.le_refl _
  | t + 1, h => by
    have h1 := lsum_le w s t (by omega)
    have h2 := ldT_le w (show t < aN A by omega) s
    show lsum A s t + ldT A t s ≤ _
    omega
def ahd (A : Nat → Nat → Nat) (s t : Nat) : Nat := lsum A s (aN A) - lsum A s t
theorem ahd_step {A : Nat → Nat → Nat} {s t : Nat} (ht : t < aN A) : ahd A s t = ahd A s (t + 1) + ldT A t s := by
  have h1 : lsum A s (t + 1) ≤ lsum A s (aN A) := lsum_mono' ht
  have h2 : lsum A s (t + 1) = lsum A s t + ldT A t s := rfl
  unfold ahd
  omega
theorem ahd_end {A : Nat → Nat → Nat} {s : Nat} : ahd A s (aN A) = 0 := Nat.sub_self _
theorem ahd_le {A : Nat → Nat → Nat} (w : wf A) (s t : Nat) : ahd A s t ≤ 990 := by
  have h1 := lsum_le w s (aN A) (Nat.le_refl _)
  have h2 := w.1
  unfold ahd
  omega
def AH (A : Nat → Nat → Nat) (v t : Nat) (σ : eb_S) : Prop := ∀ u s, t ≤ u → u < aN A → s < aS A → eb_I σ (v + 4) (u * 5 + s) = nI (ahd A s u)
theorem p_x5 (t s : Nat) : nI t * 5 + nI s = nI (t * 5 + s) := by rw [show (5 : Int32) = nI 5 from rfl, pk_mul, nI_add]
theorem p_x3 (t s : Nat) : nI t * 3 + nI s = nI (t * 3 + s) := by rw [show (3 : Int32) = nI 3 from rfl, pk_mul, nI_add]
theorem p_x30 (t : Nat) : nI t * 3 + 0 = nI (t * 3 + 0) := p_x3 t 0
theorem p_x31 (t : Nat) : nI t * 3 + 1 = nI (t * 3 + 1) := p_x3 t 1
set_option maxHeartbeats 2000000 in
theorem x_loadAhead {A : Nat → Nat → Nat} {v : Nat} {σ : eb_S} (hv : SS v σ) (hs : ShM9 σ) (hX : MX9 A σ) (w : wf A) {t s t0 : Nat} (hA : AH A v t0 σ) (h0 : t0 ≤ t) (ht : t ≤ aN A) (h5 : s < aS A) : f_X6_loadAhead v (nI t) (nI s) σ = some (nI (ahd A s t), σ) := by
  have hN := hX.1
  have wN := w.1
  have wS := w.2.2.1
  unfold SS at hv
  unfold ShM9 at hs
  unfold f_X6_loadAhead
  simp only [eb_gR, eb_gI, eb_ai, hv, hs, hN, List.mem_singleton, p_leN (show aN A < 2 ^ 31 by omega) (show t < 2 ^ 31 by omega), p_x5]
  by_cases h : aN A ≤ t
  · have : t = aN A := by omega
    subst this
    simp [ahd_end, nI_0]
  · simp [h, p_in (show t * 5 + s < 55 by omega) (by decide : 55 < 2 ^ 31), p_cl (show t * 5 + s < 2 ^ 31 by omega), hA t s h0 (by omega) h5]
def sW (v k _j : Nat) : Prop := k = v + 4
theorem nX_sW {v : Nat} (hv : 25 ≤ v) : nX (sW v) := fun k j h => by unfold sW at h; omega
set_option maxHeartbeats 2000000 in
theorem x_weigh_L16 {A : Nat → Nat → Nat} (w : wf A) {v n t : Nat} (hv25 : 25 ≤ v) (ht : t < aN A) {K : eb_S → Option (Unit × eb_S)} : ∀ (m s : Nat) (σ : eb_S), SS v σ → ShM9 σ → MX9 A σ → AH A v (t + 1) σ → (∀ s', s' < s → eb_I σ (v + 4) (t * 5 + s') = nI (ahd A s' t)) → s ≤ aS A → aS A < s + m → ∃ σ', f_X6_weighAhead_L16 n v (nI t) K m (nI s) σ = K σ' ∧ Fr (sW v) σ σ' ∧ AH A v t σ' := by
  intro m
  induction m with
  | zero => intro s σ _ _ _ _ _ h1 h2; omega
  | succ m ih =>
    intro s σ hv hs hX hA hz h1 h2
    have hS := hX.2.2.2.2.2.2.1
    have wN := w.1
    have wS := w.2.2.1
    have hv' := hv
    have hs' := hs
    unfold SS at hv
    unfold ShM9 at hs
    rw [f_X6_weighAhead_L16.eq_2]
    simp only [eb_gR, eb_gI, hv, hs, hS, List.mem_singleton, p_leN (show aS A < 2 ^ 31 by omega) (show s < 2 ^ 31 by omega)]
    by_cases h : aS A ≤ s
    · refine ⟨σ, by simp [h], Fr.rf, fun u s' a1 a2 a3 => ?_⟩
      by_cases e : u = t
      · rw [e]; exact hz s' (by omega)
      · exact hA u s' (by omega) a2 a3
    · have h5 : s < aS A := by omega
      have hF : Fr (sW v) σ (eb_sI σ (v + 4) (t * 5 + s) (nI (ahd A s t))) := Fr.sI rfl
      obtain ⟨σ', g1, g2, g3⟩ := ih (s + 1) (eb_sI σ (v + 4) (t * 5 + s) (nI (ahd A s t))) (hF.ss hv') (hF.shM9 hs') (hF.mx (nX_sW hv25) hX) (fun u s' a1 a2 a3 => by
        rw [eb_I_sI, if_pos rfl, if_neg (by omega)]; exact hA u s' a1 a2 a3) (fun s' hs2 => by
        rw [eb_I_sI, if_pos rfl]
        by_cases e : s' = s
        · rw [e, if_pos rfl]
        · rw [if_neg (by omega)]; exact hz s' (by omega)) (by omega) (by omega)
      refine ⟨σ', ?_, hF.tr g2, g3⟩
      have e1 := x_loadAhead hv' hs' hX w hA (t := t + 1) (s := s) (Nat.le_refl _) (by omega) h5
      have e2 := x_thingLoad hs' hX w ht (show s < 5 by omega)
      simp [h, eb_ts, eb_tg, nI_1, e1, e2, eb_cl_s, eb_wi, p_x5, nI_add, ← ahd_step ht, p_in (show t * 5 + s < 55 by omega) (by decide : 55 < 2 ^ 31), p_cl (show t * 5 + s < 2 ^ 31 by omega), g1, hv, hs]
      have h9 : eb_T σ v = 0 ∨ eb_T σ v = 4 ∨ eb_T σ v = 5 := by simpa using hv.1
      intro a b c; omega
theorem x_weigh_L10 {A : Nat → Nat → Nat} (w : wf A) {v n : Nat} (hn : 100 ≤ n) (hv25 : 25 ≤ v) : ∀ (t m : Nat) (σ : eb_S), SS v σ → ShM9 σ → MX9 A σ → AH A v t σ → t ≤ aN A → t < m → ∃ σ', f_X6_weighAhead_L10 n v m (nI t - 1) σ = some ((), σ') ∧ Fr (sW v) σ σ' ∧ AH A v 0 σ' := by
  intro t
  induction t with
  | zero =>
    intro m σ hv hs hX hA h1 h2
    obtain ⟨m, rfl⟩ : ∃ m', m = m' + 1 := ⟨m - 1, by omega⟩
    rw [f_X6_weighAhead_L10.eq_2]
    exact ⟨σ, by rw [nI_0, show (0 : Int32) - 1 = -1 from rfl, if_pos (by decide)], Fr.rf, hA⟩
  | succ t ih =>
    intro m σ hv hs hX hA h1 h2
    obtain ⟨m, rfl⟩ : ∃ m', m = m' + 1 := ⟨m - 1, by omega⟩
    have wN := w.1
    have wS := w.2.2.1
    rw [nI_pred, f_X6_weighAhead_L10.eq_2, if_neg (nI_pos (by omega))]
    obtain ⟨σ1, a1, a2, a3⟩ := x_weigh_L16 w (n := n) hv25 (show t < aN A by omega) (K := fun s12 => f_X6_weighAhead_L10 n v m (nI t + (-1)) s12) n 0 σ hv hs hX hA (fun s' h => by omega) (by omega) (by omega)
    obtain ⟨σ2, b1, b2, b3⟩ := ih m σ1 (a2.ss hv) (a2.shM9 hs) (a2.mx (nX_sW hv25) hX) a3 (by omega) (by omega)
    refine ⟨σ2, ?_, a2.tr b2, b3⟩
    rw [← nI_0, a1, show nI t + (-1) = nI t - 1 from (Int32.sub_eq_add_neg _ _).symm]
    exact b1
theorem x_weighAhead {A : Nat → Nat → Nat} (w : wf A) {v n : Nat} (hn : 100 ≤ n) (hv25 : 25 ≤ v) {σ : eb_S} (hv : SS v σ) (hs : ShM9 σ) (hX : MX9 A σ) : ∃ σ', f_X6_weighAhead n v σ = some ((), σ') ∧ Fr (sW v) σ σ' ∧ AH A v 0 σ' := by
  have wN := w.1
  obtain ⟨σ', g1, g2, g3⟩ := x_weigh_L10 w hn hv25 (aN A) n σ hv hs hX (fun u s h1 h2 h3 => by omega) (Nat.le_refl _) (by omega)
  refine ⟨σ', ?_, g2, g3⟩
  have hN := hX.1
  unfold SS at hv
  unfold ShM9 at hs
  unfold f_X6_weighAhead
  simp only [eb_gR, eb_gI, hv, hs, hN, List.mem_singleton]
  simpa using g1
