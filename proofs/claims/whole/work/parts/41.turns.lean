/-! ===== pure: the model's turning of its row ===== -/
/-- the model's row 'tried' holds p up to N, and nothing above -/
def TR (N : Nat) (p : Nat → Nat) (σ : eb_S) : Prop := (∀ t, t < N → eb_I σ 110 t = nI (p t) ∧ p t < 3)
def sT (k _j : Nat) : Prop := k = 110
theorem nD_sT : nD sT := fun k j h => by unfold sT at h; omega
theorem TR.rw {N : Nat} {p : Nat → Nat} {σ : eb_S} (hs : ShD σ) (h : TR N p σ) : RW p N 110 σ := by
  unfold ShD at hs
  exact ⟨by simp [hs], by simp [hs], h⟩
set_option maxHeartbeats 2000000 in
theorem d_begins_L {n : Nat} : ∀ (m t : Nat) (σ : eb_S), ShD σ → (∀ u, u < t → eb_I σ 110 u = 0) → t ≤ 10 → 10 < t + m → ∃ σ', f_X10_begins_L2 n 91 m (nI t) σ = some ((), σ') ∧ Fr sT σ σ' ∧ ∀ u, u < 10 → eb_I σ' 110 u = 0 := by
  intro m
  induction m with
  | zero => intro t σ _ _ h1 h2; omega
  | succ m ih =>
    intro t σ hs hz h1 h2
    have hs' := hs
    unfold ShD at hs
    rw [f_X10_begins_L2.eq_2]
    have e : ((10 : Int32) ≤ nI t) = (10 ≤ t) := p_leN (a := 10) (b := t) (by decide) (by omega)
    simp only [eb_cl_s, eb_b0, eb_b1, eb_jn_e, eb_tg, eb_ts, eb_d3, eb_gI, eb_gR, eb_pI, eb_pZ, eb_pR, eb_ai, eb_ac, eb_al, eb_ar, eb_wi, eb_wc, eb_wl, eb_wr, eb_ln, eb_xi, eb_zb, eb_sw, eb_lw, hs, e]
    by_cases h : 10 ≤ t
    · exact ⟨σ, by simp [h], Fr.rf, fun u hu => hz u (by omega)⟩
    · have hF : Fr sT σ (eb_sI σ 110 t 0) := Fr.sI rfl
      obtain ⟨σ', g1, g2, g3⟩ := ih (t + 1) (eb_sI σ 110 t 0) (hF.shD hs') (fun u hu => by
        rw [eb_I_sI, if_pos rfl]
        by_cases e : u = t
        · rw [if_pos e]
        · rw [if_neg e]; exact hz u (by omega)) (by omega) (by omega)
      exact ⟨σ', by simp [h, p_in (show t < 10 by omega) (by decide : 10 < 2 ^ 31), p_cl (show t < 2 ^ 31 by omega), nI_1, g1], hF.tr g2, g3⟩
theorem d_begins {n : Nat} (hn : 100 ≤ n) {σ : eb_S} (hs : ShD σ) : ∃ σ', f_X10_begins n 91 σ = some ((), σ') ∧ Fr sT σ σ' ∧ ∀ u, u < 10 → eb_I σ' 110 u = 0 :=
  d_begins_L n 0 σ hs (fun u hu => by omega) (by omega) (by omega)
/-- the loop that sets full places back to 0: down to the first place t that isn't full -/
theorem d_turns_L {n : Nat} {mm : Nat} (hmm : mm < 3) {N : Nat} (hN : N ≤ 10) {K : Int32 → eb_S → Option (Bool × eb_S)} : ∀ (k t m : Nat) (σ : eb_S), ShD σ → t + k + 1 ≤ N → (∀ u, t < u → u < t + 1 + k → eb_I σ 110 u = nI mm) → (∃ v, v < mm ∧ eb_I σ 110 t = nI v) → k < m → ∃ σ', f_X10_turns_L7 n 91 (nI (mm + 1)) K m (nI (t + k)) σ = K (nI t) σ' ∧ Fr sT σ σ' ∧ ∀ u, eb_I σ' 110 u = if t < u ∧ u < t + 1 + k then 0 else eb_I σ 110 u := by
  intro k
  induction k with
  | zero =>
    intro t m σ hs h1 h2 h3 h4
    obtain ⟨v, hv1, hv2⟩ := h3
    obtain ⟨m, rfl⟩ : ∃ m', m = m' + 1 := ⟨m - 1, by omega⟩
    unfold ShD at hs
    rw [f_X10_turns_L7.eq_2]
    have e0 : (nI t < 0) = False := by rw [eq_iff_iff]; exact ⟨fun h => absurd h (nI_pos (by omega)), False.elim⟩
    have e1 : (nI v = nI (mm + 1) - 1) = False := by
      rw [nI_pred, eq_iff_iff]
      exact ⟨fun h => by rw [nI_eq (by omega) (by omega)] at h; omega, False.elim⟩
    refine ⟨σ, ?_, Fr.rf, fun u => by rw [if_neg (by omega)]⟩
    simp [eb_cl_s, eb_b0, eb_b1, eb_jn_e, eb_tg, eb_ts, eb_d3, eb_gI, eb_gR, eb_pI, eb_pZ, eb_pR, eb_ai, eb_ac, eb_al, eb_ar, eb_wi, eb_wc, eb_wl, eb_wr, eb_ln, eb_xi, eb_zb, eb_sw, eb_lw, hs, e0, p_in (show t < 10 by omega) (by decide : 10 < 2 ^ 31), p_cl (show t < 2 ^ 31 by omega), hv2, e1]
  | succ k ih =>
    intro t m σ hs h1 h2 h3 h4
    obtain ⟨m, rfl⟩ : ∃ m', m = m' + 1 := ⟨m - 1, by omega⟩
    have hs' := hs
    unfold ShD at hs
    rw [f_X10_turns_L7.eq_2]
    have e0 : (nI (t + (k + 1)) < 0) = False := by rw [eq_iff_iff]; exact ⟨fun h => absurd h (nI_pos (by omega)), False.elim⟩
    have e1 : nI mm = nI (mm + 1) - 1 := (nI_pred mm).symm
    have e2 : nI (t + (k + 1)) + (-1) = nI (t + k) := pk_m1 (t + k)
    have hF : Fr sT σ (eb_sI σ 110 (t + (k + 1)) 0) := Fr.sI rfl
    obtain ⟨σ', g1, g2, g3⟩ := ih t m (eb_sI σ 110 (t + (k + 1)) 0) (hF.shD hs') (by omega) (fun u h5 h6 => by rw [eb_I_sI, if_pos rfl, if_neg (by omega)]; exact h2 u h5 (by omega)) (by
      obtain ⟨v, hv1, hv2⟩ := h3
      exact ⟨v, hv1, by rw [eb_I_sI, if_pos rfl, if_neg (by omega)]; exact hv2⟩) (by omega)
    refine ⟨σ', ?_, hF.tr g2, fun u => ?_⟩
    · simp [eb_cl_s, eb_b0, eb_b1, eb_jn_e, eb_tg, eb_ts, eb_d3, eb_gI, eb_gR, eb_pI, eb_pZ, eb_pR, eb_ai, eb_ac, eb_al, eb_ar, eb_wi, eb_wc, eb_wl, eb_wr, eb_ln, eb_xi, eb_zb, eb_sw, eb_lw, hs, e0, p_in (show t + (k + 1) < 10 by omega) (by decide : 10 < 2 ^ 31), p_cl (show t + (k + 1) < 2 ^ 31 by omega), h2 (t + (k + 1)) (by omega) (by omega), ← e1, e2, g1]
    · rw [g3 u, eb_I_sI, if_pos rfl]
      by_cases h5 : t < u ∧ u < t + 1 + k
      · rw [if_pos h5, if_pos ⟨h5.1, by omega⟩]
      · rw [if_neg h5]
        by_cases h6 : u = t + (k + 1)
        · rw [if_pos h6, if_pos (by omega)]
        · rw [if_neg h6, if_neg (by omega)]
/-- all places are full: the loop goes below the first -/
theorem d_turns_E {n : Nat} {mm : Nat} (hmm : mm < 3) {K : Int32 → eb_S → Option (Bool × eb_S)} : ∀ (k m : Nat) (σ : eb_S), ShD σ → k ≤ 10 → (∀ u, u < k → eb_I σ 110 u = nI mm) → k < m → ∃ σ', f_X10_turns_L7 n 91 (nI (mm + 1)) K m (nI k - 1) σ = K (-1) σ' ∧ Fr sT σ σ' := by
  intro k
  induction k with
  | zero =>
    intro m σ hs _ h2 h4
    obtain ⟨m, rfl⟩ : ∃ m', m = m' + 1 := ⟨m - 1, by omega⟩
    rw [f_X10_turns_L7.eq_2]
    exact ⟨σ, by rw [nI_0, show (0 : Int32) - 1 = -1 from rfl, if_pos (by decide)], Fr.rf⟩
  | succ k ih =>
    intro m σ hs h1 h2 h4
    obtain ⟨m, rfl⟩ : ∃ m', m = m' + 1 := ⟨m - 1, by omega⟩
    have hs' := hs
    unfold ShD at hs
    rw [nI_pred, f_X10_turns_L7.eq_2]
    have e0 : (nI k < 0) = False := by rw [eq_iff_iff]; exact ⟨fun h => absurd h (nI_pos (by omega)), False.elim⟩
    have e1 : nI mm = nI (mm + 1) - 1 := (nI_pred mm).symm
    have hF : Fr sT σ (eb_sI σ 110 k 0) := Fr.sI rfl
    obtain ⟨σ', g1, g2⟩ := ih m (eb_sI σ 110 k 0) (hF.shD hs') (by omega) (fun u h5 => by rw [eb_I_sI, if_pos rfl, if_neg (by omega)]; exact h2 u (by omega)) (by omega)
    refine ⟨σ', ?_, hF.tr g2⟩
    have e2 : nI k + (-1) = nI k - 1 := (Int32.sub_eq_add_neg _ _).symm
    simp [eb_cl_s, eb_b0, eb_b1, eb_jn_e, eb_tg, eb_ts, eb_d3, eb_gI, eb_gR, eb_pI, eb_pZ, eb_pR, eb_ai, eb_ac, eb_al, eb_ar, eb_wi, eb_wc, eb_wl, eb_wr, eb_ln, eb_xi, eb_zb, eb_sw, eb_lw, hs, e0, p_in (show k < 10 by omega) (by decide : 10 < 2 ^ 31), p_cl (show k < 2 ^ 31 by omega), h2 k (by omega), ← e1, e2, g1]
/-- turning on: at the last place that isn't full -/
theorem d_turns {n : Nat} (hn : 100 ≤ n) {mm : Nat} (hmm : mm < 3) {A : Nat → Nat → Nat} (w : wf A) {σ : eb_S} (hs : ShD σ) (hD : MD A σ) {p : Nat → Nat} (hr : TR (aN A) p σ) {t : Nat} (ht : t < aN A) (hp : p t < mm) (hf : ∀ u, t < u → u < aN A → p u = mm) : ∃ σ', f_X10_turns n 91 (nI (mm + 1)) σ = some (true, σ') ∧ Fr sT σ σ' ∧ TR (aN A) (rfil (aN A) (t + 1) 0 (rup p t (p t + 1))) σ' := by
  have wN := w.1
  have hN := hD.1
  obtain ⟨k, hk⟩ : ∃ k, aN A = t + k + 1 := ⟨aN A - t - 1, by omega⟩
  obtain ⟨σ1, g1, g2, g3⟩ := d_turns_L (n := n) hmm (N := aN A) (by omega) (K := fun w6 s7 => eb_jn (fun (s8 : eb_S) => if w6 < 0 then (some (false, s8)) else (some (true, s8))) fun j9 => if w6 < 0 then (j9 s7) else (eb_gR s7 [9] 91 29 fun r10 => eb_ai s7 r10 w6 fun x11 => eb_wi s7 r10 w6 (x11 + 1) fun s12 => j9 s12)) k t n σ hs (by omega) (fun u h1 h2 => by rw [(hr u (by omega)).1, hf u h1 (by omega)]) ⟨p t, hp, (hr t ht).1⟩ (by omega)
  have hs1 := g2.shD hs
  have hF : Fr sT σ1 (eb_sI σ1 110 t (nI (p t + 1))) := Fr.sI rfl
  refine ⟨eb_sI σ1 110 t (nI (p t + 1)), ?_, g2.tr hF, fun u hu => ?_⟩
  · have hs2 := hs
    unfold ShD at hs hs1
    unfold f_X10_turns
    simp only [eb_gI, hs, hN, List.mem_singleton, if_true]
    rw [hk, nI_pred, g1]
    have e0 : (nI t < 0) = False := by rw [eq_iff_iff]; exact ⟨fun h => absurd h (nI_pos (by omega)), False.elim⟩
    have et : eb_I σ1 110 t = nI (p t) := by rw [g3 t, if_neg (by omega)]; exact (hr t ht).1
    simp [eb_cl_s, eb_b0, eb_b1, eb_jn_e, eb_tg, eb_ts, eb_d3, eb_gI, eb_gR, eb_pI, eb_pZ, eb_pR, eb_ai, eb_ac, eb_al, eb_ar, eb_wi, eb_wc, eb_wl, eb_wr, eb_ln, eb_xi, eb_zb, eb_sw, eb_lw, hs1, e0, p_in (show t < 10 by omega) (by decide : 10 < 2 ^ 31), p_cl (show t < 2 ^ 31 by omega), et, nI_1]
  · rw [eb_I_sI, if_pos rfl]
    unfold rfil rup
    by_cases e : u = t
    · rw [if_pos e, if_neg (by omega), if_pos e]
      exact ⟨rfl, by omega⟩
    · rw [if_neg e, g3 u]
      by_cases h5 : t < u
      · rw [if_pos ⟨h5, by omega⟩, if_pos ⟨by omega, hu⟩]
        exact ⟨nI_0.symm, by omega⟩
      · rw [if_neg (by omega), if_neg (by omega), if_neg e]
        exact hr u hu
theorem d_turnsE {n : Nat} (hn : 100 ≤ n) {mm : Nat} (hmm : mm < 3) {A : Nat → Nat → Nat} (w : wf A) {σ : eb_S} (hs : ShD σ) (hD : MD A σ) {p : Nat → Nat} (hr : TR (aN A) p σ) (hf : ∀ u, u < aN A → p u = mm) : ∃ σ', f_X10_turns n 91 (nI (mm + 1)) σ = some (false, σ') ∧ Fr sT σ σ' := by
  have wN := w.1
  have hN := hD.1
  obtain ⟨σ1, g1, g2⟩ := d_turns_E (n := n) hmm (K := fun w6 s7 => eb_jn (fun (s8 : eb_S) => if w6 < 0 then (some (false, s8)) else (some (true, s8))) fun j9 => if w6 < 0 then (j9 s7) else (eb_gR s7 [9] 91 29 fun r10 => eb_ai s7 r10 w6 fun x11 => eb_wi s7 r10 w6 (x11 + 1) fun s12 => j9 s12)) (aN A) n σ hs wN (fun u h1 => by rw [(hr u h1).1, hf u h1]) (by omega)
  refine ⟨σ1, ?_, g2⟩
  unfold ShD at hs
  unfold f_X10_turns
  simp only [eb_gI, hs, hN, List.mem_singleton, if_true]
  rw [g1]
  simp [eb_jn]
