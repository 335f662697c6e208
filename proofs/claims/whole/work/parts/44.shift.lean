/-! ===== pure: a search's loads ===== -/
def LD (A : Nat → Nat → Nat) (p : Nat → Nat) (t v : Nat) (σ : eb_S) : Prop := ∀ j, j < 15 → eb_I σ (v + 3) j = if j / 3 < aS A then nI (ldB A p (j % 3) (j / 3) t) else 0
theorem LD.at {A : Nat → Nat → Nat} {p : Nat → Nat} {t v : Nat} {σ : eb_S} (h : LD A p t v σ) (w : wf A) {s b : Nat} (hs : s < aS A) (hb : b < 3) : eb_I σ (v + 3) (s * 3 + b) = nI (ldB A p b s t) := by
  have wS := w.2.2.1
  rw [h (s * 3 + b) (by omega), if_pos (by omega), show (s * 3 + b) % 3 = b by omega, show (s * 3 + b) / 3 = s by omega]
def sL (v k _j : Nat) : Prop := k = v + 3
theorem nX_sL {v : Nat} (hv : 25 ≤ v) : nX (sL v) := fun k j h => by unfold sL at h; omega
theorem AH.fr {A : Nat → Nat → Nat} {v t : Nat} {σ σ' : eb_S} {S : Nat → Nat → Prop} (hF : Fr S σ σ') (h : ∀ j, ¬ S (v + 4) j) (hA : AH A v t σ) : AH A v t σ' := fun u s h1 h2 h3 => by rw [hF.2.2.2.2.2 _ _ (h _)]; exact hA u s h1 h2 h3
set_option maxHeartbeats 2000000 in
theorem x_shift_L {A : Nat → Nat → Nat} (w : wf A) {v n t b : Nat} (hv25 : 25 ≤ v) (ht : t < aN A) (hb : b < 3) {x : Int32} : ∀ (m s : Nat) (σ : eb_S), SS v σ → ShM9 σ → MX9 A σ → AH A v 0 σ → s ≤ aS A → aS A < s + m → ∃ σ', f_X6_shift_L3 n v (nI t) (nI b) x m (nI s) σ = some ((), σ') ∧ Fr (sL v) σ σ' ∧ ∀ j, eb_I σ' (v + 3) j = eb_I σ (v + 3) j + (if j % 3 = b ∧ s ≤ j / 3 ∧ j / 3 < aS A then x * nI (ldT A t (j / 3)) else 0) := by
  intro m
  induction m with
  | zero => intro s σ _ _ _ _ h1 h2; omega
  | succ m ih =>
    intro s σ hv hs hX hA h1 h2
    have hS := hX.2.2.2.2.2.2.1
    have wN := w.1
    have wS := w.2.2.1
    have hv' := hv
    have hs' := hs
    unfold SS at hv
    unfold ShM9 at hs
    rw [f_X6_shift_L3.eq_2]
    simp only [eb_gR, eb_gI, hv, hs, hS, List.mem_singleton, p_leN (show aS A < 2 ^ 31 by omega) (show s < 2 ^ 31 by omega)]
    by_cases h : aS A ≤ s
    · refine ⟨σ, by simp [h], Fr.rf, fun j => ?_⟩
      rw [if_neg (by omega), Int32.add_zero]
    · have h5 : s < aS A := by omega
      have hF : Fr (sL v) σ (eb_sI σ (v + 3) (s * 3 + b) (eb_I σ (v + 3) (s * 3 + b) + x * nI (ldT A t s))) := Fr.sI rfl
      obtain ⟨σ', g1, g2, g3⟩ := ih (s + 1) _ (hF.ss hv') (hF.shM9 hs') (hF.mx (nX_sL hv25) hX) (hA.fr hF (fun j z => by unfold sL at z; omega)) (by omega) (by omega)
      refine ⟨σ', ?_, hF.tr g2, fun j => ?_⟩
      · have e1 := x_loadAhead hv' hs' hX w hA (t := t) (s := s) (Nat.zero_le _) (by omega) h5
        have e2 := x_loadAhead hv' hs' hX w hA (t := t + 1) (s := s) (Nat.zero_le _) (by omega) h5
        have e3 : nI (ahd A s t) - nI (ahd A s (t + 1)) = nI (ldT A t s) := by
          rw [ahd_step ht, pk_sub (by omega)]
          congr 1
          omega
        have h9 : eb_T σ v = 0 ∨ eb_T σ v = 4 ∨ eb_T σ v = 5 := by simpa using hv.1
        simp [h, eb_ts, eb_ai, nI_1, e1, e2, e3, eb_cl_s, eb_wi, p_x3, p_in (show s * 3 + b < 15 by omega) (by decide : 15 < 2 ^ 31), p_cl (show s * 3 + b < 2 ^ 31 by omega), g1, hv, hs, h9]
      · rw [g3 j, eb_I_sI, if_pos rfl]
        by_cases e : j = s * 3 + b
        · rw [if_pos e, if_neg (by omega), if_pos (by omega), Int32.add_zero, e, show (s * 3 + b) / 3 = s by omega]
        · rw [if_neg e]
          congr 1
          by_cases e2 : j % 3 = b ∧ s + 1 ≤ j / 3 ∧ j / 3 < aS A
          · rw [if_pos e2, if_pos ⟨e2.1, by omega, e2.2.2⟩]
          · rw [if_neg e2, if_neg (by omega)]
theorem x_shift {A : Nat → Nat → Nat} (w : wf A) {v n t b : Nat} (hn : 100 ≤ n) (hv25 : 25 ≤ v) (ht : t < aN A) (hb : b < 3) {x : Int32} {σ : eb_S} (hv : SS v σ) (hs : ShM9 σ) (hX : MX9 A σ) (hA : AH A v 0 σ) : ∃ σ', f_X6_shift n v (nI t) (nI b) x σ = some ((), σ') ∧ Fr (sL v) σ σ' ∧ ∀ j, eb_I σ' (v + 3) j = eb_I σ (v + 3) j + (if j % 3 = b ∧ j / 3 < aS A then x * nI (ldT A t (j / 3)) else 0) := by
  have wS := w.2.2.1
  obtain ⟨σ', g1, g2, g3⟩ := x_shift_L w (n := n) hv25 ht hb (x := x) n 0 σ hv hs hX hA (by omega) (by omega)
  refine ⟨σ', by rw [nI_0] at g1; exact g1, g2, fun j => ?_⟩
  rw [g3 j]
  congr 1
  by_cases e : j % 3 = b ∧ j / 3 < aS A
  · rw [if_pos e, if_pos ⟨e.1, by omega, e.2⟩]
  · rw [if_neg e, if_neg (by omega)]
/-- one more thing lies in its bag -/
theorem LD.up {A : Nat → Nat → Nat} {p : Nat → Nat} {t v b : Nat} {σ σ' : eb_S} (h : LD A p t v σ) (hb : p t = b) (hI : ∀ j, eb_I σ' (v + 3) j = eb_I σ (v + 3) j + (if j % 3 = b ∧ j / 3 < aS A then 1 * nI (ldT A t (j / 3)) else 0)) : LD A p (t + 1) v σ' := by
  intro j hj
  rw [hI j, h j hj]
  by_cases e : j / 3 < aS A
  · rw [if_pos e, if_pos e]
    show _ = nI (ldB A p (j % 3) (j / 3) t + if p t = j % 3 then ldT A t (j / 3) else 0)
    by_cases e2 : j % 3 = b
    · rw [if_pos ⟨e2, e⟩, if_pos (by omega), Int32.one_mul, nI_add]
    · rw [if_neg (fun z => e2 z.1), if_neg (by omega), Int32.add_zero, Nat.add_zero]
  · rw [if_neg e, if_neg e, if_neg (fun z => e z.2), Int32.add_zero]
theorem LD.down {A : Nat → Nat → Nat} {p : Nat → Nat} {t v b : Nat} {σ σ' : eb_S} (h : LD A p (t + 1) v σ) (hb : p t = b) (hI : ∀ j, eb_I σ' (v + 3) j = eb_I σ (v + 3) j + (if j % 3 = b ∧ j / 3 < aS A then (-1) * nI (ldT A t (j / 3)) else 0)) : LD A p t v σ' := by
  intro j hj
  rw [hI j, h j hj]
  by_cases e : j / 3 < aS A
  · rw [if_pos e, if_pos e]
    show nI (ldB A p (j % 3) (j / 3) t + if p t = j % 3 then ldT A t (j / 3) else 0) + _ = _
    by_cases e2 : j % 3 = b
    · rw [if_pos (show p t = j % 3 by omega), if_pos ⟨e2, e⟩, ← nI_add, show (-1 : Int32) * nI (ldT A t (j / 3)) = - nI (ldT A t (j / 3)) by rw [Int32.neg_mul, Int32.one_mul], Int32.add_assoc, Int32.add_right_neg, Int32.add_zero]
    · rw [if_neg (show ¬ p t = j % 3 by omega), if_neg (fun z => e2 z.1), Int32.add_zero, Nat.add_zero]
  · rw [if_neg e, if_neg e, if_neg (fun z => e z.2), Int32.add_zero]
theorem ldB_cong {A : Nat → Nat → Nat} {p q : Nat → Nat} {b s : Nat} : ∀ t, (∀ u, u < t → q u = p u) → ldB A q b s t = ldB A p b s t
  | 0, _ => rfl
  | t + 1, h => by
    show ldB A q b s t + _ = ldB A p b s t + _
    rw [ldB_cong t (fun u hu => h u (by omega)), h t (by omega)]
theorem LD.cong {A : Nat → Nat → Nat} {p q : Nat → Nat} {t v : Nat} {σ : eb_S} (h : LD A p t v σ) (hq : ∀ u, u < t → q u = p u) : LD A q t v σ := fun j hj => by rw [h j hj, ldB_cong t hq]
theorem LD.fr {A : Nat → Nat → Nat} {p : Nat → Nat} {t v : Nat} {σ σ' : eb_S} {S : Nat → Nat → Prop} (h : LD A p t v σ) (hF : Fr S σ σ') (hS : ∀ j, ¬ S (v + 3) j) : LD A p t v σ' := fun j hj => by rw [hF.2.2.2.2.2 _ _ (hS j)]; exact h j hj
set_option maxHeartbeats 2000000 in
theorem x_still_L {A : Nat → Nat → Nat} (w : wf A) {v n t b : Nat} (ht : t ≤ aN A) (hb : b < 3) {p : Nat → Nat} {σ : eb_S} (hv : SS v σ) (hs : ShM9 σ) (hX : MX9 A σ) (hL : LD A p t v σ) : ∀ (m s : Nat), s ≤ aS A → aS A < s + m → ∃ c, f_X6_stillHolds_L2 n v (nI b) m (nI s) σ = some (c, σ) ∧ (c = true ↔ ∀ s', s ≤ s' → s' < aS A → ldB A p b s' t ≤ aH A b) := by
  intro m
  induction m with
  | zero => intro s h1 h2; omega
  | succ m ih =>
    intro s h1 h2
    have hS := hX.2.2.2.2.2.2.1
    have hH := hX.2.2.2.2.2.2.2.2.2.1
    have wN := w.1
    have wS := w.2.2.1
    have wH := (w.2.2.2.2.1 b hb).1
    have hv' := hv
    unfold SS at hv
    unfold ShM9 at hs
    rw [f_X6_stillHolds_L2.eq_2]
    simp only [eb_gR, eb_gI, hv, hs, hS, List.mem_singleton, p_leN (show aS A < 2 ^ 31 by omega) (show s < 2 ^ 31 by omega)]
    by_cases h : aS A ≤ s
    · exact ⟨true, by simp [h], by rw [all_end h]; simp⟩
    · have h5 : s < aS A := by omega
      have lb := ldB_le w p b s t ht
      obtain ⟨c, g1, g2⟩ := ih (s + 1) (by omega) (by omega)
      have e1 : (nI (ldB A p b s t) ≤ nI (aH A b)) = (ldB A p b s t ≤ aH A b) := p_leN (by omega) (by omega)
      by_cases h6 : ldB A p b s t ≤ aH A b
      · refine ⟨c, ?_, ?_⟩
        · simp [h, eb_ai, nI_1, p_x3, p_in (show s * 3 + b < 15 by omega) (by decide : 15 < 2 ^ 31), p_cl (show s * 3 + b < 2 ^ 31 by omega), p_in (show b < 3 by omega) (by decide : 3 < 2 ^ 31), p_cl (show b < 2 ^ 31 by omega), g1, hv, hs, hL.at w h5 hb, hH b hb, e1, h6]
        · rw [g2, all_step h5]
          exact ⟨fun z => ⟨h6, z⟩, fun z => z.2⟩
      · refine ⟨false, ?_, ?_⟩
        · simp [h, eb_ai, nI_1, p_x3, p_in (show s * 3 + b < 15 by omega) (by decide : 15 < 2 ^ 31), p_cl (show s * 3 + b < 2 ^ 31 by omega), p_in (show b < 3 by omega) (by decide : 3 < 2 ^ 31), p_cl (show b < 2 ^ 31 by omega), hv, hs, hL.at w h5 hb, hH b hb, e1, h6]
        · rw [all_step h5]
          exact ⟨fun z => absurd z Bool.false_ne_true, fun z => absurd z.1 h6⟩
theorem x_still {A : Nat → Nat → Nat} (w : wf A) {v n t b : Nat} (hn : 100 ≤ n) (ht : t ≤ aN A) (hb : b < 3) {p : Nat → Nat} {σ : eb_S} (hv : SS v σ) (hs : ShM9 σ) (hX : MX9 A σ) (hL : LD A p t v σ) : ∃ c, f_X6_stillHolds n v (nI b) σ = some (c, σ) ∧ (c = true ↔ ∀ s', s' < aS A → ldB A p b s' t ≤ aH A b) := by
  have wS := w.2.2.1
  obtain ⟨c, g1, g2⟩ := x_still_L w (n := n) ht hb hv hs hX hL n 0 (by omega) (by omega)
  exact ⟨c, by rw [nI_0] at g1; exact g1, by rw [g2]; exact ⟨fun z s' h => z s' (by omega) h, fun z s' _ h => z s' h⟩⟩
