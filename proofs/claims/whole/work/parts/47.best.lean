/-! ===== pure: the component's best ===== -/
/-- all the search's loads are 0 again -/
def LZ (v : Nat) (σ : eb_S) : Prop := ∀ j, j < 15 → eb_I σ (v + 3) j = 0
theorem LZ.ld {A : Nat → Nat → Nat} {p : Nat → Nat} {v : Nat} {σ : eb_S} (h : LZ v σ) : LD A p 0 v σ := fun j hj => by
  rw [h j hj]
  show 0 = if j / 3 < aS A then nI 0 else 0
  rw [nI_0]; split <;> rfl
theorem LD.lz {A : Nat → Nat → Nat} {p : Nat → Nat} {v : Nat} {σ : eb_S} (h : LD A p 0 v σ) : LZ v σ := fun j hj => by
  rw [h j hj]
  show (if j / 3 < aS A then nI 0 else 0) = 0
  rw [nI_0]; split <;> rfl
def s5 (v k _j : Nat) : Prop := k = v
theorem s5_sv {v : Nat} : ∀ k j, s5 v k j → sv v k j := fun k j h => by unfold s5 at h; unfold sv; omega
def sbg (v k j : Nat) : Prop := (k = v ∧ j = 5) ∨ k = v + 4
set_option maxHeartbeats 2000000 in
/-- a search that is asked anew -/
theorem x_solve {A : Nat → Nat → Nat} (w : wf A) {n v : Nat} (hn : 100 ≤ n) (hv25 : 25 ≤ v) {S : Type} {g : (Nat → Nat) → S → S} {K : S → eb_S → Prop} (ok : SearchOk A n v S g K) {i0 : S} {σ : eb_S} (hv : SS v σ) (hs : ShM9 σ) (hX : MX9 A σ) (hZ : LZ v σ) (hne : eb_I σ v 5 ≠ eb_I σ 9 0)
    (hbeg : ∀ σ', Fr (sbg v) σ σ' → eb_I σ' v 5 = eb_I σ 9 0 → ∃ σ'', eb_d3 σ' v 0 4 5 (f_X0_begin v σ') (f_X4_begin v σ') (f_X5_begin v σ') = some ((), σ'') ∧ Fr (s5 v) σ' σ'' ∧ K i0 σ'') : ∃ σ', f_X6_solve n v σ = some ((), σ') ∧ Fr (sv v) σ σ' ∧ K (en g [0, 1, 2] (aN A) 0 (fun _ => 0) i0) σ' ∧ LZ v σ' := by
  have wN := w.1
  have hF1 : Fr (s5 v) σ (eb_sI σ v 5 (eb_I σ 9 0)) := Fr.sI rfl
  have hF1v := hF1.mono s5_sv
  obtain ⟨σ2, a1, a2, a3⟩ := x_weighAhead w hn hv25 (hF1.ss hv) (hF1.shM9 hs) (hF1v.mx (nX_sv hv25) hX)
  have a2v := a2.mono (sW_sv (v := v))
  obtain ⟨σ3, b1, b2, b3⟩ := hbeg σ2 ((Fr.sI (Or.inl ⟨rfl, rfl⟩)).tr (a2.mono (fun k j h => Or.inr h))) (by rw [a2.2.2.2.2.2 _ _ (fun z => by unfold sW at z; omega), eb_I_sI, if_pos rfl, if_pos rfl])
  have b2v := b2.mono (s5_sv (v := v))
  have hF3 := hF1v.tr (a2v.tr b2v)
  have hL3 : LZ v σ3 := fun j hj => by
    rw [b2.2.2.2.2.2 _ _ (fun z => by unfold s5 at z; omega), a2.2.2.2.2.2 _ _ (fun z => by unfold sW at z; omega), hF1.2.2.2.2.2 _ _ (fun z => by unfold s5 at z; omega)]
    exact hZ j hj
  have hv3 := hF3.ss hv
  have hI3 : PI A (fun _ => 0) 0 v σ3 := ⟨hv3, hF3.shM9 hs, hF3.mx (nX_sv hv25) hX, a3.fr b2 (fun j z => by unfold s5 at z; omega), hL3.ld, by unfold SS at hv3; exact ⟨by simp [hv3], by simp [hv3], fun u hu => by omega⟩⟩
  obtain ⟨σ4, c1, c2, c3, c4⟩ := x_place w hn hv25 ok (aN A) 0 (by omega) 12 (by omega) (fun _ => 0) i0 σ3 hI3 PO.zero b3
  refine ⟨σ4, ?_, hF3.tr c4, c3, c2.2.2.2.2.1.lz⟩
  have hv1 := hF1.ss hv
  have hv2 := a2.ss hv1
  unfold SS at hv hv1 hv2 hv3
  unfold ShM9 at hs
  rw [nI_0] at c1
  unfold f_X6_solve
  simp only [eb_gI, eb_gR, eb_pI, eb_ts, hv, hs, hne, if_false, true_and, ne_eq, show ¬ (9 : Nat) = 0 by decide, not_false_eq_true, if_true, List.mem_singleton, hv1, a1, eb_cl_s, b1, hv3, c1]
theorem x_solved {n v : Nat} {σ : eb_S} (hv : SS v σ) (hs : ShM9 σ) (he : eb_I σ v 5 = eb_I σ 9 0) : f_X6_solve n v σ = some ((), σ) := by
  unfold SS at hv
  unfold ShM9 at hs
  unfold f_X6_solve
  simp only [eb_gI, eb_gR, hv, hs, he, true_and, ne_eq, show ¬ (9 : Nat) = 0 by decide, not_false_eq_true, if_true, List.mem_singleton]
def nw (A : Nat → Nat → Nat) (p : Nat → Nat) (t : Nat) : Nat → Nat
  | 0 => 0
  | s + 1 => max (nw A p t s) (near A p s t)
def nh (A : Nat → Nat → Nat) (p : Nat → Nat) (t : Nat) : Nat → Nat
  | 0 => 0
  | s + 1 => nh A p t s + near A p s t * aY A s * (1 + aU A s)
theorem nw_le {A : Nat → Nat → Nat} {p q : Nat → Nat} {t : Nat} (ht : t ≤ aN A) (hq : goon A p t q) : ∀ s, nw A p t s ≤ wst A q s
  | 0 => Nat.le_refl _
  | s + 1 => by
    have h1 := nw_le ht hq s
    have h2 := near_le (s := s) ht hq
    show max (nw A p t s) (near A p s t) ≤ max (wst A q s) (off A q s).natAbs
    omega
theorem nh_le {A : Nat → Nat → Nat} {p q : Nat → Nat} {t : Nat} (ht : t ≤ aN A) (hq : goon A p t q) : ∀ s, nh A p t s ≤ whl A q s
  | 0 => Nat.le_refl _
  | s + 1 => Nat.add_le_add (nh_le ht hq s) (Nat.mul_le_mul_right _ (Nat.mul_le_mul_right _ (near_le (s := s) ht hq)))
theorem nw_end {A : Nat → Nat → Nat} {p : Nat → Nat} : ∀ s, nw A p (aN A) s = wst A p s
  | 0 => rfl
  | s + 1 => by
    show max (nw A p (aN A) s) (near A p s (aN A)) = max (wst A p s) (off A p s).natAbs
    rw [nw_end s, near_end]
theorem nh_end {A : Nat → Nat → Nat} {p : Nat → Nat} : ∀ s, nh A p (aN A) s = whl A p s
  | 0 => rfl
  | s + 1 => by
    show nh A p (aN A) s + near A p s (aN A) * aY A s * (1 + aU A s) = whl A p s + (off A p s).natAbs * aY A s * (1 + aU A s)
    rw [nh_end s, near_end]
/-- what is kept of the best row -/
def kB (A : Nat → Nat → Nat) (c : Int32) (acc : Option (Nat × Nat × (Nat → Nat))) (σ : eb_S) : Prop := eb_T σ 59 = 0 ∧ eb_I σ 59 5 = c ∧ match acc with
  | none => eb_I σ 59 6 = 0
  | some (w0, h0, q) => eb_I σ 59 6 = 1 ∧ eb_I σ 59 7 = nI w0 ∧ eb_I σ 59 8 = nI h0 ∧ w0 < 2 ^ 31 ∧ h0 < 2 ^ 31 ∧ ∀ u, u < aN A → eb_I σ 61 u = nI (q u) ∧ q u < 3
theorem kB.fr {A : Nat → Nat → Nat} {c : Int32} {acc : Option (Nat × Nat × (Nat → Nat))} {σ σ' : eb_S} {S : Nat → Nat → Prop} (h : kB A c acc σ) (hF : Fr S σ σ') (h1 : ∀ j, 5 ≤ j → j ≤ 8 → ¬ S 59 j) (h2 : ∀ j, ¬ S 61 j) : kB A c acc σ' := by
  obtain ⟨a1, a2, a3⟩ := h
  refine ⟨by rw [hF.1]; exact a1, by rw [hF.2.2.2.2.2 _ _ (h1 5 (by decide) (by decide))]; exact a2, ?_⟩
  match acc, a3 with
  | none, a3 => show eb_I σ' 59 6 = 0; rw [hF.2.2.2.2.2 _ _ (h1 6 (by decide) (by decide))]; exact a3
  | some (w0, h0, q), ⟨b1, b2, b3, b4, b5, b6⟩ => exact ⟨by rw [hF.2.2.2.2.2 _ _ (h1 6 (by decide) (by decide))]; exact b1, by rw [hF.2.2.2.2.2 _ _ (h1 7 (by decide) (by decide))]; exact b2, by rw [hF.2.2.2.2.2 _ _ (h1 8 (by decide) (by decide))]; exact b3, b4, b5, fun u hu => by rw [hF.2.2.2.2.2 _ _ (h2 u)]; exact b6 u hu⟩
theorem PI.fr {A : Nat → Nat → Nat} {p : Nat → Nat} {t v : Nat} {σ σ' : eb_S} {S : Nat → Nat → Prop} (h : PI A p t v σ) (hF : Fr S σ σ') (hX : nX S) (h1 : ∀ j, ¬ S (v + 1) j) (h3 : ∀ j, ¬ S (v + 3) j) (h4 : ∀ j, ¬ S (v + 4) j) : PI A p t v σ' := by
  obtain ⟨a1, a2, a3, a4, a5, a6⟩ := h
  exact ⟨hF.ss a1, hF.shM9 a2, hF.mx hX a3, a4.fr hF h4, a5.fr hF h3, ⟨by rw [hF.1]; exact a6.1, by rw [hF.2.2.1]; exact a6.2.1, fun u hu => by rw [hF.2.2.2.2.2 _ _ (h1 u)]; exact a6.2.2 u hu⟩⟩
def s9 (k j : Nat) : Prop := k = 59 ∧ (j = 9 ∨ j = 10)
theorem nX_s9 : nX s9 := fun k j h => by unfold s9 at h; omega
set_option maxHeartbeats 4000000 in
theorem x_hop0_L {A : Nat → Nat → Nat} (w : wf A) {n t : Nat} {p : Nat → Nat} (ht : t ≤ aN A) {K : eb_S → Option (Bool × eb_S)} : ∀ (m s : Nat) (σ : eb_S), PI A p t 59 σ → eb_T σ 59 = 0 → eb_I σ 59 9 = nI (nw A p t s) → eb_I σ 59 10 = nI (nh A p t s) → s ≤ aS A → aS A < s + m → ∃ σ', f_X0_isHopeless_L12 n 59 (nI t) K m (nI s) σ = K σ' ∧ Fr s9 σ σ' ∧ eb_I σ' 59 9 = nI (nw A p t (aS A)) ∧ eb_I σ' 59 10 = nI (nh A p t (aS A)) := by
  intro m
  induction m with
  | zero => intro s σ _ _ _ _ h1 h2; omega
  | succ m ih =>
    intro s σ hI hT h9 h10 h1 h2
    obtain ⟨hv, hs, hX, hA, hL, hR⟩ := id hI
    have hS := hX.2.2.2.2.2.2.1
    have hY := hX.2.2.2.2.2.2.2.1
    have wS := w.2.2.1
    have hv' := hv
    have hs' := hs
    unfold SS at hv
    unfold ShM9 at hs
    rw [f_X0_isHopeless_L12.eq_2]
    simp only [eb_gR, eb_gI, hv, hs, hS, hT, List.mem_singleton, p_leN (show aS A < 2 ^ 31 by omega) (show s < 2 ^ 31 by omega)]
    by_cases h : aS A ≤ s
    · have : s = aS A := by omega
      subst this
      exact ⟨σ, by simp, Fr.rf, h9, h10⟩
    · have h5 : s < aS A := by omega
      have nb := near_bd w p s ht
      have nwb : nw A p t s ≤ wst A p s := nw_le ht (fun u _ => rfl) s
      have wb := wst_le w p s
      have e1 := x_near w hv' hs' hX hA hL ht h5
      have F1 : Fr s9 σ (eb_sI σ 59 9 (nI (nw A p t (s + 1)))) := Fr.sI (by unfold s9; omega)
      have F2 : Fr s9 (eb_sI σ 59 9 (nI (nw A p t (s + 1)))) (eb_sI (eb_sI σ 59 9 (nI (nw A p t (s + 1)))) 59 10 (nI (nh A p t (s + 1)))) := Fr.sI (by unfold s9; omega)
      have e2 := x_steep (F1.shM9 hs') (F1.mx nX_s9 hX) w h5
      obtain ⟨σ', g1, g2, g3, g4⟩ := ih (s + 1) _ (hI.fr (F1.tr F2) nX_s9 (fun j z => by unfold s9 at z; omega) (fun j z => by unfold s9 at z; omega) (fun j z => by unfold s9 at z; omega)) hT (by simp [eb_I_sI]) (by simp [eb_I_sI]) (by omega) (by omega)
      refine ⟨σ', ?_, F1.tr (F2.tr g2), g3, g4⟩
      have e3 : (if nI (nw A p t s) < nI (near A p s t) then nI (near A p s t) else nI (nw A p t s)) = nI (nw A p t (s + 1)) := p_maxN (by omega) (by omega)
      have e4 : nI (nh A p t s) + nI (near A p s t) * nI (aY A s) * nI (1 + aU A s) = nI (nh A p t (s + 1)) := by rw [pk_mul, pk_mul, nI_add]; rfl
      simp [h, eb_tg, hT, e1, eb_cl_s, eb_gI, eb_pI, eb_ai, hv, hs, h9, e3, eb_T_sI, eb_R_sI, eb_L_sI, eb_J_sI, eb_N_sI, eb_T_sJ, eb_R_sJ, eb_L_sJ, eb_I_sJ, eb_N_sJ, eb_T_rI, eb_R_rI, eb_L_rI, eb_J_rI, eb_N_rI, eb_T_rJ, eb_R_rJ, eb_L_rJ, eb_I_rJ, eb_N_rJ, eb_I_sI, h10, p_in (show s < 5 by omega) (by decide : 5 < 2 ^ 31), p_cl (show s < 2 ^ 31 by omega), hY s h5, e2, e4, nI_1, g1]
