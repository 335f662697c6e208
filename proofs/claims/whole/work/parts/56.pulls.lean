/-! ===== pure: the component's search for told pulls ===== -/
def bitc (t : Nat) : Int32 := ((1 : Int32) <<< (nI t &&& 31)) ^^^ (-1)
def mfull (N : Nat) : Int32 := ((1 : Int32) <<< (nI N &&& 31)) - 1
def mskI (f g : Nat → Int32) : Nat → Int32 → Int32
  | 0, k => k
  | t + 1, k => if f t = g t then mskI f g t k else mskI f g t k &&& bitc t
def msk (p q : Nat → Nat) : Nat → Int32 → Int32
  | 0, k => k
  | t + 1, k => if p t = q t then msk p q t k else msk p q t k &&& bitc t
theorem msk_eq {f g : Nat → Int32} {p q : Nat → Nat} {k : Int32} : ∀ t, (∀ u, u < t → f u = nI (p u) ∧ p u < 3) → (∀ u, u < t → g u = nI (q u) ∧ q u < 3) → mskI f g t k = msk p q t k
  | 0, _, _ => rfl
  | t + 1, h1, h2 => by
    have ih := msk_eq (f := f) (g := g) (p := p) (q := q) (k := k) t (fun u hu => h1 u (by omega)) (fun u hu => h2 u (by omega))
    show (if f t = g t then mskI f g t k else mskI f g t k &&& bitc t) = if p t = q t then msk p q t k else msk p q t k &&& bitc t
    have a := h1 t (by omega)
    have b := h2 t (by omega)
    have e : (f t = g t) ↔ (p t = q t) := by rw [a.1, b.1, nI_eq (by omega) (by omega)]
    rw [ih]
    by_cases h : p t = q t
    · rw [if_pos (e.mpr h), if_pos h]
    · rw [if_neg (fun z => h (e.mp z)), if_neg h]
theorem msk_same {p : Nat → Nat} {k : Int32} : ∀ t, msk p p t k = k
  | 0 => rfl
  | t + 1 => by
    show (if p t = p t then msk p p t k else _) = k
    rw [if_pos rfl]; exact msk_same t
def pok (A : Nat → Nat → Nat) (tl : Nat → Int64) (p : Nat → Nat) : Prop := ∀ s, s < aS A → off A p s = (tl s).toInt
def pt (A : Nat → Nat → Nat) (p : Nat → Nat) (acc : Nat × (Nat → Nat) × Int32) : Nat × (Nat → Nat) × Int32 := if acc.1 = 0 then (1, p, mfull (aN A)) else (acc.1 + 1, acc.2.1, msk p acc.2.1 (aN A) acc.2.2)
noncomputable def gP (A : Nat → Nat → Nat) (tl : Nat → Int64) (p : Nat → Nat) (acc : Nat × (Nat → Nat) × Int32) : Nat × (Nat → Nat) × Int32 := @ite _ (lawfulP A p ∧ pok A tl p) (Classical.propDecidable _) (pt A p acc) acc
theorem gP_t {A : Nat → Nat → Nat} {tl : Nat → Int64} {p : Nat → Nat} (h : lawfulP A p ∧ pok A tl p) (acc : Nat × (Nat → Nat) × Int32) : gP A tl p acc = pt A p acc := by unfold gP; rw [if_pos h]
theorem gP_f {A : Nat → Nat → Nat} {tl : Nat → Int64} {p : Nat → Nat} (h : ¬ (lawfulP A p ∧ pok A tl p)) (acc : Nat × (Nat → Nat) × Int32) : gP A tl p acc = acc := by unfold gP; rw [if_neg h]
def pini (A : Nat → Nat → Nat) : Nat × (Nat → Nat) × Int32 := (0, fun _ => 0, mfull (aN A))
noncomputable def bP (A : Nat → Nat → Nat) (tl : Nat → Int64) : Nat × (Nat → Nat) × Int32 := en (gP A tl) [0, 1, 2] (aN A) 0 (fun _ => 0) (pini A)
/-- each row counts for one at most -/
theorem en_cnt {A : Nat → Nat → Nat} {tl : Nat → Int64} : ∀ (d t : Nat) (p : Nat → Nat) (acc : Nat × (Nat → Nat) × Int32), (en (gP A tl) [0, 1, 2] d t p acc).1 ≤ acc.1 + 3 ^ d
  | 0, t, p, acc => by
    show (gP A tl p acc).1 ≤ acc.1 + 1
    by_cases h : lawfulP A p ∧ pok A tl p
    · rw [gP_t h]; unfold pt
      by_cases h2 : acc.1 = 0
      · rw [if_pos h2]; omega
      · rw [if_neg h2]; exact Nat.le_refl _
    · rw [gP_f h]; omega
  | d + 1, t, p, acc => by
    have a1 := en_cnt (A := A) (tl := tl) d (t + 1) (rup p t 0) acc
    have a2 := en_cnt (A := A) (tl := tl) d (t + 1) (rup p t 1) (en (gP A tl) [0, 1, 2] d (t + 1) (rup p t 0) acc)
    have a3 := en_cnt (A := A) (tl := tl) d (t + 1) (rup p t 2) (en (gP A tl) [0, 1, 2] d (t + 1) (rup p t 1) (en (gP A tl) [0, 1, 2] d (t + 1) (rup p t 0) acc))
    have hp : 3 ^ (d + 1) = 3 ^ d + 3 ^ d + 3 ^ d := by rw [Nat.pow_succ]; omega
    show (en (gP A tl) [0, 1, 2] d (t + 1) (rup p t 2) (en (gP A tl) [0, 1, 2] d (t + 1) (rup p t 1) (en (gP A tl) [0, 1, 2] d (t + 1) (rup p t 0) acc))).1 ≤ acc.1 + 3 ^ (d + 1)
    omega
theorem bP_cnt {A : Nat → Nat → Nat} (w : wf A) {tl : Nat → Int64} : (bP A tl).1 ≤ 59049 := by
  have h := en_cnt (A := A) (tl := tl) (aN A) 0 (fun _ => 0) (pini A)
  have h3 : 3 ^ aN A ≤ 3 ^ 10 := Nat.pow_le_pow_right (by decide) w.1
  have h4 : 3 ^ 10 = 59049 := by decide
  have h5 : (pini A).1 = 0 := rfl
  unfold bP
  omega
def kP (A : Nat → Nat → Nat) (c : Int32) (tl : Nat → Int64) (acc : Nat × (Nat → Nat) × Int32) (σ : eb_S) : Prop := ShS5 σ ∧ eb_I σ 69 5 = c ∧ (∀ s, s < aS A → eb_J σ 74 s = tl s) ∧ (acc.1 < 2 ^ 31 → eb_I σ 69 6 = nI acc.1 ∧ (acc.1 ≠ 0 → eb_I σ 69 7 = acc.2.2 ∧ ∀ u, u < aN A → eb_I σ 71 u = nI (acc.2.1 u) ∧ acc.2.1 u < 3))
theorem kP.fr {A : Nat → Nat → Nat} {c : Int32} {tl : Nat → Int64} {acc : Nat × (Nat → Nat) × Int32} {σ σ' : eb_S} {S : Nat → Nat → Prop} (h : kP A c tl acc σ) (hF : Fr S σ σ') (h1 : ∀ j, 5 ≤ j → j ≤ 7 → ¬ S 69 j) (h2 : ∀ j, ¬ S 71 j) : kP A c tl acc σ' := by
  obtain ⟨a1, a2, a3, a4⟩ := h
  refine ⟨by unfold ShS5 at a1 ⊢; rw [hF.1, hF.2.1, hF.2.2.1]; exact a1, by rw [hF.2.2.2.2.2 _ _ (h1 5 (by decide) (by decide))]; exact a2, fun s hs => by rw [hF.2.2.2.2.1]; exact a3 s hs, fun hc => ?_⟩
  obtain ⟨b1, b2⟩ := a4 hc
  exact ⟨by rw [hF.2.2.2.2.2 _ _ (h1 6 (by decide) (by decide))]; exact b1, fun hne => ⟨by rw [hF.2.2.2.2.2 _ _ (h1 7 (by decide) (by decide))]; exact (b2 hne).1, fun u hu => by rw [hF.2.2.2.2.2 _ _ (h2 u)]; exact (b2 hne).2 u hu⟩⟩
theorem iI64 {z : Int} (h1 : -2147483648 ≤ z) (h2 : z < 2147483648) : (iI z).toInt64.toInt = z := by rw [p_i64, iI_toInt h1 h2]
theorem p_lgle (x y : Int64) : (lg_cmp x y ≤ 0) = (x.toInt ≤ y.toInt) := by
  have h := p_lgg x y
  rw [eq_iff_iff] at h ⊢
  constructor
  · intro z
    by_cases e : x.toInt ≤ y.toInt
    · exact e
    · exact absurd (h.mpr (by omega)) (Int32.not_lt.mpr z)
  · intro z
    exact Int32.not_lt.mp (fun y => by have := h.mp y; omega)
set_option maxHeartbeats 4000000 in
theorem x_hop5_L {A : Nat → Nat → Nat} (w : wf A) {n t : Nat} {p : Nat → Nat} (ht : t ≤ aN A) {tl : Nat → Int64} {σ : eb_S} (hI : PI A p t 69 σ) (h5 : ShS5 σ) (hJ : ∀ s, s < aS A → eb_J σ 74 s = tl s) : ∀ (m s : Nat), s ≤ aS A → aS A < s + m → ∃ b, f_X5_isHopeless_L2 n 69 (nI t) m (nI s) σ = some (b, σ) ∧ (b = false ↔ ∀ s', s ≤ s' → s' < aS A → lst A p s' t ≤ (tl s').toInt ∧ (tl s').toInt ≤ mst A p s' t) := by
  intro m
  induction m with
  | zero => intro s h1 h2; omega
  | succ m ih =>
    intro s h1 h2
    obtain ⟨hv, hs, hX, hA, hL, hR⟩ := id hI
    have hS := hX.2.2.2.2.2.2.1
    have wS := w.2.2.1
    have hv' := hv
    have hs' := hs
    unfold ShM9 at hs
    unfold ShS5 at h5
    rw [f_X5_isHopeless_L2.eq_2]
    simp only [eb_gR, eb_gI, h5, hs, hS, List.mem_singleton, p_leN (show aS A < 2 ^ 31 by omega) (show s < 2 ^ 31 by omega)]
    by_cases h : aS A ≤ s
    · exact ⟨false, by simp [h], by rw [all_end h]; simp⟩
    · have hs5 : s < aS A := by omega
      have bd := lst_bd w p s ht
      obtain ⟨e1, e2⟩ := x_least w hv' hs' hX hA hL ht hs5
      have l1 : (lg_cmp (tl s) (iI (lst A p s t)).toInt64 < 0) = ((tl s).toInt < lst A p s t) := by rw [p_lgl, iI64 (by omega) (by omega)]
      have l2 : (lg_cmp (tl s) (iI (mst A p s t)).toInt64 ≤ 0) = ((tl s).toInt ≤ mst A p s t) := by rw [p_lgle, iI64 (by omega) (by omega)]
      obtain ⟨b, g1, g2⟩ := ih (s + 1) (by omega) (by omega)
      by_cases h6 : (tl s).toInt < lst A p s t
      · refine ⟨true, by simp [h, eb_al, eb_tg, h5, hJ s hs5, p_in (show s < 5 by omega) (by decide : 5 < 2 ^ 31), p_cl (show s < 2 ^ 31 by omega), e1, eb_cl_s, l1, h6], ?_⟩
        rw [all_step hs5]
        exact ⟨fun z => absurd z.symm Bool.false_ne_true, fun z => by have := z.1.1; omega⟩
      · by_cases h7 : (tl s).toInt ≤ mst A p s t
        · refine ⟨b, by simp [h, eb_al, eb_tg, h5, hJ s hs5, p_in (show s < 5 by omega) (by decide : 5 < 2 ^ 31), p_cl (show s < 2 ^ 31 by omega), e1, e2, eb_cl_s, l1, l2, h6, h7, nI_1, g1], ?_⟩
          rw [g2, all_step hs5]
          exact ⟨fun z => ⟨⟨by omega, h7⟩, z⟩, fun z => z.2⟩
        · refine ⟨true, by simp [h, eb_al, eb_tg, h5, hJ s hs5, p_in (show s < 5 by omega) (by decide : 5 < 2 ^ 31), p_cl (show s < 2 ^ 31 by omega), e1, e2, eb_cl_s, l1, l2, h6, h7], ?_⟩
          rw [all_step hs5]
          exact ⟨fun z => absurd z.symm Bool.false_ne_true, fun z => absurd z.1.2 h7⟩
def s7 (k j : Nat) : Prop := k = 69 ∧ j = 7
set_option maxHeartbeats 4000000 in
theorem x_reach5_L {A : Nat → Nat → Nat} (w : wf A) {n : Nat} {k0 : Int32} : ∀ (m t : Nat) (σ : eb_S), ShS5 σ → ShM9 σ → eb_I σ 9 1 = nI (aN A) → eb_I σ 69 7 = mskI (eb_I σ 70) (eb_I σ 71) t k0 → t ≤ aN A → aN A < t + m → ∃ σ', f_X5_reach_L39 n 69 m (nI t) σ = some ((), σ') ∧ Fr s7 σ σ' ∧ eb_I σ' 69 7 = mskI (eb_I σ 70) (eb_I σ 71) (aN A) k0 := by
  intro m
  induction m with
  | zero => intro t σ _ _ _ _ h1 h2; omega
  | succ m ih =>
    intro t σ h5 hs hN h7 h1 h2
    have wN := w.1
    have h5' := h5
    have hs' := hs
    unfold ShM9 at hs
    unfold ShS5 at h5
    rw [f_X5_reach_L39.eq_2]
    simp only [eb_gR, eb_gI, h5, hs, hN, List.mem_singleton, p_leN (show aN A < 2 ^ 31 by omega) (show t < 2 ^ 31 by omega)]
    by_cases h : aN A ≤ t
    · have : t = aN A := by omega
      subst this
      exact ⟨σ, by simp, Fr.rf, h7⟩
    · by_cases h3 : eb_I σ 70 t = eb_I σ 71 t
      · obtain ⟨σ', g1, g2, g3⟩ := ih (t + 1) σ h5' hs' hN (by rw [h7]; show _ = if _ then _ else _; rw [if_pos h3]) (by omega) (by omega)
        exact ⟨σ', by simp [h, eb_ai, h5, eb_jn_e, p_in (show t < 10 by omega) (by decide : 10 < 2 ^ 31), p_cl (show t < 2 ^ 31 by omega), h3, nI_1, g1], g2, g3⟩
      · have F1 : Fr s7 σ (eb_sI σ 69 7 (mskI (eb_I σ 70) (eb_I σ 71) t k0 &&& bitc t)) := Fr.sI ⟨rfl, rfl⟩
        have c70 : eb_I (eb_sI σ 69 7 (mskI (eb_I σ 70) (eb_I σ 71) t k0 &&& bitc t)) 70 = eb_I σ 70 := by funext j; rw [eb_I_sI, if_neg (by decide)]
        have c71 : eb_I (eb_sI σ 69 7 (mskI (eb_I σ 70) (eb_I σ 71) t k0 &&& bitc t)) 71 = eb_I σ 71 := by funext j; rw [eb_I_sI, if_neg (by decide)]
        obtain ⟨σ', g1, g2, g3⟩ := ih (t + 1) _ (by unfold ShS5; exact h5) (F1.shM9 hs') (by rw [eb_I_sI, if_neg (by decide)]; exact hN) (by
          rw [c70, c71, eb_I_sI, if_pos rfl, if_pos rfl]
          show _ = if _ then _ else _
          rw [if_neg h3]) (by omega) (by omega)
        rw [c70, c71] at g3
        refine ⟨σ', ?_, F1.tr g2, g3⟩
        unfold bitc at g1
        simp [h, eb_ai, eb_pI, h5, eb_jn_e, p_in (show t < 10 by omega) (by decide : 10 < 2 ^ 31), p_cl (show t < 2 ^ 31 by omega), h3, nI_1, h7]
        simpa using g1

set_option maxHeartbeats 4000000 in
theorem ok_pulls {A : Nat → Nat → Nat} (w : wf A) {n : Nat} (hn : 100 ≤ n) (c : Int32) (tl : Nat → Int64) : SearchOk A n 69 (Nat × (Nat → Nat) × Int32) (gP A tl) (kP A c tl) := by
  refine ⟨fun q acc h => gP_f (fun z => h z.1) acc, fun acc σ σ' h hF => h.fr hF (fun j _ _ z => by omega) (fun j z => by omega), ?_⟩
  intro t p acc σ ht hI hO hK
  have wS := w.2.2.1
  have wN := w.1
  obtain ⟨h5, hc5, hJ, hcnt⟩ := id hK
  have hT : eb_T σ 69 = 5 := by unfold ShS5 at h5; exact h5.1
  obtain ⟨b, f1, f2⟩ := x_hop5_L w (n := n) ht hI h5 hJ n 0 (by omega) (by omega)
  refine ⟨b, σ, ?_, hI, hK, Fr.rf, ?_, ?_⟩
  · rw [nI_0] at f1
    simp [eb_d3, hT, f_X5_isHopeless, f1]
  · intro hbt q hq _
    refine gP_f (fun z => ?_) acc
    have : b = false := f2.mpr (fun s' _ h2 => by
      have l := lst_mst (s := s') ht hq
      rw [z.2 s' h2] at l
      exact l)
    rw [hbt] at this
    exact absurd this.symm Bool.false_ne_true
  · intro hbf heq
    subst heq
    have fine : pok A tl p := fun s' h2 => by
      have l := f2.mp hbf s' (by omega) h2
      unfold lst mst at l
      rw [ahd_end] at l
      have e : offp A p s' (aN A) = off A p s' := rfl
      rw [e] at l
      omega
    rw [gP_t ⟨hO.lawful w, fine⟩]
    obtain ⟨hv, hs, hX, hA, hL, hR⟩ := id hI
    have hN := hX.1
    have F1 : Fr (s5 69) σ (eb_sI σ 69 6 (eb_I σ 69 6 + 1)) := Fr.sI rfl
    have F1v := F1.mono (s5_sv (v := 69))
    have h5u := h5
    have hsu := hs
    unfold ShS5 at h5u
    unfold ShM9 at hsu
    by_cases hone : eb_I σ 69 6 + 1 = 1
    · -- the first row that was found
      obtain ⟨σ2, k1, k2, k3⟩ := x_keepRow w (F1.ss hv) (F1.shM9 hs) (F1v.mx (nX_sv (by decide)) hX)
      have k2v : Fr (sv 69) _ σ2 := k2.mono (fun k j h => by unfold s2 at h; unfold sv; omega)
      have F3 : Fr (s5 69) σ2 (eb_sI σ2 69 7 (mfull (aN A))) := Fr.sI rfl
      have G : Fr (fun k _ => k = 69 ∨ k = 71) σ (eb_sI σ2 69 7 (mfull (aN A))) := ((F1.mono (fun k j h => Or.inl h)).tr (k2.mono (fun k j h => Or.inr h))).tr (F3.mono (fun k j h => Or.inl h))
      have h53 : ShS5 (eb_sI σ2 69 7 (mfull (aN A))) := by unfold ShS5; rw [G.1, G.2.1, G.2.2.1]; exact h5u
      have i70 : ∀ u, eb_I (eb_sI σ2 69 7 (mfull (aN A))) 70 u = eb_I σ 70 u := fun u => G.2.2.2.2.2 _ _ (by omega)
      have i71 : ∀ u, u < aN A → eb_I (eb_sI σ2 69 7 (mfull (aN A))) 71 u = eb_I σ 70 u := fun u hu => by
        rw [eb_I_sI, if_neg (by decide), k3 u hu, eb_I_sI, if_neg (by decide)]
      obtain ⟨σ4, r1, r2, r3⟩ := x_reach5_L w (n := n) (k0 := mfull (aN A)) n 0 _ h53 (G.shM9 hs) (by rw [G.2.2.2.2.2 _ _ (by omega)]; exact hN) (by rw [eb_I_sI, if_pos rfl, if_pos rfl]; rfl) (by omega) (by omega)
      have G4 : Fr (fun k _ => k = 69 ∨ k = 71) σ σ4 := G.tr (r2.mono (fun k j h => by unfold s7 at h; exact Or.inl h.1))
      have hR' : ∀ u, u < aN A → eb_I σ 70 u = nI (p u) ∧ p u < 3 := hR.2.2
      have r4 : eb_I σ4 69 7 = mfull (aN A) := by
        rw [r3, msk_eq (p := p) (q := p) (aN A) (fun u hu => by rw [i70 u]; exact hR' u hu) (fun u hu => by rw [i71 u hu]; exact hR' u hu), msk_same]
      refine ⟨σ4, ?_, ?_, ⟨?_, ?_, ?_, ?_⟩, G4.mono (fun k j h => by unfold sv; omega)⟩
      · have h52 : ShS5 σ2 := by unfold ShS5; rw [k2.1, k2.2.1, k2.2.2.1, F1.1, F1.2.1, F1.2.2.1]; exact h5u
        have hs2 : ShM9 σ2 := k2.shM9 (F1.shM9 hs)
        have hN2 : eb_I σ2 9 1 = nI (aN A) := by rw [k2.2.2.2.2.2 _ _ (fun z => by unfold s2 at z; omega), eb_I_sI, if_neg (by decide)]; exact hN
        unfold ShS5 at h52
        unfold ShM9 at hs2
        unfold mfull at r1
        rw [nI_0] at r1
        rw [hone] at k1
        simp [eb_d3, hT, f_X5_reach, eb_gI, eb_pI, eb_gR, eb_tg, eb_jn_e, eb_T_sI, eb_R_sI, eb_L_sI, eb_J_sI, eb_N_sI, eb_T_sJ, eb_R_sJ, eb_L_sJ, eb_I_sJ, eb_N_sJ, eb_T_rI, eb_R_rI, eb_L_rI, eb_J_rI, eb_N_rI, eb_T_rJ, eb_R_rJ, eb_L_rJ, eb_I_rJ, eb_N_rJ, eb_I_sI, hone, k1, eb_cl_s, h52, hs2, hN2, r1]
      · exact hI.fr G4 (fun k j h => by omega) (fun j z => by omega) (fun j z => by omega) (fun j z => by omega)
      · unfold ShS5; rw [G4.1, G4.2.1, G4.2.2.1]; exact h5u
      · rw [r2.2.2.2.2.2 _ _ (fun z => by unfold s7 at z; omega), eb_I_sI, if_pos rfl, if_neg (by decide), k2.2.2.2.2.2 _ _ (fun z => by unfold s2 at z; omega), eb_I_sI, if_pos rfl, if_neg (by decide)]; exact hc5
      · intro s hs; rw [G4.2.2.2.2.1]; exact hJ s hs
      · intro hlt
        have i6 : eb_I σ4 69 6 = 1 := by
          rw [r2.2.2.2.2.2 _ _ (fun z => by unfold s7 at z; omega), eb_I_sI, if_pos rfl, if_neg (by decide), k2.2.2.2.2.2 _ _ (fun z => by unfold s2 at z; omega), eb_I_sI, if_pos rfl, if_pos rfl]; exact hone
        have ha : acc.1 = 0 := by
          by_cases h0 : acc.1 = 0
          · exact h0
          · unfold pt at hlt
            rw [if_neg h0] at hlt
            have hlt : acc.1 + 1 < 2 ^ 31 := hlt
            rw [(hcnt (by omega)).1, nI_1] at hone
            have := (nI_eq (a := acc.1 + 1) (b := 1) (by omega) (by omega)).mp hone
            omega
        unfold pt
        rw [if_pos ha]
        refine ⟨i6, fun _ => ⟨r4, fun u hu => ?_⟩⟩
        rw [r2.2.2.2.2.2 _ _ (fun z => by unfold s7 at z; omega), i71 u hu]
        exact hR' u hu
    · -- one more
      have h51 : ShS5 (eb_sI σ 69 6 (eb_I σ 69 6 + 1)) := by unfold ShS5; exact h5u
      have i70 : eb_I (eb_sI σ 69 6 (eb_I σ 69 6 + 1)) 70 = eb_I σ 70 := by funext j; rw [eb_I_sI, if_neg (by decide)]
      have i71 : eb_I (eb_sI σ 69 6 (eb_I σ 69 6 + 1)) 71 = eb_I σ 71 := by funext j; rw [eb_I_sI, if_neg (by decide)]
      obtain ⟨σ4, r1, r2, r3⟩ := x_reach5_L w (n := n) (k0 := eb_I σ 69 7) n 0 _ h51 (F1.shM9 hs) (by rw [eb_I_sI, if_neg (by decide)]; exact hN) (by rw [eb_I_sI, if_pos rfl, if_neg (by decide)]; rfl) (by omega) (by omega)
      rw [i70, i71] at r3
      have G4 : Fr (fun k _ => k = 69) σ σ4 := (F1.mono (fun k j h => h)).tr (r2.mono (fun k j h => by unfold s7 at h; exact h.1))
      have hR' : ∀ u, u < aN A → eb_I σ 70 u = nI (p u) ∧ p u < 3 := hR.2.2
      refine ⟨σ4, ?_, ?_, ⟨?_, ?_, ?_, ?_⟩, G4.mono (fun k j h => by unfold sv; omega)⟩
      · rw [nI_0] at r1
        simp [eb_d3, hT, f_X5_reach, eb_gI, eb_pI, eb_jn_e, eb_T_sI, eb_R_sI, eb_L_sI, eb_J_sI, eb_N_sI, eb_T_sJ, eb_R_sJ, eb_L_sJ, eb_I_sJ, eb_N_sJ, eb_T_rI, eb_R_rI, eb_L_rI, eb_J_rI, eb_N_rI, eb_T_rJ, eb_R_rJ, eb_L_rJ, eb_I_rJ, eb_N_rJ, eb_I_sI, hone, r1]
      · exact hI.fr G4 (fun k j h => by omega) (fun j z => by omega) (fun j z => by omega) (fun j z => by omega)
      · unfold ShS5; rw [G4.1, G4.2.1, G4.2.2.1]; exact h5u
      · rw [r2.2.2.2.2.2 _ _ (fun z => by unfold s7 at z; omega), eb_I_sI, if_pos rfl, if_neg (by decide)]; exact hc5
      · intro s hs; rw [G4.2.2.2.2.1]; exact hJ s hs
      · intro hlt
        have hle : acc.1 < 2 ^ 31 := by
          unfold pt at hlt
          by_cases h0 : acc.1 = 0
          · omega
          · rw [if_neg h0] at hlt
            have hlt : acc.1 + 1 < 2 ^ 31 := hlt
            omega
        obtain ⟨c1, c2⟩ := hcnt hle
        have ha : acc.1 ≠ 0 := fun h0 => by rw [c1, h0] at hone; exact hone rfl
        obtain ⟨c3, c4⟩ := c2 ha
        unfold pt
        rw [if_neg ha]
        refine ⟨?_, fun _ => ⟨?_, fun u hu => ?_⟩⟩
        · rw [r2.2.2.2.2.2 _ _ (fun z => by unfold s7 at z; omega), eb_I_sI, if_pos rfl, if_pos rfl, c1, nI_1]
        · rw [r3, msk_eq (p := p) (q := acc.2.1) (aN A) hR' c4, c3]
        · rw [G4.2.2.2.2.2 _ _ (by omega)]; exact c4 u hu
