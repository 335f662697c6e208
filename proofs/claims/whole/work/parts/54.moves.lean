/-! ===== pure: the component's search for the fewest moved ===== -/
def mch (A : Nat → Nat → Nat) (p : Nat → Nat) : Nat → Nat
  | 0 => 0
  | t + 1 => mch A p t + if p t = aB A t then 0 else 1
theorem mch_le {A : Nat → Nat → Nat} (p : Nat → Nat) : ∀ t, mch A p t ≤ t
  | 0 => Nat.le_refl _
  | t + 1 => by
    have := mch_le (A := A) p t
    show mch A p t + (if p t = aB A t then 0 else 1) ≤ t + 1
    split <;> omega
theorem mch_cong {A : Nat → Nat → Nat} {p q : Nat → Nat} : ∀ t, (∀ u, u < t → q u = p u) → mch A q t = mch A p t
  | 0, _ => rfl
  | t + 1, h => by
    show mch A q t + _ = mch A p t + _
    rw [mch_cong t (fun u hu => h u (by omega)), h t (by omega)]
theorem mch_grow {A : Nat → Nat → Nat} (q : Nat → Nat) (t : Nat) : ∀ d, mch A q t ≤ mch A q (t + d)
  | 0 => Nat.le_refl _
  | d + 1 => Nat.le_trans (mch_grow q t d) (Nat.le_add_right _ _)
def mok (A : Nat → Nat → Nat) (a e : Nat) (p : Nat → Nat) : Prop := ∀ s, a ≤ s → s < aS A → (off A p s).natAbs ≤ e
def mt (A : Nat → Nat → Nat) (p : Nat → Nat) (acc : Option (Nat × (Nat → Nat))) : Option (Nat × (Nat → Nat)) := match acc with
  | none => some (mch A p (aN A), p)
  | some (c0, q) => if mch A p (aN A) < c0 then some (mch A p (aN A), p) else some (c0, q)
noncomputable def gM (A : Nat → Nat → Nat) (a e : Nat) (p : Nat → Nat) (acc : Option (Nat × (Nat → Nat))) : Option (Nat × (Nat → Nat)) := @ite _ (lawfulP A p ∧ mok A a e p) (Classical.propDecidable _) (mt A p acc) acc
theorem gM_t {A : Nat → Nat → Nat} {a e : Nat} {p : Nat → Nat} (h : lawfulP A p ∧ mok A a e p) (acc : Option (Nat × (Nat → Nat))) : gM A a e p acc = mt A p acc := by unfold gM; rw [if_pos h]
theorem gM_f {A : Nat → Nat → Nat} {a e : Nat} {p : Nat → Nat} (h : ¬ (lawfulP A p ∧ mok A a e p)) (acc : Option (Nat × (Nat → Nat))) : gM A a e p acc = acc := by unfold gM; rw [if_neg h]
noncomputable def bM (A : Nat → Nat → Nat) (a e : Nat) : Option (Nat × (Nat → Nat)) := en (gM A a e) [0, 1, 2] (aN A) 0 (fun _ => 0) none
def kM (A : Nat → Nat → Nat) (c : Int32) (a e : Nat) (acc : Option (Nat × (Nat → Nat))) (σ : eb_S) : Prop := eb_T σ 64 = 4 ∧ eb_I σ 64 5 = c ∧ eb_I σ 64 8 = nI a ∧ eb_I σ 64 9 = nI e ∧ match acc with
  | none => eb_I σ 64 6 = 0
  | some (c0, q) => eb_I σ 64 6 = 1 ∧ eb_I σ 64 7 = nI c0 ∧ c0 ≤ 10 ∧ ∀ u, u < aN A → eb_I σ 66 u = nI (q u) ∧ q u < 3
theorem kM.fr {A : Nat → Nat → Nat} {c : Int32} {a e : Nat} {acc : Option (Nat × (Nat → Nat))} {σ σ' : eb_S} {S : Nat → Nat → Prop} (h : kM A c a e acc σ) (hF : Fq S σ σ') (h0 : ¬ S 64 1000) (h1 : ∀ j, 5 ≤ j → j ≤ 9 → ¬ S 64 j) (h2 : ∀ j, ¬ S 66 j) : kM A c a e acc σ' := by
  obtain ⟨a1, a2, a3, a4, a5⟩ := h
  refine ⟨by rw [(hF.1 64 h0).1]; exact a1, by rw [hF.i (h1 5 (by decide) (by decide))]; exact a2, by rw [hF.i (h1 8 (by decide) (by decide))]; exact a3, by rw [hF.i (h1 9 (by decide) (by decide))]; exact a4, ?_⟩
  match acc, a5 with
  | none, a5 => show eb_I σ' 64 6 = 0; rw [hF.i (h1 6 (by decide) (by decide))]; exact a5
  | some (c0, q), ⟨b1, b2, b3, b4⟩ => exact ⟨by rw [hF.i (h1 6 (by decide) (by decide))]; exact b1, by rw [hF.i (h1 7 (by decide) (by decide))]; exact b2, b3, fun u hu => by rw [hF.i (h2 u)]; exact b4 u hu⟩
def s10 (k j : Nat) : Prop := k = 64 ∧ j = 10
theorem nX_s10 : nX s10 := fun k j h => by unfold s10 at h; omega
theorem hb14 {A : Nat → Nat → Nat} {σ : eb_S} (hX : MX9 A σ) : ∀ t, t < aN A → eb_I σ 14 t = nI (aB A t) := hX.2.2.2.2.2.1
set_option maxHeartbeats 4000000 in
theorem x_hop4_L7 {A : Nat → Nat → Nat} (w : wf A) {n t : Nat} {p : Nat → Nat} (ht : t ≤ aN A) {K : eb_S → Option (Bool × eb_S)} : ∀ (m u : Nat) (σ : eb_S), PI A p t 64 σ → eb_T σ 64 = 4 → eb_I σ 64 10 = nI (mch A p u) → u ≤ t → t < u + m → ∃ σ', f_X4_isHopeless_L7 n 64 (nI t) K m (nI u) σ = K σ' ∧ Fr s10 σ σ' ∧ eb_I σ' 64 10 = nI (mch A p t) := by
  intro m
  induction m with
  | zero => intro u σ _ _ _ h1 h2; omega
  | succ m ih =>
    intro u σ hI hT h10 h1 h2
    obtain ⟨hv, hs, hX, hA, hL, hR⟩ := id hI
    have wN := w.1
    unfold SS at hv
    unfold ShM9 at hs
    rw [f_X4_isHopeless_L7.eq_2]
    simp only [p_leN (show t < 2 ^ 31 by omega) (show u < 2 ^ 31 by omega)]
    by_cases h : t ≤ u
    · have : u = t := by omega
      subst this
      exact ⟨σ, by simp, Fr.rf, h10⟩
    · have F1 : Fr s10 σ (eb_sI σ 64 10 (nI (mch A p (u + 1)))) := Fr.sI ⟨rfl, rfl⟩
      obtain ⟨σ', g1, g2, g3⟩ := ih (u + 1) _ (hI.fr F1 nX_s10 (fun j z => by unfold s10 at z; omega) (fun j z => by unfold s10 at z; omega) (fun j z => by unfold s10 at z; omega)) hT (by simp [eb_I_sI]) (by omega) (by omega)
      refine ⟨σ', ?_, F1.tr g2, g3⟩
      have wt := w.2.1 u (by omega)
      have e1 := hR.2.2 u (by omega)
      have e2 := hb14 hX u (by omega)
      have e3 : (nI (p u) = nI (aB A u)) = (p u = aB A u) := p_eqN (by omega) (by omega)
      have e4 : mch A p (u + 1) = mch A p u + if p u = aB A u then 0 else 1 := rfl
      by_cases h3 : p u = aB A u
      · have e5 : mch A p (u + 1) = mch A p u := by
          show mch A p u + (if p u = aB A u then 0 else 1) = mch A p u
          rw [if_pos h3]; rfl
        rw [e5] at g1
        simp [h, eb_gI, eb_gR, eb_ai, eb_pI, hT, hv, hs, e1.1, e2, eb_jn_e, h10, p_in (show u < 10 by omega) (by decide : 10 < 2 ^ 31), p_cl (show u < 2 ^ 31 by omega), h3, nI_1, g1]
      · rw [if_neg h3] at e4
        rw [e4] at g1
        simp [h, eb_gI, eb_gR, eb_ai, eb_pI, hT, hv, hs, e1.1, e2, e3, eb_jn_e, h10, p_in (show u < 10 by omega) (by decide : 10 < 2 ^ 31), p_cl (show u < 2 ^ 31 by omega), h3, nI_1, g1]
set_option maxHeartbeats 4000000 in
theorem x_hop4_L75 {A : Nat → Nat → Nat} (w : wf A) {n t e : Nat} (he : e < 2 ^ 31) {p : Nat → Nat} (ht : t ≤ aN A) {σ : eb_S} (hI : PI A p t 64 σ) (hT : eb_T σ 64 = 4) (h9 : eb_I σ 64 9 = nI e) : ∀ (m s : Nat), s ≤ aS A → aS A < s + m → ∃ b, f_X4_isHopeless_L75 n 64 (nI t) m (nI s) σ = some (b, σ) ∧ (b = false ↔ ∀ s', s ≤ s' → s' < aS A → near A p s' t ≤ e) := by
  intro m
  induction m with
  | zero => intro s h1 h2; omega
  | succ m ih =>
    intro s h1 h2
    obtain ⟨hv, hs, hX, hA, hL, hR⟩ := id hI
    have hS := hX.2.2.2.2.2.2.1
    have wS := w.2.2.1
    have hv' := hv
    have hs' := hs
    unfold SS at hv
    unfold ShM9 at hs
    rw [f_X4_isHopeless_L75.eq_2]
    simp only [eb_gR, eb_gI, hv, hs, hS, hT, List.mem_singleton, p_leN (show aS A < 2 ^ 31 by omega) (show s < 2 ^ 31 by omega)]
    by_cases h : aS A ≤ s
    · exact ⟨false, by simp [h], by rw [all_end h]; simp⟩
    · have h5 : s < aS A := by omega
      have nb := near_bd w p s ht
      have e1 := x_near w hv' hs' hX hA hL ht h5
      have e2 : (nI (near A p s t) ≤ nI e) = (near A p s t ≤ e) := p_leN (by omega) he
      obtain ⟨b, g1, g2⟩ := ih (s + 1) (by omega) (by omega)
      by_cases h6 : near A p s t ≤ e
      · refine ⟨b, by simp [h, eb_tg, hT, e1, eb_cl_s, h9, e2, h6, nI_1, g1], ?_⟩
        rw [g2, all_step h5]
        exact ⟨fun z => ⟨h6, z⟩, fun z => z.2⟩
      · refine ⟨true, by simp [h, eb_tg, hT, e1, eb_cl_s, h9, e2, h6], ?_⟩
        rw [all_step h5]
        exact ⟨fun z => absurd z.symm Bool.false_ne_true, fun z => absurd z.1 h6⟩

set_option maxHeartbeats 4000000 in
theorem ok_moves {A : Nat → Nat → Nat} (w : wf A) {n : Nat} (hn : 100 ≤ n) (c : Int32) {a e : Nat} (ha : a ≤ aS A) (he : e < 2 ^ 31) : SearchOk A n 64 (Option (Nat × (Nat → Nat))) (gM A a e) (kM A c a e) := by
  refine ⟨fun q acc h => gM_f (fun z => h z.1) acc, fun acc σ σ' h hF => h.fr hF.fq (by omega) (fun j _ _ z => by omega) (fun j z => by omega), ?_⟩
  intro t p acc σ ht hI hO hK
  have wS := w.2.2.1
  have wN := w.1
  have hT := hK.1
  have F1 : Fr s10 σ (eb_sI σ 64 10 0) := Fr.sI ⟨rfl, rfl⟩
  have pfr : ∀ {σ σ'}, Fr s10 σ σ' → PI A p t 64 σ → PI A p t 64 σ' := fun hF h => h.fr hF nX_s10 (fun j z => by unfold s10 at z; omega) (fun j z => by unfold s10 at z; omega) (fun j z => by unfold s10 at z; omega)
  have kfr : ∀ {σ σ'}, Fr s10 σ σ' → kM A c a e acc σ → kM A c a e acc σ' := fun hF h => h.fr hF.fq (fun z => by unfold s10 at z; omega) (fun j _ _ z => by unfold s10 at z; omega) (fun j z => by unfold s10 at z; omega)
  obtain ⟨σ1, a1, a2, a3⟩ := x_hop4_L7 w (n := n) ht (p := p) (K := fun s12 => eb_gI s12 [4] 64 6 fun x13 => eb_jn (fun (s14 : eb_S) => eb_gI s14 [4] 64 8 fun x16 => f_X4_isHopeless_L75 n 64 (nI t)  n x16 s14) fun j15 => if x13 = 0 then (j15 s12) else (eb_gI s12 [4] 64 10 fun x22 => eb_gI s12 [4] 64 7 fun x23 => if x22 < x23 then (j15 s12) else (some (true, s12)))) n 0 _ (pfr F1 hI) hT (by rw [eb_I_sI, if_pos rfl, if_pos rfl]; exact nI_0.symm) (by omega) (by omega)
  have hF := F1.tr a2
  have hI1 := pfr hF hI
  have hK1 := kfr hF hK
  have hT1 := hK1.1
  have hFv : Fr (sv 64) σ σ1 := hF.mono (fun k j h => by unfold s10 at h; unfold sv; omega)
  have mb := mch_le (A := A) p t
  obtain ⟨b, f1, f2⟩ := x_hop4_L75 w (n := n) he ht hI1 hT1 hK1.2.2.2.1 n a ha (by omega)
  have rch : ∀ acc', acc' = some (mch A p (aN A), p) → t = aN A → ∃ σ'', eb_d3 σ1 64 0 4 5 (f_X0_reach 64 σ1) (f_X4_reach 64 σ1) (f_X5_reach n 64 σ1) = some ((), σ'') ∧ PI A p t 64 σ'' ∧ kM A c a e acc' σ'' ∧ Fr (sv 64) σ1 σ'' := by
    intro acc' hacc heq
    subst hacc
    have G1 : Fr (s5 64) σ1 (eb_sI (eb_sI σ1 64 6 1) 64 7 (nI (mch A p t))) := (Fr.sI (S := s5 64) rfl).tr (Fr.sI (S := s5 64) rfl)
    have G1v := G1.mono (s5_sv (v := 64))
    obtain ⟨σ2, k1, k2, k3⟩ := x_keepRow w (G1.ss hI1.1) (G1.shM9 hI1.2.1) (G1v.mx (nX_sv (by decide)) hI1.2.2.1)
    have k2v : Fr (sv 64) _ σ2 := k2.mono (fun k j h => by unfold s2 at h; unfold sv; omega)
    have G2 : Fr (fun k _ => k = 64 ∨ k = 66) σ1 σ2 := (G1.mono (fun k j h => Or.inl h)).tr (k2.mono (fun k j h => Or.inr h))
    refine ⟨σ2, ?_, ?_, ⟨?_, ?_, ?_, ?_, ?_, ?_, by rw [← heq]; omega, fun u hu => ?_⟩, G1v.tr k2v⟩
    · simp [eb_d3, hT1, f_X4_reach, eb_pZ, eb_gI, eb_pI, eb_tg, eb_T_sI, eb_R_sI, eb_L_sI, eb_J_sI, eb_N_sI, eb_T_sJ, eb_R_sJ, eb_L_sJ, eb_I_sJ, eb_N_sJ, eb_T_rI, eb_R_rI, eb_L_rI, eb_J_rI, eb_N_rI, eb_T_rJ, eb_R_rJ, eb_L_rJ, eb_I_rJ, eb_N_rJ, eb_I_sI, a3, k1, eb_cl_s]
    · exact hI1.fr G2 (fun k j h => by omega) (fun j z => by omega) (fun j z => by omega) (fun j z => by omega)
    · rw [G2.1]; exact hT1
    · rw [k2.2.2.2.2.2 _ _ (fun z => by unfold s2 at z; omega)]; simp [eb_I_sI]; exact hK1.2.1
    · rw [k2.2.2.2.2.2 _ _ (fun z => by unfold s2 at z; omega)]; simp [eb_I_sI]; exact hK1.2.2.1
    · rw [k2.2.2.2.2.2 _ _ (fun z => by unfold s2 at z; omega)]; simp [eb_I_sI]; exact hK1.2.2.2.1
    · rw [k2.2.2.2.2.2 _ _ (fun z => by unfold s2 at z; omega)]; simp [eb_I_sI]
    · rw [k2.2.2.2.2.2 _ _ (fun z => by unfold s2 at z; omega)]; simp [eb_I_sI]; rw [heq]
    · rw [k3 u hu]
      simp [eb_I_sI]
      exact hI1.2.2.2.2.2.2.2 u (by omega)
  have tooOff : b = true → ∀ q, goon A p t q → gM A a e q acc = acc := by
    intro hbt q hq
    refine gM_f (fun z => ?_) acc
    have : b = false := f2.mpr (fun s' h1 h2 => Nat.le_trans (near_le ht hq) (z.2 s' h1 h2))
    rw [hbt] at this
    exact absurd this.symm Bool.false_ne_true
  have fine : b = false → t = aN A → mok A a e p := fun hbf heq s' h1 h2 => by
    have := f2.mp hbf s' h1 h2
    rw [heq, near_end] at this
    exact this
  rw [show eb_d3 σ 64 0 4 5 (f_X0_isHopeless n 64 (nI t) σ) (f_X4_isHopeless n 64 (nI t) σ) (f_X5_isHopeless n 64 (nI t) σ) = f_X4_isHopeless n 64 (nI t) σ by simp [eb_d3, hT]]
  unfold f_X4_isHopeless
  simp only [eb_pI, hT, List.mem_singleton, if_true]
  rw [nI_0] at a1
  rw [a1]
  simp only [eb_gI, hT1, List.mem_singleton, if_true, eb_jn_e, hK1.2.2.1, f1]
  match acc, hK1.2.2.2.2, tooOff, hK1 with
  | none, z0, tooOff, hK1 =>
    have z0 : eb_I σ1 64 6 = 0 := z0
    refine ⟨b, σ1, by rw [if_pos z0], hI1, hK1, hFv, fun z q hq _ => tooOff z q hq, fun hbf heq => ?_⟩
    have := fine hbf heq
    subst heq
    rw [gM_t ⟨hO.lawful w, this⟩]
    exact rch _ rfl rfl
  | some (c0, q0), ⟨z1, z2, z3, z4⟩, tooOff, hK1 =>
    have e1 : (nI (mch A p t) < nI c0) = (mch A p t < c0) := p_ltN (by omega) (by omega)
    rw [if_neg (by rw [z1]; decide)]
    simp only [z2, a3, e1]
    by_cases c1 : mch A p t < c0
    · refine ⟨b, σ1, by rw [if_pos c1], hI1, hK1, hFv, fun z q hq _ => tooOff z q hq, fun hbf heq => ?_⟩
      have := fine hbf heq
      subst heq
      rw [gM_t ⟨hO.lawful w, this⟩]
      refine rch _ ?_ rfl
      show ite _ _ _ = _
      rw [if_pos c1]
    · refine ⟨true, σ1, by rw [if_neg c1], hI1, hK1, hFv, fun _ q hq _ => ?_, fun z => absurd z.symm Bool.false_ne_true⟩
      by_cases hl : lawfulP A q ∧ mok A a e q
      · rw [gM_t hl]
        show ite _ _ _ = _
        have g1 := mch_grow (A := A) q t (aN A - t)
        rw [show t + (aN A - t) = aN A by omega] at g1
        have g2 : mch A q t = mch A p t := mch_cong t hq
        rw [if_neg (by omega)]
      · exact gM_f hl _

def XS4 (A : Nat → Nat → Nat) (ch : Nat) (σ : eb_S) : Prop := ShS4 σ ∧ LZ 64 σ ∧ ∃ z : Int, -1 ≤ z ∧ z ≤ ch ∧ eb_I σ 64 5 = iI z ∧ (z = ch → ∃ a e, a < aS A ∧ e ≤ 99999 ∧ kM A (nI ch) a e (bM A a e) σ)
theorem ShS4.ss {σ : eb_S} (h : ShS4 σ) : SS 64 σ := by
  unfold ShS4 at h
  unfold SS
  simp [h]
theorem XS4.fr {A : Nat → Nat → Nat} {ch : Nat} {σ σ' : eb_S} {S : Nat → Nat → Prop} (h : XS4 A ch σ) (hF : Fq S σ σ') (hn : nt S 64 68) : XS4 A ch σ' := by
  obtain ⟨a1, a2, z, a3, a4, a5, a6⟩ := h
  refine ⟨hF.shS4 hn a1, fun j hj => by rw [hF.it hn (by decide) (by decide)]; exact a2 j hj, z, a3, a4, by rw [hF.it hn (by decide) (by decide)]; exact a5, fun hz => ?_⟩
  obtain ⟨a, e, b1, b2, b3⟩ := a6 hz
  exact ⟨a, e, b1, b2, b3.fr hF (hn 64 1000 (by decide) (by decide)) (fun j _ _ => hn 64 j (by decide) (by decide)) (fun j => hn 66 j (by decide) (by decide))⟩
theorem XS4.up {A A' : Nat → Nat → Nat} {ch ch' : Nat} {σ : eb_S} (h : XS4 A ch σ) (hc : ch < ch') : XS4 A' ch' σ := by
  obtain ⟨a1, a2, z, a3, a4, a5, a6⟩ := h
  exact ⟨a1, a2, z, a3, by omega, a5, fun hz => by omega⟩
set_option maxHeartbeats 4000000 in
/-- asked for stretch a and e at most, and solved -/
theorem x_ask4 {A : Nat → Nat → Nat} (w : wf A) {n ch a e : Nat} (hn : 100 ≤ n) (hch : ch < 2 ^ 30) {σ : eb_S} (h9 : X9 A ch σ) (hS : XS4 A ch σ) (ha : a < aS A) (he : e ≤ 99999) : ∃ σ1 σ2, f_X4_ask 64 (nI a) (nI e) σ = some ((), σ1) ∧ Fr (sv 64) σ σ1 ∧ f_X6_solve n 64 σ1 = some ((), σ2) ∧ Fr (sv 64) σ1 σ2 ∧ XS4 A ch σ2 ∧ kM A (nI ch) a e (bM A a e) σ2 := by
  have wS := w.2.2.1
  obtain ⟨a1, a2, z, a3, a4, a5, a6⟩ := hS
  obtain ⟨b1, b2, b3⟩ := h9
  have hT : eb_T σ 64 = 4 := by unfold ShS4 at a1; exact a1.1
  -- a state that is asked anew
  have anew : ∀ σ1, Fr (s5 64) σ σ1 → eb_I σ1 64 8 = nI a → eb_I σ1 64 9 = nI e → (∃ y : Int, -1 ≤ y ∧ y < ch ∧ eb_I σ1 64 5 = iI y) → ∃ σ2, f_X6_solve n 64 σ1 = some ((), σ2) ∧ Fr (sv 64) σ1 σ2 ∧ XS4 A ch σ2 ∧ kM A (nI ch) a e (bM A a e) σ2 := by
    intro σ1 hF e8 e9 hy
    obtain ⟨y, y1, y2, y3⟩ := hy
    have hFv := hF.mono (s5_sv (v := 64))
    have i90 : eb_I σ1 9 0 = nI ch := by rw [hF.2.2.2.2.2 _ _ (fun z => by unfold s5 at z; omega)]; exact b3
    have hne : eb_I σ1 64 5 ≠ eb_I σ1 9 0 := by
      rw [y3, i90, nI_iI]
      intro e
      have := (p_eqI (a := y) (b := (ch : Int)) (by omega) (by omega)).mp e
      omega
    have hT1 : eb_T σ1 64 = 4 := by rw [hF.1]; exact hT
    obtain ⟨σ2, c1, c2, c3, c4⟩ := x_solve w hn (v := 64) (by decide) (ok_moves w hn (nI ch) (a := a) (e := e) (by omega) (by omega)) (i0 := none) (hF.ss a1.ss) (hF.shM9 b1) (hFv.mx (nX_sv (by decide)) b2) (fun j hj => by rw [hF.2.2.2.2.2 _ _ (fun z => by unfold s5 at z; omega)]; exact a2 j hj) hne (fun σ' hF' h5 => by
      have hT' : eb_T σ' 64 = 4 := by rw [hF'.1]; exact hT1
      refine ⟨eb_sI σ' 64 6 0, ?_, Fr.sI rfl, hT', ?_, ?_, ?_, ?_⟩
      · simp [eb_d3, hT', f_X4_begin, eb_pZ]
      · rw [eb_I_sI, if_pos rfl, if_neg (by decide), h5, i90]
      · rw [eb_I_sI, if_pos rfl, if_neg (by decide), hF'.2.2.2.2.2 _ _ (fun z => by unfold sbg at z; omega)]; exact e8
      · rw [eb_I_sI, if_pos rfl, if_neg (by decide), hF'.2.2.2.2.2 _ _ (fun z => by unfold sbg at z; omega)]; exact e9
      · show eb_I _ 64 6 = 0
        rw [eb_I_sI, if_pos rfl, if_pos rfl])
    refine ⟨σ2, c1, c2, ⟨?_, c4, (ch : Int), by omega, by omega, ?_, fun _ => ⟨a, e, ha, he, c3⟩⟩, c3⟩
    · unfold ShS4 at a1 ⊢; rw [c2.1, c2.2.1, c2.2.2.1, hF.1, hF.2.1, hF.2.2.1]; exact a1
    · rw [← nI_iI]; exact c3.2.1
  -- the same question as before
  by_cases hq : eb_I σ 64 8 = nI a ∧ eb_I σ 64 9 = nI e
  · have same : Fr (s5 64) σ (eb_sI (eb_sI σ 64 8 (nI a)) 64 9 (nI e)) := (Fr.sI (S := s5 64) rfl).tr (Fr.sI (S := s5 64) rfl)
    have run : f_X4_ask 64 (nI a) (nI e) σ = some ((), eb_sI (eb_sI σ 64 8 (nI a)) 64 9 (nI e)) := by
      unfold f_X4_ask
      simp [eb_gI, eb_pI, hT, eb_jn_e, hq, eb_T_sI, eb_R_sI, eb_L_sI, eb_J_sI, eb_N_sI, eb_T_sJ, eb_R_sJ, eb_L_sJ, eb_I_sJ, eb_N_sJ, eb_T_rI, eb_R_rI, eb_L_rI, eb_J_rI, eb_N_rI, eb_T_rJ, eb_R_rJ, eb_L_rJ, eb_I_rJ, eb_N_rJ]
    by_cases hz : z = ch
    · obtain ⟨a', e', d1, d2, d3⟩ := a6 hz
      have ea : a' = a := by
        have := d3.2.2.1; rw [hq.1] at this
        exact ((p_eqN (by omega) (by omega)).mp this).symm
      have ee : e' = e := by
        have := d3.2.2.2.1; rw [hq.2] at this
        exact ((p_eqN (by omega) (by omega)).mp this).symm
      subst ea; subst ee
      have F9 : Fr (fun k j => k = 64 ∧ (j = 8 ∨ j = 9)) σ (eb_sI (eb_sI σ 64 8 (nI a')) 64 9 (nI e')) := (Fr.sI ⟨rfl, Or.inl rfl⟩).tr (Fr.sI ⟨rfl, Or.inr rfl⟩)
      have i5 : eb_I (eb_sI (eb_sI σ 64 8 (nI a')) 64 9 (nI e')) 64 5 = iI z := by rw [F9.2.2.2.2.2 _ _ (by omega)]; exact a5
      have i90 : eb_I (eb_sI (eb_sI σ 64 8 (nI a')) 64 9 (nI e')) 9 0 = nI ch := by rw [F9.2.2.2.2.2 _ _ (by omega)]; exact b3
      have k' : kM A (nI ch) a' e' (bM A a' e') (eb_sI (eb_sI σ 64 8 (nI a')) 64 9 (nI e')) := by
        refine ⟨d3.1, ?_, by simp [eb_I_sI], by simp [eb_I_sI], ?_⟩
        · rw [i5, hz, nI_iI]
        · have d5 := d3.2.2.2.2
          revert d5
          cases bM A a' e' with
          | none => intro d5; show eb_I _ 64 6 = 0; rw [F9.2.2.2.2.2 _ _ (by omega)]; exact d5
          | some acc =>
            obtain ⟨c0, q⟩ := acc
            intro d5
            obtain ⟨g1, g2, g3, g4⟩ := d5
            exact ⟨by rw [F9.2.2.2.2.2 _ _ (by omega)]; exact g1, by rw [F9.2.2.2.2.2 _ _ (by omega)]; exact g2, g3, fun u hu => by rw [F9.2.2.2.2.2 _ _ (by omega)]; exact g4 u hu⟩
      refine ⟨_, _, run, same.mono (s5_sv (v := 64)), x_solved (same.ss a1.ss) (same.shM9 b1) (by rw [i5, i90, hz, nI_iI]), Fr.rf, ⟨?_, fun j hj => by rw [F9.2.2.2.2.2 _ _ (by omega)]; exact a2 j hj, z, a3, a4, i5, fun _ => ⟨a', e', ha, he, k'⟩⟩, k'⟩
      unfold ShS4 at a1 ⊢; exact a1
    · obtain ⟨σ2, r1, r2, r3, r4⟩ := anew _ same (by simp [eb_I_sI]) (by simp [eb_I_sI]) ⟨z, a3, by omega, by simp [eb_I_sI]; exact a5⟩
      exact ⟨_, σ2, run, same.mono (s5_sv (v := 64)), r1, r2, r3, r4⟩
  · have other : Fr (s5 64) σ (eb_sI (eb_sI (eb_sI σ 64 5 (-1)) 64 8 (nI a)) 64 9 (nI e)) := (Fr.sI (S := s5 64) rfl).tr ((Fr.sI (S := s5 64) rfl).tr (Fr.sI (S := s5 64) rfl))
    have run : f_X4_ask 64 (nI a) (nI e) σ = some ((), eb_sI (eb_sI (eb_sI σ 64 5 (-1)) 64 8 (nI a)) 64 9 (nI e)) := by
      unfold f_X4_ask f_X6_forget
      by_cases h8 : eb_I σ 64 8 = nI a
      · have h9 : ¬ eb_I σ 64 9 = nI e := fun z => hq ⟨h8, z⟩
        simp [eb_gI, eb_pI, eb_tg, hT, eb_jn_e, h8, h9, eb_T_sI, eb_R_sI, eb_L_sI, eb_J_sI, eb_N_sI, eb_T_sJ, eb_R_sJ, eb_L_sJ, eb_I_sJ, eb_N_sJ, eb_T_rI, eb_R_rI, eb_L_rI, eb_J_rI, eb_N_rI, eb_T_rJ, eb_R_rJ, eb_L_rJ, eb_I_rJ, eb_N_rJ, eb_cl_s]
      · simp [eb_gI, eb_pI, eb_tg, hT, eb_jn_e, h8, eb_T_sI, eb_R_sI, eb_L_sI, eb_J_sI, eb_N_sI, eb_T_sJ, eb_R_sJ, eb_L_sJ, eb_I_sJ, eb_N_sJ, eb_T_rI, eb_R_rI, eb_L_rI, eb_J_rI, eb_N_rI, eb_T_rJ, eb_R_rJ, eb_L_rJ, eb_I_rJ, eb_N_rJ, eb_cl_s]
    obtain ⟨σ2, r1, r2, r3, r4⟩ := anew _ other (by simp [eb_I_sI]) (by simp [eb_I_sI]) ⟨-1, by omega, by omega, by simp [eb_I_sI]; rfl⟩
    exact ⟨_, σ2, run, other.mono (s5_sv (v := 64)), r1, r2, r3, r4⟩
