/-! ===== pure: the search through all rows ===== -/
/-- what a search has in its rows when the things below t lie as p says -/
def PI (A : Nat → Nat → Nat) (p : Nat → Nat) (t v : Nat) (σ : eb_S) : Prop := SS v σ ∧ ShM9 σ ∧ MX9 A σ ∧ AH A v 0 σ ∧ LD A p t v σ ∧ RW p t (v + 1) σ
/-- the things below t lie as they may -/
def PO (A : Nat → Nat → Nat) (p : Nat → Nat) (t : Nat) : Prop := (∀ u, u < t → lawT A p u) ∧ (∀ u, u < t → softT A p u) ∧ ∀ s, s < aS A → ∀ b, b < 3 → ldB A p b s t ≤ aH A b
def sv (v k _j : Nat) : Prop := v ≤ k ∧ k ≤ v + 4
theorem nX_sv {v : Nat} (hv : 25 ≤ v) : nX (sv v) := fun k j h => by unfold sv at h; omega
theorem sL_sv {v : Nat} : ∀ k j, sL v k j → sv v k j := fun k j h => by unfold sL at h; unfold sv; omega
theorem sW_sv {v : Nat} : ∀ k j, sW v k j → sv v k j := fun k j h => by unfold sW at h; unfold sv; omega
theorem lawQ_cong {A : Nat → Nat → Nat} {p q : Nat → Nat} {t l : Nat} (hq : ∀ u, u < t → q u = p u) (h1 : aL1 A l < t) (h2 : aL2 A l < t) : lawQ A q l ↔ lawQ A p l := by
  unfold lawQ; rw [hq _ h1, hq _ h2]
theorem lawT_cong {A : Nat → Nat → Nat} {p q : Nat → Nat} {t u : Nat} (hq : ∀ u, u < t → q u = p u) (hu : u < t) : lawT A q u ↔ lawT A p u := by
  constructor
  · intro h l hl hm; exact (lawQ_cong hq (by omega) (by omega)).mp (h l hl hm)
  · intro h l hl hm; exact (lawQ_cong hq (by omega) (by omega)).mpr (h l hl hm)
theorem softT_cong {A : Nat → Nat → Nat} {p q : Nat → Nat} {t u : Nat} (hq : ∀ u, u < t → q u = p u) (hu : u < t) : softT A q u ↔ softT A p u := by
  unfold softT softQ
  constructor
  · intro h x hx; have := h x hx; rw [hq x (by omega), hq u hu] at this; exact this
  · intro h x hx; have := h x hx; rw [hq x (by omega), hq u hu]; exact this
theorem PO.lawful {A : Nat → Nat → Nat} {p : Nat → Nat} (w : wf A) (h : PO A p (aN A)) : lawfulP A p := ⟨(lawP_iff w p).mpr h.1, (softP_iff p).mpr h.2.1, h.2.2⟩
theorem PO.zero {A : Nat → Nat → Nat} {p : Nat → Nat} : PO A p 0 := ⟨fun u h => by omega, fun u h => by omega, fun s _ b _ => Nat.zero_le _⟩
/-- what a search has to bring with it -/
def SearchOk (A : Nat → Nat → Nat) (n v : Nat) (S : Type) (g : (Nat → Nat) → S → S) (K : S → eb_S → Prop) : Prop :=
  (∀ q acc, ¬ lawfulP A q → g q acc = acc) ∧
  (∀ acc σ σ', K acc σ → Fr (fun k _ => k = v + 1 ∨ k = v + 3) σ σ' → K acc σ') ∧
  (∀ t p acc σ, t ≤ aN A → PI A p t v σ → PO A p t → K acc σ → ∃ b σ', eb_d3 σ v 0 4 5 (f_X0_isHopeless n v (nI t) σ) (f_X4_isHopeless n v (nI t) σ) (f_X5_isHopeless n v (nI t) σ) = some (b, σ') ∧ PI A p t v σ' ∧ K acc σ' ∧ Fr (sv v) σ σ' ∧ (b = true → ∀ q, goon A p t q → (∀ u, t ≤ u → u < aN A → q u ∈ [0, 1, 2]) → g q acc = acc) ∧ (b = false → t = aN A → ∃ σ'', eb_d3 σ' v 0 4 5 (f_X0_reach v σ') (f_X4_reach v σ') (f_X5_reach n v σ') = some ((), σ'') ∧ PI A p t v σ'' ∧ K (g p acc) σ'' ∧ Fr (sv v) σ' σ''))
theorem rup_lt {p : Nat → Nat} {t b u : Nat} (h : u < t) : rup p t b u = p u := by unfold rup; rw [if_neg (by omega)]
theorem rup_at {p : Nat → Nat} {t b : Nat} : rup p t b t = b := by unfold rup; rw [if_pos rfl]
set_option maxHeartbeats 4000000 in
/-- one bag tried for thing t -/
theorem x_place_step {A : Nat → Nat → Nat} (w : wf A) {n v : Nat} (hn : 100 ≤ n) (hv25 : 25 ≤ v) {S : Type} {g : (Nat → Nat) → S → S} {K : S → eb_S → Prop} (ok : SearchOk A n v S g K) {d t : Nat} (hd : t + 1 + d = aN A) {P : Nat → Int32 → eb_S → Option (Unit × eb_S)}
    (hP : ∀ p acc σ, PI A p (t + 1) v σ → PO A p (t + 1) → K acc σ → ∃ σ', P v (nI (t + 1)) σ = some ((), σ') ∧ PI A p (t + 1) v σ' ∧ K (en g [0, 1, 2] d (t + 1) p acc) σ' ∧ Fr (sv v) σ σ')
    {p : Nat → Nat} {b : Nat} (hb : b < 3) (m : Nat) {acc : S} {σ : eb_S} (hI : PI A p t v σ) (hO : PO A p t) (hK : K acc σ) : ∃ σ', f_X6_place_L27 n P v (nI t) (m + 1) (nI b) σ = f_X6_place_L27 n P v (nI t) m (nI (b + 1)) σ' ∧ PI A p t v σ' ∧ K (en g [0, 1, 2] d (t + 1) (rup p t b) acc) σ' ∧ Fr (sv v) σ σ' := by
  have ht : t < aN A := by omega
  have wN := w.1
  obtain ⟨hv, hs, hX, hA, hL, hR⟩ := hI
  have hF1 : Fr (fun k _ => k = v + 1) σ (eb_sI σ (v + 1) t (nI b)) := Fr.sI rfl
  have hF1v : Fr (sv v) σ (eb_sI σ (v + 1) t (nI b)) := hF1.mono (fun k j h => by unfold sv; omega)
  have hv1 := hF1.ss hv
  have hs1 := hF1.shM9 hs
  have hX1 := hF1v.mx (nX_sv hv25) hX
  have hA1 : AH A v 0 (eb_sI σ (v + 1) t (nI b)) := hA.fr hF1 (fun j z => by omega)
  have hL1 : LD A p t v (eb_sI σ (v + 1) t (nI b)) := hL.fr hF1 (fun j z => by omega)
  have hR1 : RW (rup p t b) (t + 1) (v + 1) (eb_sI σ (v + 1) t (nI b)) := ⟨hR.1, hR.2.1, fun u hu => by
    rw [eb_I_sI, if_pos rfl]
    by_cases e : u = t
    · rw [if_pos e, e, rup_at]; exact ⟨rfl, hb⟩
    · rw [if_neg e, rup_lt (by omega)]; exact hR.2.2 u (by omega)⟩
  have back : ∀ σ', RW (rup p t b) (t + 1) (v + 1) σ' → RW p t (v + 1) σ' := fun σ' h => ⟨h.1, h.2.1, fun u hu => by have := h.2.2 u (by omega); rw [rup_lt hu] at this; exact this⟩
  have hK1 : K acc (eb_sI σ (v + 1) t (nI b)) := ok.2.1 _ _ _ hK (hF1.mono (fun k j h => Or.inl h))
  have hI1 : PI A p t v (eb_sI σ (v + 1) t (nI b)) := ⟨hv1, hs1, hX1, hA1, hL1, back _ hR1⟩
  -- a subtree without a lawful row
  have none : (∀ q, goon A (rup p t b) (t + 1) q → ¬ lawfulP A q) → en g [0, 1, 2] d (t + 1) (rup p t b) acc = acc := fun h => en_id d (t + 1) (rup p t b) (fun q h1 _ => ok.1 q acc (h q h1))
  obtain ⟨c1, k1, k2⟩ := x_keepsLaws hs1 hX1 w ht hR1 hn
  obtain ⟨c2, l1, l2⟩ := x_liesSoftly hs1 hX1 w ht hR1 hn
  have e3 : ((3 : Int32) ≤ nI b) = False := by
    rw [show (3 : Int32) = nI 3 from rfl, p_leN (by omega) (by omega), eq_iff_iff]
    exact ⟨fun h => by omega, False.elim⟩
  have hvu := hv
  have hv1u := hv1
  have hs1u := hs1
  unfold SS at hvu hv1u
  unfold ShM9 at hs1u
  rw [f_X6_place_L27.eq_2]
  simp only [e3, if_false, eb_gR, eb_wi, eb_tg, hvu, p_in (show t < 10 by omega) (by decide : 10 < 2 ^ 31), p_cl (show t < 2 ^ 31 by omega), true_and, ne_eq, Nat.add_eq_zero_iff, show ¬ (1 : Nat) = 0 by decide, and_false, not_false_eq_true, if_true, hv1u, hs1u, show ¬ (9 : Nat) = 0 by decide, and_self, k1, eb_cl_s, eb_jn_e, eb_b0, nI_1]
  cases c1 with
  | false =>
    refine ⟨eb_sI σ (v + 1) t (nI b), by simp, hI1, ?_, hF1v⟩
    rw [none (fun q h1 hq => by
      have : lawT A q t := (lawP_iff w q).mp hq.1 t ht
      exact absurd (k2.mpr ((lawT_cong h1 (by omega)).mp this)) Bool.false_ne_true)]
    exact hK1
  | true =>
  have hlaw := k2.mp rfl
  simp only [l1, eb_cl_s, Bool.true_eq_false, if_false]
  cases c2 with
  | false =>
    refine ⟨eb_sI σ (v + 1) t (nI b), by simp, hI1, ?_, hF1v⟩
    rw [none (fun q h1 hq => by
      have : softT A q t := (softP_iff q).mp hq.2.1 t ht
      exact absurd (l2.mpr ((softT_cong h1 (by omega)).mp this)) Bool.false_ne_true)]
    exact hK1
  | true =>
  have hsoft := l2.mp rfl
  -- the thing is laid into the bag
  obtain ⟨σ2, s1, s2, s3⟩ := x_shift w hn hv25 ht hb (x := 1) hv1 hs1 hX1 hA1
  have s2v : Fr (sv v) (eb_sI σ (v + 1) t (nI b)) σ2 := s2.mono sL_sv
  have hv2 := s2.ss hv1
  have hs2 := s2.shM9 hs1
  have hX2 := s2v.mx (nX_sv hv25) hX1
  have hA2 : AH A v 0 σ2 := hA1.fr s2 (fun j z => by unfold sL at z; omega)
  have hL2 : LD A (rup p t b) (t + 1) v σ2 := (hL1.cong (q := rup p t b) (fun u hu => rup_lt hu)).up rup_at s3
  have rwfr : ∀ {q : Nat → Nat} {k : Nat} {σ' σ'' : eb_S}, Fr (sL v) σ' σ'' → RW q k (v + 1) σ' → RW q k (v + 1) σ'' := fun hF h => ⟨by rw [hF.1]; exact h.1, by rw [hF.2.2.1]; exact h.2.1, fun u hu => by rw [hF.2.2.2.2.2 _ _ (fun z => by unfold sL at z; omega)]; exact h.2.2 u hu⟩
  have hR2 := rwfr s2 hR1
  have hK2 : K acc σ2 := ok.2.1 _ _ _ hK1 (s2.mono (fun k j h => Or.inr h))
  have hI2 : PI A (rup p t b) (t + 1) v σ2 := ⟨hv2, hs2, hX2, hA2, hL2, hR2⟩
  obtain ⟨c3, h1, h2⟩ := x_still w hn (show t + 1 ≤ aN A by omega) hb hv2 hs2 hX2 hL2
  -- and is taken out again
  have out : ∀ acc' σ', PI A (rup p t b) (t + 1) v σ' → K acc' σ' → Fr (sv v) σ2 σ' → ∃ σ'', f_X6_shift n v (nI t) (nI b) (-1) σ' = some ((), σ'') ∧ PI A p t v σ'' ∧ K acc' σ'' ∧ Fr (sv v) σ σ'' := by
    intro acc' σ' hI' hK' hF'
    obtain ⟨hv', hs', hX', hA', hL', hR'⟩ := hI'
    obtain ⟨σ3, t1, t2, t3⟩ := x_shift w hn hv25 ht hb (x := -1) hv' hs' hX' hA'
    have t2v : Fr (sv v) σ' σ3 := t2.mono sL_sv
    refine ⟨σ3, t1, ⟨t2.ss hv', t2.shM9 hs', t2v.mx (nX_sv hv25) hX', hA'.fr t2 (fun j z => by unfold sL at z; omega), ?_, back _ (rwfr t2 hR')⟩, ok.2.1 _ _ _ hK' (t2.mono (fun k j h => Or.inr h)), hF1v.tr (s2v.tr (hF'.tr t2v))⟩
    exact (hL'.down rup_at t3).cong (fun u hu => (rup_lt hu).symm)
  have hv2u := hv2
  unfold SS at hv2u
  simp only [eb_ts, hv1u, if_true, s1, eb_cl_s, hv2u, h1]
  cases c3 with
  | false =>
    obtain ⟨σ3, t1, t2, t3, t4⟩ := out acc σ2 hI2 hK2 Fr.rf
    refine ⟨σ3, by simp only [if_true, t1, eb_cl_s, Bool.true_eq_false, if_false], t2, ?_, t4⟩
    rw [none (fun q h3 hq => by
      have : ∀ s', s' < aS A → ldB A (rup p t b) b s' (t + 1) ≤ aH A b := fun s' hs' => by
        have g1 := hq.2.2 s' hs' b hb
        have g2 := ldB_grow (A := A) q s' (t + 1) b d
        rw [hd] at g2
        have g3 : ldB A q b s' (t + 1) = ldB A (rup p t b) b s' (t + 1) := ldB_cong (t + 1) h3
        omega
      exact absurd (h2.mpr this) Bool.false_ne_true)]
    exact t3
  | true =>
    have hst := h2.mp rfl
    have hO2 : PO A (rup p t b) (t + 1) := by
      refine ⟨fun u hu => ?_, fun u hu => ?_, fun s' hs' b' hb' => ?_⟩
      · by_cases e : u = t
        · rw [e]; exact hlaw
        · exact (lawT_cong (fun x hx => rup_lt hx) (show u < t by omega)).mpr (hO.1 u (by omega))
      · by_cases e : u = t
        · rw [e]; exact hsoft
        · exact (softT_cong (fun x hx => rup_lt hx) (show u < t by omega)).mpr (hO.2.1 u (by omega))
      · by_cases e : b' = b
        · rw [e]; exact hst s' hs'
        · have g1 := hO.2.2 s' hs' b' hb'
          have g2 : ldB A (rup p t b) b' s' t = ldB A p b' s' t := ldB_cong t (fun x hx => rup_lt hx)
          show ldB A (rup p t b) b' s' t + (if rup p t b t = b' then ldT A t s' else 0) ≤ aH A b'
          rw [rup_at, if_neg (by omega), g2]
          exact g1
    obtain ⟨σ4, q1, q2, q3, q4⟩ := hP (rup p t b) acc σ2 hI2 hO2 hK2
    obtain ⟨σ5, t1, t2, t3, t4⟩ := out _ σ4 q2 q3 q4
    have hv4u := q2.1
    unfold SS at hv4u
    refine ⟨σ5, by simp only [Bool.true_eq_false, if_false, q1, eb_cl_s, hv4u, if_true, t1], t2, t3, t4⟩
set_option maxHeartbeats 4000000 in
theorem x_place {A : Nat → Nat → Nat} (w : wf A) {n v : Nat} (hn : 100 ≤ n) (hv25 : 25 ≤ v) {S : Type} {g : (Nat → Nat) → S → S} {K : S → eb_S → Prop} (ok : SearchOk A n v S g K) : ∀ (d t : Nat), t + d = aN A → ∀ D, d < D → ∀ p acc σ, PI A p t v σ → PO A p t → K acc σ → ∃ σ', f_X6_place n D v (nI t) σ = some ((), σ') ∧ PI A p t v σ' ∧ K (en g [0, 1, 2] d t p acc) σ' ∧ Fr (sv v) σ σ' := by
  intro d
  induction d with
  | zero =>
    intro t ht D hD p acc σ hI hO hK
    obtain ⟨D, rfl⟩ : ∃ D', D = D' + 1 := ⟨D - 1, by omega⟩
    have wN := w.1
    obtain ⟨b, σ1, h1, h2, h3, h4, h5, h6⟩ := ok.2.2 t p acc σ (by omega) hI hO hK
    rw [f_X6_place.eq_2, h1, eb_cl_s]
    cases b with
    | true =>
      refine ⟨σ1, by simp [eb_b0], h2, ?_, h4⟩
      have e : g p acc = acc := h5 rfl p (fun u hu => rfl) (fun u a b => by omega)
      show K (g p acc) σ1
      rw [e]; exact h3
    | false =>
      obtain ⟨σ2, r1, r2, r3, r4⟩ := h6 rfl (by omega)
      refine ⟨σ2, ?_, r2, r3, h4.tr r4⟩
      have hN := h2.2.2.1.1
      have hvu := h2.1
      have hsu := h2.2.1
      unfold SS at hvu
      unfold ShM9 at hsu
      have e1 : (nI t < nI (aN A)) = False := by
        rw [p_ltN (by omega) (by omega), eq_iff_iff]
        exact ⟨fun h => by omega, False.elim⟩
      simp only [eb_b0, if_true, eb_gR, eb_gI, hvu, hsu, hN, e1, if_false, r1, eb_cl_s, true_and, List.mem_singleton]
      simp
  | succ d ih =>
    intro t ht D hD p acc σ hI hO hK
    obtain ⟨D, rfl⟩ : ∃ D', D = D' + 1 := ⟨D - 1, by omega⟩
    have wN := w.1
    obtain ⟨b, σ1, h1, h2, h3, h4, h5, h6⟩ := ok.2.2 t p acc σ (by omega) hI hO hK
    rw [f_X6_place.eq_2, h1, eb_cl_s]
    cases b with
    | true =>
      refine ⟨σ1, by simp [eb_b0], h2, ?_, h4⟩
      rw [en_id (d + 1) t p (fun q a1 a2 => h5 rfl q a1 (fun u b1 b2 => a2 u b1 (by omega)))]
      exact h3
    | false =>
      have hN := h2.2.2.1.1
      have hvu := h2.1
      have hsu := h2.2.1
      unfold SS at hvu
      unfold ShM9 at hsu
      have e1 : (nI t < nI (aN A)) = True := by
        rw [p_ltN (by omega) (by omega), eq_iff_iff]
        exact ⟨fun _ => trivial, fun _ => by omega⟩
      have st := fun b hb k acc σ => x_place_step w hn hv25 ok (d := d) (t := t) (by omega) (P := f_X6_place n D) (fun p acc σ => ih (t + 1) (by omega) D (by omega) p acc σ) (p := p) (b := b) hb k (acc := acc) (σ := σ)
      have loop : ∀ k m, k = m + 1 + 1 + 1 + 1 → ∃ σ', f_X6_place_L27 n (f_X6_place n D) v (nI t) k (nI 0) σ1 = some ((), σ') ∧ PI A p t v σ' ∧ K (en g [0, 1, 2] (d + 1) t p acc) σ' ∧ Fr (sv v) σ1 σ' := by
        intro k m hk
        obtain ⟨σ2, a1, a2, a3, a4⟩ := st 0 (by decide) (m + 1 + 1 + 1) acc σ1 h2 hO h3
        obtain ⟨σ3, b1, b2, b3, b4⟩ := st 1 (by decide) (m + 1 + 1) _ σ2 a2 hO a3
        obtain ⟨σ4, c1, c2, c3, c4⟩ := st 2 (by decide) (m + 1) _ σ3 b2 hO b3
        refine ⟨σ4, ?_, c2, c3, a4.tr (b4.tr c4)⟩
        rw [hk, a1, b1, c1, f_X6_place_L27.eq_2, if_pos (by decide)]
      obtain ⟨σ2, r1, r2, r3, r4⟩ := loop n (n - 4) (by omega)
      refine ⟨σ2, ?_, r2, r3, h4.tr r4⟩
      rw [nI_0] at r1
      simp only [eb_b0, if_true, eb_gR, eb_gI, hvu, hsu, hN, e1, true_and, List.mem_singleton, r1]
      simp
