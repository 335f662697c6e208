/-! ===== pure: moved, both sides ===== -/
set_option maxHeartbeats 2000000 in
theorem d_changes_L {A : Nat → Nat → Nat} (w : wf A) {n : Nat} {p : Nat → Nat} {σ : eb_S} (hs : ShD σ) (hD : MD A σ) {r : Nat} (hr : RW p (aN A) r σ) : ∀ (m t : Nat), t ≤ aN A → aN A < t + m → f_X10_changes_L4 n 91 r m (nI (mch A p t)) (nI t) σ = some (nI (mch A p (aN A)), σ) := by
  intro m
  induction m with
  | zero => intro t h1 h2; omega
  | succ m ih =>
    intro t h1 h2
    have wN := w.1
    have hN := hD.1
    have hB := hD.2.2.2.2.2.1
    unfold ShD at hs
    rw [f_X10_changes_L4.eq_2]
    simp only [eb_gI, hs, hN, List.mem_singleton, if_true, p_leN (show aN A < 2 ^ 31 by omega) (show t < 2 ^ 31 by omega)]
    by_cases h : aN A ≤ t
    · have : t = aN A := by omega
      subst this
      simp
    · have wt := w.2.1 t (by omega)
      have e1 := hr.2.2 t (by omega)
      have e3 : (nI (p t) = nI (aB A t)) = (p t = aB A t) := p_eqN (by omega) (by omega)
      have ih' := ih (t + 1) (by omega) (by omega)
      have e4 : mch A p (t + 1) = mch A p t + if p t = aB A t then 0 else 1 := rfl
      rw [e4] at ih'
      by_cases h3 : p t = aB A t
      · rw [if_pos h3] at ih'
        simp [h, eb_gR, eb_ai, hs, hr.1, hr.2.1, e1.1, hB t (by omega), eb_jn_e, p_in (show t < 10 by omega) (by decide : 10 < 2 ^ 31), p_cl (show t < 2 ^ 31 by omega), h3, nI_1]
        exact ih'
      · rw [if_neg h3] at ih'
        simp [h, eb_gR, eb_ai, hs, hr.1, hr.2.1, e1.1, hB t (by omega), e3, eb_jn_e, p_in (show t < 10 by omega) (by decide : 10 < 2 ^ 31), p_cl (show t < 2 ^ 31 by omega), h3, nI_1]
        exact ih'
theorem d_changes {A : Nat → Nat → Nat} (w : wf A) {n : Nat} (hn : 100 ≤ n) {p : Nat → Nat} {σ : eb_S} (hs : ShD σ) (hD : MD A σ) {r : Nat} (hr : RW p (aN A) r σ) : f_X10_changes n 91 r σ = some (nI (mch A p (aN A)), σ) := by
  have wN := w.1
  have := d_changes_L w (n := n) hs hD hr n 0 (by omega) (by omega)
  unfold f_X10_changes
  rw [← nI_0]
  exact this
set_option maxHeartbeats 2000000 in
theorem d_moved_L90 {A : Nat → Nat → Nat} (w : wf A) {n e : Nat} (hn : 100 ≤ n) (he : e < 2 ^ 31) {v1 v3 v4 : Int32} {p : Nat → Nat} {σ : eb_S} (hs : ShD σ) (hD : MD A σ) (hT : TR (aN A) p σ) {K : Int32 → eb_S → Option (Int32 × eb_S)} : ∀ (m s : Nat) (is : Bool), s ≤ aS A → aS A < s + m → ∃ is', f_X10_moved_L90 n 91 v1 (nI e) v3 v4 K m (eb_b is) (nI s) σ = K (eb_b is') σ ∧ (is' = true ↔ is = true ∧ ∀ s', s ≤ s' → s' < aS A → (off A p s').natAbs ≤ e) := by
  intro m
  induction m with
  | zero => intro s is h1 h2; omega
  | succ m ih =>
    intro s is h1 h2
    have wS := w.2.2.1
    have hS := hD.2.2.2.2.2.2.1
    have hs' := hs
    unfold ShD at hs
    rw [f_X10_moved_L90.eq_2]
    simp only [eb_gI, hs, hS, List.mem_singleton, if_true, p_leN (show aS A < 2 ^ 31 by omega) (show s < 2 ^ 31 by omega)]
    by_cases h : aS A ≤ s
    · exact ⟨is, by simp [h], by rw [all_end h]; simp⟩
    · have h5 : s < aS A := by omega
      cases is with
      | false => exact ⟨false, by simp [h, eb_b0], ⟨fun z => absurd z Bool.false_ne_true, fun z => z.1⟩⟩
      | true =>
        have ob := off_bd w p s
        have oa := off_abs w p s
        have e1 := d_offOf hs' hD w (hT.rw hs') (s := s) (n := n) (by omega) hn
        have e2 : (nI e < nI (off A p s).natAbs) = (e < (off A p s).natAbs) := p_ltN he (by omega)
        by_cases h6 : e < (off A p s).natAbs
        · obtain ⟨is', g1, g2⟩ := ih (s + 1) false (by omega) (by omega)
          refine ⟨is', ?_, ?_⟩
          · rw [show eb_b false = 0 from rfl] at g1
            simp [h, eb_b0, eb_gR, eb_tg, hs, e1, eb_cl_s, d_plain, p_abs2 (show -2147483647 ≤ off A p s by omega) (by omega), eb_jn_e, e2, h6, nI_1, g1]
          · rw [g2, all_step h5]
            exact ⟨fun z => absurd z.1 Bool.false_ne_true, fun z => by omega⟩
        · obtain ⟨is', g1, g2⟩ := ih (s + 1) true (by omega) (by omega)
          refine ⟨is', ?_, ?_⟩
          · rw [show eb_b true = 1 from rfl] at g1
            simp [h, eb_b0, eb_gR, eb_tg, hs, e1, eb_cl_s, d_plain, p_abs2 (show -2147483647 ≤ off A p s by omega) (by omega), eb_jn_e, e2, h6, nI_1, g1]
          · rw [g2, all_step h5]
            exact ⟨fun z => ⟨rfl, by omega, z.2⟩, fun z => ⟨rfl, z.2.2⟩⟩
def sM (k _j : Nat) : Prop := k = 110 ∨ k = 111
theorem nD_sM : nD sM := fun k j h => by unfold sM at h; omega
def aMv (N : Nat) (acc : Option (Nat × (Nat → Nat))) (v : Int32) (σ : eb_S) : Prop := match acc with
  | none => v = -1
  | some (c0, q) => v = nI c0 ∧ c0 ≤ 10 ∧ ∀ u, u < N → eb_I σ 111 u = nI (q u) ∧ q u < 3
def rMv (A : Nat → Nat → Nat) (σ0 : eb_S) (p : Nat → Nat) (acc : Option (Nat × (Nat → Nat))) (x : Int32 × eb_S) : Prop := ShD x.2 ∧ MD A x.2 ∧ TR (aN A) p x.2 ∧ Fr sM σ0 x.2 ∧ aMv (aN A) acc x.1 x.2
def lMv (n a e : Nat) (v3 : Int32) (K : Int32 → eb_S → Option (Int32 × eb_S)) (m : Nat) (x : Int32 × eb_S) : Option (Int32 × eb_S) := f_X10_moved_L46 n 91 (nI a) (nI e) v3 K m x.1 1 x.2
def tMv (n a e : Nat) (v3 : Int32) (K : Int32 → eb_S → Option (Int32 × eb_S)) (m : Nat) (x : Int32 × eb_S) : Option (Int32 × eb_S) := eb_cl (f_X10_turns n 91 3 x.2) fun b s => f_X10_moved_L46 n 91 (nI a) (nI e) v3 K m x.1 (eb_b b) s
theorem aMv_Fr {N : Nat} {acc : Option (Nat × (Nat → Nat))} {v : Int32} {σ σ' : eb_S} {S : Nat → Nat → Prop} (hF : Fr S σ σ') (h3 : ∀ j, ¬ S 111 j) (h : aMv N acc v σ) : aMv N acc v σ' := by
  match acc, h with
  | none, h => exact h
  | some (c0, q), ⟨a1, a2, a6⟩ => exact ⟨a1, a2, fun u hu => by rw [hF.2.2.2.2.2 _ _ (h3 u)]; exact a6 u hu⟩
set_option maxHeartbeats 4000000 in
theorem d_moved_step {A : Nat → Nat → Nat} (w : wf A) {n a e : Nat} (hn : 100 ≤ n) (ha : a ≤ aS A) (he : e < 2 ^ 31) {v3 : Int32} {K : Int32 → eb_S → Option (Int32 × eb_S)} {σ0 : eb_S} (m : Nat) (p : Nat → Nat) (acc : Option (Nat × (Nat → Nat))) (x : Int32 × eb_S) (h : rMv A σ0 p acc x) : ∃ x', lMv n a e v3 K (m + 1) x = tMv n a e v3 K m x' ∧ rMv A σ0 p (gM A a e p acc) x' := by
  obtain ⟨v, σ⟩ := x
  obtain ⟨hs, hD, hT, hF, hA⟩ := h
  dsimp only at hs hD hT hF hA
  have wN := w.1
  have wS := w.2.2.1
  have mb := mch_le (A := A) p (aN A)
  obtain ⟨b, hb1, hb2⟩ := d_isLawful hs hD w (hT.rw hs) hn
  have hc := d_changes w hn hs hD (hT.rw hs)
  unfold lMv tMv
  dsimp only
  rw [f_X10_moved_L46.eq_2]
  have hs' := hs
  unfold ShD at hs
  -- the row is taken
  obtain ⟨σ2, f1, f2, f3⟩ := d_finds hn hs'
  have keep : rMv A σ0 p (some (mch A p (aN A), p)) (nI (mch A p (aN A)), σ2) := by
    refine ⟨f2.shD hs', f2.md nD_sF hD, ?_, hF.tr (f2.mono (fun k j h => Or.inr h)), rfl, by omega, fun u hu => ?_⟩
    · intro u hu
      rw [f2.2.2.2.2.2 _ _ (fun z => by unfold sF at z; omega)]
      exact hT u hu
    · rw [f3 u (by omega)]
      exact hT u hu
  have hk2 := keep.1
  dsimp only at hk2
  unfold ShD at hk2
  have stay : rMv A σ0 p acc (v, σ) := ⟨hs', hD, hT, hF, hA⟩
  obtain ⟨KK, hKK⟩ : ∃ KK : Int32 → eb_S → Option (Int32 × eb_S), KK = fun (w20 : Int32) (s21 : eb_S) => if w20 = 0 then (eb_cl (eb_tg s21 91 9 (f_X10_turns n 91 3 s21)) fun b26 s25 => f_X10_moved_L46 n 91 (nI a) (nI e) v3 K m v (eb_b b26) s25) else (eb_gR s21 [9] 91 29 fun r27 => eb_cl (eb_tg s21 91 9 (f_X10_changes n 91 r27 s21)) fun x29 s28 => eb_cl (eb_tg s28 91 9 (f_X10_finds n 91 s28)) fun _u s30 => eb_cl (eb_tg s30 91 9 (f_X10_turns n 91 3 s30)) fun b26 s25 => f_X10_moved_L46 n 91 (nI a) (nI e) v3 K m x29 (eb_b b26) s25) := ⟨_, rfl⟩
  obtain ⟨i0, j1, j2⟩ := d_moved_L90 w (n := n) (e := e) hn he (v1 := nI a) (v3 := v3) (v4 := v) hs' hD hT (K := KK) n a false ha (by omega)
  obtain ⟨i1, k1, k2⟩ := d_moved_L90 w (n := n) (e := e) hn he (v1 := nI a) (v3 := v3) (v4 := v) hs' hD hT (K := KK) n a true ha (by omega)
  have hi0 : i0 = false := by
    cases i0 with
    | false => rfl
    | true => exact absurd (j2.mp rfl).1 Bool.false_ne_true
  subst hi0
  rw [show eb_b false = 0 from rfl] at j1
  rw [show eb_b true = 1 from rfl] at k1
  simp only [show ¬ (1 : Int32) = 0 by decide, if_false, eb_jn_e]
  rw [← hKK]
  have kk0 : KK 0 σ = eb_cl (f_X10_turns n 91 3 σ) fun b26 s25 => f_X10_moved_L46 n 91 (nI a) (nI e) v3 K m v (eb_b b26) s25 := by
    rw [hKK]; simp [eb_tg, hs]
  have kk1 : KK 1 σ = eb_cl (f_X10_turns n 91 3 σ2) fun b26 s25 => f_X10_moved_L46 n 91 (nI a) (nI e) v3 K m (nI (mch A p (aN A))) (eb_b b26) s25 := by
    rw [hKK]; simp [eb_tg, eb_gR, hs, hc, eb_cl_s, f1, hk2]
  simp only [eb_gR, eb_tg, hs, List.mem_singleton, hb1, hc, eb_cl_s, if_true, true_and, ne_eq, show ¬ (110 : Nat) = 0 by decide, not_false_eq_true, j1, k1]
  -- may it be taken?
  have tk : (v < 0 ∨ ¬ v ≤ nI (mch A p (aN A))) → ∀ hl : lawfulP A p ∧ mok A a e p, gM A a e p acc = some (mch A p (aN A), p) := by
    intro hv hl
    rw [gM_t hl]
    match acc, hA with
    | none, _ => rfl
    | some (c0, q), ⟨a1, a2, a6⟩ =>
      show ite _ _ _ = _
      rw [if_pos]
      rcases hv with hv | hv
      · rw [a1] at hv; exact absurd hv (nI_pos (by omega))
      · rw [a1, p_leN (by omega) (by omega)] at hv; omega
  have nt' : ¬ v < 0 → v ≤ nI (mch A p (aN A)) → gM A a e p acc = acc := by
    intro h1 h2
    match acc, hA with
    | none, a1 => have a1 : v = -1 := a1; rw [a1] at h1; exact absurd (by decide) h1
    | some (c0, q), ⟨a1, a2, a6⟩ =>
      by_cases hl : lawfulP A p ∧ mok A a e p
      · rw [gM_t hl]
        show ite _ _ _ = _
        rw [a1, p_leN (by omega) (by omega)] at h2
        rw [if_neg (by omega)]
      · exact gM_f hl _
  have fin : ∀ b', b' = b → (v < 0 ∨ ¬ v ≤ nI (mch A p (aN A))) → ∃ x' : Int32 × eb_S, (if eb_b b' = 0 then KK 0 σ else KK (eb_b i1) σ) = (eb_cl (f_X10_turns n 91 3 x'.2) fun b s => f_X10_moved_L46 n 91 (nI a) (nI e) v3 K m x'.1 (eb_b b) s) ∧ rMv A σ0 p (gM A a e p acc) x' := by
    intro b' hb' hv
    subst hb'
    cases b' with
    | false =>
      refine ⟨(v, σ), by rw [if_pos (show eb_b false = 0 from rfl)]; exact kk0, ?_⟩
      rw [gM_f (fun z => absurd (hb2.mpr z.1) Bool.false_ne_true)]
      exact stay
    | true =>
      rw [if_neg (by decide)]
      cases i1 with
      | false =>
        refine ⟨(v, σ), kk0, ?_⟩
        rw [gM_f (fun z => absurd (k2.mpr ⟨rfl, z.2⟩) Bool.false_ne_true)]
        exact stay
      | true =>
        refine ⟨(nI (mch A p (aN A)), σ2), kk1, ?_⟩
        rw [tk hv ⟨hb2.mp rfl, (k2.mp rfl).2⟩]
        exact keep
  by_cases hv0 : v < 0
  · rw [if_pos hv0]
    exact fin b rfl (Or.inl hv0)
  · rw [if_neg hv0]
    by_cases hv1 : v ≤ nI (mch A p (aN A))
    · rw [if_pos hv1]
      refine ⟨(v, σ), kk0, ?_⟩
      rw [nt' hv0 hv1]
      exact stay
    · rw [if_neg hv1]
      exact fin b rfl (Or.inr hv1)
theorem d_moved_turn {A : Nat → Nat → Nat} (w : wf A) {n a e : Nat} (hn : 100 ≤ n) {v3 : Int32} {K : Int32 → eb_S → Option (Int32 × eb_S)} {σ0 : eb_S} (m : Nat) (p : Nat → Nat) (acc : Option (Nat × (Nat → Nat))) (x : Int32 × eb_S) (t : Nat) (h : rMv A σ0 p acc x) (ht : t < aN A) (hp : p t < 2) (hf : ∀ u, t < u → u < aN A → p u = 2) : ∃ x', tMv n a e v3 K m x = lMv n a e v3 K m x' ∧ rMv A σ0 (rfil (aN A) (t + 1) 0 (rup p t (p t + 1))) acc x' := by
  obtain ⟨v, σ⟩ := x
  obtain ⟨hs, hD, hT, hF, hA⟩ := h
  dsimp only at hs hD hT hF hA
  obtain ⟨σ1, g1, g2, g3⟩ := d_turns hn (mm := 2) (by decide) w hs hD hT ht hp hf
  refine ⟨(v, σ1), ?_, g2.shD hs, g2.md nD_sT hD, g3, hF.tr (g2.mono (fun k j h => Or.inl h)), aMv_Fr g2 (fun j z => by unfold sT at z; omega) hA⟩
  unfold tMv lMv
  dsimp only
  rw [show (3 : Int32) = nI (2 + 1) from rfl, g1, eb_cl_s]
  rfl
theorem d_moved_all {A : Nat → Nat → Nat} (w : wf A) {n a e : Nat} (hn : 100000 ≤ n) (ha : a ≤ aS A) (he : e < 2 ^ 31) {v3 : Int32} {K : Int32 → eb_S → Option (Int32 × eb_S)} {σ σ1 : eb_S} (hs : ShD σ) (hD : MD A σ) (g1 : f_X10_begins n 91 σ = some ((), σ1)) (g2 : Fr sT σ σ1) (g3 : ∀ u, u < 10 → eb_I σ1 110 u = 0) : ∃ v σ', f_X10_moved_L46 n 91 (nI a) (nI e) v3 K n (-1) 1 σ1 = K v σ' ∧ ShD σ' ∧ MD A σ' ∧ Fr sM σ σ' ∧ aMv (aN A) (bM A a e) v σ' := by
  have wN := w.1
  have h3 : 3 ^ aN A ≤ 3 ^ 10 := Nat.pow_le_pow_right (by decide) wN
  have h4 : 3 ^ 10 = 59049 := by decide
  have r0 : rMv A σ (fun _ => 0) none (-1, σ1) := ⟨g2.shD hs, g2.md nD_sT hD, fun u hu => ⟨by rw [g3 u (by omega)]; exact nI_0.symm, by show 0 < 3; omega⟩, g2.mono (fun k j h => Or.inl h), rfl⟩
  obtain ⟨m, hm⟩ : ∃ m, n = (m + 1) + 3 ^ aN A := ⟨n - 1 - 3 ^ aN A, by omega⟩
  obtain ⟨x', a1, a2⟩ := blk3 (N := aN A) (R := rMv A σ) (L := lMv n a e v3 K) (Tn := tMv n a e v3 K) (fun m p acc x h => d_moved_step w (by omega) ha he m p acc x h) (fun m p acc x t h h1 h2 h3 => d_moved_turn w (by omega) m p acc x t h h1 h2 h3) (aN A) 0 (by omega) (fun _ => 0) none (-1, σ1) (m + 1) r0 (fun _ _ _ => rfl)
  obtain ⟨v, σ2⟩ := x'
  obtain ⟨hs2, hD2, hT2, hF2, hA2⟩ := a2
  dsimp only at hs2 hD2 hT2 hF2 hA2
  obtain ⟨σ3, e1, e2⟩ := d_turnsE (n := n) (by omega) (mm := 2) (by decide) w hs2 hD2 hT2 (fun u hu => by unfold rfil; rw [if_pos ⟨by omega, hu⟩])
  refine ⟨v, σ3, ?_, e2.shD hs2, e2.md nD_sT hD2, hF2.tr (e2.mono (fun k j h => Or.inl h)), aMv_Fr e2 (fun j z => by unfold sT at z; omega) hA2⟩
  have : f_X10_moved_L46 n 91 (nI a) (nI e) v3 K n (-1) 1 σ1 = lMv n a e v3 K ((m + 1) + 3 ^ aN A) (-1, σ1) := by rw [← hm]; rfl
  rw [this, a1]
  unfold tMv
  dsimp only
  rw [show (3 : Int32) = nI (2 + 1) from rfl, e1, eb_cl_s, f_X10_moved_L46.eq_2, if_pos (by decide)]
def vM (acc : Option (Nat × (Nat → Nat))) (a : Int32) : Int32 := match acc with
  | none => -4
  | some (c0, q) => if a = -1 then nI c0 else nI (q a.toNatClampNeg)
set_option maxHeartbeats 4000000 in
theorem x_moved {A : Nat → Nat → Nat} (w : wf A) {n ch a e : Nat} (hn : 100 ≤ n) (hch : ch < 2 ^ 30) (ha : a < aS A) (he : e ≤ 99999) {σ : eb_S} (hb : ShB σ) (h9 : X9 A ch σ) (hS : XS4 A ch σ) {v : Int32} (hv : v = -1 ∨ ∃ t, t < aN A ∧ v = nI t) : ∃ σ1, f_X9_moved n 8 (nI a) (nI e) v σ = some (vM (bM A a e) v, σ1) ∧ Fr (sv 64) σ σ1 ∧ XS4 A ch σ1 := by
  have wN := w.1
  have wS := w.2.2.1
  obtain ⟨σ1, σ2, c1, c2, c3, c4, c5, c6⟩ := x_ask4 w (n := n) hn hch h9 hS ha he
  refine ⟨σ2, ?_, c2.tr c4, c5⟩
  have hb1 := c2.shB hb
  have hb2 := c4.shB hb1
  have hT2 := c6.1
  have hT1 : eb_T σ1 64 = 4 := by rw [← c4.1]; exact hT2
  have hT0 : eb_T σ 64 = 4 := by rw [← c2.1]; exact hT1
  have hS2 := c5.1
  have is := x_isStretch hb h9.1 h9.2.1 w (nI a)
  rw [p_ntoInt (by omega), wi_t.mpr ⟨by omega, by omega⟩] at is
  have iw := x_within (nI e) 0 99999 σ
  rw [p_ntoInt (by omega), wi_t.mpr ⟨by show (0 : Int) ≤ e; omega, by show (e : Int) ≤ 99999; omega⟩] at iw
  have it := x_isThing hb h9.1 h9.2.1 w v
  unfold ShB at hb hb1 hb2
  unfold ShS4 at hS2
  obtain ⟨_, _, _, _, k5⟩ := c6
  revert k5
  cases bM A a e with
  | none =>
    intro z0
    have z0 : eb_I σ2 64 6 = 0 := z0
    unfold f_X9_moved
    rcases hv with h | ⟨t, ht, h⟩
    · subst h; simp [eb_jn_e, eb_gR, eb_gI, eb_tg, hb, hb1, hb2, c1, c3, eb_cl_s, hT2, hT1, hT0, z0, vM, is, iw, eb_b0]
    · subst h
      rw [p_ntoInt (by omega), wi_t.mpr ⟨by omega, by omega⟩] at it
      simp [eb_jn_e, eb_gR, eb_gI, eb_tg, hb, hb1, hb2, c1, c3, eb_cl_s, hT2, hT1, hT0, z0, vM, is, iw, eb_b0, nI_nn (show t < 2 ^ 31 by omega) (by decide : (-1 : Int32) < 0), it]
  | some acc =>
    obtain ⟨c0, q⟩ := acc
    intro z0
    obtain ⟨z1, z2, z3, z4⟩ := z0
    have z1' : ¬ eb_I σ2 64 6 = 0 := by rw [z1]; decide
    unfold f_X9_moved
    rcases hv with h | ⟨t, ht, h⟩
    · subst h; simp [eb_jn_e, eb_gR, eb_gI, eb_tg, hb, hb1, hb2, c1, c3, eb_cl_s, hT2, hT1, hT0, z1', vM, is, iw, eb_b0, m1n, z2]
    · subst h
      rw [p_ntoInt (by omega), wi_t.mpr ⟨by omega, by omega⟩] at it
      simp [eb_jn_e, eb_gR, eb_gI, eb_ai, eb_tg, hb, hb1, hb2, hS2, c1, c3, eb_cl_s, hT2, hT1, hT0, z1', vM, is, iw, eb_b0, nI_nn (show t < 2 ^ 31 by omega) (by decide : (-1 : Int32) < 0), it, p_nn (show t < 2 ^ 31 by omega), p_in (show t < 10 by omega) (by decide : 10 < 2 ^ 31), p_cl (show t < 2 ^ 31 by omega), (z4 t ht).1]
set_option maxHeartbeats 4000000 in
theorem d_moved {A : Nat → Nat → Nat} (w : wf A) {n a e : Nat} (hn : 100000 ≤ n) (ha : a < aS A) (he : e ≤ 99999) {σ : eb_S} (hd : ShD σ) (hD : MD A σ) {v : Int32} (hv : v = -1 ∨ ∃ t, t < aN A ∧ v = nI t) : ∃ σ1, f_X10_moved n 91 (nI a) (nI e) v σ = some (vM (bM A a e) v, σ1) ∧ Fr sM σ σ1 := by
  have wN := w.1
  have wS := w.2.2.1
  obtain ⟨σ1, g1, g2, g3⟩ := d_begins (n := n) (by omega) hd
  obtain ⟨x, σ2, e1, e2, e3, e4, e5⟩ := d_moved_all w hn (a := a) (e := e) (by omega) (by omega) (v3 := v) (K := fun w41 s42 => if 0 ≤ w41 then (if 0 ≤ v then (eb_gR s42 [9] 91 30 fun r43 => eb_ai s42 r43 v fun x44 => some (x44, s42)) else (some (w41, s42))) else (some ((-4), s42))) hd hD g1 g2 g3
  refine ⟨σ2, ?_, e4⟩
  have is := d_isStretch hd hD w (nI a)
  rw [p_ntoInt (by omega), wi_t.mpr ⟨by omega, by omega⟩] at is
  have iw := d_in (nI e).toInt64 0 99999 σ
  rw [p_i64, p_ntoInt (by omega), wi_t.mpr ⟨by show (0 : Int) ≤ e; omega, by show (e : Int) ≤ 99999; omega⟩] at iw
  have it := d_isThing hd hD w v.toInt64
  rw [p_i64] at it
  unfold ShD at hd e2
  have run : f_X10_moved n 91 (nI a) (nI e) v σ = f_X10_moved_L46 n 91 (nI a) (nI e) v (fun w41 s42 => if 0 ≤ w41 then (if 0 ≤ v then (eb_gR s42 [9] 91 30 fun r43 => eb_ai s42 r43 v fun x44 => some (x44, s42)) else (some (w41, s42))) else (some ((-4), s42))) n (-1) 1 σ1 := by
    unfold f_X10_moved
    rcases hv with h | ⟨t, ht, h⟩
    · subst h; simp only [eb_jn_e, eb_tg, hd, if_true, is, iw, eb_cl_s, eb_b0, Bool.true_eq_false, if_false, g1]
    · subst h
      rw [p_ntoInt (by omega), wi_t.mpr ⟨by omega, by omega⟩] at it
      simp only [eb_jn_e, eb_tg, hd, if_true, is, iw, eb_cl_s, eb_b0, Bool.true_eq_false, if_false, g1, nI_nn (show t < 2 ^ 31 by omega) (by decide : (-1 : Int32) < 0), it]
  rw [run, e1]
  revert e5
  cases bM A a e with
  | none =>
    intro z0
    have z0 : x = -1 := z0
    rw [z0]
    simp [m1n, vM]
  | some acc =>
    obtain ⟨c0, q⟩ := acc
    intro z0
    obtain ⟨z1, z2, z3⟩ := z0
    rw [z1]
    rcases hv with h | ⟨t, ht, h⟩
    · subst h; simp [m1n, vM, p_nn (show c0 < 2 ^ 31 by omega)]
    · subst h; simp [vM, p_nn (show c0 < 2 ^ 31 by omega), p_nn (show t < 2 ^ 31 by omega), eb_gR, eb_ai, e2, nI_nn (show t < 2 ^ 31 by omega) (by decide : (-1 : Int32) < 0), p_in (show t < 10 by omega) (by decide : 10 < 2 ^ 31), p_cl (show t < 2 ^ 31 by omega), (z3 t ht).1]
theorem eq_moved {A : Nat → Nat → Nat} (w : wf A) {n ch : Nat} (hn : 100000 ≤ n) (hch : ch < 2 ^ 30) {σ : eb_S} (hb : ShB σ) (h9 : X9 A ch σ) (hS : XS4 A ch σ) (hd : ShD σ) (hD : MD A σ) (a e v : Int32) : ∃ r σ1 σ2, f_X9_moved n 8 a e v σ = some (r, σ1) ∧ Fr (sv 64) σ σ1 ∧ XS4 A ch σ1 ∧ f_X10_moved n 91 a e v σ1 = some (r, σ2) ∧ Fr sM σ1 σ2 := by
  have wN := w.1
  have wS := w.2.2.1
  have is := x_isStretch hb h9.1 h9.2.1 w a
  have ds := d_isStretch hd hD w a
  have iw := x_within e 0 99999 σ
  have dw := d_in e.toInt64 0 99999 σ
  rw [p_i64] at dw
  have it := x_isThing hb h9.1 h9.2.1 w v
  have dt := d_isThing hd hD w v.toInt64
  rw [p_i64] at dt
  have hbu := hb
  have hdu := hd
  unfold ShB at hbu
  unfold ShD at hdu
  cases h1 : wi a.toInt 0 ((aS A : Int) - 1) with
  | false =>
    rw [h1] at is ds
    exact ⟨-1, σ, σ, by unfold f_X9_moved; simp [eb_tg, hbu, is, eb_cl_s, eb_b0], Fr.rf, hS, by unfold f_X10_moved; simp [eb_tg, hdu, ds, eb_cl_s, eb_b0], Fr.rf⟩
  | true =>
    rw [h1] at is ds
    have l1 : ((99999 : Int32).toInt) = 99999 := rfl
    have l2 : ((99999 : Int64).toInt) = 99999 := rfl
    have l3 : ((0 : Int32).toInt) = 0 := rfl
    have l4 : ((0 : Int64).toInt) = 0 := rfl
    rw [l1, l3] at iw
    rw [l2, l4] at dw
    cases h2 : wi e.toInt 0 99999 with
    | false =>
      rw [h2] at iw dw
      exact ⟨-1, σ, σ, by unfold f_X9_moved; simp [eb_tg, hbu, is, iw, eb_cl_s, eb_b0], Fr.rf, hS, by unfold f_X10_moved; simp [eb_tg, hdu, ds, dw, eb_cl_s, eb_b0], Fr.rf⟩
    | true =>
      rw [h2] at iw dw
      obtain ⟨a', ha', rfl⟩ := wi_nat (by omega) h1
      obtain ⟨e', he', rfl⟩ := wi_nat2 (n := 99999) (by omega) h2
      by_cases h0 : v = -1 ∨ ∃ t, t < aN A ∧ v = nI t
      · obtain ⟨σ1, x1, x2, x3⟩ := x_moved w (n := n) (by omega) hch ha' (show e' ≤ 99999 by omega) hb h9 hS h0
        obtain ⟨σ2, d1, d2⟩ := d_moved w hn ha' (show e' ≤ 99999 by omega) (x2.shD hd) (x2.md (nD_sv (v := 64) (by decide)) hD) h0
        exact ⟨_, σ1, σ2, x1, x2, x3, d1, d2⟩
      · have g2 : ¬ v = -1 := fun e => h0 (Or.inl e)
        have g3 : wi v.toInt 0 ((aN A : Int) - 1) = false := by
          cases hw : wi v.toInt 0 ((aN A : Int) - 1) with
          | false => rfl
          | true =>
            obtain ⟨t, ht, e⟩ := wi_nat (by omega) hw
            exact absurd (Or.inr ⟨t, ht, e⟩) h0
        rw [g3] at it dt
        exact ⟨-1, σ, σ, by unfold f_X9_moved; simp [eb_tg, eb_jn_e, hbu, is, iw, it, g2, eb_cl_s, eb_b0], Fr.rf, hS, by unfold f_X10_moved; simp [eb_tg, eb_jn_e, hdu, ds, dw, dt, g2, eb_cl_s, eb_b0], Fr.rf⟩
