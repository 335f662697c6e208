/-! ===== pure: the component reads a whole market ===== -/
def ths (tl : Nat) (tc : Nat → Nat) : Nat → (Nat → Nat → Nat) → Nat → Nat → Bool × (Nat → Nat → Nat) × Nat × Nat
  | 0, A, k, p => (true, A, k, p)
  | d + 1, A, k, p => if (thg tl tc p).2 = none then (false, A, k, (thg tl tc p).1) else if k + 1 < 10 ∧ hr tl tc (skp tl tc (thg tl tc p).1) = 44 then ths tl tc d (thA A k (thg tl tc p).2) (k + 1) (skp tl tc (thg tl tc p).1 + 1) else (true, thA A k (thg tl tc p).2, k + 1, if k + 1 < 10 then skp tl tc (thg tl tc p).1 else (thg tl tc p).1)
def thc (tl : Nat) (tc : Nat → Nat) (d : Nat) (A : Nat → Nat → Nat) (k p : Nat) : Bool × (Nat → Nat → Nat) × Nat × Nat := if k < 10 ∧ hr tl tc (skp tl tc p) = 44 then ths tl tc d A k (skp tl tc p + 1) else (true, A, k, if k < 10 then skp tl tc p else p)
theorem ths_s {tl d k p : Nat} {tc : Nat → Nat} {A : Nat → Nat → Nat} : ths tl tc (d + 1) A k p = if (thg tl tc p).2 = none then (false, A, k, (thg tl tc p).1) else thc tl tc d (thA A k (thg tl tc p).2) (k + 1) (thg tl tc p).1 := rfl
theorem thK_s {k : Nat} {o : Option (Nat × Nat × Nat)} (h : o ≠ none) : thK k o = k + 1 := by
  cases o with
  | none => exact absurd rfl h
  | some q => rfl
theorem isS {o : Option (Nat × Nat × Nat)} : o.isSome = !decide (o = none) := by
  cases o <;> rfl
set_option maxHeartbeats 4000000 in
theorem x_ths_L {tl n : Nat} {tc : Nat → Nat} (hn : 100 ≤ n) : ∀ (d m k p : Nat) (A : Nat → Nat → Nat) (σ : eb_S), k + d = 10 → d < m → PX tl tc p σ → DR A k 0 σ → ∃ σ', f_X8_readThings_L8 n 57 41 m 1 (nI k) σ = some ((thc tl tc d A k p).1, σ') ∧ Fr sPar σ σ' ∧ PX tl tc (thc tl tc d A k p).2.2.2 σ' ∧ DR (thc tl tc d A k p).2.1 (thc tl tc d A k p).2.2.1 0 σ' := by
  intro d
  induction d with
  | zero =>
    intro m k p A σ hk hm hP hD
    obtain ⟨m, rfl⟩ : ∃ m', m = m' + 1 := ⟨m - 1, by omega⟩
    have e : thc tl tc 0 A k p = (true, A, k, p) := by unfold thc; rw [if_neg (by omega), if_neg (by omega)]
    rw [f_X8_readThings_L8.eq_2, e, if_pos (show (10 : Int32) ≤ nI k by rw [show (10 : Int32) = nI 10 from rfl, p_leN (by decide) (by omega)]; omega)]
    exact ⟨σ, by rw [show (1 : Int32) = eb_b true from rfl, zb_b], Fr.rf, hP, hD⟩
  | succ d ih =>
    intro m k p A σ hk hm hP hD
    obtain ⟨m, rfl⟩ : ∃ m', m = m' + 1 := ⟨m - 1, by omega⟩
    rw [f_X8_readThings_L8.eq_2, if_neg (show ¬ (10 : Int32) ≤ nI k by rw [show (10 : Int32) = nI 10 from rfl, p_leN (by decide) (by omega)]; omega), if_neg (show ¬ (1 : Int32) = 0 by decide)]
    obtain ⟨σ1, q1, q2, q3⟩ := x_passes (c := 44) hn (by decide) (by decide) hP
    have q1 : f_X8_passes n 57 44 σ = some (decide (hr tl tc (skp tl tc p) = 44), σ1) := q1
    have hD1 := hD.a2 q2
    have t0 := hP.1.1
    have t1 := q3.1.1
    unfold ShT at t0 t1
    unfold psp at q3
    simp only [eb_tg, t0, if_true, q1, eb_cl_s, eb_b0, decide_eq_false_iff_not]
    by_cases h : hr tl tc (skp tl tc p) = 44
    · rw [if_pos h] at q3
      have ec : thc tl tc (d + 1) A k p = ths tl tc (d + 1) A k (skp tl tc p + 1) := by unfold thc; rw [if_pos ⟨by omega, h⟩]
      rw [ec, if_neg (fun z => z h)]
      obtain ⟨σ2, r1, r2, r3, r4⟩ := x_thing1 hn (show k < 10 by omega) q3 hD1
      simp only [t1, if_true, r1, eb_cl_s, nI_1]
      rw [ths_s]
      by_cases hs : (thg tl tc (skp tl tc p + 1)).2 = none
      · rw [if_pos hs]
        rw [hs] at r4 ⊢
        obtain ⟨m, rfl⟩ : ∃ m', m = m' + 1 := ⟨m - 1, by omega⟩
        refine ⟨σ2, ?_, (q2.mono sAt_p).tr r2, r3, r4⟩
        rw [show eb_b (Option.isSome (none : Option (Nat × Nat × Nat))) = eb_b false from rfl, f_X8_readThings_L8.eq_2]
        rw [zb_b]
        by_cases h10 : (10 : Int32) ≤ nI (k + 1)
        · rw [if_pos h10]
        · rw [if_neg h10, if_pos (by decide)]
      · rw [if_neg hs]
        rw [thK_s hs] at r4
        have is : (thg tl tc (skp tl tc p + 1)).2.isSome = true := by rw [isS, decide_eq_false hs]; rfl
        obtain ⟨σ3, u1, u2, u3, u4⟩ := ih m (k + 1) _ _ σ2 (by omega) (by omega) r3 r4
        rw [is]
        exact ⟨σ3, u1, ((q2.mono sAt_p).tr r2).tr u2, u3, u4⟩
    · rw [if_neg h] at q3
      have ec : thc tl tc (d + 1) A k p = (true, A, k, skp tl tc p) := by unfold thc; rw [if_neg (fun z => h z.2), if_pos (show k < 10 by omega)]
      rw [ec, if_pos h]
      exact ⟨σ1, by rw [show (1 : Int32) = eb_b true from rfl, zb_b], q2.mono sAt_p, q3, hD1⟩
theorem x_things {tl n p : Nat} {tc : Nat → Nat} {A : Nat → Nat → Nat} (hn : 100 ≤ n) {σ : eb_S} (hP : PX tl tc p σ) (hD : DR A 0 0 σ) : ∃ σ', f_X8_readThings n 57 41 σ = some ((ths tl tc 10 A 0 p).1, σ') ∧ Fr sPar σ σ' ∧ PX tl tc (ths tl tc 10 A 0 p).2.2.2 σ' ∧ DR (ths tl tc 10 A 0 p).2.1 (ths tl tc 10 A 0 p).2.2.1 0 σ' := by
  obtain ⟨σ2, r1, r2, r3, r4⟩ := x_thing1 hn (show 0 < 10 by omega) hP hD
  have t0 := hP.1.1
  unfold ShT at t0
  unfold f_X8_readThings
  simp only [eb_tg, t0, if_true, r1, eb_cl_s]
  rw [ths_s]
  by_cases hs : (thg tl tc p).2 = none
  · rw [if_pos hs]
    rw [hs] at r4 ⊢
    obtain ⟨n, rfl⟩ : ∃ m', n = m' + 1 := ⟨n - 1, by omega⟩
    refine ⟨σ2, ?_, r2, r3, r4⟩
    rw [show eb_b (Option.isSome (none : Option (Nat × Nat × Nat))) = eb_b false from rfl, f_X8_readThings_L8.eq_2, zb_b, if_neg (by decide), if_pos (by decide)]
  · rw [if_neg hs]
    rw [thK_s hs] at r4
    have is : (thg tl tc p).2.isSome = true := by rw [isS, decide_eq_false hs]; rfl
    obtain ⟨σ3, u1, u2, u3, u4⟩ := x_ths_L hn 9 n 1 _ _ σ2 (by omega) (by omega) r3 r4
    rw [is]
    exact ⟨σ3, u1, r2.tr u2, u3, u4⟩
-- stretches
def uph (tl : Nat) (tc : Nat → Nat) (e : Nat) : Nat := if hr tl tc (skp tl tc e) = 117 then 1 else 0
def stA (tl : Nat) (tc : Nat → Nat) (A : Nat → Nat → Nat) (s p : Nat) : Nat → Nat → Nat := match nmr tl tc p with
  | none => A
  | some (y, e) => addS A s y (uph tl tc e)
def stP (tl : Nat) (tc : Nat → Nat) (p : Nat) : Nat := match nmr tl tc p with
  | none => skp tl tc p
  | some (_, e) => psp tl tc 117 e
def sth (tl : Nat) (tc : Nat → Nat) : Nat → (Nat → Nat → Nat) → Nat → Nat → Bool × (Nat → Nat → Nat) × Nat × Nat
  | 0, A, s, p => (true, A, s, p)
  | d + 1, A, s, p => if nmr tl tc p = none then (false, A, s, skp tl tc p) else if s + 1 < 5 ∧ hr tl tc (skp tl tc (stP tl tc p)) = 44 then sth tl tc d (stA tl tc A s p) (s + 1) (skp tl tc (stP tl tc p) + 1) else (true, stA tl tc A s p, s + 1, if s + 1 < 5 then skp tl tc (stP tl tc p) else stP tl tc p)
def stc (tl : Nat) (tc : Nat → Nat) (d : Nat) (A : Nat → Nat → Nat) (s p : Nat) : Bool × (Nat → Nat → Nat) × Nat × Nat := if s < 5 ∧ hr tl tc (skp tl tc p) = 44 then sth tl tc d A s (skp tl tc p + 1) else (true, A, s, if s < 5 then skp tl tc p else p)
theorem sth_s {tl d s p : Nat} {tc : Nat → Nat} {A : Nat → Nat → Nat} : sth tl tc (d + 1) A s p = if nmr tl tc p = none then (false, A, s, skp tl tc p) else stc tl tc d (stA tl tc A s p) (s + 1) (stP tl tc p) := rfl
theorem psp_le {tl c p : Nat} {tc : Nat → Nat} (hc : 0 < c) (hp : p ≤ tl) : psp tl tc c p ≤ tl := by
  unfold psp
  have := skp_le (tc := tc) hp
  by_cases h : hr tl tc (skp tl tc p) = c
  · rw [if_pos h]
    have := (hr_lt (tl := tl) (tc := tc) (q := skp tl tc p) (by omega)).1
    omega
  · rw [if_neg h]; exact this
set_option maxHeartbeats 4000000 in
theorem x_stretch1 {tl n p k s : Nat} {tc : Nat → Nat} {A : Nat → Nat → Nat} (hn : 100 ≤ n) (hs : s < 5) {σ : eb_S} (hP : PX tl tc p σ) (hD : DR A k s σ) : ∃ σ', Fr sPar σ σ' ∧ PX tl tc (stP tl tc p) σ' ∧ ((nmr tl tc p = none ∧ f_X8_readStretch n 57 41 σ = some (false, σ') ∧ DR A k s σ') ∨ (nmr tl tc p ≠ none ∧ f_X8_readStretch n 57 41 σ = some (true, σ') ∧ DR (stA tl tc A s p) k (s + 1) σ')) := by
  obtain ⟨σ1, n1, n2, n3⟩ := x_number hn hP
  have hD1 := hD.a2 n2
  have t0 := hP.1.1
  have t1 := n3.1.1
  unfold ShT at t0 t1
  unfold f_X8_readStretch stP stA
  simp only [eb_tg, t0, if_true, n1, eb_cl_s]
  cases hnm : nmr tl tc p with
  | none =>
    rw [hnm] at n3
    refine ⟨σ1, n2.mono sAt_p, n3, Or.inl ⟨rfl, ?_, hD1⟩⟩
    rw [if_pos (show nI (nmV none) = 0 from nI_0)]
  | some r =>
    obtain ⟨y, e⟩ := r
    obtain ⟨y1, y2, he⟩ := nmr_ok hP.2.2.2 hnm
    rw [hnm] at n3
    have n3 : PX tl tc e σ1 := n3
    have zv : nmV (some (y, e)) = y := rfl
    rw [zv, if_neg (nI_ne0 (by omega) (by omega))]
    obtain ⟨σ2, q1, q2, q3⟩ := x_passes (c := 117) hn (by decide) (by decide) n3
    have q1 : f_X8_passes n 57 117 σ1 = some (decide (hr tl tc (skp tl tc e) = 117), σ2) := q1
    have hD2 := hD1.a2 q2
    obtain ⟨σ3, u1, u2, u3⟩ := x_draftS (a := y) (b := uph tl tc e) hs hD2
    have m2 := hD2.1
    unfold ShM41 at m2
    refine ⟨σ3, ((n2.tr q2).mono sAt_p).tr (u2.mono (fun k j h => Or.inr h)), q3.d u2, Or.inr ⟨fun z => (by cases z), ?_, u3⟩⟩
    simp only [t1, if_true, q1, eb_cl_s, eb_b0, eb_jn_e, decide_eq_false_iff_not]
    unfold uph at u1
    by_cases h : hr tl tc (skp tl tc e) = 117
    · rw [if_pos h] at u1
      have u1 : f_X3_addStretch 41 (nI y) 1 σ2 = some (nI s, σ3) := u1
      rw [if_neg (fun z => z h)]
      simp only [m2, if_true, u1, eb_cl_s]
    · rw [if_neg h] at u1
      have u1 : f_X3_addStretch 41 (nI y) 0 σ2 = some (nI s, σ3) := u1
      rw [if_pos h]
      simp only [m2, if_true, u1, eb_cl_s]
set_option maxHeartbeats 4000000 in
theorem x_sth_L {tl n kk : Nat} {tc : Nat → Nat} (hn : 100 ≤ n) : ∀ (d m s p : Nat) (A : Nat → Nat → Nat) (σ : eb_S), s + d = 5 → d < m → PX tl tc p σ → DR A kk s σ → ∃ σ', f_X8_readStretches_L8 n 57 41 m 1 (nI s) σ = some ((stc tl tc d A s p).1, σ') ∧ Fr sPar σ σ' ∧ PX tl tc (stc tl tc d A s p).2.2.2 σ' ∧ DR (stc tl tc d A s p).2.1 kk (stc tl tc d A s p).2.2.1 σ' := by
  intro d
  induction d with
  | zero =>
    intro m s p A σ hk hm hP hD
    obtain ⟨m, rfl⟩ : ∃ m', m = m' + 1 := ⟨m - 1, by omega⟩
    have e : stc tl tc 0 A s p = (true, A, s, p) := by unfold stc; rw [if_neg (by omega), if_neg (by omega)]
    rw [f_X8_readStretches_L8.eq_2, e, if_pos (show (5 : Int32) ≤ nI s by rw [show (5 : Int32) = nI 5 from rfl, p_leN (by decide) (by omega)]; omega)]
    exact ⟨σ, by rw [show (1 : Int32) = eb_b true from rfl, zb_b], Fr.rf, hP, hD⟩
  | succ d ih =>
    intro m s p A σ hk hm hP hD
    obtain ⟨m, rfl⟩ : ∃ m', m = m' + 1 := ⟨m - 1, by omega⟩
    rw [f_X8_readStretches_L8.eq_2, if_neg (show ¬ (5 : Int32) ≤ nI s by rw [show (5 : Int32) = nI 5 from rfl, p_leN (by decide) (by omega)]; omega), if_neg (show ¬ (1 : Int32) = 0 by decide)]
    obtain ⟨σ1, q1, q2, q3⟩ := x_passes (c := 44) hn (by decide) (by decide) hP
    have q1 : f_X8_passes n 57 44 σ = some (decide (hr tl tc (skp tl tc p) = 44), σ1) := q1
    have hD1 := hD.a2 q2
    have t0 := hP.1.1
    have t1 := q3.1.1
    unfold ShT at t0 t1
    unfold psp at q3
    simp only [eb_tg, t0, if_true, q1, eb_cl_s, eb_b0, decide_eq_false_iff_not]
    by_cases h : hr tl tc (skp tl tc p) = 44
    · rw [if_pos h] at q3
      have ec : stc tl tc (d + 1) A s p = sth tl tc (d + 1) A s (skp tl tc p + 1) := by unfold stc; rw [if_pos ⟨by omega, h⟩]
      rw [ec, if_neg (fun z => z h)]
      obtain ⟨σ2, r2, r3, r4⟩ := x_stretch1 hn (show s < 5 by omega) q3 hD1
      rw [sth_s]
      rcases r4 with ⟨e1, e2, e3⟩ | ⟨e1, e2, e3⟩
      · rw [if_pos e1]
        obtain ⟨m, rfl⟩ : ∃ m', m = m' + 1 := ⟨m - 1, by omega⟩
        have r3' : PX tl tc (skp tl tc (skp tl tc p + 1)) σ2 := by
          unfold stP at r3
          rw [e1] at r3
          exact r3
        refine ⟨σ2, ?_, (q2.mono sAt_p).tr r2, r3', e3⟩
        simp only [t1, if_true, e2, eb_cl_s, nI_1]
        rw [f_X8_readStretches_L8.eq_2, zb_b]
        by_cases h10 : (5 : Int32) ≤ nI (s + 1)
        · rw [if_pos h10]
        · rw [if_neg h10, if_pos (by decide)]
      · rw [if_neg e1]
        obtain ⟨σ3, u1, u2, u3, u4⟩ := ih m (s + 1) _ _ σ2 (by omega) (by omega) r3 e3
        refine ⟨σ3, ?_, ((q2.mono sAt_p).tr r2).tr u2, u3, u4⟩
        simp only [t1, if_true, e2, eb_cl_s, nI_1]
        exact u1
    · rw [if_neg h] at q3
      have ec : stc tl tc (d + 1) A s p = (true, A, s, skp tl tc p) := by unfold stc; rw [if_neg (fun z => h z.2), if_pos (show s < 5 by omega)]
      rw [ec, if_pos h]
      exact ⟨σ1, by rw [show (1 : Int32) = eb_b true from rfl, zb_b], q2.mono sAt_p, q3, hD1⟩
theorem x_stretches {tl n p kk : Nat} {tc : Nat → Nat} {A : Nat → Nat → Nat} (hn : 100 ≤ n) {σ : eb_S} (hP : PX tl tc p σ) (hD : DR A kk 0 σ) : ∃ σ', f_X8_readStretches n 57 41 σ = some ((sth tl tc 5 A 0 p).1, σ') ∧ Fr sPar σ σ' ∧ PX tl tc (sth tl tc 5 A 0 p).2.2.2 σ' ∧ DR (sth tl tc 5 A 0 p).2.1 kk (sth tl tc 5 A 0 p).2.2.1 σ' := by
  obtain ⟨σ2, r2, r3, r4⟩ := x_stretch1 hn (show 0 < 5 by omega) hP hD
  have t0 := hP.1.1
  unfold ShT at t0
  unfold f_X8_readStretches
  rw [sth_s]
  rcases r4 with ⟨e1, e2, e3⟩ | ⟨e1, e2, e3⟩
  · rw [if_pos e1]
    obtain ⟨n, rfl⟩ : ∃ m', n = m' + 1 := ⟨n - 1, by omega⟩
    have r3' : PX tl tc (skp tl tc p) σ2 := by
      unfold stP at r3
      rw [e1] at r3
      exact r3
    refine ⟨σ2, ?_, r2, r3', e3⟩
    simp only [eb_tg, t0, if_true, e2, eb_cl_s]
    rw [f_X8_readStretches_L8.eq_2, zb_b, if_neg (by decide), if_pos (by decide)]
  · rw [if_neg e1]
    obtain ⟨σ3, u1, u2, u3, u4⟩ := x_sth_L hn 4 n 1 _ _ σ2 (by omega) (by omega) r3 e3
    refine ⟨σ3, ?_, r2.tr u2, u3, u4⟩
    simp only [eb_tg, t0, if_true, e2, eb_cl_s]
    exact u1
def mkE (tl : Nat) (tc : Nat → Nat) (k : Nat) (R : Bool × (Nat → Nat → Nat) × Nat × Nat) : Bool × (Nat → Nat → Nat) × Nat × Nat × Nat := if R.1 = true then (decide (tl ≤ skp tl tc R.2.2.2), R.2.1, k, R.2.2.1, skp tl tc R.2.2.2) else (false, R.2.1, k, R.2.2.1, R.2.2.2)
/-- whether it is a market; its goods, THINGS, STRETCHES; where reading ended -/
def mks (tl : Nat) (tc : Nat → Nat) (A : Nat → Nat → Nat) : Bool × (Nat → Nat → Nat) × Nat × Nat × Nat := if (ths tl tc 10 A 0 0).1 = true then (if hr tl tc (skp tl tc (ths tl tc 10 A 0 0).2.2.2) = 59 then mkE tl tc (ths tl tc 10 A 0 0).2.2.1 (sth tl tc 5 (ths tl tc 10 A 0 0).2.1 0 (skp tl tc (ths tl tc 10 A 0 0).2.2.2 + 1)) else mkE tl tc (ths tl tc 10 A 0 0).2.2.1 (true, (ths tl tc 10 A 0 0).2.1, 0, skp tl tc (ths tl tc 10 A 0 0).2.2.2)) else (false, (ths tl tc 10 A 0 0).2.1, (ths tl tc 10 A 0 0).2.2.1, 0, (ths tl tc 10 A 0 0).2.2.2)
def A0 : Nat → Nat → Nat := fun _ _ => 0
