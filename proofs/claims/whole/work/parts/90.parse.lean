/-! ===== pure: a market's text, what it says; the component reads it ===== -/
def sk (tl : Nat) (tc : Nat → Nat) : Nat → Nat → Nat
  | 0, p => p
  | d + 1, p => if p < tl ∧ tc p = 32 then sk tl tc d (p + 1) else p
def skp (tl : Nat) (tc : Nat → Nat) (p : Nat) : Nat := sk tl tc (tl - p) p
theorem skp_s {tl p : Nat} {tc : Nat → Nat} (h1 : p < tl) (h2 : tc p = 32) : skp tl tc p = skp tl tc (p + 1) := by
  unfold skp
  obtain ⟨d, hd⟩ : ∃ d, tl - p = d + 1 := ⟨tl - p - 1, by omega⟩
  rw [hd, show tl - (p + 1) = d by omega]
  show (if p < tl ∧ tc p = 32 then _ else _) = _
  rw [if_pos ⟨h1, h2⟩]
theorem skp_n {tl p : Nat} {tc : Nat → Nat} (h : ¬ (p < tl ∧ tc p = 32)) : skp tl tc p = p := by
  unfold skp
  cases hd : tl - p with
  | zero => rfl
  | succ d =>
    show (if p < tl ∧ tc p = 32 then _ else _) = _
    rw [if_neg h]
theorem skp_bd {tl : Nat} {tc : Nat → Nat} : ∀ (d p : Nat), tl - p = d → p ≤ tl → p ≤ skp tl tc p ∧ skp tl tc p ≤ tl
  | 0, p, hd, hp => by rw [skp_n (by omega)]; omega
  | d + 1, p, hd, hp => by
    by_cases h : p < tl ∧ tc p = 32
    · rw [skp_s h.1 h.2]
      have := skp_bd (tl := tl) (tc := tc) d (p + 1) (by omega) (by omega)
      omega
    · rw [skp_n h]; omega
theorem skp_le {tl p : Nat} {tc : Nat → Nat} (h : p ≤ tl) : skp tl tc p ≤ tl := (skp_bd _ p rfl h).2
def hr (tl : Nat) (tc : Nat → Nat) (q : Nat) : Nat := if q < tl then tc q else 0
theorem hr_lt {tl q : Nat} {tc : Nat → Nat} (h : hr tl tc q ≠ 0) : q < tl ∧ hr tl tc q = tc q := by
  unfold hr at h ⊢
  by_cases e : q < tl
  · rw [if_pos e]; exact ⟨e, rfl⟩
  · rw [if_neg e] at h; exact absurd rfl h
theorem hr_b {tl : Nat} {tc : Nat → Nat} (w : wfT tl tc) (q : Nat) : hr tl tc q ≤ 126 := by
  unfold hr
  by_cases e : q < tl
  · rw [if_pos e]; exact (w.2 q e).2
  · rw [if_neg e]; omega
def rn (fn : Nat → Nat → Nat) (tl : Nat) (tc : Nat → Nat) : Nat → Nat → Nat → Nat × Nat
  | 0, p, v => (p, v)
  | d + 1, p, v => if p < tl ∧ 48 ≤ tc p ∧ tc p ≤ 57 then rn fn tl tc d (p + 1) (fn v (tc p - 48)) else (p, v)
def fC (v x : Nat) : Nat := min 100 (v * 10 + x)
def fD (v x : Nat) : Nat := if 999 < v then v else 10 * v + x
theorem rn_pos {fn fn' : Nat → Nat → Nat} {tl : Nat} {tc : Nat → Nat} : ∀ (d p v v' : Nat), (rn fn tl tc d p v).1 = (rn fn' tl tc d p v').1
  | 0, _, _, _ => rfl
  | d + 1, p, v, v' => by
    unfold rn
    by_cases h : p < tl ∧ 48 ≤ tc p ∧ tc p ≤ 57
    · rw [if_pos h, if_pos h]; exact rn_pos d (p + 1) _ _
    · rw [if_neg h, if_neg h]
theorem rn_ge {fn : Nat → Nat → Nat} {tl : Nat} {tc : Nat → Nat} : ∀ (d p v : Nat), p ≤ tl → p ≤ (rn fn tl tc d p v).1 ∧ (rn fn tl tc d p v).1 ≤ tl
  | 0, p, v, h => ⟨Nat.le_refl _, h⟩
  | d + 1, p, v, h => by
    unfold rn
    by_cases e : p < tl ∧ 48 ≤ tc p ∧ tc p ≤ 57
    · rw [if_pos e]
      have := rn_ge (fn := fn) (tl := tl) (tc := tc) d (p + 1) (fn v (tc p - 48)) (by omega)
      omega
    · rw [if_neg e]; exact ⟨Nat.le_refl _, h⟩
theorem rn_val {tl : Nat} {tc : Nat → Nat} {d p : Nat} (hp : p ≤ tl) (h : (rn fD tl tc d p 0).1 ≤ p + 2) : (rn fC tl tc d p 0).2 = (rn fD tl tc d p 0).2 ∧ (rn fD tl tc d p 0).2 ≤ 99 := by
  cases d with
  | zero => exact ⟨rfl, by show 0 ≤ 99; omega⟩
  | succ d =>
    unfold rn at h ⊢
    by_cases e : p < tl ∧ 48 ≤ tc p ∧ tc p ≤ 57
    · rw [if_pos e] at h
      rw [if_pos e, if_pos e]
      have x1 : fC 0 (tc p - 48) = tc p - 48 := by unfold fC; omega
      have x2 : fD 0 (tc p - 48) = tc p - 48 := by unfold fD; rw [if_neg (by omega)]; omega
      rw [x1, x2]
      rw [x2] at h
      cases d with
      | zero => exact ⟨rfl, by show tc p - 48 ≤ 99; omega⟩
      | succ d =>
        unfold rn at h ⊢
        by_cases e2 : p + 1 < tl ∧ 48 ≤ tc (p + 1) ∧ tc (p + 1) ≤ 57
        · rw [if_pos e2] at h
          rw [if_pos e2, if_pos e2]
          have y1 : fC (tc p - 48) (tc (p + 1) - 48) = (tc p - 48) * 10 + (tc (p + 1) - 48) := by unfold fC; omega
          have y2 : fD (tc p - 48) (tc (p + 1) - 48) = (tc p - 48) * 10 + (tc (p + 1) - 48) := by unfold fD; rw [if_neg (by omega)]; omega
          rw [y1, y2]
          rw [y2] at h
          cases d with
          | zero => exact ⟨rfl, by show (tc p - 48) * 10 + (tc (p + 1) - 48) ≤ 99; omega⟩
          | succ d =>
            unfold rn at h ⊢
            by_cases e3 : p + 1 + 1 < tl ∧ 48 ≤ tc (p + 1 + 1) ∧ tc (p + 1 + 1) ≤ 57
            · rw [if_pos e3] at h
              have := (rn_ge (fn := fD) (tl := tl) (tc := tc) d (p + 1 + 1 + 1) (fD ((tc p - 48) * 10 + (tc (p + 1) - 48)) (tc (p + 1 + 1) - 48)) (by omega)).1
              omega
            · rw [if_neg e3, if_neg e3]
              exact ⟨rfl, by show (tc p - 48) * 10 + (tc (p + 1) - 48) ≤ 99; omega⟩
        · rw [if_neg e2, if_neg e2]
          exact ⟨rfl, by show tc p - 48 ≤ 99; omega⟩
    · rw [if_neg e, if_neg e]
      exact ⟨rfl, by show 0 ≤ 99; omega⟩
/-- a number: its value and where it ends -/
def nmr (tl : Nat) (tc : Nat → Nat) (p : Nat) : Option (Nat × Nat) := if (rn fD tl tc (tl - skp tl tc p) (skp tl tc p) 0).2 = 0 ∨ 2 < (rn fD tl tc (tl - skp tl tc p) (skp tl tc p) 0).1 - skp tl tc p then none else some ((rn fD tl tc (tl - skp tl tc p) (skp tl tc p) 0).2, (rn fD tl tc (tl - skp tl tc p) (skp tl tc p) 0).1)
def nmV (o : Option (Nat × Nat)) : Nat := match o with
  | none => 0
  | some q => q.1
def nmP (o : Option (Nat × Nat)) (q : Nat) : Nat := match o with
  | none => q
  | some r => r.2
theorem nmr_ok {tl p v e : Nat} {tc : Nat → Nat} (hp : p ≤ tl) (h : nmr tl tc p = some (v, e)) : 1 ≤ v ∧ v ≤ 99 ∧ e ≤ tl := by
  unfold nmr at h
  have hq := skp_le (tc := tc) hp
  by_cases c : (rn fD tl tc (tl - skp tl tc p) (skp tl tc p) 0).2 = 0 ∨ 2 < (rn fD tl tc (tl - skp tl tc p) (skp tl tc p) 0).1 - skp tl tc p
  · rw [if_pos c] at h; cases h
  · rw [if_neg c] at h
    cases h
    have g := rn_ge (fn := fD) (tl := tl) (tc := tc) (tl - skp tl tc p) (skp tl tc p) 0 hq
    have r := rn_val (tl := tl) (tc := tc) (d := tl - skp tl tc p) (p := skp tl tc p) hq (by omega)
    exact ⟨by omega, r.2, g.2⟩
-- the component
def sAt (k j : Nat) : Prop := k = 57 ∧ j = 2
def PX (tl : Nat) (tc : Nat → Nat) (p : Nat) (σ : eb_S) : Prop := XT tl tc σ ∧ eb_I σ 57 2 = nI p ∧ wfT tl tc ∧ p ≤ tl
theorem XT.at {tl : Nat} {tc : Nat → Nat} {σ σ' : eb_S} {S : Nat → Nat → Prop} (h : XT tl tc σ) (hF : Fr S σ σ') (h0 : ¬ S 57 0) (h1 : ∀ j, ¬ S 58 j) : XT tl tc σ' := ⟨hF.shT h.1, by rw [hF.2.2.2.2.2 _ _ h0]; exact h.2.1, fun j hj => by rw [hF.2.2.2.2.2 _ _ (h1 j)]; exact h.2.2 j hj⟩
theorem PX.at {tl : Nat} {tc : Nat → Nat} {p q : Nat} {σ σ' : eb_S} (h : PX tl tc p σ) (hF : Fr sAt σ σ') (hq : eb_I σ' 57 2 = nI q) (hl : q ≤ tl) : PX tl tc q σ' := ⟨h.1.at hF (fun z => by unfold sAt at z; omega) (fun j z => by unfold sAt at z; omega), hq, h.2.2.1, hl⟩
set_option maxHeartbeats 4000000 in
theorem x_skip_L {tl n : Nat} {tc : Nat → Nat} : ∀ (d m p : Nat) (σ : eb_S), tl - p = d → d < m → PX tl tc p σ → ∃ σ', f_X8_skipBlanks_L0 n 57 m σ = some ((), σ') ∧ Fr sAt σ σ' ∧ PX tl tc (skp tl tc p) σ' := by
  intro d
  induction d with
  | zero =>
    intro m p σ hd hm hP
    obtain ⟨m, rfl⟩ : ∃ m', m = m' + 1 := ⟨m - 1, by omega⟩
    have hP' := hP
    obtain ⟨⟨t1, t2, t3⟩, p2, w, p4⟩ := hP
    have w1 := w.1
    unfold ShT at t1
    rw [f_X8_skipBlanks_L0.eq_2]
    refine ⟨σ, ?_, Fr.rf, by rw [skp_n (by omega)]; exact hP'⟩
    have le : nI tl ≤ nI p := by rw [p_leN (by omega) (by omega)]; omega
    simp [eb_gI, t1, t2, p2, le]
  | succ d ih =>
    intro m p σ hd hm hP
    obtain ⟨m, rfl⟩ : ∃ m', m = m' + 1 := ⟨m - 1, by omega⟩
    have hP' := hP
    obtain ⟨⟨t1, t2, t3⟩, p2, w, p4⟩ := hP
    have w1 := w.1
    have w2 := w.2 p (by omega)
    unfold ShT at t1
    rw [f_X8_skipBlanks_L0.eq_2]
    have le : ¬ nI tl ≤ nI p := by rw [p_leN (by omega) (by omega)]; omega
    have e32 : (nI (tc p) = 32) = (tc p = 32) := p_eqN (b := 32) (by omega) (by decide)
    simp only [eb_gI, eb_gR, eb_ac, eb_pI, t1, t2, p2, le, List.mem_singleton, if_true, if_false, true_and, ne_eq, show ¬ (58 : Nat) = 0 by decide, not_false_eq_true, p_in (show p < 80 by omega) (by decide : 80 < 2 ^ 31), p_cl (show p < 2 ^ 31 by omega), t3 p (by omega), e32, nI_1]
    by_cases h : tc p = 32
    · rw [if_pos h]
      have hF : Fr sAt σ (eb_sI σ 57 2 (nI (p + 1))) := Fr.sI ⟨rfl, rfl⟩
      obtain ⟨σ', g1, g2, g3⟩ := ih m (p + 1) _ (by omega) (by omega) (hP'.at hF (by rw [eb_I_sI, if_pos rfl, if_pos rfl]) (by omega))
      rw [skp_s (by omega) h]
      exact ⟨σ', g1, hF.tr g2, g3⟩
    · rw [if_neg h]
      exact ⟨σ, rfl, Fr.rf, by rw [skp_n (by omega)]; exact hP'⟩
theorem x_skip {tl n p : Nat} {tc : Nat → Nat} (hn : 100 ≤ n) {σ : eb_S} (hP : PX tl tc p σ) : ∃ σ', f_X8_skipBlanks n 57 σ = some ((), σ') ∧ Fr sAt σ σ' ∧ PX tl tc (skp tl tc p) σ' :=
  x_skip_L (tl - p) n p σ rfl (by have := hP.2.2.1.1; omega) hP
def psp (tl : Nat) (tc : Nat → Nat) (c p : Nat) : Nat := if hr tl tc (skp tl tc p) = c then skp tl tc p + 1 else skp tl tc p
set_option maxHeartbeats 4000000 in
theorem x_passes {tl n p c : Nat} {tc : Nat → Nat} (hn : 100 ≤ n) (hc : 0 < c) (hc2 : c < 2 ^ 31) {σ : eb_S} (hP : PX tl tc p σ) : ∃ σ', f_X8_passes n 57 (nI c) σ = some (decide (hr tl tc (skp tl tc p) = c), σ') ∧ Fr sAt σ σ' ∧ PX tl tc (psp tl tc c p) σ' := by
  obtain ⟨σ1, g1, g2, g3⟩ := x_skip hn hP
  have t0 := hP.1.1
  have hP' := g3
  obtain ⟨⟨t1, t2, t3⟩, p2, w, p4⟩ := g3
  have w1 := w.1
  unfold ShT at t0 t1
  unfold f_X8_passes psp
  by_cases h : skp tl tc p < tl
  · have w2 := w.2 _ h
    have eh : hr tl tc (skp tl tc p) = tc (skp tl tc p) := by unfold hr; rw [if_pos h]
    have le : ¬ nI tl ≤ nI (skp tl tc p) := by rw [p_leN (by omega) (by omega)]; omega
    have ec : (nI (tc (skp tl tc p)) = nI c) = (tc (skp tl tc p) = c) := p_eqN (by omega) hc2
    rw [eh]
    simp only [eb_tg, t0, if_true, g1, eb_cl_s, eb_gI, eb_gR, eb_ac, eb_pI, t1, t2, p2, le, List.mem_singleton, if_false, true_and, ne_eq, show ¬ (58 : Nat) = 0 by decide, not_false_eq_true, p_in (show skp tl tc p < 80 by omega) (by decide : 80 < 2 ^ 31), p_cl (show skp tl tc p < 2 ^ 31 by omega), t3 _ h, ec, nI_1]
    by_cases e : tc (skp tl tc p) = c
    · rw [if_pos e, if_pos e, decide_eq_true e]
      have hF : Fr sAt σ1 (eb_sI σ1 57 2 (nI (skp tl tc p + 1))) := Fr.sI ⟨rfl, rfl⟩
      exact ⟨_, rfl, g2.tr hF, hP'.at hF (by rw [eb_I_sI, if_pos rfl, if_pos rfl]) (by omega)⟩
    · rw [if_neg e, if_neg e, decide_eq_false e]
      exact ⟨σ1, rfl, g2, hP'⟩
  · have eh : hr tl tc (skp tl tc p) = 0 := by unfold hr; rw [if_neg h]
    have le : nI tl ≤ nI (skp tl tc p) := by rw [p_leN (by omega) (by omega)]; omega
    rw [eh, if_neg (by omega), decide_eq_false (by omega)]
    simp only [eb_tg, t0, if_true, g1, eb_cl_s, eb_gI, t1, t2, p2, le, List.mem_singleton]
    exact ⟨σ1, rfl, g2, hP'⟩
set_option maxHeartbeats 4000000 in
theorem x_num_L {tl n : Nat} {tc : Nat → Nat} {v1 : Int32} {K : Int32 → eb_S → Option (Int32 × eb_S)} : ∀ (d m p v : Nat) (σ : eb_S), tl - p = d → d < m → v ≤ 100 → PX tl tc p σ → ∃ σ', f_X8_readNumber_L11 n 57 v1 K m (nI v) σ = K (nI (rn fC tl tc d p v).2) σ' ∧ Fr sAt σ σ' ∧ PX tl tc (rn fC tl tc d p v).1 σ' ∧ (rn fC tl tc d p v).2 ≤ 100 := by
  intro d
  induction d with
  | zero =>
    intro m p v σ hd hm hv hP
    obtain ⟨m, rfl⟩ : ∃ m', m = m' + 1 := ⟨m - 1, by omega⟩
    have hP' := hP
    obtain ⟨⟨t1, t2, t3⟩, p2, w, p4⟩ := hP
    have w1 := w.1
    unfold ShT at t1
    rw [f_X8_readNumber_L11.eq_2]
    have le : nI tl ≤ nI p := by rw [p_leN (by omega) (by omega)]; omega
    refine ⟨σ, ?_, Fr.rf, hP', hv⟩
    simp only [eb_gI, t1, t2, p2, le, List.mem_singleton, if_true]
    rfl
  | succ d ih =>
    intro m p v σ hd hm hv hP
    obtain ⟨m, rfl⟩ : ∃ m', m = m' + 1 := ⟨m - 1, by omega⟩
    have hP' := hP
    obtain ⟨⟨t1, t2, t3⟩, p2, w, p4⟩ := hP
    have w1 := w.1
    have w2 := w.2 p (by omega)
    unfold ShT at t1
    rw [f_X8_readNumber_L11.eq_2]
    have le : ¬ nI tl ≤ nI p := by rw [p_leN (by omega) (by omega)]; omega
    have c48 : (nI (tc p) < 48) = (tc p < 48) := p_ltN (b := 48) (by omega) (by decide)
    have c57 : ((57 : Int32) < nI (tc p)) = (57 < tc p) := p_ltN (a := 57) (by decide) (by omega)
    simp only [eb_gI, eb_gR, eb_ac, eb_pI, t1, t2, p2, le, List.mem_singleton, if_true, if_false, true_and, ne_eq, show ¬ (58 : Nat) = 0 by decide, not_false_eq_true, p_in (show p < 80 by omega) (by decide : 80 < 2 ^ 31), p_cl (show p < 2 ^ 31 by omega), t3 p (by omega), c48, c57, nI_1]
    unfold rn
    by_cases h : 48 ≤ tc p ∧ tc p ≤ 57
    · rw [if_pos (show p < tl ∧ 48 ≤ tc p ∧ tc p ≤ 57 from ⟨by omega, h⟩), if_neg (by omega), if_neg (by omega)]
      have ev : nI v * 10 + nI (tc p) - 48 = nI (v * 10 + (tc p - 48)) := by
        rw [show (10 : Int32) = nI 10 from rfl, pk_mul, nI_add, show (48 : Int32) = nI 48 from rfl, pk_sub (by omega), show v * 10 + tc p - 48 = v * 10 + (tc p - 48) by omega]
      have em : (if nI (v * 10 + (tc p - 48)) < 100 then nI (v * 10 + (tc p - 48)) else 100) = nI (fC v (tc p - 48)) := by
        have c : (nI (v * 10 + (tc p - 48)) < 100) = (v * 10 + (tc p - 48) < 100) := p_ltN (b := 100) (by omega) (by decide)
        simp only [c]
        unfold fC
        by_cases e : v * 10 + (tc p - 48) < 100
        · rw [if_pos e, Nat.min_eq_right (by omega)]
        · rw [if_neg e, Nat.min_eq_left (by omega)]; rfl
      have hF : Fr sAt σ (eb_sI σ 57 2 (nI (p + 1))) := Fr.sI ⟨rfl, rfl⟩
      obtain ⟨σ', g1, g2, g3, g4⟩ := ih m (p + 1) (fC v (tc p - 48)) _ (by omega) (by omega) (by unfold fC; omega) (hP'.at hF (by rw [eb_I_sI, if_pos rfl, if_pos rfl]) (by omega))
      rw [ev, em]
      exact ⟨σ', g1, hF.tr g2, g3, g4⟩
    · rw [if_neg (show ¬ (p < tl ∧ 48 ≤ tc p ∧ tc p ≤ 57) from fun z => h z.2)]
      by_cases h2 : tc p < 48
      · rw [if_pos h2]
        exact ⟨σ, rfl, Fr.rf, hP', hv⟩
      · rw [if_neg h2, if_pos (by omega)]
        exact ⟨σ, rfl, Fr.rf, hP', hv⟩
set_option maxHeartbeats 4000000 in
theorem x_number {tl n p : Nat} {tc : Nat → Nat} (hn : 100 ≤ n) {σ : eb_S} (hP : PX tl tc p σ) : ∃ σ', f_X8_readNumber n 57 σ = some (nI (nmV (nmr tl tc p)), σ') ∧ Fr sAt σ σ' ∧ PX tl tc (nmP (nmr tl tc p) (skp tl tc p)) σ' := by
  obtain ⟨σ1, g1, g2, g3⟩ := x_skip hn hP
  have w := hP.2.2.1
  have w1 := w.1
  have t0 := hP.1.1
  have hq := g3.2.2.2
  have at1 := g3.2.1
  have t1 := g3.1.1
  unfold ShT at t0 t1
  obtain ⟨σ2, k1, k2, k3, k4⟩ := x_num_L (n := n) (v1 := nI (skp tl tc p)) (K := fun (w16 : Int32) (s17 : eb_S) => eb_jn (fun (s18 : eb_S) => eb_pI s18 [7] 57 2 (nI (skp tl tc p)) fun s20 => some ((0 : Int32), s20)) fun j19 => if w16 < 1 then (j19 s17) else (eb_gI s17 [7] 57 2 fun x21 => if (x21 - nI (skp tl tc p)) ≤ 2 then (some (w16, s17)) else (j19 s17))) (tl - skp tl tc p) n (skp tl tc p) 0 σ1 rfl (by omega) (by omega) g3
  have rg := rn_ge (fn := fD) (tl := tl) (tc := tc) (tl - skp tl tc p) (skp tl tc p) 0 hq
  have rp := rn_pos (fn := fC) (fn' := fD) (tl := tl) (tc := tc) (tl - skp tl tc p) (skp tl tc p) 0 0
  have run : f_X8_readNumber n 57 σ = f_X8_readNumber_L11 n 57 (nI (skp tl tc p)) (fun (w16 : Int32) (s17 : eb_S) => eb_jn (fun (s18 : eb_S) => eb_pI s18 [7] 57 2 (nI (skp tl tc p)) fun s20 => some ((0 : Int32), s20)) fun j19 => if w16 < 1 then (j19 s17) else (eb_gI s17 [7] 57 2 fun x21 => if (x21 - nI (skp tl tc p)) ≤ 2 then (some (w16, s17)) else (j19 s17))) n 0 σ1 := by
    unfold f_X8_readNumber
    simp only [eb_tg, t0, if_true, g1, eb_cl_s, eb_gI, t1, List.mem_singleton, at1]
  rw [nI_0] at k1
  rw [run, k1]
  have t2 := k3.1.1
  unfold ShT at t2
  have at2 := k3.2.1
  have hF : Fr sAt σ2 (eb_sI σ2 57 2 (nI (skp tl tc p))) := Fr.sI ⟨rfl, rfl⟩
  have bad : ∃ σ', (eb_pI σ2 [7] 57 2 (nI (skp tl tc p)) fun s20 => some ((0 : Int32), s20)) = some (nI 0, σ') ∧ Fr sAt σ σ' ∧ PX tl tc (skp tl tc p) σ' := by
    refine ⟨_, ?_, (g2.tr k2).tr hF, k3.at hF (by rw [eb_I_sI, if_pos rfl, if_pos rfl]) hq⟩
    simp only [eb_pI, t2, List.mem_singleton, if_true]
    rfl
  have c1 : (nI (rn fC tl tc (tl - skp tl tc p) (skp tl tc p) 0).2 < 1) = ((rn fC tl tc (tl - skp tl tc p) (skp tl tc p) 0).2 < 1) := p_ltN (b := 1) (by omega) (by decide)
  have c2 : (nI (rn fC tl tc (tl - skp tl tc p) (skp tl tc p) 0).1 - nI (skp tl tc p) ≤ 2) = ((rn fC tl tc (tl - skp tl tc p) (skp tl tc p) 0).1 - skp tl tc p ≤ 2) := by
    rw [pk_sub (by omega)]
    exact p_leN (b := 2) (by omega) (by decide)
  simp only [eb_jn_e, eb_gI, t2, List.mem_singleton, if_true, at2, c1, c2]
  by_cases h2 : 2 < (rn fD tl tc (tl - skp tl tc p) (skp tl tc p) 0).1 - skp tl tc p
  · have nm : nmr tl tc p = none := by unfold nmr; rw [if_pos (Or.inr h2)]
    rw [nm]
    by_cases e : (rn fC tl tc (tl - skp tl tc p) (skp tl tc p) 0).2 < 1
    · simp only [e, if_true]; exact bad
    · simp only [e, if_false, show ¬ (rn fC tl tc (tl - skp tl tc p) (skp tl tc p) 0).1 - skp tl tc p ≤ 2 by omega]; exact bad
  · have rv := rn_val (tl := tl) (tc := tc) (d := tl - skp tl tc p) (p := skp tl tc p) hq (by omega)
    by_cases e : (rn fD tl tc (tl - skp tl tc p) (skp tl tc p) 0).2 = 0
    · have nm : nmr tl tc p = none := by unfold nmr; rw [if_pos (Or.inl e)]
      rw [nm]
      simp only [show (rn fC tl tc (tl - skp tl tc p) (skp tl tc p) 0).2 < 1 by omega, if_true]; exact bad
    · have nm : nmr tl tc p = some ((rn fD tl tc (tl - skp tl tc p) (skp tl tc p) 0).2, (rn fD tl tc (tl - skp tl tc p) (skp tl tc p) 0).1) := by unfold nmr; rw [if_neg (fun z => z.elim e h2)]
      rw [nm]
      simp only [show ¬ (rn fC tl tc (tl - skp tl tc p) (skp tl tc p) 0).2 < 1 by omega, if_false, show (rn fC tl tc (tl - skp tl tc p) (skp tl tc p) 0).1 - skp tl tc p ≤ 2 by omega, if_true]
      refine ⟨σ2, ?_, g2.tr k2, ?_⟩
      · rw [rv.1]; rfl
      · show PX tl tc (rn fD tl tc (tl - skp tl tc p) (skp tl tc p) 0).1 σ2
        rw [← rp]; exact k3
def kdI (c : Nat) : Int32 := if c = 112 then 0 else if c = 105 then 1 else if c = 115 then 2 else if c = 102 then 3 else -1
theorem i8_id : ∀ c, c < 127 → (nI c).toInt8.toInt32 = nI c := by decide +kernel
set_option maxHeartbeats 4000000 in
theorem x_kind {n c : Nat} (hn : 100 ≤ n) (hc : c < 127) (σ : eb_S) : f_J0_indexOf_0f7a4 n (nI c) σ = some (kdI c, σ) := by
  obtain ⟨m, rfl⟩ : ∃ m, n = m + 5 := ⟨n - 5, by omega⟩
  have b0 : ¬ nI c < 0 := nI_pos (by omega)
  have b1 : ¬ (255 : Int32) < nI c := by rw [show (255 : Int32) = nI 255 from rfl, p_ltN (by decide) (by omega)]; omega
  have q0 : ((112 : Int32) = nI c) = (c = 112) := by rw [show (112 : Int32) = nI 112 from rfl, p_eqN (by decide) (by omega)]; exact propext ⟨Eq.symm, Eq.symm⟩
  have q1 : ((105 : Int32) = nI c) = (c = 105) := by rw [show (105 : Int32) = nI 105 from rfl, p_eqN (by decide) (by omega)]; exact propext ⟨Eq.symm, Eq.symm⟩
  have q2 : ((115 : Int32) = nI c) = (c = 115) := by rw [show (115 : Int32) = nI 115 from rfl, p_eqN (by decide) (by omega)]; exact propext ⟨Eq.symm, Eq.symm⟩
  have q3 : ((102 : Int32) = nI c) = (c = 102) := by rw [show (102 : Int32) = nI 102 from rfl, p_eqN (by decide) (by omega)]; exact propext ⟨Eq.symm, Eq.symm⟩
  have lp : f_J1_indexOfChar_4cfef_L7 (m + 5) 4 (nI c) (m + 5) 0 σ = some (kdI c, σ) := by
    rw [f_J1_indexOfChar_4cfef_L7.eq_2, if_neg (by decide)]
    simp only [eb_xi, show eb_in 0 4 = true by decide, if_true, show eb_k6 (0 : Int32).toNatClampNeg = 112 from rfl, q0]
    unfold kdI
    by_cases e0 : c = 112
    · rw [if_pos e0, if_pos e0]
    · rw [if_neg e0, if_neg e0, f_J1_indexOfChar_4cfef_L7.eq_2, if_neg (by decide)]
      simp only [eb_xi, show eb_in (0 + 1) 4 = true by decide, if_true, show eb_k6 (0 + 1 : Int32).toNatClampNeg = 105 from rfl, q1]
      by_cases e1 : c = 105
      · rw [if_pos e1, if_pos e1]; rfl
      · rw [if_neg e1, if_neg e1, f_J1_indexOfChar_4cfef_L7.eq_2, if_neg (by decide)]
        simp only [eb_xi, show eb_in (0 + 1 + 1) 4 = true by decide, if_true, show eb_k6 (0 + 1 + 1 : Int32).toNatClampNeg = 115 from rfl, q2]
        by_cases e2 : c = 115
        · rw [if_pos e2, if_pos e2]; rfl
        · rw [if_neg e2, if_neg e2, f_J1_indexOfChar_4cfef_L7.eq_2, if_neg (by decide)]
          simp only [eb_xi, show eb_in (0 + 1 + 1 + 1) 4 = true by decide, if_true, show eb_k6 (0 + 1 + 1 + 1 : Int32).toNatClampNeg = 102 from rfl, q3]
          by_cases e3 : c = 102
          · rw [if_pos e3, if_pos e3]; rfl
          · rw [if_neg e3, if_neg e3, f_J1_indexOfChar_4cfef_L7.eq_2, if_pos (by decide)]
  have z1 : f_J0_length_8abf5 σ = some (4, σ) := by
    unfold f_J0_length_8abf5 f_J0_coder_7d493
    rw [if_neg (by decide), eb_cl_s, show (4 : Int32) >>> (0 &&& 31) = 4 by decide]
  have z2 : f_J0_isLatin1_aae02 σ = some (true, σ) := by
    unfold f_J0_isLatin1_aae02
    rw [if_neg (by decide), if_pos rfl]
  unfold f_J0_indexOf_0f7a4 f_J0_indexOf_7cf53 f_J1_indexOf_4cfef f_J1_canEncode_9a6ad f_J1_indexOfChar_4cfef
  simp only [z1, z2, eb_cl_s, eb_b0, Bool.true_eq_false, if_false, b0, b1, show ¬ (0 : Int32) < 0 by decide, show ¬ (4 : Int32) < 4 by decide, show (0 : Int32) < 4 by decide, if_true, i8_id c hc, lp]
