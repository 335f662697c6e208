/-! ===== pure: the component reads a market ===== -/
def kdN (c : Nat) : Option Nat := if c = 112 then some 0 else if c = 105 then some 1 else if c = 115 then some 2 else if c = 102 then some 3 else none
theorem kdN_ok {c k : Nat} (h : kdN c = some k) : k ≤ 3 ∧ c ≠ 0 ∧ kdI c = nI k := by
  unfold kdN at h
  unfold kdI
  by_cases e0 : c = 112
  · rw [if_pos e0] at h; cases h; rw [if_pos e0]; exact ⟨by omega, by omega, rfl⟩
  · rw [if_neg e0] at h
    by_cases e1 : c = 105
    · rw [if_pos e1] at h; cases h; rw [if_neg e0, if_pos e1]; exact ⟨by omega, by omega, rfl⟩
    · rw [if_neg e1] at h
      by_cases e2 : c = 115
      · rw [if_pos e2] at h; cases h; rw [if_neg e0, if_neg e1, if_pos e2]; exact ⟨by omega, by omega, rfl⟩
      · rw [if_neg e2] at h
        by_cases e3 : c = 102
        · rw [if_pos e3] at h; cases h; rw [if_neg e0, if_neg e1, if_neg e2, if_pos e3]; exact ⟨by omega, by omega, rfl⟩
        · rw [if_neg e3] at h; cases h
theorem kdN_no {c : Nat} (h : kdN c = none) : kdI c = -1 := by
  unfold kdN at h
  unfold kdI
  by_cases e0 : c = 112
  · rw [if_pos e0] at h; cases h
  · rw [if_neg e0] at h
    by_cases e1 : c = 105
    · rw [if_pos e1] at h; cases h
    · rw [if_neg e1] at h
      by_cases e2 : c = 115
      · rw [if_pos e2] at h; cases h
      · rw [if_neg e2] at h
        by_cases e3 : c = 102
        · rw [if_pos e3] at h; cases h
        · rw [if_neg e0, if_neg e1, if_neg e2, if_neg e3]
def stp (tl : Nat) (tc : Nat → Nat) (q : Nat) : Option Nat := if 48 ≤ hr tl tc q ∧ hr tl tc q ≤ 53 then some (hr tl tc q - 48) else none
def thE (tl : Nat) (tc : Nat → Nat) (k w e : Nat) : Nat × Option (Nat × Nat × Nat) := if hr tl tc (skp tl tc e) = 64 then (match stp tl tc (skp tl tc (skp tl tc e + 1)) with
  | none => (skp tl tc (skp tl tc e + 1), none)
  | some z => (skp tl tc (skp tl tc e + 1) + 1, some (k, w, z))) else (skp tl tc e, some (k, w, 5))
def thN (tl : Nat) (tc : Nat → Nat) (k q : Nat) : Nat × Option (Nat × Nat × Nat) := match nmr tl tc q with
  | none => (skp tl tc q, none)
  | some (w, e) => thE tl tc k w e
def thg (tl : Nat) (tc : Nat → Nat) (p : Nat) : Nat × Option (Nat × Nat × Nat) := match kdN (hr tl tc (skp tl tc p)) with
  | none => (skp tl tc p, none)
  | some k => thN tl tc k (skp tl tc p + 1)
theorem stp_ok {tl q z : Nat} {tc : Nat → Nat} (h : stp tl tc q = some z) : q < tl ∧ z ≤ 5 ∧ 48 ≤ hr tl tc q ∧ hr tl tc q ≤ 53 ∧ z = hr tl tc q - 48 := by
  unfold stp at h
  by_cases e : 48 ≤ hr tl tc q ∧ hr tl tc q ≤ 53
  · rw [if_pos e] at h; cases h
    exact ⟨(hr_lt (tl := tl) (tc := tc) (q := q) (by omega)).1, by omega, e.1, e.2, rfl⟩
  · rw [if_neg e] at h; cases h
theorem thE_ok {tl k w e : Nat} {tc : Nat → Nat} (he : e ≤ tl) (hk : k ≤ 3) (h1 : 1 ≤ w) (h2 : w ≤ 99) : (thE tl tc k w e).1 ≤ tl ∧ ∀ a b c, (thE tl tc k w e).2 = some (a, b, c) → a ≤ 3 ∧ 1 ≤ b ∧ b ≤ 99 ∧ c ≤ 5 := by
  have hq := skp_le (tc := tc) he
  unfold thE
  by_cases h : hr tl tc (skp tl tc e) = 64
  · rw [if_pos h]
    have hl := (hr_lt (tl := tl) (tc := tc) (q := skp tl tc e) (by omega)).1
    have hq2 := skp_le (tl := tl) (tc := tc) (p := skp tl tc e + 1) (by omega)
    cases hs : stp tl tc (skp tl tc (skp tl tc e + 1)) with
    | none => exact ⟨hq2, fun a b c z => by cases z⟩
    | some z =>
      have := stp_ok hs
      refine ⟨by dsimp only; omega, fun a b c y => ?_⟩
      cases y
      exact ⟨hk, h1, h2, this.2.1⟩
  · rw [if_neg h]
    refine ⟨hq, fun a b c y => ?_⟩
    cases y
    exact ⟨hk, h1, h2, by omega⟩
theorem thN_ok {tl k q : Nat} {tc : Nat → Nat} (hq : q ≤ tl) (hk : k ≤ 3) : (thN tl tc k q).1 ≤ tl ∧ ∀ a b c, (thN tl tc k q).2 = some (a, b, c) → a ≤ 3 ∧ 1 ≤ b ∧ b ≤ 99 ∧ c ≤ 5 := by
  unfold thN
  cases h : nmr tl tc q with
  | none => exact ⟨skp_le hq, fun a b c z => by cases z⟩
  | some r =>
    obtain ⟨w, e⟩ := r
    have := nmr_ok hq h
    exact thE_ok this.2.2 hk this.1 this.2.1
theorem thg_ok {tl p : Nat} {tc : Nat → Nat} (hp : p ≤ tl) : (thg tl tc p).1 ≤ tl ∧ ∀ a b c, (thg tl tc p).2 = some (a, b, c) → a ≤ 3 ∧ 1 ≤ b ∧ b ≤ 99 ∧ c ≤ 5 := by
  have hq := skp_le (tc := tc) hp
  unfold thg
  cases h : kdN (hr tl tc (skp tl tc p)) with
  | none => exact ⟨hq, fun a b c z => by cases z⟩
  | some k =>
    have := kdN_ok h
    have hl := (hr_lt (tl := tl) (tc := tc) (q := skp tl tc p) this.2.1).1
    exact thN_ok (by omega) this.1
def gG (k s : Nat) : Nat → Nat := fun i => if i = 0 ∨ i = 6 then 1 else if i < 6 then k else if i < 9 then s else 0
theorem gG_sca {k s : Nat} : ∀ i, sca i → gG k s i ≤ 1 := fun i h => by
  unfold sca at h
  unfold gG
  rcases h with h | h | h | h <;> subst h <;> simp
def DR (A : Nat → Nat → Nat) (k s : Nat) (σ : eb_S) : Prop := ShM41 σ ∧ FT 41 tS tE (gG k s) A σ ∧ A 0 0 = k ∧ A 6 0 = s
theorem Fr.shM41 {S : Nat → Nat → Prop} {σ σ' : eb_S} (h : Fr S σ σ') (hs : ShM41 σ) : ShM41 σ' := by
  unfold ShM41 at *; rw [h.1, h.2.1, h.2.2.1]; exact hs
theorem FT.frx {o : Nat} {sl : Nat → Nat → Nat} {e : Nat → Nat → Int32} {b : Nat → Nat} {A : Nat → Nat → Nat} {σ σ' : eb_S} {S : Nat → Nat → Prop} (h : FT o sl e b A σ) (hF : Fr S σ σ') (hn : ∀ k j, o ≤ k → k ≤ o + 15 → ¬ S k j) : FT o sl e b A σ' := fun i j hi hj => by
  have hb : o ≤ tC o i ∧ tC o i ≤ o + 15 := by
    unfold tC
    split
    · omega
    · split
      · omega
      · split
        · omega
        · split <;> omega
  rw [hF.2.2.2.2.2 _ _ (hn _ _ hb.1 hb.2)]
  exact h i j hi hj
theorem DR.at {A : Nat → Nat → Nat} {k s : Nat} {σ σ' : eb_S} {S : Nat → Nat → Prop} (h : DR A k s σ) (hF : Fr S σ σ') (hn : ∀ k j, 41 ≤ k → k ≤ 56 → ¬ S k j) : DR A k s σ' := ⟨hF.shM41 h.1, h.2.1.frx hF hn, h.2.2⟩
def sPar (k j : Nat) : Prop := (k = 57 ∧ j = 2) ∨ (41 ≤ k ∧ k ≤ 56)
theorem sAt_p : ∀ k j, sAt k j → sPar k j := fun k j h => Or.inl h
theorem DR.a2 {A : Nat → Nat → Nat} {k s : Nat} {σ σ' : eb_S} (h : DR A k s σ) (hF : Fr sAt σ σ') : DR A k s σ' := h.at hF (fun k j h1 h2 z => by unfold sAt at z; omega)
theorem gG_T {k s : Nat} : ∀ i, i < 19 → gG (k + 1) s i ≤ bT (gG k s) (k + 1) i := fun i hi => by
  rcases lt19 hi with rfl | rfl | rfl | rfl | rfl | rfl | rfl | rfl | rfl | rfl | rfl | rfl | rfl | rfl | rfl | rfl | rfl | rfl | rfl <;> simp [gG, bT, bw]
theorem gG_S {k s : Nat} : ∀ i, i < 19 → gG k (s + 1) i ≤ bSt (gG k s) (s + 1) i := fun i hi => by
  rcases lt19 hi with rfl | rfl | rfl | rfl | rfl | rfl | rfl | rfl | rfl | rfl | rfl | rfl | rfl | rfl | rfl | rfl | rfl | rfl | rfl <;> simp [gG, bSt, bw]
theorem x_draftT {A : Nat → Nat → Nat} {k s a b c : Nat} (hk : k < 10) {σ : eb_S} (h : DR A k s σ) : ∃ σ', f_X3_addThing 41 (nI a) (nI b) (nI c) σ = some (nI k, σ') ∧ Fr (fun k _ => 41 ≤ k ∧ k ≤ 56) σ σ' ∧ DR (addT A k a b c) (k + 1) s σ' := by
  obtain ⟨h1, h2, h3, h4⟩ := h
  have hN : eb_I σ 41 1 = nI k := by
    have := h2 0 0 (by decide) (by show 0 < 1; decide)
    rw [h3] at this
    exact this
  obtain ⟨σ1, a1, a2, a3, a4⟩ := x_addThing41 h1 h2 gG_sca (N := k) (k := a) (w := b) (p := c) hN hk (fun i i1 i2 => by unfold gG; rw [if_neg (by omega), if_pos i2]; exact Nat.le_refl _)
  exact ⟨σ1, a1, a2, a2.shM41 h1, a4.cut gG_T, by simp [addT, aup], by simp [addT, aup, h4]⟩
theorem x_draftS {A : Nat → Nat → Nat} {k s a b : Nat} (hs : s < 5) {σ : eb_S} (h : DR A k s σ) : ∃ σ', f_X3_addStretch 41 (nI a) (nI b) σ = some (nI s, σ') ∧ Fr (fun k _ => 41 ≤ k ∧ k ≤ 56) σ σ' ∧ DR (addS A s a b) k (s + 1) σ' := by
  obtain ⟨h1, h2, h3, h4⟩ := h
  have hN : eb_I σ 41 7 = nI s := by
    have := h2 6 0 (by decide) (by show 0 < 1; decide)
    rw [h4] at this
    exact this
  obtain ⟨σ1, a1, a2, a3, a4⟩ := x_addStretch41 h1 h2 gG_sca (N := s) (k := a) (w := b) hN hs (fun i i1 i2 => by unfold gG; rw [if_neg (by omega), if_neg (by omega), if_pos i2]; exact Nat.le_refl _)
  exact ⟨σ1, a1, a2, a2.shM41 h1, a4.cut gG_S, by simp [addS, aup, h3], by simp [addS, aup]⟩
theorem PX.d {tl p : Nat} {tc : Nat → Nat} {σ σ' : eb_S} (h : PX tl tc p σ) (hF : Fr (fun k _ => 41 ≤ k ∧ k ≤ 56) σ σ') : PX tl tc p σ' := ⟨h.1.at hF (by omega) (by omega), by rw [hF.2.2.2.2.2 _ _ (by omega)]; exact h.2.1, h.2.2⟩
set_option maxHeartbeats 4000000 in
theorem x_stop {tl n p : Nat} {tc : Nat → Nat} (hn : 100 ≤ n) {σ : eb_S} (hP : PX tl tc p σ) : ∃ σ', Fr sAt σ σ' ∧ ((stp tl tc (skp tl tc p) = none ∧ f_X8_readStop n 57 σ = some (-1, σ') ∧ PX tl tc (skp tl tc p) σ') ∨ ∃ z, stp tl tc (skp tl tc p) = some z ∧ f_X8_readStop n 57 σ = some (nI z, σ') ∧ PX tl tc (skp tl tc p + 1) σ') := by
  obtain ⟨σ1, g1, g2, g3⟩ := x_skip hn hP
  have t0 := hP.1.1
  have hP' := g3
  obtain ⟨⟨t1, t2, t3⟩, p2, w, p4⟩ := g3
  have w1 := w.1
  unfold ShT at t0 t1
  unfold f_X8_readStop
  by_cases h : skp tl tc p < tl
  · have w2 := w.2 _ h
    have eh : hr tl tc (skp tl tc p) = tc (skp tl tc p) := by unfold hr; rw [if_pos h]
    have le : ¬ nI tl ≤ nI (skp tl tc p) := by rw [p_leN (by omega) (by omega)]; omega
    have c48 : (nI (tc (skp tl tc p)) < 48) = (tc (skp tl tc p) < 48) := p_ltN (b := 48) (by omega) (by decide)
    have c53 : (nI (tc (skp tl tc p)) ≤ 53) = (tc (skp tl tc p) ≤ 53) := p_leN (b := 53) (by omega) (by decide)
    simp only [eb_tg, t0, if_true, g1, eb_cl_s, eb_gI, eb_gR, eb_ac, eb_pI, t1, t2, p2, le, List.mem_singleton, if_false, true_and, ne_eq, show ¬ (58 : Nat) = 0 by decide, not_false_eq_true, p_in (show skp tl tc p < 80 by omega) (by decide : 80 < 2 ^ 31), p_cl (show skp tl tc p < 2 ^ 31 by omega), t3 _ h, c48, c53, nI_1]
    unfold stp
    rw [eh]
    by_cases e1 : tc (skp tl tc p) < 48
    · refine ⟨σ1, g2, Or.inl ⟨if_neg (by omega), by rw [if_pos e1], hP'⟩⟩
    · by_cases e2 : tc (skp tl tc p) ≤ 53
      · have hF : Fr sAt σ1 (eb_sI σ1 57 2 (nI (skp tl tc p + 1))) := Fr.sI ⟨rfl, rfl⟩
        refine ⟨_, g2.tr hF, Or.inr ⟨tc (skp tl tc p) - 48, if_pos ⟨by omega, e2⟩, ?_, hP'.at hF (by rw [eb_I_sI, if_pos rfl, if_pos rfl]) (by omega)⟩⟩
        rw [if_neg e1, if_pos e2, show (48 : Int32) = nI 48 from rfl, pk_sub (by omega)]
      · refine ⟨σ1, g2, Or.inl ⟨if_neg (by omega), by rw [if_neg e1, if_neg e2], hP'⟩⟩
  · have eh : hr tl tc (skp tl tc p) = 0 := by unfold hr; rw [if_neg h]
    have le : nI tl ≤ nI (skp tl tc p) := by rw [p_leN (by omega) (by omega)]; omega
    refine ⟨σ1, g2, Or.inl ⟨by unfold stp; rw [eh, if_neg (by omega)], ?_, hP'⟩⟩
    simp only [eb_tg, t0, if_true, g1, eb_cl_s, eb_gI, t1, t2, p2, le, List.mem_singleton]
def thA (A : Nat → Nat → Nat) (k : Nat) (o : Option (Nat × Nat × Nat)) : Nat → Nat → Nat := match o with
  | none => A
  | some (a, b, c) => addT A k a b c
def thK (k : Nat) (o : Option (Nat × Nat × Nat)) : Nat := match o with
  | none => k
  | some _ => k + 1
set_option maxHeartbeats 8000000 in
theorem x_thing1 {tl n p k s : Nat} {tc : Nat → Nat} {A : Nat → Nat → Nat} (hn : 100 ≤ n) (hk : k < 10) {σ : eb_S} (hP : PX tl tc p σ) (hD : DR A k s σ) : ∃ σ', f_X8_readThing n 57 41 σ = some ((thg tl tc p).2.isSome, σ') ∧ Fr sPar σ σ' ∧ PX tl tc (thg tl tc p).1 σ' ∧ DR (thA A k (thg tl tc p).2) (thK k (thg tl tc p).2) s σ' := by
  obtain ⟨σ1, g1, g2, g3⟩ := x_skip hn hP
  have hD1 := hD.a2 g2
  have t0 := hP.1.1
  have hP1 := g3
  obtain ⟨⟨t1, t2, t3⟩, p2, w, p4⟩ := g3
  have t1s := t1
  have w1 := w.1
  unfold ShT at t0 t1
  unfold f_X8_readThing thg
  cases hkd : kdN (hr tl tc (skp tl tc p)) with
  | none =>
    refine ⟨σ1, ?_, g2.mono sAt_p, hP1, hD1⟩
    by_cases h : skp tl tc p < tl
    · have w2 := w.2 _ h
      have eh : hr tl tc (skp tl tc p) = tc (skp tl tc p) := by unfold hr; rw [if_pos h]
      have le : ¬ nI tl ≤ nI (skp tl tc p) := by rw [p_leN (by omega) (by omega)]; omega
      have kx := x_kind (n := n) (c := tc (skp tl tc p)) hn (by omega) σ1
      rw [eh] at hkd
      rw [kdN_no hkd] at kx
      simp [eb_tg, t0, g1, eb_cl_s, eb_gI, eb_gR, eb_ac, eb_jn_e, t1, t2, p2, le, p_in (show skp tl tc p < 80 by omega) (by decide : 80 < 2 ^ 31), p_cl (show skp tl tc p < 2 ^ 31 by omega), t3 _ h, kx, m1n]
    · have le : nI tl ≤ nI (skp tl tc p) := by rw [p_leN (by omega) (by omega)]; omega
      simp [eb_tg, t0, g1, eb_cl_s, eb_gI, eb_jn_e, t1, t2, p2, le, m1n]
  | some kk =>
    obtain ⟨kk3, kc0, kki⟩ := kdN_ok hkd
    obtain ⟨h, eh⟩ := hr_lt kc0
    have w2 := w.2 _ h
    have le : ¬ nI tl ≤ nI (skp tl tc p) := by rw [p_leN (by omega) (by omega)]; omega
    have kx := x_kind (n := n) (c := tc (skp tl tc p)) hn (by omega) σ1
    rw [← eh, kki] at kx
    rw [eh] at kx
    have knn := p_nn (show kk < 2 ^ 31 by omega)
    have hF2 : Fr sAt σ1 (eb_sI σ1 57 2 (nI (skp tl tc p + 1))) := Fr.sI ⟨rfl, rfl⟩
    have hP2 := hP1.at hF2 (by rw [eb_I_sI, if_pos rfl, if_pos rfl]) (show skp tl tc p + 1 ≤ tl by omega)
    have hD2 := hD1.a2 hF2
    obtain ⟨σ3, n1, n2, n3⟩ := x_number hn hP2
    have hD3 := hD2.a2 n2
    have t2' := hP2.1.1
    have t3' := n3.1.1
    unfold ShT at t2' t3'
    have F13 : Fr sAt σ σ3 := (g2.tr hF2).tr n2
    have pre : f_X8_readThing n 57 41 σ = (if nI (nmV (nmr tl tc (skp tl tc p + 1))) = 0 then (some (false, σ3)) else (eb_cl (eb_tg σ3 57 7 (f_X8_passes n 57 64 σ3)) fun b12 s11 => eb_jn (fun (y13 : Int32) (s14 : eb_S) => if 0 ≤ y13 then (eb_cl (eb_tg s14 41 3 (f_X3_addThing 41 (nI kk) (nI (nmV (nmr tl tc (skp tl tc p + 1)))) y13 s14)) fun x17 s16 => some (true, s16)) else (some (false, s14))) fun j15 => if (eb_b b12) = 0 then (j15 5 s11) else (eb_cl (eb_tg s11 57 7 (f_X8_readStop n 57 s11)) fun x19 s18 => j15 x19 s18))) := by
      unfold f_X8_readThing
      simp only [eb_tg, t0, if_true, g1, eb_cl_s, eb_gI, eb_gR, eb_ac, eb_pI, eb_jn_e, t1, t2, p2, le, if_false, List.mem_singleton, true_and, ne_eq, show ¬ (58 : Nat) = 0 by decide, not_false_eq_true, p_in (show skp tl tc p < 80 by omega) (by decide : 80 < 2 ^ 31), p_cl (show skp tl tc p < 2 ^ 31 by omega), t3 _ h, kx, knn, nI_1, t2', n1]
    unfold f_X8_readThing at pre
    rw [pre]
    show ∃ σ', _ = some ((thN tl tc kk (skp tl tc p + 1)).2.isSome, σ') ∧ Fr sPar σ σ' ∧ PX tl tc (thN tl tc kk (skp tl tc p + 1)).1 σ' ∧ DR (thA A k (thN tl tc kk (skp tl tc p + 1)).2) (thK k (thN tl tc kk (skp tl tc p + 1)).2) s σ'
    unfold thN
    cases hnm : nmr tl tc (skp tl tc p + 1) with
    | none =>
      rw [hnm] at n3
      refine ⟨σ3, ?_, F13.mono sAt_p, n3, hD3⟩
      have z : nI (nmV none) = 0 := nI_0
      rw [if_pos z]
      rfl
    | some r =>
      obtain ⟨ww, e⟩ := r
      obtain ⟨ww1, ww2, he⟩ := nmr_ok (show skp tl tc p + 1 ≤ tl by omega) hnm
      rw [hnm] at n3
      have n3 : PX tl tc e σ3 := n3
      have zv : nmV (some (ww, e)) = ww := rfl
      rw [zv, if_neg (nI_ne0 (by omega) (by omega))]
      obtain ⟨σ4, q1, q2, q3⟩ := x_passes (c := 64) hn (by decide) (by decide) n3
      have q1 : f_X8_passes n 57 64 σ3 = some (decide (hr tl tc (skp tl tc e) = 64), σ4) := q1
      have hD4 := hD3.a2 q2
      have t4 := q3.1.1
      unfold ShT at t4
      have m4 := hD4.1
      unfold ShM41 at m4
      have F14 : Fr sAt σ σ4 := F13.tr q2
      show ∃ σ', _ = some ((thE tl tc kk ww e).2.isSome, σ') ∧ Fr sPar σ σ' ∧ PX tl tc (thE tl tc kk ww e).1 σ' ∧ DR (thA A k (thE tl tc kk ww e).2) (thK k (thE tl tc kk ww e).2) s σ'
      unfold thE
      unfold psp at q3
      simp only [eb_tg, t3', if_true, q1, eb_cl_s, eb_b0, eb_jn_e, decide_eq_false_iff_not]
      by_cases h64 : hr tl tc (skp tl tc e) = 64
      · rw [if_pos h64] at q3
        rw [if_pos h64, if_neg (fun z => z h64)]
        obtain ⟨σ5, s1, s2⟩ := x_stop hn q3
        have hD5 := hD4.a2 s1
        simp only [t4, if_true]
        rcases s2 with ⟨r1, r2, r3⟩ | ⟨z, r1, r2, r3⟩
        · rw [r1]
          refine ⟨σ5, ?_, (F14.tr s1).mono sAt_p, r3, hD5⟩
          simp only [r2, eb_cl_s, m1n, if_false]
          rfl
        · rw [r1]
          have zz := stp_ok r1
          obtain ⟨σ6, u1, u2, u3⟩ := x_draftT (a := kk) (b := ww) (c := z) hk hD5
          have m5 := hD5.1
          unfold ShM41 at m5
          refine ⟨σ6, ?_, ((F14.tr s1).mono sAt_p).tr (u2.mono (fun k j h => Or.inr h)), r3.d u2, u3⟩
          simp only [r2, eb_cl_s, p_nn (show z < 2 ^ 31 by omega), if_true, m5, u1]
          rfl
      · rw [if_neg h64] at q3
        rw [if_neg h64, if_pos h64]
        obtain ⟨σ6, u1, u2, u3⟩ := x_draftT (a := kk) (b := ww) (c := 5) hk hD4
        have u1 : f_X3_addThing 41 (nI kk) (nI ww) 5 σ4 = some (nI k, σ6) := u1
        refine ⟨σ6, ?_, (F14.mono sAt_p).tr (u2.mono (fun k j h => Or.inr h)), q3.d u2, u3⟩
        simp only [show (0 : Int32) ≤ 5 by decide, if_true, m4, u1, eb_cl_s]
        rfl
