/-! ===== pure: the model reads rows ===== -/
def kdJ (c : Nat) : Int32 := match kdN c with
  | none => -4
  | some k => nI k
theorem kd_sel {τ : Type} {c : Nat} (hc : c < 127) (F : Int32 → eb_S → Option τ) (s : eb_S) : (if nI c = 112 then F 0 s else if nI c = 105 then F 1 s else if nI c = 115 then F 2 s else if nI c = 102 then F 3 s else F (-4) s) = F (kdJ c) s := by
  have q0 : (nI c = (112 : Int32)) = (c = 112) := p_eqN (b := 112) (by omega) (by decide)
  have q1 : (nI c = (105 : Int32)) = (c = 105) := p_eqN (b := 105) (by omega) (by decide)
  have q2 : (nI c = (115 : Int32)) = (c = 115) := p_eqN (b := 115) (by omega) (by decide)
  have q3 : (nI c = (102 : Int32)) = (c = 102) := p_eqN (b := 102) (by omega) (by decide)
  simp only [q0, q1, q2, q3]
  unfold kdJ kdN
  by_cases e0 : c = 112
  · simp only [e0, if_true]; rfl
  · by_cases e1 : c = 105
    · simp only [e0, e1, if_true, if_false]; rfl
    · by_cases e2 : c = 115
      · simp only [e0, e1, e2, if_true, if_false]; rfl
      · by_cases e3 : c = 102
        · simp only [e0, e1, e2, e3, if_true, if_false]; rfl
        · simp only [e0, e1, e2, e3, if_false]
set_option maxHeartbeats 8000000 in
theorem d_thing1 {tl n p k s : Nat} {tc : Nat → Nat} {A : Nat → Nat → Nat} (hn : 100 ≤ n) (hk : k < 10) {σ : eb_S} (hP : PD tl tc p false σ) (hR : RD A k s σ) : ∃ σ', f_X10_readThing n 91 σ = some ((), σ') ∧ Fr sMr σ σ' ∧ PD tl tc (thg tl tc p).1 (decide ((thg tl tc p).2 = none)) σ' ∧ eb_I σ' 91 23 = nI (k + 1) ∧ ((thg tl tc p).2 ≠ none → RD (thA A k (thg tl tc p).2) (k + 1) s σ') := by
  obtain ⟨σ1, g1, g2, g3⟩ := d_here hn hP
  have hR1 := hR.at g2
  have hb := hr_b hP.2.2.2.2.1 (skp tl tc p)
  have w0 := hP.2.2.2.1
  have w1 := g3.2.2.2.1
  have a1 := g3.2.2.1
  have pre : f_X10_readThing n 91 σ = (if (0 : Int32) ≤ kdJ (hr tl tc (skp tl tc p)) then rtK n (kdJ (hr tl tc (skp tl tc p))) (eb_sI (eb_sI σ1 91 22 (eb_b false)) 91 21 (nI (skp tl tc p) + 1)) else rtK n (kdJ (hr tl tc (skp tl tc p))) (eb_sI (eb_sI σ1 91 22 (eb_b true)) 91 21 (nI (skp tl tc p) + 0))) := by
    have hd1 := g3.1
    have G0 : ShD (eb_sI σ1 91 22 (eb_b false)) := (Fr.sI (S := sAd) ⟨rfl, Or.inr rfl⟩).shD hd1
    have G1 : ShD (eb_sI σ1 91 22 (eb_b true)) := (Fr.sI (S := sAd) ⟨rfl, Or.inr rfl⟩).shD hd1
    rw [rt_eq, dgI hP.1, w0, eb_jn_e, if_pos (show eb_b false = 0 from rfl), dtg hP.1, g1, eb_cl_s]
    dsimp only
    rw [eb_jn_e]
    refine (kd_sel (c := hr tl tc (skp tl tc p)) (by omega) (fun (y5 : Int32) (s6 : eb_S) => eb_gI s6 [9] 91 22 fun x8 => eb_jn (fun (y9 : Int32) (s10 : eb_S) => eb_pZ s10 [9] 91 22 y9 fun s12 => eb_gI s12 [9] 91 21 fun x13 => eb_gI s12 [9] 91 22 fun x14 => eb_jn (fun (y15 : Int32) (s16 : eb_S) => eb_pI s16 [9] 91 21 (x13 + y15) fun s18 => rtK n y5 s18) fun j17 => if x14 = 0 then (j17 1 s12) else (j17 0 s12)) fun j11 => eb_jn (fun (s55 : eb_S) => j11 1 s55) fun j56 => if x8 = 0 then (if 0 ≤ y5 then (j11 0 s6) else (j56 s6)) else (j56 s6)) σ1).trans ?_
    rw [dgI hd1, w1]
    simp only [eb_jn_e]
    rw [if_pos (show eb_b false = 0 from rfl)]
    by_cases h : (0 : Int32) ≤ kdJ (hr tl tc (skp tl tc p))
    · rw [if_pos h, if_pos h, show (0 : Int32) = eb_b false from rfl, dpZ hd1, dgI G0, dgI G0, dpI G0]
      rw [eb_I_sI, if_pos rfl, if_pos rfl, if_pos rfl, eb_I_sI, if_pos rfl, if_neg (by decide), a1]
    · rw [if_neg h, if_neg h, show (1 : Int32) = eb_b true from rfl, dpZ hd1, dgI G1, dgI G1]
      rw [eb_I_sI, if_pos rfl, if_pos rfl, if_neg (by decide), dpI G1, eb_I_sI, if_pos rfl, if_neg (by decide), a1]
  rw [pre]
  unfold thg kdJ
  cases hkd : kdN (hr tl tc (skp tl tc p)) with
  | none =>
    dsimp only
    rw [if_neg (by decide)]
    have hF : Fr sAd σ1 (eb_sI (eb_sI σ1 91 22 (eb_b true)) 91 21 (nI (skp tl tc p) + 0)) := (Fr.sI ⟨rfl, Or.inr rfl⟩).tr (Fr.sI ⟨rfl, Or.inl rfl⟩)
    have hP2 : PD tl tc (skp tl tc p) true _ := g3.at hF (by rw [eb_I_sI, if_pos rfl, if_pos rfl, Int32.add_zero]) (by rw [eb_I_sI, if_pos rfl, if_neg (by decide), eb_I_sI, if_pos rfl, if_pos rfl]) g3.2.2.2.2.2
    obtain ⟨σ', r1, r2, r3, r4⟩ := d_rtK_w (n := n) (y5 := -4) hk hP2 (hR1.at hF).1
    exact ⟨σ', r1, ((g2.tr hF).mono sAd_r).tr r2, r3, r4, fun z => absurd rfl z⟩
  | some kk =>
    dsimp only
    obtain ⟨kk3, kc0, kki⟩ := kdN_ok hkd
    obtain ⟨h, eh⟩ := hr_lt kc0
    rw [if_pos (nI_pos' (by omega))]
    have hF : Fr sAd σ1 (eb_sI (eb_sI σ1 91 22 (eb_b false)) 91 21 (nI (skp tl tc p) + 1)) := (Fr.sI ⟨rfl, Or.inr rfl⟩).tr (Fr.sI ⟨rfl, Or.inl rfl⟩)
    have hP2 : PD tl tc (skp tl tc p + 1) false _ := g3.at hF (by rw [eb_I_sI, if_pos rfl, if_pos rfl, nI_1]) (by rw [eb_I_sI, if_pos rfl, if_neg (by decide), eb_I_sI, if_pos rfl, if_pos rfl]) (by omega)
    obtain ⟨σ', r1, r2, r3, r4, r5⟩ := d_rtK (n := n) (kk := kk) hn hk hP2 (hR1.at hF)
    exact ⟨σ', r1, ((g2.tr hF).mono sAd_r).tr r2, r3, r4, r5⟩
theorem d_L22_0 {n m : Nat} {K : eb_S → Option (Int32 × eb_S)} {σ : eb_S} (hm : 0 < m) : f_X10_market_L22 n 91 K m 0 σ = K σ := by
  obtain ⟨m, rfl⟩ : ∃ m', m = m' + 1 := ⟨m - 1, by omega⟩
  rw [f_X10_market_L22.eq_2, if_pos rfl]
theorem d_L64_0 {n m : Nat} {K : eb_S → Option (Int32 × eb_S)} {σ : eb_S} (hm : 0 < m) : f_X10_market_L64 n 91 K m 0 σ = K σ := by
  obtain ⟨m, rfl⟩ : ∃ m', m = m' + 1 := ⟨m - 1, by omega⟩
  rw [f_X10_market_L64.eq_2, if_pos rfl]
set_option maxHeartbeats 8000000 in
theorem d_ths {tl n : Nat} {tc : Nat → Nat} (hn : 100 ≤ n) {K : eb_S → Option (Int32 × eb_S)} : ∀ (d m k p : Nat) (A : Nat → Nat → Nat) (σ : eb_S), k + d + 1 = 10 → d + 1 < m → PD tl tc p false σ → RD A k 0 σ → ∃ σ', f_X10_market_L22 n 91 K m 1 σ = K σ' ∧ Fr sMr σ σ' ∧ PD tl tc (ths tl tc (d + 1) A k p).2.2.2 (!(ths tl tc (d + 1) A k p).1) σ' ∧ ((ths tl tc (d + 1) A k p).1 = true → RD (ths tl tc (d + 1) A k p).2.1 (ths tl tc (d + 1) A k p).2.2.1 0 σ') := by
  intro d
  induction d with
  | zero =>
    intro m k p A σ hk hm hP hR
    obtain ⟨m, rfl⟩ : ∃ m', m = m' + 1 := ⟨m - 1, by omega⟩
    obtain ⟨σ1, r1, r2, r3, r4, r5⟩ := d_thing1 hn (show k < 10 by omega) hP hR
    have run : f_X10_market_L22 n 91 K (m + 1) 1 σ = K σ1 := by
      rw [f_X10_market_L22.eq_2, if_neg (show ¬ (1 : Int32) = 0 by decide), dtg hP.1, r1, eb_cl_s, dgI r3.1, r4]
      simp only [eb_jn_e]
      rw [if_pos (show (10 : Int32) ≤ nI (k + 1) by rw [show (10 : Int32) = nI 10 from rfl, p_leN (by decide) (by omega)]; omega), d_L22_0 (by omega)]
    refine ⟨σ1, run, r2, ?_⟩
    rw [ths_s]
    by_cases hs : (thg tl tc p).2 = none
    · rw [if_pos hs]
      rw [decide_eq_true hs] at r3
      exact ⟨r3, fun z => by cases z⟩
    · rw [if_neg hs]
      rw [decide_eq_false hs] at r3
      have ec : thc tl tc 0 (thA A k (thg tl tc p).2) (k + 1) (thg tl tc p).1 = (true, thA A k (thg tl tc p).2, k + 1, (thg tl tc p).1) := by unfold thc; rw [if_neg (by omega), if_neg (by omega)]
      rw [ec]
      exact ⟨r3, fun _ => r5 hs⟩
  | succ d ih =>
    intro m k p A σ hk hm hP hR
    obtain ⟨m, rfl⟩ : ∃ m', m = m' + 1 := ⟨m - 1, by omega⟩
    obtain ⟨σ1, r1, r2, r3, r4, r5⟩ := d_thing1 hn (show k < 10 by omega) hP hR
    have pre : ∀ (b : Bool) (σ2 : eb_S), f_X10_has n 91 44 σ1 = some (b, σ2) → f_X10_market_L22 n 91 K (m + 1) 1 σ = f_X10_market_L22 n 91 K m (eb_b b) σ2 := by
      intro b σ2 hh
      rw [f_X10_market_L22.eq_2, if_neg (show ¬ (1 : Int32) = 0 by decide), dtg hP.1, r1, eb_cl_s, dgI r3.1, r4]
      simp only [eb_jn_e]
      rw [if_neg (show ¬ (10 : Int32) ≤ nI (k + 1) by rw [show (10 : Int32) = nI 10 from rfl, p_leN (by decide) (by omega)]; omega), dtg r3.1, hh, eb_cl_s]
      cases b <;> rfl
    rw [ths_s]
    by_cases hs : (thg tl tc p).2 = none
    · rw [if_pos hs]
      rw [decide_eq_true hs] at r3
      obtain ⟨σ2, b1, b2, b3⟩ := d_has_w (n := n) (c := 44) r3
      refine ⟨σ2, ?_, r2.tr (b2.mono sAd_r), b3, fun z => by cases z⟩
      rw [pre _ _ b1]
      exact d_L22_0 (by omega)
    · rw [if_neg hs]
      rw [decide_eq_false hs] at r3
      have hR1 := r5 hs
      obtain ⟨σ2, b1, b2, b3⟩ := d_has (c := 44) hn (by decide) (by decide) r3
      have b1 : f_X10_has n 91 44 σ1 = some (decide (hr tl tc (skp tl tc (thg tl tc p).1) = 44), σ2) := b1
      have hR2 := hR1.at b2
      have pr := pre _ _ b1
      unfold psp at b3
      by_cases h : hr tl tc (skp tl tc (thg tl tc p).1) = 44
      · rw [if_pos h] at b3
        rw [decide_eq_true h] at pr
        have ec : thc tl tc (d + 1) (thA A k (thg tl tc p).2) (k + 1) (thg tl tc p).1 = ths tl tc (d + 1) (thA A k (thg tl tc p).2) (k + 1) (skp tl tc (thg tl tc p).1 + 1) := by unfold thc; rw [if_pos ⟨by omega, h⟩]
        rw [ec]
        obtain ⟨σ3, u1, u2, u3, u4⟩ := ih m (k + 1) _ _ σ2 (by omega) (by omega) b3 hR2
        exact ⟨σ3, pr.trans u1, (r2.tr (b2.mono sAd_r)).tr u2, u3, u4⟩
      · rw [if_neg h] at b3
        rw [decide_eq_false h] at pr
        have ec : thc tl tc (d + 1) (thA A k (thg tl tc p).2) (k + 1) (thg tl tc p).1 = (true, thA A k (thg tl tc p).2, k + 1, skp tl tc (thg tl tc p).1) := by unfold thc; rw [if_neg (fun z => h z.2), if_pos (show k + 1 < 10 by omega)]
        rw [ec]
        exact ⟨σ2, pr.trans (d_L22_0 (by omega)), r2.tr (b2.mono sAd_r), b3, fun _ => hR2⟩
-- stretches
theorem i2 (k : Nat) : (2 : Int32) * nI k = nI (2 * k) := pk_mul 2 k
theorem i21 (k : Nat) : (2 : Int32) * nI k + 1 = nI (2 * k + 1) := by rw [i2, nI_1]
theorem PD.w9 {tl p i : Nat} {tc : Nat → Nat} {wr : Bool} {σ : eb_S} {x : Int32} (h : PD tl tc p wr σ) : PD tl tc p wr (eb_sI σ 109 i x) := h.r (Fr.sI (Or.inr (Or.inr rfl)))
theorem PD.e24 {tl p : Nat} {tc : Nat → Nat} {wr : Bool} {σ : eb_S} {x : Int32} (h : PD tl tc p wr σ) : PD tl tc p wr (eb_sI σ 91 24 x) := h.r (Fr.sI (Or.inl ⟨rfl, Or.inr rfl⟩))
set_option maxHeartbeats 8000000 in
theorem d_str1 {tl n p s kk m : Nat} {tc : Nat → Nat} {A : Nat → Nat → Nat} (hn : 100 ≤ n) (hs : s < 5) {σ : eb_S} (hP : PD tl tc p false σ) (hR : RD A kk s σ) {K : eb_S → Option (Int32 × eb_S)} : ∃ σ1, Fr sMr σ σ1 ∧ PD tl tc (stP tl tc p) (decide (nmr tl tc p = none)) σ1 ∧ (nmr tl tc p ≠ none → RD (stA tl tc A s p) kk (s + 1) σ1) ∧ f_X10_market_L64 n 91 K (m + 1) 1 σ = (if (5 : Int32) ≤ nI (s + 1) then f_X10_market_L64 n 91 K m 0 σ1 else eb_cl (f_X10_has n 91 44 σ1) fun b s38 => f_X10_market_L64 n 91 K m (eb_b b) s38) := by
  obtain ⟨v, σ2, a1, a2, a3, a4⟩ := d_number (n := n) hn hP
  have hR2 := hR.at a2
  have hP3 := a3.w9 (i := 2 * s) (x := v)
  have main : ∀ (b : Bool) (σ4 : eb_S), f_X10_has n 91 117 (eb_sI σ2 109 (2 * s) v) = some (b, σ4) → ShD σ4 → eb_I σ4 91 24 = nI s → f_X10_market_L64 n 91 K (m + 1) 1 σ = (if (5 : Int32) ≤ nI (s + 1) then f_X10_market_L64 n 91 K m 0 (eb_sI (eb_sI σ4 109 (2 * s + 1) (eb_b b)) 91 24 (nI (s + 1))) else eb_cl (f_X10_has n 91 44 (eb_sI (eb_sI σ4 109 (2 * s + 1) (eb_b b)) 91 24 (nI (s + 1)))) fun b s38 => f_X10_market_L64 n 91 K m (eb_b b) s38) := by
    intro b σ4 hh hd4 h24
    have G1 : ShD (eb_sI σ4 109 (2 * s + 1) (eb_b b)) := (Fr.sI (S := sRw) (Or.inr (Or.inr rfl))).shD hd4
    have G2 : ShD (eb_sI (eb_sI σ4 109 (2 * s + 1) (eb_b b)) 91 24 (nI (s + 1))) := (Fr.sI (S := sRw) (Or.inl ⟨rfl, Or.inr rfl⟩)).shD G1
    have h24' : eb_I (eb_sI σ4 109 (2 * s + 1) (eb_b b)) 91 24 = nI s := by rw [eb_I_sI, if_neg (by decide)]; exact h24
    have h24b : eb_I (eb_sI σ2 109 (2 * s) v) 91 24 = nI s := by rw [eb_I_sI, if_neg (by decide)]; exact hR2.2.1
    have tail : ∀ y : Int32, y = eb_b b → (eb_wi σ4 109 (((2 : Int32) * nI s) + 1) y fun s29 => eb_gI s29 [9] 91 24 fun x30 => eb_pI s29 [9] 91 24 (x30 + 1) fun s31 => eb_gI s31 [9] 91 24 fun x32 => eb_jn (fun (y33 : Int32) (s34 : eb_S) => f_X10_market_L64 n 91 K m y33 s34) fun j35 => eb_jn (fun (s36 : eb_S) => j35 0 s36) fun j37 => if 5 ≤ x32 then (j37 s31) else (eb_cl (eb_tg s31 91 9 (f_X10_has n 91 44 s31)) fun b39 s38 => if (eb_b b39) = 0 then (j37 s38) else (j35 1 s38))) = (if (5 : Int32) ≤ nI (s + 1) then f_X10_market_L64 n 91 K m 0 (eb_sI (eb_sI σ4 109 (2 * s + 1) (eb_b b)) 91 24 (nI (s + 1))) else eb_cl (f_X10_has n 91 44 (eb_sI (eb_sI σ4 109 (2 * s + 1) (eb_b b)) 91 24 (nI (s + 1)))) fun b s38 => f_X10_market_L64 n 91 K m (eb_b b) s38) := by
      intro y hy
      rw [hy, dw109 hd4 (i21 s) (by omega), dgI G1, h24', dpI G1, nI_1, dgI G2, eb_I_sI, if_pos rfl, if_pos rfl]
      simp only [eb_jn_e]
      rw [dtg G2]
      by_cases h5 : (5 : Int32) ≤ nI (s + 1)
      · rw [if_pos h5, if_pos h5]
      · rw [if_neg h5, if_neg h5]
        congr 1
        funext b' s'
        cases b' <;> rfl
    rw [f_X10_market_L64.eq_2, if_neg (show ¬ (1 : Int32) = 0 by decide), dg26 hP.1, dgI hP.1, hR.2.1, dtg hP.1, a1, eb_cl_s, dw109 a3.1 (i2 s) (by omega), dg26 hP3.1, dgI hP3.1, h24b, dtg hP3.1, hh, eb_cl_s, eb_jn_e]
    cases b with
    | true => rw [if_neg (show ¬ eb_b true = 0 by decide)]; exact tail 1 rfl
    | false => rw [if_pos (show eb_b false = 0 from rfl)]; exact tail 0 rfl
  have rdf : ∀ (y u : Nat) (σ4 : eb_S), Fr sAd (eb_sI σ2 109 (2 * s) v) σ4 → v = nI y → ∀ b : Bool, eb_b b = nI u → RD (addS A s y u) kk (s + 1) (eb_sI (eb_sI σ4 109 (2 * s + 1) (eb_b b)) 91 24 (nI (s + 1))) := by
    intro y u σ4 F4 hv b hu
    obtain ⟨q1, q2, q3, q4⟩ := hR2
    have e : ∀ a c, ¬ sAd a c → eb_I σ4 a c = eb_I (eb_sI σ2 109 (2 * s) v) a c := F4.2.2.2.2.2
    have e1 : ∀ t, addS A s y u 1 t = A 1 t := fun t => by simp [addS, aup]
    have e2 : ∀ t, addS A s y u 2 t = A 2 t := fun t => by simp [addS, aup]
    have e3 : ∀ t, addS A s y u 3 t = A 3 t := fun t => by simp [addS, aup]
    have e7 : ∀ t, addS A s y u 7 t = if t = s then y else A 7 t := fun t => by simp [addS, aup]
    have e8 : ∀ t, addS A s y u 8 t = if t = s then u else A 8 t := fun t => by simp [addS, aup]
    refine ⟨?_, by rw [eb_I_sI, if_pos rfl, if_pos rfl], fun t ht => ?_, fun t ht => ?_⟩
    · rw [eb_I_sI, if_pos rfl, if_neg (by decide), eb_I_sI, if_neg (by decide), e _ _ (fun z => by unfold sAd at z; omega), eb_I_sI, if_neg (by decide)]; exact q1
    · rw [e1, e2, e3]
      have r : ∀ j, eb_I (eb_sI (eb_sI σ4 109 (2 * s + 1) (eb_b b)) 91 24 (nI (s + 1))) 108 j = eb_I σ2 108 j := fun j => by
        rw [eb_I_sI, if_neg (by decide), eb_I_sI, if_neg (by decide), e _ _ (fun z => by unfold sAd at z; omega), eb_I_sI, if_neg (by decide)]
      rw [r, r, r]; exact q3 t ht
    · have r : ∀ j, eb_I (eb_sI (eb_sI σ4 109 (2 * s + 1) (eb_b b)) 91 24 (nI (s + 1))) 109 j = if j = 2 * s + 1 then eb_b b else if j = 2 * s then v else eb_I σ2 109 j := fun j => by
        rw [eb_I_sI, if_neg (by decide), eb_I_sI, if_pos rfl, e _ _ (fun z => by unfold sAd at z; omega), eb_I_sI, if_pos rfl]
      rw [r, r, e7, e8]
      by_cases et : t = s
      · subst et
        rw [if_neg (by omega), if_pos rfl, if_pos rfl, if_pos rfl, if_pos rfl]
        exact ⟨hv, hu⟩
      · rw [if_neg (by omega), if_neg (by omega), if_neg et, if_neg (by omega), if_neg (by omega), if_neg et]
        exact q4 t (by omega)
  have i24 : ∀ σ4, Fr sAd (eb_sI σ2 109 (2 * s) v) σ4 → eb_I σ4 91 24 = nI s := fun σ4 F4 => by
    rw [F4.2.2.2.2.2 _ _ (fun z => by unfold sAd at z; omega), eb_I_sI, if_neg (by decide)]; exact hR2.2.1
  have FF : ∀ (σ4 : eb_S) (b : Bool), Fr sAd (eb_sI σ2 109 (2 * s) v) σ4 → Fr sMr σ (eb_sI (eb_sI σ4 109 (2 * s + 1) (eb_b b)) 91 24 (nI (s + 1))) := fun σ4 b F4 => ((((a2.mono sAd_r).tr (Fr.sI (Or.inr (Or.inr rfl)))).tr (F4.mono sAd_r)).tr (Fr.sI (Or.inr (Or.inr rfl)))).tr (Fr.sI (Or.inl (by omega)))
  unfold stP stA
  cases hnm : nmr tl tc p with
  | none =>
    rw [hnm] at hP3
    have hP3 : PD tl tc (skp tl tc p) true _ := hP3
    obtain ⟨σ4, b1, b2, b3⟩ := d_has_w (n := n) (c := 117) hP3
    exact ⟨_, FF σ4 false b2, b3.w9.e24, fun z => absurd rfl z, main _ _ b1 b3.1 (i24 σ4 b2)⟩
  | some r =>
    obtain ⟨y, e⟩ := r
    have av := a4 (by rw [hnm]; exact fun z => by cases z)
    rw [hnm] at hP3 av
    have hP3 : PD tl tc e false _ := hP3
    have av : v = nI y := av
    obtain ⟨σ4, b1, b2, b3⟩ := d_has (c := 117) hn (by decide) (by decide) hP3
    have b1 : f_X10_has n 91 117 (eb_sI σ2 109 (2 * s) v) = some (decide (hr tl tc (skp tl tc e) = 117), σ4) := b1
    refine ⟨_, FF σ4 _ b2, b3.w9.e24, fun _ => ?_, main _ _ b1 b3.1 (i24 σ4 b2)⟩
    refine rdf y (uph tl tc e) σ4 b2 av _ ?_
    unfold uph
    by_cases h : hr tl tc (skp tl tc e) = 117
    · rw [if_pos h, decide_eq_true h]; rfl
    · rw [if_neg h, decide_eq_false h]; rfl
set_option maxHeartbeats 8000000 in
theorem d_sth {tl n kk : Nat} {tc : Nat → Nat} (hn : 100 ≤ n) {K : eb_S → Option (Int32 × eb_S)} : ∀ (d m s p : Nat) (A : Nat → Nat → Nat) (σ : eb_S), s + d + 1 = 5 → d + 1 < m → PD tl tc p false σ → RD A kk s σ → ∃ σ', f_X10_market_L64 n 91 K m 1 σ = K σ' ∧ Fr sMr σ σ' ∧ PD tl tc (sth tl tc (d + 1) A s p).2.2.2 (!(sth tl tc (d + 1) A s p).1) σ' ∧ ((sth tl tc (d + 1) A s p).1 = true → RD (sth tl tc (d + 1) A s p).2.1 kk (sth tl tc (d + 1) A s p).2.2.1 σ') := by
  intro d
  induction d with
  | zero =>
    intro m s p A σ hk hm hP hR
    obtain ⟨m, rfl⟩ : ∃ m', m = m' + 1 := ⟨m - 1, by omega⟩
    obtain ⟨σ1, r2, r3, r5, r1⟩ := d_str1 (m := m) (K := K) hn (show s < 5 by omega) hP hR
    rw [if_pos (show (5 : Int32) ≤ nI (s + 1) by rw [show (5 : Int32) = nI 5 from rfl, p_leN (by decide) (by omega)]; omega), d_L64_0 (by omega)] at r1
    refine ⟨σ1, r1, r2, ?_⟩
    rw [sth_s]
    by_cases hs : nmr tl tc p = none
    · rw [if_pos hs]
      rw [decide_eq_true hs] at r3
      unfold stP at r3
      rw [hs] at r3
      exact ⟨r3, fun z => by cases z⟩
    · rw [if_neg hs]
      rw [decide_eq_false hs] at r3
      have ec : stc tl tc 0 (stA tl tc A s p) (s + 1) (stP tl tc p) = (true, stA tl tc A s p, s + 1, stP tl tc p) := by unfold stc; rw [if_neg (by omega), if_neg (by omega)]
      rw [ec]
      exact ⟨r3, fun _ => r5 hs⟩
  | succ d ih =>
    intro m s p A σ hk hm hP hR
    obtain ⟨m, rfl⟩ : ∃ m', m = m' + 1 := ⟨m - 1, by omega⟩
    obtain ⟨σ1, r2, r3, r5, r1⟩ := d_str1 (m := m) (K := K) hn (show s < 5 by omega) hP hR
    rw [if_neg (show ¬ (5 : Int32) ≤ nI (s + 1) by rw [show (5 : Int32) = nI 5 from rfl, p_leN (by decide) (by omega)]; omega)] at r1
    rw [sth_s]
    by_cases hs : nmr tl tc p = none
    · rw [if_pos hs]
      rw [decide_eq_true hs] at r3
      obtain ⟨σ2, b1, b2, b3⟩ := d_has_w (n := n) (c := 44) r3
      rw [b1, eb_cl_s] at r1
      unfold stP at b3
      rw [hs] at b3
      exact ⟨σ2, r1.trans (d_L64_0 (by omega)), r2.tr (b2.mono sAd_r), b3, fun z => by cases z⟩
    · rw [if_neg hs]
      rw [decide_eq_false hs] at r3
      have hR1 := r5 hs
      obtain ⟨σ2, b1, b2, b3⟩ := d_has (c := 44) hn (by decide) (by decide) r3
      have b1 : f_X10_has n 91 44 σ1 = some (decide (hr tl tc (skp tl tc (stP tl tc p)) = 44), σ2) := b1
      have hR2 := hR1.at b2
      rw [b1, eb_cl_s] at r1
      unfold psp at b3
      by_cases h : hr tl tc (skp tl tc (stP tl tc p)) = 44
      · rw [if_pos h] at b3
        rw [decide_eq_true h] at r1
        have ec : stc tl tc (d + 1) (stA tl tc A s p) (s + 1) (stP tl tc p) = sth tl tc (d + 1) (stA tl tc A s p) (s + 1) (skp tl tc (stP tl tc p) + 1) := by unfold stc; rw [if_pos ⟨by omega, h⟩]
        rw [ec]
        obtain ⟨σ3, u1, u2, u3, u4⟩ := ih m (s + 1) _ _ σ2 (by omega) (by omega) b3 hR2
        exact ⟨σ3, r1.trans u1, (r2.tr (b2.mono sAd_r)).tr u2, u3, u4⟩
      · rw [if_neg h] at b3
        rw [decide_eq_false h] at r1
        have ec : stc tl tc (d + 1) (stA tl tc A s p) (s + 1) (stP tl tc p) = (true, stA tl tc A s p, s + 1, skp tl tc (stP tl tc p)) := by unfold stc; rw [if_neg (fun z => h z.2), if_pos (show s + 1 < 5 by omega)]
        rw [ec]
        exact ⟨σ2, r1.trans (d_L64_0 (by omega)), r2.tr (b2.mono sAd_r), b3, fun _ => hR2⟩
