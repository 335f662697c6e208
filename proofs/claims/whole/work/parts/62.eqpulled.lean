/-! ===== pure: pulled, the model's answer ===== -/
theorem d_pull_all {A : Nat → Nat → Nat} (w : wf A) {ln sz : Nat → Nat} {it : Nat → Nat → Int64} {n sh i : Nat} (hn : 100000 ≤ n) (hsh : sh < 4) (hl : ln sh ≠ 0) (hi : i + aS A ≤ 16) {v4 : Int32} {K : Int32 → Int32 → eb_S → Option (Int32 × eb_S)} {σ σ1 : eb_S} (hs : ShD σ) (hD : MD A σ) (hH : DH ln sz it σ) (g2 : Fr sT σ σ1) (g3 : ∀ u, u < 10 → eb_I σ1 110 u = 0) : ∃ c k σ', f_X10_pulled_L73 n 91 (nI sh) (nI i) v4 0 K n 0 (mfull (aN A)) 1 σ1 = K c k σ' ∧ ShD σ' ∧ MD A σ' ∧ Fr sM σ σ' ∧ aPl A (bP A (fun s => it sh (i + s))) c k σ' := by
  have wN := w.1
  have h3 : 3 ^ aN A ≤ 3 ^ 10 := Nat.pow_le_pow_right (by decide) wN
  have h4 : 3 ^ 10 = 59049 := by decide
  have r0 : rPl A ln sz it σ (fun _ => 0) (pini A) ((0, mfull (aN A)), σ1) := ⟨g2.shD hs, g2.md nD_sT hD, hH.fr g2.fq (fun k j x1 x2 z => by unfold sT at z; omega), fun u hu => ⟨by rw [g3 u (by omega)]; exact nI_0.symm, by show 0 < 3; omega⟩, g2.mono (fun k j h => Or.inl h), fun _ => ⟨nI_0.symm, rfl, fun _ => rfl, fun z => absurd rfl z⟩⟩
  obtain ⟨m, hm⟩ : ∃ m, n = (m + 1) + 3 ^ aN A := ⟨n - 1 - 3 ^ aN A, by omega⟩
  obtain ⟨x', a1, a2⟩ := blk3 (N := aN A) (R := rPl A ln sz it σ) (L := lPl n sh i v4 K) (Tn := tPl n sh i v4 K) (fun m p acc x h => d_pull_step w (by omega) hsh hl hi m p acc x h) (fun m p acc x t h h1 h2 h3 => d_pull_turn w (by omega) m p acc x t h h1 h2 h3) (aN A) 0 (by omega) (fun _ => 0) (pini A) ((0, mfull (aN A)), σ1) (m + 1) r0 (fun _ _ _ => rfl)
  obtain ⟨⟨c, k⟩, σ2⟩ := x'
  obtain ⟨hs2, hD2, hH2, hT2, hF2, hA2⟩ := a2
  dsimp only at hs2 hD2 hT2 hF2 hA2
  obtain ⟨σ3, e1, e2⟩ := d_turnsE (n := n) (by omega) (mm := 2) (by decide) w hs2 hD2 hT2 (fun u hu => by unfold rfil; rw [if_pos ⟨by omega, hu⟩])
  refine ⟨c, k, σ3, ?_, e2.shD hs2, e2.md nD_sT hD2, hF2.tr (e2.mono (fun k j h => Or.inl h)), aPl_Fr e2 (fun j z => by unfold sT at z; omega) hA2⟩
  have : f_X10_pulled_L73 n 91 (nI sh) (nI i) v4 0 K n 0 (mfull (aN A)) 1 σ1 = lPl n sh i v4 K ((m + 1) + 3 ^ aN A) ((0, mfull (aN A)), σ1) := by rw [← hm]; rfl
  rw [this, a1]
  unfold tPl
  dsimp only
  rw [show (3 : Int32) = nI (2 + 1) from rfl, e1, eb_cl_s, f_X10_pulled_L73.eq_2, if_pos (by decide)]
theorem d_digits_L {A : Nat → Nat → Nat} (w : wf A) {n : Nat} {q : Nat → Nat} {v4 v6 v8 : Int32} (h6 : ¬ v6 ≤ 0) {σ : eb_S} (hs : ShD σ) (hN : eb_I σ 91 0 = nI (aN A)) (hq : ∀ u, u < aN A → eb_I σ 111 u = nI (q u) ∧ q u < 3) {K : Int32 → eb_S → Option (Int32 × eb_S)} : ∀ (m t : Nat), t ≤ aN A → aN A < t + m → f_X10_pulled_L244 n 91 v4 v6 v8 K m (dgs q t) (nI t) σ = K (dgs q (aN A)) σ := by
  intro m
  induction m with
  | zero => intro t h1 h2; omega
  | succ m ih =>
    intro t h1 h2
    have wN := w.1
    unfold ShD at hs
    rw [f_X10_pulled_L244.eq_2]
    simp only [eb_gI, hs, hN, List.mem_singleton, if_true, p_leN (show aN A < 2 ^ 31 by omega) (show t < 2 ^ 31 by omega)]
    by_cases h : aN A ≤ t
    · have : t = aN A := by omega
      subst this
      simp
    · have ih' := ih (t + 1) (by omega) (by omega)
      have e : dgs q (t + 1) = 3 * dgs q t + nI (q t) := by show dgs q t * 3 + nI (q t) = _; rw [Int32.mul_comm]
      rw [e] at ih'
      simp [h, h6, eb_gR, eb_ai, hs, p_in (show t < 10 by omega) (by decide : 10 < 2 ^ 31), p_cl (show t < 2 ^ 31 by omega), (hq t (by omega)).1, nI_1]
      exact ih'
set_option maxHeartbeats 4000000 in
theorem d_pulled {A : Nat → Nat → Nat} (w : wf A) {ln sz : Nat → Nat} {it : Nat → Nat → Int64} (wh : wfH ln sz) {n : Nat} (hn : 100000 ≤ n) {σ : eb_S} (hd : ShD σ) (hD : MD A σ) (hH : DH ln sz it σ) {sh l v i : Nat} (hsh : sh < 4) (hl4 : l < 4) (hv : v < 3) (hi : i < 17) (hok : (0 : Int32) ≤ rfs ln sz sh l (nI i) (nI (aS A))) : ∃ σ1, f_X10_pulled n 91 (nI sh) (nI l) (nI i) (nI v) σ = some (vP A (bP A (fun s => it sh (i + s))) v, σ1) ∧ Fr sM σ σ1 := by
  have wS := w.2.2.1
  have wN := w.1
  obtain ⟨o1, o2, o3⟩ := rfs_ok hok
  have hz := (wh sh hsh).2
  have o2 : 0 ≤ (nI (aS A)).toInt ∧ 0 ≤ (nI i).toInt ∧ (nI i).toInt + (nI (aS A)).toInt ≤ sz sh := of_decide_eq_true o2
  rw [p_ntoInt (by omega), p_ntoInt (by omega)] at o2
  have hl : ln sh ≠ 0 := by omega
  obtain ⟨σ1, g1, g2, g3⟩ := d_begins (n := n) (by omega) hd
  obtain ⟨c, k, σ2, e1, e2, e3, e4, e5⟩ := d_pull_all w hn hsh hl (i := i) (by omega) (v4 := nI v) (K := fun (w44 : Int32) (w45 : Int32) (s46 : eb_S) => f_X10_pulled_L244 n 91 (nI v) w44 w45 (fun (w50 : Int32) (s51 : eb_S) => if nI v = 0 then (some (w44, s51)) else (if w44 = 0 then (some ((-4), s51)) else (if nI v = 1 then (some (w50, s51)) else (some (w45, s51))))) n 0 0 s46) hd hD hH g2 g3
  refine ⟨σ2, ?_, e4⟩
  have cb := bP_cnt w (tl := fun s => it sh (i + s))
  obtain ⟨k1, k2, k3, k4⟩ := e5 (by omega)
  have w1 : f_X10_isSheet (nI sh) σ = some (true, σ) := by
    unfold f_X10_isSheet
    rw [d_in, eb_cl_s, p_i64, p_ntoInt (by omega), wi_t.mpr ⟨by show (0 : Int) ≤ sh; omega, by show (sh : Int) ≤ 3; omega⟩]
  have w2 : f_X10_isLane (nI l) σ = some (true, σ) := by
    unfold f_X10_isLane
    rw [d_in, eb_cl_s, p_i64, p_ntoInt (by omega), wi_t.mpr ⟨by show (0 : Int) ≤ l; omega, by show (l : Int) ≤ 3; omega⟩]
  have w3 := d_in (nI v).toInt64 0 2 σ
  rw [p_i64, p_ntoInt (by omega), wi_t.mpr ⟨by show (0 : Int) ≤ v; omega, by show (v : Int) ≤ 2; omega⟩] at w3
  have wy := d_why hd hH wh hsh hl4 (nI i) (nI (aS A)) (by rw [p_ntoInt (by omega)]; omega)
  rw [o3] at wy
  have hS := hD.2.2.2.2.2.2.1
  have hN := hD.1
  have hdu := hd
  unfold ShD at hdu
  have run : f_X10_pulled n 91 (nI sh) (nI l) (nI i) (nI v) σ = f_X10_pulled_L244 n 91 (nI v) c k (fun (w50 : Int32) (s51 : eb_S) => if nI v = 0 then (some (c, s51)) else (if c = 0 then (some ((-4), s51)) else (if nI v = 1 then (some (w50, s51)) else (some (k, s51))))) n 0 0 σ2 := by
    rw [← e1]
    unfold f_X10_pulled mfull
    simp only [w1, w2, w3, eb_cl_s, eb_b0, Bool.true_eq_false, if_false, eb_gI, eb_tg, hdu, hS, hN, wy, if_true, List.mem_singleton, show (0 : Int32) ≤ 0 by decide, g1]
  rw [run]
  have e2u := e2
  unfold ShD at e2u
  unfold vP
  by_cases c0 : (bP A fun s => it sh (i + s)).1 = 0
  · have cz : c = 0 := by rw [k1, c0, nI_0]
    obtain ⟨n', rfl⟩ : ∃ n', n = n' + 1 := ⟨n - 1, by omega⟩
    rw [f_X10_pulled_L244.eq_2]
    have hle : (0 : Int32) ≤ 0 := by decide
    rcases (show v = 0 ∨ v = 1 ∨ v = 2 by omega) with rfl | rfl | rfl
    · simp [eb_gI, e2u, cz, hle, c0, nI_0]
    · simp [eb_gI, e2u, cz, hle, c0, show nI 1 = 1 from rfl]
    · have n20 : ¬ nI 2 = 0 := by decide
      simp [eb_gI, e2u, cz, hle, c0, n20]
  · have cp : ¬ c ≤ 0 := by
      rw [k1, ← nI_0, p_leN (by omega) (by omega)]
      omega
    have cn : ¬ c = 0 := fun z => by rw [z] at cp; exact cp (by decide)
    have dg := d_digits_L w (n := n) (q := (bP A fun s => it sh (i + s)).2.1) (v4 := nI v) (v6 := c) (v8 := k) cp e2 e3.1 (k4 c0) (K := fun (w50 : Int32) (s51 : eb_S) => if nI v = 0 then (some (c, s51)) else (if c = 0 then (some ((-4), s51)) else (if nI v = 1 then (some (w50, s51)) else (some (k, s51))))) n 0 (by omega) (by omega)
    rw [nI_0] at dg
    have dg0 : dgs (bP A fun s => it sh (i + s)).2.1 0 = 0 := rfl
    rw [dg0] at dg
    rw [dg]
    rcases (show v = 0 ∨ v = 1 ∨ v = 2 by omega) with rfl | rfl | rfl
    · simp [nI_0, k1]
    · simp [cn, c0, show nI 1 = 1 from rfl]
    · have n20 : ¬ nI 2 = 0 := by decide
      have n21 : ¬ nI 2 = 1 := by decide
      simp [cn, c0, n20, n21, k2]
theorem x_isSheet (v : Int32) (σ : eb_S) : f_X9_isSheet v σ = some (wi v.toInt 0 3, σ) := by
  unfold f_X9_isSheet; rw [x_within]; rfl
theorem d_isSheet (v : Int32) (σ : eb_S) : f_X10_isSheet v σ = some (wi v.toInt 0 3, σ) := by
  unfold f_X10_isSheet; rw [d_in, p_i64]; rfl
theorem d_isLane (v : Int32) (σ : eb_S) : f_X10_isLane v σ = some (wi v.toInt 0 3, σ) := by
  unfold f_X10_isLane; rw [d_in, p_i64]; rfl
theorem x_refusal_bad {σ : eb_S} {a b : Int32} (h : wi a.toInt 0 3 = false ∨ wi b.toInt 0 3 = false) (i n : Int32) : f_X9_refusalOf 8 a b i n σ = some (-1, σ) := by
  unfold f_X9_refusalOf
  rw [x_isSheet, eb_cl_s]
  cases h1 : wi a.toInt 0 3 with
  | false => simp [eb_b0]
  | true =>
    rcases h with h | h
    · rw [h1] at h; cases h
    · have iw := x_within b 0 3 σ
      rw [show ((3 : Int32).toInt) = 3 from rfl, show ((0 : Int32).toInt) = 0 from rfl, h] at iw
      simp [eb_b0, iw, eb_cl_s]
set_option maxHeartbeats 4000000 in
theorem eq_pulled {A : Nat → Nat → Nat} (w : wf A) {ln sz : Nat → Nat} {it : Nat → Nat → Int64} (wh : wfH ln sz) {n ch : Nat} (hn : 100000 ≤ n) (hch : ch < 2 ^ 30) {σ : eb_S} (hb : ShB σ) (h9 : X9 A ch σ) (hS : XS5 A ch σ) (hH : XH ln sz it σ) (hd : ShD σ) (hD : MD A σ) (hDH : DH ln sz it σ) (a b i v : Int32) : ∃ r σ1 σ2, f_X9_pulled n 8 a b i v σ = some (r, σ1) ∧ Fq (fun k j => sv 69 k j ∨ sA k j) σ σ1 ∧ XS5 A ch σ1 ∧ f_X10_pulled n 91 a b i v σ1 = some (r, σ2) ∧ Fr sM σ1 σ2 := by
  have wS := w.2.2.1
  have hS9 := h9.2.1.2.2.2.2.2.2.1
  have iw := x_within v 0 2 σ
  have dw := d_in v.toInt64 0 2 σ
  rw [show ((2 : Int32).toInt) = 2 from rfl, show ((0 : Int32).toInt) = 0 from rfl] at iw
  rw [p_i64, show ((2 : Int64).toInt) = 2 from rfl, show ((0 : Int64).toInt) = 0 from rfl] at dw
  have hbu := hb
  have hs9 := h9.1
  have hdu := hd
  unfold ShB at hbu
  unfold ShM9 at hs9
  unfold ShD at hdu
  have hSD := hD.2.2.2.2.2.2.1
  by_cases hbad : wi a.toInt 0 3 = false ∨ wi b.toInt 0 3 = false ∨ wi v.toInt 0 2 = false
  · refine ⟨-1, σ, σ, ?_, Fq.rf, hS, ?_, Fr.rf⟩
    · unfold f_X9_pulled
      cases h3 : wi v.toInt 0 2 with
      | false => rw [h3] at iw; simp [iw, eb_cl_s, eb_b0]
      | true =>
        rw [h3] at iw
        have hb2 : wi a.toInt 0 3 = false ∨ wi b.toInt 0 3 = false := by
          rcases hbad with h | h | h
          · exact Or.inl h
          · exact Or.inr h
          · rw [h3] at h; cases h
        have rb := x_refusal_bad (σ := σ) hb2 i (nI (aS A))
        simp [iw, eb_cl_s, eb_b0, eb_gR, eb_gI, eb_tg, hbu, hs9, hS9, rb, m1n]
    · unfold f_X10_pulled
      rw [d_isSheet, eb_cl_s]
      cases h1 : wi a.toInt 0 3 with
      | false => simp [eb_b0]
      | true =>
        rw [d_isLane]
        cases h2 : wi b.toInt 0 3 with
        | false => simp [eb_b0, eb_cl_s]
        | true =>
          have h3 : wi v.toInt 0 2 = false := by
            rcases hbad with h | h | h
            · rw [h1] at h; cases h
            · rw [h2] at h; cases h
            · exact h
          rw [h3] at dw
          simp [eb_b0, eb_cl_s, dw]
  · have g1 : wi a.toInt 0 3 = true := by cases h : wi a.toInt 0 3 with | true => rfl | false => exact absurd (Or.inl h) hbad
    have g2 : wi b.toInt 0 3 = true := by cases h : wi b.toInt 0 3 with | true => rfl | false => exact absurd (Or.inr (Or.inl h)) hbad
    have g3 : wi v.toInt 0 2 = true := by cases h : wi v.toInt 0 2 with | true => rfl | false => exact absurd (Or.inr (Or.inr h)) hbad
    rw [g3] at iw dw
    have is1 := d_isSheet a σ
    have is2 := d_isLane b σ
    rw [g1] at is1
    rw [g2] at is2
    obtain ⟨sh, hsh, rfl⟩ := wi_nat2 (n := 3) (by decide) g1
    obtain ⟨l, hl4, rfl⟩ := wi_nat2 (n := 3) (by decide) g2
    obtain ⟨v', hv', rfl⟩ := wi_nat2 (n := 2) (by decide) g3
    by_cases hok : (0 : Int32) ≤ rfs ln sz sh l i (nI (aS A))
    · obtain ⟨σ1, i', hi1, hi2, x1, x2, x3⟩ := x_pulled w wh (n := n) (by omega) hch hb h9 hS hH hsh hl4 hv' hok
      subst hi1
      have hz := (wh sh hsh).2
      have hd1 : ShD σ1 := x2.shD (fun k j y1 y2 z => by unfold sv sA at z; omega) hd
      have hD1 : MD A σ1 := by
        refine FT.MD (fun i j hi hj => ?_)
        have := hD.ft i j hi hj
        rw [x2.i (fun z => ?_)]
        · exact this
        · have : 91 ≤ tC 91 i := by unfold tC; split <;> omega
          unfold sv sA at z; omega
      have hDH1 : DH ln sz it σ1 := hDH.fr x2 (fun k j y1 y2 z => by unfold sv sA at z; omega)
      obtain ⟨σ2, d1, d2⟩ := d_pulled w wh hn hd1 hD1 hDH1 hsh hl4 hv' (by omega) hok
      exact ⟨_, σ1, σ2, x1, x2, x3, d1, d2⟩
    · have rf := x_refusal hb hH wh hsh hl4 i (nI (aS A))
      have wy := d_why hd hDH wh hsh hl4 i (nI (aS A)) (by rw [p_ntoInt (by omega)]; omega)
      refine ⟨rfs ln sz sh l i (nI (aS A)), σ, σ, ?_, Fq.rf, hS, ?_, Fr.rf⟩
      · unfold f_X9_pulled
        simp [iw, eb_cl_s, eb_b0, eb_gR, eb_gI, eb_tg, hbu, hs9, hS9, rf, hok]
      · unfold f_X10_pulled
        simp [is1, is2, dw, eb_cl_s, eb_b0, eb_gI, eb_tg, hdu, hSD, wy, hok]
