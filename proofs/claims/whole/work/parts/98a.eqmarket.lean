/-! ===== pure: market, both sides ===== -/
set_option maxHeartbeats 8000000 in
theorem d_mkC_ok {A G : Nat → Nat → Nat} {tl n p k s : Nat} {tc : Nat → Nat} (hn : 100 ≤ n) (hg : gw G k s) (h0 : G 0 0 = k) (h6 : G 6 0 = s) {σ : eb_S} (hP : PD tl tc p false σ) (hR : RD G k s σ) (hD : MD A σ) : ∃ σ', mkC n σ = some (if tl ≤ skp tl tc p then nI k else (-20) - nI (skp tl tc p), σ') ∧ Fr sMm σ σ' ∧ eb_I σ' 91 20 = 0 ∧ (tl ≤ skp tl tc p → MD (mkA A G) σ') ∧ (¬ tl ≤ skp tl tc p → MD A σ') := by
  obtain ⟨σ1, g1, g2, g3⟩ := d_here hn hP
  have hd := hP.1
  have hd1 := g3.1
  have w0 : eb_I σ 91 22 = 0 := hP.2.2.2.1
  have hb := hr_b hP.2.2.2.2.1 (skp tl tc p)
  have hD1 : MD A σ1 := g2.md (fun k j h => by unfold sAd at h; omega) hD
  have hR1 := hR.at g2
  have z : (nI (hr tl tc (skp tl tc p)) = 0) = (hr tl tc (skp tl tc p) = 0) := p_eqN (b := 0) (by omega) (by decide)
  have zz : hr tl tc (skp tl tc p) = 0 ↔ tl ≤ skp tl tc p := by
    unfold hr
    by_cases e : skp tl tc p < tl
    · rw [if_pos e]
      have := hP.2.2.2.2.1.2 _ e
      omega
    · rw [if_neg e]; omega
  have pre : mkC n σ = (if hr tl tc (skp tl tc p) = 0 then (eb_pZ σ1 [9] 91 22 0 fun s45 => eb_pI s45 [9] 91 20 0 fun s46 => eb_gI s46 [9] 91 22 fun x47 => if x47 = 0 then mkF n s46 else (eb_gI s46 [9] 91 21 fun x73 => some (((-20) : Int32) - x73, s46))) else (eb_pZ σ1 [9] 91 22 1 fun s45 => eb_pI s45 [9] 91 20 0 fun s46 => eb_gI s46 [9] 91 22 fun x47 => if x47 = 0 then mkF n s46 else (eb_gI s46 [9] 91 21 fun x73 => some (((-20) : Int32) - x73, s46)))) := by
    unfold mkC
    rw [dgI hd, w0]
    simp only [eb_jn_e]
    rw [if_pos trivial, dtg hd, g1, eb_cl_s]
    simp only [z]
  have F : ∀ b : Bool, Fr (fun k j => k = 91 ∧ 20 ≤ j ∧ j ≤ 22) σ1 (eb_sI (eb_sI σ1 91 22 (eb_b b)) 91 20 0) := fun b => (Fr.sI ⟨rfl, by omega⟩).tr (Fr.sI ⟨rfl, by omega⟩)
  have h1 : ∀ b : Bool, ShD (eb_sI σ1 91 22 (eb_b b)) := fun b => (Fr.sI (S := sAd) ⟨rfl, Or.inr rfl⟩).shD hd1
  have h2 : ∀ b : Bool, ShD (eb_sI (eb_sI σ1 91 22 (eb_b b)) 91 20 0) := fun b => (F b).shD hd1
  have w2 : ∀ b : Bool, eb_I (eb_sI (eb_sI σ1 91 22 (eb_b b)) 91 20 0) 91 22 = eb_b b := fun b => by simp [eb_I_sI]
  have i20 : ∀ b : Bool, eb_I (eb_sI (eb_sI σ1 91 22 (eb_b b)) 91 20 0) 91 20 = 0 := fun b => by simp [eb_I_sI]
  have p2 : ∀ b : Bool, eb_I (eb_sI (eb_sI σ1 91 22 (eb_b b)) 91 20 0) 91 21 = nI (skp tl tc p) := fun b => by simp [eb_I_sI, g3.2.2.1]
  have hDb : ∀ b : Bool, MD A (eb_sI (eb_sI σ1 91 22 (eb_b b)) 91 20 0) := fun b => (F b).md (fun k j h => by omega) hD1
  have Fm : ∀ b : Bool, Fr sMm σ (eb_sI (eb_sI σ1 91 22 (eb_b b)) 91 20 0) := fun b => (g2.mono (fun k j h => by unfold sAd at h; unfold sMm; omega)).tr ((F b).mono (fun k j h => by unfold sMm; omega))
  by_cases h : tl ≤ skp tl tc p
  · have hR2 : RD G k s (eb_sI (eb_sI σ1 91 22 (eb_b false)) 91 20 0) := by
      have e : ∀ a b, ¬ (a = 91 ∧ 20 ≤ b ∧ b ≤ 22) → eb_I (eb_sI (eb_sI σ1 91 22 (eb_b false)) 91 20 0) a b = eb_I σ1 a b := (F false).2.2.2.2.2
      exact ⟨by rw [e _ _ (by omega)]; exact hR1.1, by rw [e _ _ (by omega)]; exact hR1.2.1, fun u hu => by rw [e _ _ (by omega), e _ _ (by omega), e _ _ (by omega)]; exact hR1.2.2.1 u hu, fun u hu => by rw [e _ _ (by omega), e _ _ (by omega)]; exact hR1.2.2.2 u hu⟩
    obtain ⟨σ', f1, f2, f3, f4⟩ := d_mkF (A := A) hn hg.1 hg.2.1 h0 h6 (fun t ht => ⟨(hg.2.2.1 t ht).2.2.2.2.1, (hg.2.2.1 t ht).2.2.2.2.2⟩) (h2 false) (hDb false) hR2 (i20 false)
    refine ⟨σ', ?_, (Fm false).tr f2, f3, fun _ => f4, fun y => absurd h y⟩
    rw [pre, if_pos (zz.mpr h), if_pos h, show (0 : Int32) = eb_b false from rfl, dpZ hd1, show (eb_b false : Int32) = 0 from rfl] 
    have q := h1 false
    have q2 := h2 false
    have q3 := w2 false
    rw [show (eb_b false : Int32) = 0 from rfl] at q q2 q3 f1
    rw [dpI q, dgI q2, q3, if_pos rfl]
    exact f1
  · refine ⟨_, ?_, Fm true, i20 true, fun y => absurd y h, fun _ => hDb true⟩
    rw [pre, if_neg (fun y => h (zz.mp y)), if_neg h, show (1 : Int32) = eb_b true from rfl, dpZ hd1, dpI (h1 true), dgI (h2 true), w2 true, if_neg (by decide), dgI (h2 true), p2 true]
set_option maxHeartbeats 8000000 in
theorem d_market {A : Nat → Nat → Nat} {tl n : Nat} {tc : Nat → Nat} (hn : 100 ≤ n) (w : wfT tl tc) (h0 : (mks tl tc A0).2.1 0 0 = (mks tl tc A0).2.2.1) (h6 : (mks tl tc A0).2.1 6 0 = (mks tl tc A0).2.2.2.1) {σ : eb_S} (hd : ShD σ) (hD : MD A σ) (hT : DT tl tc σ) : ∃ σ', f_X10_market n 91 σ = some (if (mks tl tc A0).1 = true then nI (mks tl tc A0).2.2.1 else (-20) - nI (mks tl tc A0).2.2.2.2, σ') ∧ Fr sMm σ σ' ∧ eb_I σ' 91 20 = 0 ∧ ((mks tl tc A0).1 = true → MD (mkA A (mks tl tc A0).2.1) σ') ∧ ((mks tl tc A0).1 = false → MD A σ') := by
  have gw0 := mks_gw (tl := tl) (tc := tc)
  have F0 : Fr (fun k j => k = 91 ∧ 21 ≤ j ∧ j ≤ 24) σ (eb_sI (eb_sI (eb_sI (eb_sI σ 91 21 0) 91 22 0) 91 23 0) 91 24 0) := (((Fr.sI ⟨rfl, by omega⟩).tr (Fr.sI ⟨rfl, by omega⟩)).tr (Fr.sI ⟨rfl, by omega⟩)).tr (Fr.sI ⟨rfl, by omega⟩)
  have q1 : ShD (eb_sI σ 91 21 0) := (Fr.sI (S := sMr) (Or.inl (by omega))).shD hd
  have q2 : ShD (eb_sI (eb_sI σ 91 21 0) 91 22 0) := (Fr.sI (S := sMr) (Or.inl (by omega))).shD q1
  have q3 : ShD (eb_sI (eb_sI (eb_sI σ 91 21 0) 91 22 0) 91 23 0) := (Fr.sI (S := sMr) (Or.inl (by omega))).shD q2
  have hP0 : PD tl tc 0 false (eb_sI (eb_sI (eb_sI (eb_sI σ 91 21 0) 91 22 0) 91 23 0) 91 24 0) := ⟨F0.shD hd, hT.at F0 (by omega) (by omega), by simp [eb_I_sI, nI_0], by simp [eb_I_sI]; rfl, w, by omega⟩
  have hR0 : RD A0 0 0 (eb_sI (eb_sI (eb_sI (eb_sI σ 91 21 0) 91 22 0) 91 23 0) 91 24 0) := ⟨by simp [eb_I_sI, nI_0], by simp [eb_I_sI, nI_0], fun t ht => by omega, fun t ht => by omega⟩
  have hD0 : MD A (eb_sI (eb_sI (eb_sI (eb_sI σ 91 21 0) 91 22 0) 91 23 0) 91 24 0) := F0.md (fun k j h => by omega) hD
  obtain ⟨σ1, a1, a2, a3, a4⟩ := d_ths (tc := tc) hn (K := fun (s14 : eb_S) => eb_cl (eb_tg s14 91 9 (f_X10_has n 91 59 s14)) fun b16 s15 => f_X10_market_L64 n 91 (mkC n) n (eb_b b16) s15) 9 n 0 0 A0 _ (by omega) (by omega) hP0 hR0
  have hD1 : MD A σ1 := a2.md nD_sMr hD0
  have Fa : Fr sMm σ σ1 := (F0.mono (fun k j h => by unfold sMm; omega)).tr (a2.mono sMr_m)
  have run : f_X10_market n 91 σ = eb_cl (eb_tg σ1 91 9 (f_X10_has n 91 59 σ1)) fun b16 s15 => f_X10_market_L64 n 91 (mkC n) n (eb_b b16) s15 := by
    rw [mk_eq, dpI hd, show eb_pZ (eb_sI σ 91 21 0) [9] 91 22 0 = eb_pZ (eb_sI σ 91 21 0) [9] 91 22 (eb_b false) from rfl, dpZ q1, show (eb_b false : Int32) = 0 from rfl, dpI q2, dpI q3]
    exact a1
  rw [run, dtg a3.1]
  cases e1 : (ths tl tc 10 A0 0 0).1 with
  | false =>
    have em : mks tl tc A0 = (false, (ths tl tc 10 A0 0 0).2.1, (ths tl tc 10 A0 0 0).2.2.1, 0, (ths tl tc 10 A0 0 0).2.2.2) := by unfold mks; rw [if_neg (by rw [e1]; decide)]
    have a3' : PD tl tc (ths tl tc 10 A0 0 0).2.2.2 true σ1 := by have := a3; rw [e1] at this; exact this
    obtain ⟨σ2, b1, b2, b3⟩ := d_has_w (n := n) (c := 59) a3'
    have hD2 : MD A σ2 := b2.md (fun k j h => by unfold sAd at h; omega) hD1
    obtain ⟨σ3, c1, c2, c3, c4⟩ := d_mkC_bad (n := n) b3 hD2
    rw [em]
    refine ⟨σ3, ?_, (Fa.tr (b2.mono (fun k j h => by unfold sAd at h; unfold sMm; omega))).tr c2, c3, fun z => (by cases z), fun _ => c4⟩
    rw [b1, eb_cl_s, show (eb_b false : Int32) = 0 from rfl, d_L64_0 (by omega), c1]
    rfl
  | true =>
    have em : mks tl tc A0 = (if hr tl tc (skp tl tc (ths tl tc 10 A0 0 0).2.2.2) = 59 then mkE tl tc (ths tl tc 10 A0 0 0).2.2.1 (sth tl tc 5 (ths tl tc 10 A0 0 0).2.1 0 (skp tl tc (ths tl tc 10 A0 0 0).2.2.2 + 1)) else mkE tl tc (ths tl tc 10 A0 0 0).2.2.1 (true, (ths tl tc 10 A0 0 0).2.1, 0, skp tl tc (ths tl tc 10 A0 0 0).2.2.2)) := by unfold mks; rw [if_pos e1]
    have a3' : PD tl tc (ths tl tc 10 A0 0 0).2.2.2 false σ1 := by have := a3; rw [e1] at this; exact this
    have hR1 := a4 e1
    obtain ⟨σ2, b1, b2, b3⟩ := d_has (c := 59) hn (by decide) (by decide) a3'
    have b1 : f_X10_has n 91 59 σ1 = some (decide (hr tl tc (skp tl tc (ths tl tc 10 A0 0 0).2.2.2) = 59), σ2) := b1
    have hD2 : MD A σ2 := b2.md (fun k j h => by unfold sAd at h; omega) hD1
    have hR2 := hR1.at b2
    have Fb : Fr sMm σ σ2 := Fa.tr (b2.mono (fun k j h => by unfold sAd at h; unfold sMm; omega))
    unfold psp at b3
    rw [b1, eb_cl_s]
    by_cases h : hr tl tc (skp tl tc (ths tl tc 10 A0 0 0).2.2.2) = 59
    · rw [if_pos h] at b3 em
      rw [decide_eq_true h, show (eb_b true : Int32) = 1 from rfl]
      obtain ⟨σ3, c1, c2, c3, c4⟩ := d_sth (tc := tc) hn (K := mkC n) 4 n 0 _ _ σ2 (by omega) (by omega) b3 hR2
      have hD3 : MD A σ3 := c2.md nD_sMr hD2
      rw [c1]
      rw [em] at h0 h6 gw0 ⊢
      generalize sth tl tc 5 (ths tl tc 10 A0 0 0).2.1 0 (skp tl tc (ths tl tc 10 A0 0 0).2.2.2 + 1) = R at c3 c4 h0 h6 gw0 ⊢
      obtain ⟨r1, r2, r3, r4⟩ := R
      cases r1 with
      | false =>
        obtain ⟨σ4, f1, f2, f3, f4⟩ := d_mkC_bad (n := n) c3 hD3
        exact ⟨σ4, f1, (Fb.tr (c2.mono sMr_m)).tr f2, f3, fun z => (by cases z), fun _ => f4⟩
      | true =>
        have em2 : mkE tl tc (ths tl tc 10 A0 0 0).2.2.1 (true, r2, r3, r4) = (decide (tl ≤ skp tl tc r4), r2, (ths tl tc 10 A0 0 0).2.2.1, r3, skp tl tc r4) := rfl
        rw [em2] at h0 h6 gw0 ⊢
        obtain ⟨σ4, f1, f2, f3, f4, f5⟩ := d_mkC_ok (A := A) hn gw0.1 h0 h6 c3 (c4 rfl) hD3
        refine ⟨σ4, ?_, (Fb.tr (c2.mono sMr_m)).tr f2, f3, fun z => f4 (of_decide_eq_true z), fun z => f5 (of_decide_eq_false z)⟩
        rw [f1]
        simp only [decide_eq_true_eq]
    · rw [if_neg h] at b3 em
      rw [decide_eq_false h, show (eb_b false : Int32) = 0 from rfl, d_L64_0 (by omega)]
      have em2 : mkE tl tc (ths tl tc 10 A0 0 0).2.2.1 (true, (ths tl tc 10 A0 0 0).2.1, 0, skp tl tc (ths tl tc 10 A0 0 0).2.2.2) = (decide (tl ≤ skp tl tc (skp tl tc (ths tl tc 10 A0 0 0).2.2.2)), (ths tl tc 10 A0 0 0).2.1, (ths tl tc 10 A0 0 0).2.2.1, 0, skp tl tc (skp tl tc (ths tl tc 10 A0 0 0).2.2.2)) := rfl
      rw [em, em2] at h0 h6 gw0 ⊢
      obtain ⟨σ4, f1, f2, f3, f4, f5⟩ := d_mkC_ok (A := A) hn gw0.1 h0 h6 b3 hR2 hD2
      refine ⟨σ4, ?_, Fb.tr f2, f3, fun z => f4 (of_decide_eq_true z), fun z => f5 (of_decide_eq_false z)⟩
      rw [f1]
      simp only [decide_eq_true_eq]
-- the component
def sMx (k j : Nat) : Prop := (9 ≤ k ∧ k ≤ 24) ∨ (41 ≤ k ∧ k ≤ 56) ∨ (k = 57 ∧ (j = 0 ∨ j = 2))
theorem tkG_g {A : Nat → Nat → Nat} {k s : Nat} (hk : k ≤ 10) (hs : s ≤ 5) {σ : eb_S} (h : FT 41 tS tE (gG k s) A σ) : ∀ i j, i < 9 → j < gG k s i → eb_I (tkG 9 41 σ) (tC 9 i) (tS i j) = tE i (A i j) := by
  intro i j hi hj
  rw [← h i j (by omega) hj]
  rcases (show i = 0 ∨ i = 1 ∨ i = 2 ∨ i = 3 ∨ i = 4 ∨ i = 5 ∨ i = 6 ∨ i = 7 ∨ i = 8 by omega) with rfl | rfl | rfl | rfl | rfl | rfl | rfl | rfl | rfl
  · simp [tC, tS, sca, tkG, cpS_I, csS_I, inS_I]
  · have hj : j < 10 := Nat.lt_of_lt_of_le (show j < k from hj) hk
    simp [tC, tS, sca, tkG, cpS_I, csS_I, inS_I, hj]
  · have hj : j < 10 := Nat.lt_of_lt_of_le (show j < k from hj) hk
    simp [tC, tS, sca, tkG, cpS_I, csS_I, inS_I, hj]
  · have hj : j < 10 := Nat.lt_of_lt_of_le (show j < k from hj) hk
    simp [tC, tS, sca, tkG, cpS_I, csS_I, inS_I, hj]
  · have hj : j < 10 := Nat.lt_of_lt_of_le (show j < k from hj) hk
    simp [tC, tS, sca, tkG, cpS_I, csS_I, inS_I, hj]
  · have hj : j < 10 := Nat.lt_of_lt_of_le (show j < k from hj) hk
    simp [tC, tS, sca, tkG, cpS_I, csS_I, inS_I, hj]
  · simp [tC, tS, sca, tkG, cpS_I, csS_I, inS_I]
  · have hj : j < 5 := Nat.lt_of_lt_of_le (show j < s from hj) hs
    simp [tC, tS, sca, tkG, cpS_I, csS_I, inS_I, hj]
  · have hj : j < 5 := Nat.lt_of_lt_of_le (show j < s from hj) hs
    simp [tC, tS, sca, tkG, cpS_I, csS_I, inS_I, hj]
theorem tkG_o {σ : eb_S} : ∀ k j, 17 ≤ k → k ≤ 19 → eb_I (tkG 9 41 σ) k j = eb_I σ k j := by
  intro k j h1 h2
  rcases (show k = 17 ∨ k = 18 ∨ k = 19 by omega) with rfl | rfl | rfl <;> simp [tkG, cpS_I, csS_I, inS_I]
