/-! ===== pure: tray, both sides ===== -/
set_option maxHeartbeats 4000000 in
theorem x_wwo_L {W : Nat → Int32} {n P : Nat} (hP : P < 256) {σ : eb_S} (hG : ShG σ) (hw : ∀ p, p < 8 → bit P p → eb_I σ 80 (P - 2 ^ p) = W (P - 2 ^ p)) : ∀ (m p : Nat), p ≤ 8 → 8 < p + m → f_X2_waysWithoutOne_L4 n 78 (nI P) m (smW W P p) (nI p) σ = some (smW W P 8, σ) := by
  intro m
  induction m with
  | zero => intro p h1 h2; omega
  | succ m ih =>
    intro p h1 h2
    have hGu := hG
    unfold ShG at hGu
    rw [f_X2_waysWithoutOne_L4.eq_2]
    by_cases h : 8 ≤ p
    · have e : p = 8 := by omega
      subst e
      rw [if_pos (show (8 : Int32) ≤ nI 8 by decide)]
    · rw [if_neg (show ¬ (8 : Int32) ≤ nI p by rw [show (8 : Int32) = nI 8 from rfl, p_leN (by decide) (by omega)]; exact h)]
      have ih' := ih (p + 1) (by omega) (by omega)
      have es : smW W P (p + 1) = smW W P p + (if bit P p then W (P - 2 ^ p) else 0) := rfl
      rw [es] at ih'
      simp only [eb_jn_e, bit_i (show P < 2 ^ 31 by omega) (show p < 31 by omega), nI_1]
      by_cases hb : bit P p
      · rw [if_pos hb] at ih' ⊢
        have ci := clr_i P hP p (by omega) hb
        simp only [eb_gR, eb_ai, hGu, List.mem_singleton, if_true, true_and, ne_eq, show ¬ (80 : Nat) = 0 by decide, not_false_eq_true, ci, p_in (Nat.lt_of_le_of_lt (Nat.sub_le P (2 ^ p)) (show P < 256 by omega)) (by decide : 256 < 2 ^ 31), p_cl (Nat.lt_of_le_of_lt (Nat.sub_le P (2 ^ p)) (show P < 2 ^ 31 by omega)), hw p (by omega) hb]
        exact ih'
      · rw [if_neg hb] at ih' ⊢
        exact ih'
theorem x_wwo {W : Nat → Int32} {n P : Nat} (hn : 100 ≤ n) (hP : P < 256) {σ : eb_S} (hG : ShG σ) (hw : ∀ p, p < 8 → bit P p → eb_I σ 80 (P - 2 ^ p) = W (P - 2 ^ p)) : f_X2_waysWithoutOne n 78 (nI P) σ = some (smW W P 8, σ) := by
  have := x_wwo_L (n := n) hP hG hw n 0 (by omega) (by omega)
  rw [nI_0] at this
  exact this
set_option maxHeartbeats 4000000 in
theorem x_ord_L {wt : Nat → Int32} {n F : Nat} (hn : 1000 ≤ n) (hF : F < 256) {lim : Int32} {K : eb_S → Option (Int32 × eb_S)} : ∀ (m P : Nat) (σ : eb_S), ShG σ → eb_I σ 78 0 = nI F → (∀ p, p < 8 → bit F p → eb_I σ 79 p = wt p) → (∀ Q, Q < P → sbt Q F → eb_I σ 80 Q = WW wt lim Q) → 1 ≤ P → P ≤ F + 1 → F + 1 < P + m → ∃ σ', f_X2_orders_L9 n 78 lim K m (nI P) σ = K σ' ∧ Fr (fun k _ => k = 80) σ σ' ∧ ∀ Q, Q < F + 1 → sbt Q F → eb_I σ' 80 Q = WW wt lim Q := by
  intro m
  induction m with
  | zero => intro P σ _ _ _ _ h0 h1 h2; omega
  | succ m ih =>
    intro P σ hG hfu hw ht h0 h1 h2
    have hGu := hG
    unfold ShG at hGu
    rw [f_X2_orders_L9.eq_2]
    simp only [eb_gI, hGu, List.mem_singleton, if_true, hfu, p_ltN (show F < 2 ^ 31 by omega) (show P < 2 ^ 31 by omega), eb_jn_e]
    by_cases h : F < P
    · have e : P = F + 1 := by omega
      subst e
      rw [if_pos h]
      exact ⟨σ, rfl, Fr.rf, ht⟩
    · rw [if_neg h]
      by_cases hs : sbt P F
      · have hs' : (nI P &&& (nI F ^^^ (-1))) = 0 := hs
        rw [if_pos hs']
        have tp := x_tips (n := n) (P := P) (by omega) (by omega) (lim := lim) hG (fun p hp hb => hw p hp (sbt_bit hp hs hb))
        have wo := x_wwo (W := WW wt lim) (n := n) (P := P) (by omega) (by omega) hG (fun p hp hb => ht _ (by have := clr_lt hb; omega) (sbt_clr (by omega) hp hb hs))
        have we := WW_eq (wt := wt) (lim := lim) (P := P) (by omega)
        have F1 : Fr (fun k _ => k = 80) σ (eb_sI σ 80 P (WW wt lim P)) := Fr.sI rfl
        obtain ⟨σ', g1, g2, g3⟩ := ih (P + 1) (eb_sI σ 80 P (WW wt lim P)) (F1.shG hG) (by rw [eb_I_sI, if_neg (by decide)]; exact hfu) (fun p hp hb => by rw [eb_I_sI, if_neg (by decide)]; exact hw p hp hb) (fun Q hQ hsq => by
          rw [eb_I_sI, if_pos rfl]
          by_cases e : Q = P
          · rw [if_pos e, e]
          · rw [if_neg e]; exact ht Q (by omega) hsq) (by omega) (by omega) (by omega)
        refine ⟨σ', ?_, F1.tr g2, g3⟩
        simp only [eb_gR, eb_wi, eb_tg, hGu, List.mem_singleton, true_and, ne_eq, show ¬ (80 : Nat) = 0 by decide, not_false_eq_true, if_true, tp, wo, eb_cl_s, eb_b0, p_in (show P < 256 by omega) (by decide : 256 < 2 ^ 31), p_cl (show P < 2 ^ 31 by omega), nI_1]
        cases htp : tipb wt lim P with
        | true =>
          rw [htp, if_pos rfl] at we
          rw [we] at g1
          simp only [Bool.true_eq_false, if_false]
          exact g1
        | false =>
          rw [htp, if_neg (by decide)] at we
          rw [we] at g1
          simp only [if_true]
          exact g1
      · have hs' : ¬ (nI P &&& (nI F ^^^ (-1))) = 0 := hs
        rw [if_neg hs', nI_1]
        exact ih (P + 1) σ hG hfu hw (fun Q hQ hsq => by
          by_cases e : Q = P
          · subst e; exact absurd hsq hs
          · exact ht Q (by omega) hsq) (by omega) (by omega) (by omega)
theorem WW_0 {wt : Nat → Int32} {lim : Int32} : WW wt lim 0 = 1 := rfl
theorem x_orders {wt : Nat → Int32} {n F : Nat} (hn : 1000 ≤ n) (hF : F < 256) {lim : Int32} {σ : eb_S} (hG : ShG σ) (hfu : eb_I σ 78 0 = nI F) (hw : ∀ p, p < 8 → bit F p → eb_I σ 79 p = wt p) : ∃ σ', f_X2_orders n 78 lim σ = some (WW wt lim F, σ') ∧ Fr sG σ σ' := by
  have hGu := hG
  unfold ShG at hGu
  have F1 : Fr sG σ (eb_sI σ 80 0 1) := Fr.sI (Or.inr (Or.inr rfl))
  obtain ⟨σ', g1, g2, g3⟩ := x_ord_L (wt := wt) (n := n) (F := F) hn hF (lim := lim) (K := fun (s17 : eb_S) => eb_gR s17 [2] 78 3 fun r18 => eb_gI s17 [2] 78 0 fun x19 => eb_ai s17 r18 x19 fun x20 => some (x20, s17)) n 1 (eb_sI σ 80 0 1) (F1.shG hG) (by rw [eb_I_sI, if_neg (by decide)]; exact hfu) (fun p hp hb => by rw [eb_I_sI, if_neg (by decide)]; exact hw p hp hb) (fun Q hQ _ => by
    have : Q = 0 := by omega
    subst this
    rw [eb_I_sI, if_pos rfl, if_pos rfl, WW_0]) (by omega) (by omega) (by omega)
  refine ⟨σ', ?_, F1.tr (g2.mono (fun k j h => Or.inr (Or.inr h)))⟩
  have g1 : f_X2_orders_L9 n 78 lim (fun (s17 : eb_S) => eb_gR s17 [2] 78 3 fun r18 => eb_gI s17 [2] 78 0 fun x19 => eb_ai s17 r18 x19 fun x20 => some (x20, s17)) n 1 (eb_sI σ 80 0 1) = _ := g1
  have hG1 := g2.shG (F1.shG hG)
  unfold ShG at hG1
  have f1 : eb_I σ' 78 0 = nI F := by rw [g2.2.2.2.2.2 _ _ (by decide), eb_I_sI, if_neg (by decide)]; exact hfu
  unfold f_X2_orders
  simp only [eb_wi, eb_gR, hGu, List.mem_singleton, if_true, true_and, ne_eq, show ¬ (80 : Nat) = 0 by decide, not_false_eq_true, show eb_in 0 256 = true by decide, c0] at g1 ⊢
  rw [g1]
  simp only [eb_gI, eb_ai, hG1, List.mem_singleton, if_true, true_and, ne_eq, show ¬ (80 : Nat) = 0 by decide, not_false_eq_true, f1, p_in hF (by decide : 256 < 2 ^ 31), p_cl (show F < 2 ^ 31 by omega), g3 F (by omega) (sbt_rf F hF)]
def sfS (wt : Nat → Int32) (lim : Int32) (F : Nat) : Nat → Int32
  | 0 => 0
  | p + 1 => if bit F p ∧ tipb wt lim (F - 2 ^ p) = false then sfS wt lim F p ||| ((1 : Int32) <<< (nI p &&& 31)) else sfS wt lim F p
set_option maxHeartbeats 4000000 in
theorem x_safe_L {wt : Nat → Int32} {n F : Nat} (hn : 100 ≤ n) (hF : F < 256) {lim : Int32} {σ : eb_S} (hG : ShG σ) (hfu : eb_I σ 78 0 = nI F) (hw : ∀ p, p < 8 → bit F p → eb_I σ 79 p = wt p) : ∀ (m p : Nat), p ≤ 8 → 8 < p + m → f_X2_safe_L4 n 78 lim m (sfS wt lim F p) (nI p) σ = some (sfS wt lim F 8, σ) := by
  intro m
  induction m with
  | zero => intro p h1 h2; omega
  | succ m ih =>
    intro p h1 h2
    have hGu := hG
    unfold ShG at hGu
    rw [f_X2_safe_L4.eq_2]
    by_cases h : 8 ≤ p
    · have e : p = 8 := by omega
      subst e
      rw [if_pos (show (8 : Int32) ≤ nI 8 by decide)]
    · rw [if_neg (show ¬ (8 : Int32) ≤ nI p by rw [show (8 : Int32) = nI 8 from rfl, p_leN (by decide) (by omega)]; exact h)]
      have ih' := ih (p + 1) (by omega) (by omega)
      have es : sfS wt lim F (p + 1) = if bit F p ∧ tipb wt lim (F - 2 ^ p) = false then sfS wt lim F p ||| ((1 : Int32) <<< (nI p &&& 31)) else sfS wt lim F p := rfl
      rw [es] at ih'
      simp only [eb_gI, hGu, List.mem_singleton, if_true, hfu, eb_jn_e, bit_i (show F < 2 ^ 31 by omega) (show p < 31 by omega), nI_1]
      by_cases hb : bit F p
      · have ci := clr_i F hF p (by omega) hb
        have tp := x_tips (n := n) (P := F - 2 ^ p) hn (Nat.lt_of_le_of_lt (Nat.sub_le F (2 ^ p)) (show F < 2 ^ 31 by omega)) (lim := lim) hG (fun q hq hb' => hw q hq (sbt_bit hq (sbt_clr hF (by omega) hb (sbt_rf F hF)) hb'))
        rw [if_pos hb]
        simp only [ci, eb_tg, hGu, if_true, tp, eb_cl_s, eb_b0]
        cases ht : tipb wt lim (F - 2 ^ p) with
        | true =>
          rw [if_neg (fun z => by rw [ht] at z; exact absurd z.2 (by decide))] at ih'
          simp only [Bool.true_eq_false, if_false]
          exact ih'
        | false =>
          rw [if_pos ⟨hb, ht⟩] at ih'
          simp only [if_true]
          exact ih'
      · rw [if_neg hb]
        rw [if_neg (fun z => hb z.1)] at ih'
        exact ih'
-- the model
def smV (n0 : Int32) (W : Nat → Int32) (P : Nat) : Nat → Int32
  | 0 => n0
  | p + 1 => smV n0 W P p + if bit P p then W (P - 2 ^ p) else 0
theorem smV_0 {W : Nat → Int32} {P : Nat} : ∀ p, smV 0 W P p = smW W P p
  | 0 => rfl
  | p + 1 => by
    show smV 0 W P p + _ = smW W P p + _
    rw [smV_0 p]
theorem bit0 (p : Nat) : ¬ bit 0 p := fun h => by rw [bit, Nat.zero_div] at h; exact absurd h (by decide)
theorem smV_z {n0 : Int32} {W : Nat → Int32} : ∀ p, smV n0 W 0 p = n0
  | 0 => rfl
  | p + 1 => by
    show smV n0 W 0 p + (if bit 0 p then _ else (0 : Int32)) = n0
    rw [smV_z p, if_neg (bit0 p), Int32.add_zero]
theorem txy_z {wt c : Nat → Int32} : ∀ p, txy wt c 0 p = 0
  | 0 => rfl
  | p + 1 => by rw [txy_f (bit0 p), txy_z p]
theorem tipb_0 {wt : Nat → Int32} {lim : Int32} (h : 0 ≤ lim.toInt) : tipb wt lim 0 = false := by
  unfold tipb
  rw [txy_z, txy_z, if_neg (show ¬ lim < abI 0 by rw [Int32.lt_iff_toInt_lt]; show ¬ lim.toInt < 0; omega), if_pos (show abI 0 ≤ lim by rw [Int32.le_iff_toInt_le]; exact h)]
set_option maxHeartbeats 4000000 in
theorem d_ord_L1 {W : Nat → Int32} {n P F : Nat} (hP : P < 256) {lim n0 : Int32} {σ : eb_S} (hd : ShD σ) (hw : sbt P F → ∀ p, p < 8 → bit P p → eb_I σ 120 (P - 2 ^ p) = W (P - 2 ^ p)) {K : Int32 → eb_S → Option (Int32 × eb_S)} : ∀ (m p : Nat) (v : Int32), (sbt P F → v = smV n0 W P p) → p ≤ 8 → 8 < p + m → ∃ v', f_X10_ordersOf_L21 n 91 (nI F) lim (nI P) K m v (nI p) σ = K v' σ ∧ (sbt P F → v' = smV n0 W P 8) := by
  intro m
  induction m with
  | zero => intro p v _ h1 h2; omega
  | succ m ih =>
    intro p v hv h1 h2
    have hdu := hd
    unfold ShD at hdu
    rw [f_X10_ordersOf_L21.eq_2]
    by_cases h : 8 ≤ p
    · have e : p = 8 := by omega
      subst e
      rw [if_pos (show (8 : Int32) ≤ nI 8 by decide)]
      exact ⟨v, rfl, hv⟩
    · rw [if_neg (show ¬ (8 : Int32) ≤ nI p by rw [show (8 : Int32) = nI 8 from rfl, p_leN (by decide) (by omega)]; exact h)]
      have es : smV n0 W P (p + 1) = smV n0 W P p + if bit P p then W (P - 2 ^ p) else 0 := rfl
      simp only [eb_jn_e, bit_i (show P < 2 ^ 31 by omega) (show p < 31 by omega), nI_1]
      by_cases hb : bit P p
      · rw [if_pos hb]
        by_cases hs : sbt P F
        · have hs' : (nI P &&& (nI F ^^^ (-1))) = 0 := hs
          have ci := clr_i P hP p (by omega) hb
          rw [if_pos hs']
          simp only [eb_gR, eb_ai, hdu, List.mem_singleton, if_true, true_and, ne_eq, show ¬ (120 : Nat) = 0 by decide, not_false_eq_true, ci, p_in (Nat.lt_of_le_of_lt (Nat.sub_le P (2 ^ p)) (show P < 256 by omega)) (by decide : 256 < 2 ^ 31), p_cl (Nat.lt_of_le_of_lt (Nat.sub_le P (2 ^ p)) (show P < 2 ^ 31 by omega)), hw hs p (by omega) hb]
          refine ih (p + 1) _ ?_ (by omega) (by omega)
          intro z
          rw [es, if_pos hb, hv z]
        · have hs' : ¬ (nI P &&& (nI F ^^^ (-1))) = 0 := hs
          rw [if_neg hs']
          exact ih (p + 1) _ (fun z => absurd z hs) (by omega) (by omega)
      · rw [if_neg hb]
        refine ih (p + 1) _ ?_ (by omega) (by omega)
        intro z
        rw [es, if_neg hb, hv z]
set_option maxHeartbeats 4000000 in
theorem d_ord_L2 {wt : Nat → Int32} {n F : Nat} (hn : 1000 ≤ n) (hF : F < 256) {lim : Int32} (hl : 0 ≤ lim.toInt) {K : eb_S → Option (Int32 × eb_S)} : ∀ (m P : Nat) (σ : eb_S), ShD σ → (∀ p, p < 8 → eb_I σ 119 p = wt p) → (∀ Q, Q < P → sbt Q F → eb_I σ 120 Q = WW wt lim Q) → P ≤ F + 1 → F + 1 < P + m → ∃ σ', f_X10_ordersOf_L2 n 91 (nI F) lim K m (nI P) σ = K σ' ∧ Fr sGd σ σ' ∧ ∀ Q, Q < F + 1 → sbt Q F → eb_I σ' 120 Q = WW wt lim Q := by
  intro m
  induction m with
  | zero => intro P σ _ _ _ h1 h2; omega
  | succ m ih =>
    intro P σ hd hw ht h1 h2
    have hdu := hd
    unfold ShD at hdu
    rw [f_X10_ordersOf_L2.eq_2]
    simp only [p_ltN (show F < 2 ^ 31 by omega) (show P < 2 ^ 31 by omega), eb_jn_e]
    by_cases h : F < P
    · have e : P = F + 1 := by omega
      subst e
      rw [if_pos h]
      exact ⟨σ, rfl, Fr.rf, ht⟩
    · rw [if_neg h]
      have tp := d_tips (n := n) (P := P) (by omega) (by omega) (lim := lim) hd hw
      have e0 : (nI P = 0) = (P = 0) := p_eqN (b := 0) (by omega) (by decide)
      have key : ∀ n0 : Int32, n0 = (if P = 0 then 1 else 0) → ∃ σ', f_X10_ordersOf_L21 n 91 (nI F) lim (nI P) (fun (w11 : Int32) (s12 : eb_S) => eb_gR s12 [9] 91 42 fun r13 => eb_cl (eb_tg s12 91 9 (f_X10_isTipped n 91 (nI P) lim s12)) fun b15 s14 => eb_jn (fun (y16 : Int32) (s17 : eb_S) => eb_wi s17 r13 (nI P) y16 fun s19 => f_X10_ordersOf_L2 n 91 (nI F) lim K m (nI P + 1) s19) fun j18 => if (eb_b b15) = 0 then (j18 w11 s14) else (j18 0 s14)) n n0 0 σ = K σ' ∧ Fr sGd σ σ' ∧ ∀ Q, Q < F + 1 → sbt Q F → eb_I σ' 120 Q = WW wt lim Q := by
        intro n0 hn0
        obtain ⟨v, g1, g2⟩ := d_ord_L1 (W := WW wt lim) (n := n) (P := P) (F := F) (by omega) (lim := lim) (n0 := n0) hd (fun hs p hp hb => ht _ (by have := clr_lt hb; omega) (sbt_clr (by omega) hp hb hs)) (K := fun (w11 : Int32) (s12 : eb_S) => eb_gR s12 [9] 91 42 fun r13 => eb_cl (eb_tg s12 91 9 (f_X10_isTipped n 91 (nI P) lim s12)) fun b15 s14 => eb_jn (fun (y16 : Int32) (s17 : eb_S) => eb_wi s17 r13 (nI P) y16 fun s19 => f_X10_ordersOf_L2 n 91 (nI F) lim K m (nI P + 1) s19) fun j18 => if (eb_b b15) = 0 then (j18 w11 s14) else (j18 0 s14)) n 0 n0 (fun _ => rfl) (by omega) (by omega)
        have val : sbt P F → (if tipb wt lim P = true then 0 else v) = WW wt lim P := by
          intro hs
          have hv := g2 hs
          by_cases hp : P = 0
          · subst hp
            rw [tipb_0 hl, if_neg (by decide), hv, smV_z, hn0, if_pos rfl, WW_0]
          · rw [if_neg hp] at hn0
            subst hn0
            rw [smV_0] at hv
            rw [WW_eq hp, hv]
        have F1 : Fr sGd σ (eb_sI σ 120 P (if tipb wt lim P = true then 0 else v)) := Fr.sI (Or.inr rfl)
        obtain ⟨σ', k1, k2, k3⟩ := ih (P + 1) _ (F1.shD hd) (fun p hp => by rw [eb_I_sI, if_neg (by decide)]; exact hw p hp) (fun Q hQ hsq => by
          rw [eb_I_sI, if_pos rfl]
          by_cases e : Q = P
          · rw [if_pos e]; subst e; exact val hsq
          · rw [if_neg e]; exact ht Q (by omega) hsq) (by omega) (by omega)
        refine ⟨σ', ?_, F1.tr k2, k3⟩
        rw [nI_0] at g1
        rw [g1]
        simp only [eb_gR, eb_wi, eb_tg, eb_jn_e, hdu, List.mem_singleton, true_and, ne_eq, show ¬ (120 : Nat) = 0 by decide, not_false_eq_true, if_true, tp, eb_cl_s, eb_b0, p_in (show P < 256 by omega) (by decide : 256 < 2 ^ 31), p_cl (show P < 2 ^ 31 by omega), nI_1]
        cases htp : tipb wt lim P with
        | true =>
          rw [htp, if_pos rfl] at k1
          simp only [Bool.true_eq_false, if_false]
          exact k1
        | false =>
          rw [htp, if_neg (by decide)] at k1
          simp only [if_true]
          exact k1
      simp only [e0]
      by_cases hp : P = 0
      · rw [if_pos hp]
        exact key 1 (by rw [if_pos hp])
      · rw [if_neg hp]
        exact key 0 (by rw [if_neg hp])
theorem d_orders {wt : Nat → Int32} {n F : Nat} (hn : 1000 ≤ n) (hF : F < 256) {lim : Int32} (hl : 0 ≤ lim.toInt) {σ : eb_S} (hd : ShD σ) (hw : ∀ p, p < 8 → eb_I σ 119 p = wt p) : ∃ σ', f_X10_ordersOf n 91 (nI F) lim σ = some (WW wt lim F, σ') ∧ Fr sGd σ σ' := by
  obtain ⟨σ', g1, g2, g3⟩ := d_ord_L2 (wt := wt) (n := n) (F := F) hn hF (lim := lim) hl (K := fun (s20 : eb_S) => eb_gR s20 [9] 91 42 fun r21 => eb_ai s20 r21 (nI F) fun x22 => some (x22, s20)) n 0 σ hd hw (fun Q hQ => by omega) (by omega) (by omega)
  refine ⟨σ', ?_, g2⟩
  rw [nI_0] at g1
  unfold f_X10_ordersOf
  rw [g1]
  have hd1 := g2.shD hd
  unfold ShD at hd1
  simp [eb_gR, eb_ai, hd1, p_in hF (by decide : 256 < 2 ^ 31), p_cl (show F < 2 ^ 31 by omega), g3 F (by omega) (sbt_rf F hF)]
set_option maxHeartbeats 4000000 in
theorem d_safe_L {wt : Nat → Int32} {n F : Nat} (hn : 100 ≤ n) (hF : F < 256) {lim : Int32} {σ : eb_S} (hd : ShD σ) (hw : ∀ p, p < 8 → eb_I σ 119 p = wt p) : ∀ (m p : Nat), p ≤ 8 → 8 < p + m → f_X10_tray_L218 n 91 lim (nI F) m (sfS wt lim F p) (nI p) σ = some (sfS wt lim F 8, σ) := by
  intro m
  induction m with
  | zero => intro p h1 h2; omega
  | succ m ih =>
    intro p h1 h2
    have hdu := hd
    unfold ShD at hdu
    rw [f_X10_tray_L218.eq_2]
    by_cases h : 8 ≤ p
    · have e : p = 8 := by omega
      subst e
      rw [if_pos (show (8 : Int32) ≤ nI 8 by decide)]
    · rw [if_neg (show ¬ (8 : Int32) ≤ nI p by rw [show (8 : Int32) = nI 8 from rfl, p_leN (by decide) (by omega)]; exact h)]
      have ih' := ih (p + 1) (by omega) (by omega)
      have es : sfS wt lim F (p + 1) = if bit F p ∧ tipb wt lim (F - 2 ^ p) = false then sfS wt lim F p ||| ((1 : Int32) <<< (nI p &&& 31)) else sfS wt lim F p := rfl
      rw [es] at ih'
      simp only [eb_jn_e, bit_i (show F < 2 ^ 31 by omega) (show p < 31 by omega), nI_1]
      by_cases hb : bit F p
      · have ci := clr_i F hF p (by omega) hb
        have tp := d_tips (n := n) (P := F - 2 ^ p) hn (Nat.lt_of_le_of_lt (Nat.sub_le F (2 ^ p)) (show F < 2 ^ 31 by omega)) (lim := lim) hd hw
        rw [if_pos hb]
        simp only [ci, eb_tg, hdu, if_true, tp, eb_cl_s, eb_b0]
        cases ht : tipb wt lim (F - 2 ^ p) with
        | true =>
          rw [if_neg (fun z => by rw [ht] at z; exact absurd z.2 (by decide))] at ih'
          simp only [Bool.true_eq_false, if_false, Int32.or_zero]
          exact ih'
        | false =>
          rw [if_pos ⟨hb, ht⟩] at ih'
          simp only [if_true]
          exact ih'
      · rw [if_neg hb]
        rw [if_neg (fun z => hb z.1)] at ih'
        simp only [Int32.or_zero]
        exact ih'
