/-! ===== pure: buying, the component's side ===== -/
theorem cnt_le {S : Nat} : ∀ k, cnt S k ≤ k
  | 0 => Nat.le_refl _
  | k + 1 => by
    have := cnt_le (S := S) k
    show cnt S k + (if bit S k then 1 else 0) ≤ _
    split <;> omega
theorem cnt_wsm {A : Nat → Nat → Nat} {S : Nat} : ∀ k, cnt S k = 0 → wsm A S k = 0
  | 0, _ => rfl
  | k + 1, h => by
    have h' : cnt S k + (if bit S k then 1 else 0) = 0 := h
    show wsm A S k + (if bit S k then aW A k else 0) = 0
    by_cases e : bit S k
    · rw [if_pos e] at h'; omega
    · rw [if_neg e, cnt_wsm k (by omega)]
theorem TT_c {A : Nat → Nat → Nat} (w : wf A) : ∀ (b S l : Nat), S < 2 ^ aN A → 2 ^ aN A - S ≤ b → l < aN A → TT A S l ≤ 99000 * (aN A - cnt S (aN A)) + 49500
  | 0, S, l, hS, hb, hl => by omega
  | b + 1, S, l, hS, hb, hl => by
    have wl := w.2.1 l hl
    have hc := cw_le w S
    rw [TT_eq hS]
    unfold bdy
    by_cases e : S = 2 ^ aN A - 1
    · rw [if_pos e]
      have h1 : ((aL A l : Int) - 50).natAbs ≤ 50 := by omega
      have h2 : cw A S * ((aL A l : Int) - 50).natAbs ≤ 990 * 50 := Nat.mul_le_mul hc h1
      omega
    · rw [if_neg e]
      cases hm : mnr (fun t => cw A S * dst A l t + TT A (S ||| 2 ^ t) t) S (aN A) with
      | none => exact Nat.zero_le _
      | some q =>
        obtain ⟨t, c⟩ := q
        obtain ⟨m1, m2, m3⟩ := mnr_ok _ _ _ hm
        show c ≤ _
        rw [m3]
        have g := or_gt m2
        have g2 := or_lt2 hS m1
        have ih := TT_c w b (S ||| 2 ^ t) t g2 (by omega) m1
        have h2 : cw A S * dst A l t ≤ 990 * 100 := Nat.mul_le_mul hc (dst_le w hl m1)
        have h3 := cnt_or m2 (aN A)
        rw [if_pos m1] at h3
        have h4 := cnt_le (S := S ||| 2 ^ t) (aN A)
        rw [h3] at ih h4
        omega
theorem fc_c {A : Nat → Nat → Nat} (w : wf A) {S t : Nat} {lo : Option Nat} (hS : S < 2 ^ aN A) (ht : t < aN A) (hl : ∀ l, lo = some l → l < aN A) (hb : ¬ bit S t) : fc A S lo t ≤ 940500 := by
  have wN := w.1
  have h1 := TT_c w (2 ^ aN A) (S ||| 2 ^ t) t (or_lt2 hS ht) (by omega) ht
  have h3 := cnt_or hb (aN A)
  rw [if_pos ht] at h3
  have h4 := cnt_le (S := S ||| 2 ^ t) (aN A)
  rw [h3] at h1 h4
  have hc := cw_le w S
  unfold fc
  cases lo with
  | none => dsimp only; omega
  | some l =>
    have h2 : cw A S * dst A l t ≤ 990 * 100 := Nat.mul_le_mul hc (dst_le w (hl l rfl) ht)
    dsimp only
    by_cases z : cnt S (aN A) = 0
    · have h5 : cw A S = 0 := cnt_wsm _ z
      rw [h5, Nat.zero_mul]
      omega
    · omega
theorem bit_z {P p : Nat} (hP : P < 2 ^ 31) (hp : p < 31) : (((nI P >>> (nI p &&& 31)) &&& 1) = 0) = ¬ bit P p := by
  rw [bit_at hP hp]
  have := Nat.mod_lt (P / 2 ^ p) (by decide : 0 < 2)
  have e : (nI (P / 2 ^ p % 2) = 0) = (P / 2 ^ p % 2 = 0) := p_eqN (b := 0) (by omega) (by decide)
  rw [e, eq_iff_iff]
  constructor
  · intro h z; unfold bit at z; omega
  · intro h; exact bit_dec h
def lov (lo : Option Nat) : Int32 := match lo with
  | none => -1
  | some l => nI l
def EC (A : Nat → Nat → Nat) (c : Nat) (σ : eb_S) : Prop := ShE σ ∧ eb_R σ 75 3 = c ∧ (c = 77 ∨ 121 ≤ c) ∧ eb_T σ c = 11 ∧ 2 ^ aN A * 10 ≤ eb_L σ c ∧ eb_L σ c ≤ 10240
def TB (A : Nat → Nat → Nat) (c r : Nat) (P : Nat) (σ : eb_S) : Prop := ∀ S l, P ≤ S → S < 2 ^ aN A → l < aN A → bit S l → eb_I σ c (S * 10 + l) = nI (TT A S l)
theorem EC.fr {A : Nat → Nat → Nat} {c : Nat} {σ σ' : eb_S} {S : Nat → Nat → Prop} (h : EC A c σ) (hF : Fr S σ σ') : EC A c σ' := by
  obtain ⟨a1, a2, a3, a4, a5, a6⟩ := h
  refine ⟨?_, by rw [hF.2.1]; exact a2, a3, by rw [hF.1]; exact a4, by rw [hF.2.2.1]; exact a5, by rw [hF.2.2.1]; exact a6⟩
  unfold ShE at a1 ⊢
  rw [hF.1, hF.2.1, hF.2.2.1]
  exact a1
def sC (c k j : Nat) : Prop := (k = 75 ∧ j = 0) ∨ k = 76 ∨ k = c
theorem nX_sC {c : Nat} (hc : c = 77 ∨ 121 ≤ c) : nX (sC c) := fun k j h => by unfold sC at h; omega
theorem or_i {S t : Nat} (ht : t < 31) : nI S ||| ((1 : Int32) <<< (nI t &&& 31)) = nI (S ||| 2 ^ t) := by rw [b_shl t ht, n_or]
set_option maxHeartbeats 4000000 in
theorem x_cost {A : Nat → Nat → Nat} (w : wf A) {c S t : Nat} {lo : Option Nat} {σ : eb_S} (hs : ShM9 σ) (hX : MX9 A σ) (hE : EC A c σ) (hS : S < 2 ^ aN A) (ht : t < aN A) (hlo : ∀ l, lo = some l → l < aN A) (h0 : lo = none → S = 0) (hb : ¬ bit S t) (hT : TB A c 0 (S + 1) σ) : f_X1_costBy 75 (nI S) (lov lo) (nI (cw A S)) (nI t) σ = some (nI (fc A S lo t), σ) := by
  have wN := w.1
  have hp := pw10 w
  obtain ⟨a1, a2, a3, a4, a5, a6⟩ := hE
  have g := or_gt hb
  have g2 := or_lt2 hS ht
  have tb := hT (S ||| 2 ^ t) t (by omega) g2 ht (or_bit_iff.mpr (Or.inr rfl))
  have xL := hX.2.2.2.2.1
  have oi := or_i (S := S) (t := t) (by omega)
  have ex : nI (S ||| 2 ^ t) * 10 + nI t = nI ((S ||| 2 ^ t) * 10 + t) := by rw [show (10 : Int32) = nI 10 from rfl, pk_mul, nI_add]
  have ein : eb_in (nI ((S ||| 2 ^ t) * 10 + t)) (eb_L σ c) = true := p_in (by omega) (by omega)
  have ecl : (nI ((S ||| 2 ^ t) * 10 + t)).toNatClampNeg = (S ||| 2 ^ t) * 10 + t := p_cl (by omega)
  have cn : ¬ c = 0 := by omega
  have tin : eb_in (nI t) 10 = true := p_in (by omega) (by decide)
  have tcl : (nI t).toNatClampNeg = t := p_cl (by omega)
  have wt := w.2.1 t ht
  unfold ShE at a1
  unfold ShM9 at hs
  unfold f_X1_costBy f_X1_at
  cases lo with
  | none =>
    have hS0 := h0 rfl
    have eab : (if (0 : Int32) ≤ nI (aL A t) - 50 - 0 then nI (aL A t) - 50 - 0 else 0 - (nI (aL A t) - 50 - 0)) = nI ((aL A t : Int) - 50).natAbs := by
      rw [Int32.sub_zero, nI_iI (aL A t), show (50 : Int32) = iI 50 from rfl, iI_sub]
      exact p_abs (by omega) (by omega)
    have ec : cw A S = 0 := by rw [hS0]; exact cw_0
    have ef : fc A S none t = 0 + TT A (S ||| 2 ^ t) t := rfl
    have lv : ((0 : Int32) ≤ lov none) = False := by decide
    simp only [eb_jn_e, lv, if_false, eb_gR, eb_ai, a1, a2, a4, hs, List.mem_singleton, if_true, true_and, ne_eq, show ¬ (9 : Nat) = 0 by decide, show ¬ (13 : Nat) = 0 by decide, cn, not_false_eq_true, tin, tcl, xL t ht, eb_cl_s, oi, ex, ein, ecl, tb, eab, pk_mul, nI_add, ec, Nat.zero_mul, ef]
  | some l =>
    have hl := hlo l rfl
    have wl := w.2.1 l hl
    have lin : eb_in (nI l) 10 = true := p_in (by omega) (by decide)
    have lcl : (nI l).toNatClampNeg = l := p_cl (by omega)
    have eab : (if (0 : Int32) ≤ nI (aL A t) - 50 - (nI (aL A l) - 50) then nI (aL A t) - 50 - (nI (aL A l) - 50) else 0 - (nI (aL A t) - 50 - (nI (aL A l) - 50))) = nI (dst A l t) := by
      rw [nI_iI (aL A t), nI_iI (aL A l), show (50 : Int32) = iI 50 from rfl, iI_sub, iI_sub, iI_sub, p_abs (by omega) (by omega)]
      congr 1
      unfold dst
      omega
    have ef : fc A S (some l) t = cw A S * dst A l t + TT A (S ||| 2 ^ t) t := rfl
    have lv : ((0 : Int32) ≤ nI l) = True := p_nn (by omega)
    have lv2 : lov (some l) = nI l := rfl
    simp only [eb_jn_e, lv, lv2, eb_gR, eb_ai, a1, a2, a4, hs, List.mem_singleton, if_true, true_and, ne_eq, show ¬ (9 : Nat) = 0 by decide, show ¬ (13 : Nat) = 0 by decide, cn, not_false_eq_true, tin, tcl, lin, lcl, xL t ht, xL l hl, eb_cl_s, oi, ex, ein, ecl, tb, eab, pk_mul, nI_add, ef]
def lcI (o : Option (Nat × Nat)) : Nat := match o with
  | none => 1000000
  | some q => q.2
set_option maxHeartbeats 4000000 in
theorem x_next_L {A : Nat → Nat → Nat} (w : wf A) {c S n : Nat} {lo : Option Nat} {σ : eb_S} (hs : ShM9 σ) (hX : MX9 A σ) (hE : EC A c σ) (hS : S < 2 ^ aN A) (hlo : ∀ l, lo = some l → l < aN A) (h0 : lo = none → S = 0) (hT : TB A c 0 (S + 1) σ) : ∀ (m k : Nat), k ≤ aN A → aN A < k + m → f_X1_nextBehind_L10 n 75 (nI S) (lov lo) (nI (cw A S)) m (nI (mnt (mnr (fc A S lo) S k))) (nI (lcI (mnr (fc A S lo) S k))) (nI k) σ = some (nI (mnt (mnr (fc A S lo) S (aN A))), σ) := by
  intro m
  induction m with
  | zero => intro k h1 h2; omega
  | succ m ih =>
    intro k h1 h2
    have wN := w.1
    have hp := pw10 w
    have xN := hX.1
    have a1 := hE.1
    have hsu := hs
    unfold ShE at a1
    unfold ShM9 at hsu
    rw [f_X1_nextBehind_L10.eq_2]
    by_cases h : aN A ≤ k
    · have e : k = aN A := by omega
      subst e
      have le : nI (aN A) ≤ nI (aN A) := by rw [p_leN (by omega) (by omega)]; exact Nat.le_refl _
      simp [eb_gR, eb_gI, a1, hsu, xN, le]
    · have nle : ¬ nI (aN A) ≤ nI k := by rw [p_leN (by omega) (by omega)]; omega
      have ih' := ih (k + 1) (by omega) (by omega)
      simp only [eb_gR, eb_gI, eb_tg, eb_jn_e, a1, hsu, xN, nle, List.mem_singleton, if_true, if_false, true_and, ne_eq, show ¬ (9 : Nat) = 0 by decide, not_false_eq_true, bit_z (show S < 2 ^ 31 by omega) (show k < 31 by omega), nI_1]
      by_cases hb : bit S k
      · have es : mnr (fc A S lo) S (k + 1) = mnr (fc A S lo) S k := by
          show (if bit S k then _ else _) = _
          rw [if_pos hb]
        rw [es] at ih'
        rw [if_neg (fun z => z hb)]
        exact ih'
      · have co := x_cost w hs hX hE hS (show k < aN A by omega) hlo h0 hb hT
        have fb := fc_b w (t := k) hS (by omega) hlo
        rw [if_pos hb]
        simp only [co, eb_cl_s]
        have es : mnr (fc A S lo) S (k + 1) = match mnr (fc A S lo) S k with
            | none => some (k, fc A S lo k)
            | some (t, c) => if fc A S lo k < c then some (k, fc A S lo k) else some (t, c) := by
          show (if bit S k then _ else _) = _
          rw [if_neg hb]
          rfl
        cases hm : mnr (fc A S lo) S k with
        | none =>
          rw [hm] at es
          dsimp only at es
          rw [es] at ih'
          have e1 : lcI none = 1000000 := rfl
          have fb3 := fc_c w (t := k) hS (by omega) hlo hb
          rw [e1, if_neg (show ¬ nI 1000000 ≤ nI (fc A S lo k) by rw [p_leN (by decide) (by omega)]; omega)]
          exact ih'
        | some q =>
          obtain ⟨t, c'⟩ := q
          rw [hm] at es
          dsimp only at es
          obtain ⟨m1, m2, m3⟩ := mnr_ok _ _ _ hm
          have fb2 := fc_b w (t := t) hS (by omega) hlo
          rw [← m3] at fb2
          have e1 : lcI (some (t, c')) = c' := rfl
          have e2 : mnt (some (t, c')) = t := rfl
          rw [e1, e2]
          by_cases hc : fc A S lo k < c'
          · rw [if_pos hc] at es
            rw [es] at ih'
            rw [if_neg (show ¬ nI c' ≤ nI (fc A S lo k) by rw [p_leN (by omega) (by omega)]; omega)]
            exact ih'
          · rw [if_neg hc] at es
            rw [es] at ih'
            rw [if_pos (show nI c' ≤ nI (fc A S lo k) by rw [p_leN (by omega) (by omega)]; omega)]
            exact ih'
theorem x_next {A : Nat → Nat → Nat} (w : wf A) {c S n : Nat} (hn : 100 ≤ n) {lo : Option Nat} {σ : eb_S} (hs : ShM9 σ) (hX : MX9 A σ) (hE : EC A c σ) (hS : S < 2 ^ aN A) (hlo : ∀ l, lo = some l → l < aN A) (h0 : lo = none → S = 0) (hT : TB A c 0 (S + 1) σ) : f_X1_nextBehind n 75 (nI S) (lov lo) (nI (cw A S)) σ = some (nI (mnt (mnr (fc A S lo) S (aN A))), σ) := by
  have wN := w.1
  have := x_next_L w (n := n) hs hX hE hS hlo h0 hT n 0 (by omega) (by omega)
  rw [nI_0] at this
  exact this
set_option maxHeartbeats 4000000 in
theorem x_wof_L {A : Nat → Nat → Nat} (w : wf A) {S n : Nat} (hS : S < 2 ^ 31) {σ : eb_S} (hs : ShM9 σ) (hX : MX9 A σ) : ∀ (m k : Nat), k ≤ aN A → aN A < k + m → f_X3_weightOf_L4 n 9 (nI S) m (nI (wsm A S k)) (nI k) σ = some (nI (cw A S), σ) := by
  intro m
  induction m with
  | zero => intro k h1 h2; omega
  | succ m ih =>
    intro k h1 h2
    have wN := w.1
    have xN := hX.1
    have hsu := hs
    unfold ShM9 at hsu
    rw [f_X3_weightOf_L4.eq_2]
    by_cases h : aN A ≤ k
    · have e : k = aN A := by omega
      subst e
      have le : nI (aN A) ≤ nI (aN A) := by rw [p_leN (by omega) (by omega)]; exact Nat.le_refl _
      simp [eb_gI, hsu, xN, le, cw]
    · have nle : ¬ nI (aN A) ≤ nI k := by rw [p_leN (by omega) (by omega)]; omega
      have ih' := ih (k + 1) (by omega) (by omega)
      have es : wsm A S (k + 1) = wsm A S k + if bit S k then aW A k else 0 := rfl
      rw [es, ← nI_add] at ih'
      simp only [eb_gR, eb_gI, eb_ai, eb_jn_e, hsu, xN, nle, List.mem_singleton, if_true, if_false, true_and, ne_eq, show ¬ (11 : Nat) = 0 by decide, not_false_eq_true, bit_i hS (show k < 31 by omega), nI_1, p_in (show k < 10 by omega) (by decide : 10 < 2 ^ 31), p_cl (show k < 2 ^ 31 by omega), hX.2.2.1 k (show k < aN A by omega)]
      by_cases hb : bit S k
      · rw [if_pos hb] at ih' ⊢
        exact ih'
      · rw [if_neg hb, nI_0] at ih'
        rw [if_neg hb]
        exact ih'
theorem x_wof {A : Nat → Nat → Nat} (w : wf A) {S n : Nat} (hn : 100 ≤ n) (hS : S < 2 ^ 31) {σ : eb_S} (hs : ShM9 σ) (hX : MX9 A σ) : f_X3_weightOf n 9 (nI S) σ = some (nI (cw A S), σ) := by
  have wN := w.1
  have := x_wof_L w (n := n) (S := S) hS hs hX n 0 (by omega) (by omega)
  rw [show nI (wsm A S 0) = 0 from nI_0, nI_0] at this
  exact this
set_option maxHeartbeats 4000000 in
theorem x_weigh_L {A : Nat → Nat → Nat} (w : wf A) {c S n : Nat} (hn : 100 ≤ n) (hS : S < 2 ^ aN A) {al : Int32} (hal : al = if S = 2 ^ aN A - 1 then 1 else 0) : ∀ (m k : Nat) (σ : eb_S), ShM9 σ → MX9 A σ → EC A c σ → TB A c 0 (S + 1) σ → (∀ l, l < k → bit S l → eb_I σ c (S * 10 + l) = nI (TT A S l)) → k ≤ aN A → aN A < k + m → ∃ σ', f_X1_weigh_L12 n 75 (nI S) al (nI (cw A S)) m (nI k) σ = some ((), σ') ∧ Fr (sC c) σ σ' ∧ TB A c 0 S σ' := by
  intro m
  induction m with
  | zero => intro k σ _ _ _ _ _ h1 h2; omega
  | succ m ih =>
    intro k σ hs hX hE hT hz h1 h2
    have wN := w.1
    have hp := pw10 w
    have xN := hX.1
    have hEu := hE
    obtain ⟨a1, a2, a3, a4, a5, a6⟩ := hE
    have hsu := hs
    unfold ShE at a1
    unfold ShM9 at hsu
    rw [f_X1_weigh_L12.eq_2]
    by_cases h : aN A ≤ k
    · have e : k = aN A := by omega
      subst e
      have le : nI (aN A) ≤ nI (aN A) := by rw [p_leN (by omega) (by omega)]; exact Nat.le_refl _
      refine ⟨σ, by simp [eb_gR, eb_gI, a1, hsu, xN, le], Fr.rf, fun S' l hS' hS2 hl hb => ?_⟩
      by_cases e : S' = S
      · subst e; exact hz l hl hb
      · exact hT S' l (by omega) hS2 hl hb
    · have nle : ¬ nI (aN A) ≤ nI k := by rw [p_leN (by omega) (by omega)]; omega
      have hk : k < aN A := by omega
      have cn : ¬ c = 0 := by omega
      simp only [eb_gR, eb_gI, eb_jn_e, a1, hsu, xN, nle, List.mem_singleton, if_true, if_false, true_and, ne_eq, show ¬ (9 : Nat) = 0 by decide, not_false_eq_true, bit_i (show S < 2 ^ 31 by omega) (show k < 31 by omega), nI_1]
      by_cases hb : bit S k
      · rw [if_pos hb]
        have F1 : Fr (sC c) σ (eb_sI σ c (S * 10 + k) (nI (TT A S k))) := Fr.sI (Or.inr (Or.inr rfl))
        obtain ⟨σ', g1, g2, g3⟩ := ih (k + 1) _ (F1.shM9 hs) (F1.mx (nX_sC a3) hX) (hEu.fr F1) (fun S' l hS' hS2 hl hbl => by
          rw [eb_I_sI, if_pos rfl, if_neg (by omega)]
          exact hT S' l hS' hS2 hl hbl) (fun l hl hbl => by
          rw [eb_I_sI, if_pos rfl]
          by_cases e : l = k
          · subst e; rw [if_pos rfl]
          · rw [if_neg (by omega)]; exact hz l (by omega) hbl) (by omega) (by omega)
        refine ⟨σ', ?_, F1.tr g2, g3⟩
        have ex : nI S * 10 + nI k = nI (S * 10 + k) := by rw [show (10 : Int32) = nI 10 from rfl, pk_mul, nI_add]
        have ein : eb_in (nI (S * 10 + k)) (eb_L σ c) = true := p_in (by omega) (by omega)
        have ecl : (nI (S * 10 + k)).toNatClampNeg = S * 10 + k := p_cl (by omega)
        have te := TT_eq (A := A) (S := S) (l := k) hS
        unfold bdy at te
        by_cases hf : S = 2 ^ aN A - 1
        · rw [if_pos hf] at te hal
          have xL := hX.2.2.2.2.1 k hk
          have wt := w.2.1 k hk
          have eab : (if (0 : Int32) ≤ nI (aL A k) - 50 then nI (aL A k) - 50 else 0 - (nI (aL A k) - 50)) = nI ((aL A k : Int) - 50).natAbs := by
            rw [nI_iI (aL A k), show (50 : Int32) = iI 50 from rfl, iI_sub]
            exact p_abs (by omega) (by omega)
          simp only [a2, cn, not_false_eq_true, if_true, f_X1_at, eb_cl_s, ex, hal, show ¬ (1 : Int32) = 0 by decide, if_false, a1, hsu, true_and, show ¬ (9 : Nat) = 0 by decide, show ¬ (13 : Nat) = 0 by decide, eb_ai, eb_wi, p_in (show k < 10 by omega) (by decide : 10 < 2 ^ 31), p_cl (show k < 2 ^ 31 by omega), xL, eab, pk_mul, a4, ein, ecl, ← te]
          rw [hal] at g1
          exact g1
        · rw [if_neg hf] at te hal
          have ne := x_next w (n := n) (lo := some k) hn hs hX hEu hS (fun l h => by cases h; exact hk) (fun h => by cases h) hT
          have ex2 : ∃ t, t < aN A ∧ ¬ bit S t := by
            apply Classical.byContradiction
            intro hn'
            exact hf (all_full hS (fun t ht => Classical.byContradiction (fun z => hn' ⟨t, ht, z⟩)))
          obtain ⟨t0, ht0, hb0⟩ := ex2
          have hsm := mnr_some (f := fc A S (some k)) (S := S) (aN A) t0 ht0 hb0
          cases hm : mnr (fc A S (some k)) S (aN A) with
          | none => exact absurd hm hsm
          | some q =>
            obtain ⟨t, cc⟩ := q
            obtain ⟨m1, m2, m3⟩ := mnr_ok _ _ _ hm
            have te2 : TT A S k = cc := by
              rw [te]
              have : mnr (fun t => cw A S * dst A k t + TT A (S ||| 2 ^ t) t) S (aN A) = some (t, cc) := hm
              rw [this]
              rfl
            rw [hm] at ne
            have ne : f_X1_nextBehind n 75 (nI S) (nI k) (nI (cw A S)) σ = some (nI t, σ) := ne
            have co := x_cost w (lo := some k) hs hX hEu hS m1 (fun l h => by cases h; exact hk) (fun h => by cases h) m2 hT
            have co : f_X1_costBy 75 (nI S) (nI k) (nI (cw A S)) (nI t) σ = some (nI (fc A S (some k) t), σ) := co
            rw [← m3, ← te2] at co
            simp only [a2, cn, not_false_eq_true, if_true, f_X1_at, eb_cl_s, ex, hal, a1, true_and, eb_tg, eb_wi, ne, co, a4, ein, ecl]
            rw [hal] at g1
            exact g1
      · rw [if_neg hb]
        exact ih (k + 1) σ hs hX hEu hT (fun l hl hbl => by
          by_cases e : l = k
          · subst e; exact absurd hbl hb
          · exact hz l (by omega) hbl) (by omega) (by omega)
theorem x_weigh {A : Nat → Nat → Nat} (w : wf A) {c S n : Nat} (hn : 100 ≤ n) (hS : S < 2 ^ aN A) {al : Int32} (hal : al = if S = 2 ^ aN A - 1 then 1 else 0) {σ : eb_S} (hs : ShM9 σ) (hX : MX9 A σ) (hE : EC A c σ) (hT : TB A c 0 (S + 1) σ) : ∃ σ', f_X1_weigh n 75 (nI S) al σ = some ((), σ') ∧ Fr (sC c) σ σ' ∧ TB A c 0 S σ' := by
  have wN := w.1
  have hp := pw10 w
  obtain ⟨σ', g1, g2, g3⟩ := x_weigh_L w (n := n) hn hS hal n 0 σ hs hX hE hT (fun l hl => by omega) (by omega) (by omega)
  refine ⟨σ', ?_, g2, g3⟩
  have cwx := x_wof w (n := n) (S := S) hn (by omega) hs hX
  have a1 := hE.1
  have hsu := hs
  unfold ShE at a1
  unfold ShM9 at hsu
  rw [nI_0] at g1
  unfold f_X1_weigh
  simp only [eb_gR, eb_tg, a1, hsu, List.mem_singleton, if_true, true_and, ne_eq, show ¬ (9 : Nat) = 0 by decide, not_false_eq_true, cwx, eb_cl_s]
  exact g1
set_option maxHeartbeats 4000000 in
theorem x_sol_L {A : Nat → Nat → Nat} (w : wf A) {c n : Nat} (hn : 100 ≤ n) {K : eb_S → Option (Unit × eb_S)} : ∀ (S m : Nat) (σ : eb_S), ShM9 σ → MX9 A σ → EC A c σ → TB A c 0 (S + 1) σ → S < 2 ^ aN A → S < m → ∃ σ', f_X1_solve_L62 n 75 (nI (2 ^ aN A)) K m (nI S) σ = K σ' ∧ Fr (sC c) σ σ' ∧ TB A c 0 1 σ' := by
  intro S
  have hp := pw10 w
  induction S with
  | zero =>
    intro m σ hs hX hE hT hS hm
    obtain ⟨m, rfl⟩ : ∃ m', m = m' + 1 := ⟨m - 1, by omega⟩
    rw [f_X1_solve_L62.eq_2, nI_0, if_pos (by decide)]
    exact ⟨σ, rfl, Fr.rf, hT⟩
  | succ S ih =>
    intro m σ hs hX hE hT hS hm
    obtain ⟨m, rfl⟩ : ∃ m', m = m' + 1 := ⟨m - 1, by omega⟩
    rw [f_X1_solve_L62.eq_2, if_neg (nI_nle (by omega) (by omega))]
    obtain ⟨σ1, g1, g2, g3⟩ := x_weigh w (n := n) hn hS (al := if S + 1 = 2 ^ aN A - 1 then 1 else 0) rfl hs hX hE hT
    obtain ⟨σ', k1, k2, k3⟩ := ih m σ1 (g2.shM9 hs) (g2.mx (nX_sC hE.2.2.1) hX) (hE.fr g2) g3 (by omega) (by omega)
    refine ⟨σ', ?_, g2.tr k2, k3⟩
    have e1 : nI (2 ^ aN A) - 1 = nI (2 ^ aN A - 1) := pk_sub (b := 1) (by omega)
    have e2 : (nI (S + 1) = nI (2 ^ aN A - 1)) = (S + 1 = 2 ^ aN A - 1) := p_eqN (by omega) (by omega)
    have a1 := hE.1
    unfold ShE at a1
    simp only [eb_jn_e, e1, e2, pk_m1]
    by_cases h : S + 1 = 2 ^ aN A - 1
    · rw [if_pos h] at g1 ⊢
      simp only [eb_tg, a1, if_true, g1, eb_cl_s]
      exact k1
    · rw [if_neg h] at g1 ⊢
      simp only [eb_tg, a1, if_true, g1, eb_cl_s]
      exact k1
