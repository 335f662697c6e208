/-! ===== pure: buying, both sides ===== -/
def lsk (A : Nat → Nat → Nat) (k : Nat) : Int32 := if k = 0 then 0 else nI (lstA A)
theorem gs_0 {A : Nat → Nat → Nat} : ∀ k, k = 0 ↔ (gs A k).2 = none
  | 0 => ⟨fun _ => rfl, fun _ => rfl⟩
  | k + 1 => ⟨fun h => by omega, fun h => by cases h⟩
set_option maxHeartbeats 8000000 in
theorem d_buy_L4 {A : Nat → Nat → Nat} (w : wf A) {n y e : Nat} (hn : 100 ≤ n) (hy : y ≤ 10) (he : e = min (aN A) (y + 1)) {v1 : Int32} (hv : (if 0 ≤ v1 then v1 else 0) = nI y) {σ : eb_S} (hd : ShD σ) (hD : MD A σ) (hT : TB A 112 0 1 σ) {K : Int32 → Int32 → eb_S → Option (Int32 × eb_S)} : ∀ (m k : Nat), k ≤ e → e < k + m → f_X10_buying_L87 n 91 v1 K m (nI (gs A k).1) (lov (gs A k).2) (lsk A k) (nI k) σ = K (lov (gs A e).2) (lsk A e) σ := by
  intro m
  induction m with
  | zero => intro k h1 h2; omega
  | succ m ih =>
    intro k h1 h2
    have wN := w.1
    have hp := pw10 w
    have yN := hD.1
    have hdu := hd
    unfold ShD at hdu
    rw [f_X10_buying_L87.eq_2]
    have c1 : (nI (aN A) ≤ nI k) = (aN A ≤ k) := p_leN (by omega) (by omega)
    have c2 : (nI y < nI k) = (y < k) := p_ltN (by omega) (by omega)
    have hjn : ∀ (F : Int32 → eb_S → Option (Int32 × eb_S)), (if 0 ≤ v1 then F v1 σ else F 0 σ) = F (nI y) σ := fun F => by
      rw [← hv]
      split <;> rfl
    simp only [eb_gI, eb_jn_e, hdu, yN, List.mem_singleton, if_true, c1]
    by_cases h : aN A ≤ k
    · have ek : k = e := by omega
      subst ek
      rw [if_pos h]
    · rw [if_neg h]
      rw [hjn (fun (y15 : Int32) (s16 : eb_S) => if y15 < nI k then K (lov (gs A k).2) (lsk A k) s16 else f_X10_buying_L119 n 91 v1 (nI (gs A k).1) (lov (gs A k).2) (lsk A k) (nI k) (fun w44 w45 s46 => if nI k = 0 then f_X10_buying_L87 n 91 v1 K m (nI (gs A k).1 ||| ((1 : Int32) <<< (w44 &&& 31))) w44 w45 (nI k + 1) s46 else f_X10_buying_L87 n 91 v1 K m (nI (gs A k).1 ||| ((1 : Int32) <<< (w44 &&& 31))) w44 (lsk A k) (nI k + 1) s46) n (-1) 0 0 s16)]
      simp only [c2]
      by_cases hyk : y < k
      · have ek : k = e := by omega
        subst ek
        rw [if_pos hyk]
      · rw [if_neg hyk]
        obtain ⟨i1, i2, i3, i4⟩ := gs_ok (A := A) k (by omega)
        obtain ⟨cc, j1, j2, j3, j4⟩ := i4 (by omega)
        have l3 := d_buy_L3 w (S := (gs A k).1) (n := n) (kk := k) (lo := (gs A k).2) (by omega) (v1 := v1) (v4 := lsk A k) hd hD i1 i3 (gs_0 k) (by omega) hT (K := fun w44 w45 s46 => if nI k = 0 then f_X10_buying_L87 n 91 v1 K m (nI (gs A k).1 ||| ((1 : Int32) <<< (w44 &&& 31))) w44 w45 (nI k + 1) s46 else f_X10_buying_L87 n 91 v1 K m (nI (gs A k).1 ||| ((1 : Int32) <<< (w44 &&& 31))) w44 (lsk A k) (nI k + 1) s46) n 0 (by omega) (by omega)
        have z1 : nmv (mnr (fc A (gs A k).1 (gs A k).2) (gs A k).1 0) = -1 := rfl
        have z2 : qmv (mnr (fc A (gs A k).1 (gs A k).2) (gs A k).1 0) = 0 := rfl
        rw [z1, z2, nI_0, j1] at l3
        rw [l3]
        have n1 : nmv (some (nxt A k, cc)) = nI (nxt A k) := rfl
        have n2 : qmv (some (nxt A k, cc)) = nI cc := rfl
        have oi := or_i (S := (gs A k).1) (t := nxt A k) (by omega)
        have e1 : (gs A (k + 1)).1 = (gs A k).1 ||| 2 ^ nxt A k := rfl
        have e2 : lov (gs A (k + 1)).2 = nI (nxt A k) := rfl
        have ih' := ih (k + 1) (by omega) (by omega)
        rw [e1, e2] at ih'
        have kz : (nI k = 0) = (k = 0) := p_eqN (b := 0) (by omega) (by decide)
        simp only [n1, n2, oi, nI_1, kz]
        have ls1 : lsk A (k + 1) = nI (lstA A) := by unfold lsk; rw [if_neg (by omega)]
        rw [ls1] at ih'
        by_cases k0 : k = 0
        · subst k0
          rw [if_pos rfl]
          have lv : cc = lstA A := by
            unfold lstA
            rw [if_neg (by omega)]
            have : mnr (fc A 0 none) 0 (aN A) = some (nxt A 0, cc) := j1
            rw [this]
            rfl
          rw [lv]
          exact ih'
        · rw [if_neg k0]
          have ls0 : lsk A k = nI (lstA A) := by unfold lsk; rw [if_neg k0]
          rw [ls0]
          exact ih'
def vBy (A : Nat → Nat → Nat) (v : Int32) : Int32 := if v = -1 then nI (lstA A) else nI (nxt A v.toNatClampNeg)
set_option maxHeartbeats 8000000 in
theorem d_buying {A : Nat → Nat → Nat} (w : wf A) {n : Nat} (hn : 2000 ≤ n) {σ : eb_S} (hd : ShD σ) (hD : MD A σ) {v : Int32} (hv : v = -1 ∨ ∃ t, t < aN A ∧ v = nI t) : ∃ σ', f_X10_buying n 91 v σ = some (vBy A v, σ') ∧ Fr s112 σ σ' := by
  have wN := w.1
  have hp := pw10 w
  have hp0 : 0 < 2 ^ aN A := Nat.two_pow_pos _
  have yN := hD.1
  have shl := b_shl (aN A) (by omega)
  have em1 : nI (2 ^ aN A) - 1 = nI (2 ^ aN A - 1) := pk_sub (b := 1) (by omega)
  obtain ⟨σ1, g1, g2, g3⟩ := d_buy_L2 w (n := n) (by omega) (v1 := v) (K := fun (s13 : eb_S) => f_X10_buying_L87 n 91 v (fun (w50 : Int32) (w51 : Int32) (s52 : eb_S) => if 0 ≤ v then (some (w50, s52)) else (some (w51, s52))) n 0 (-1) 0 0 s13) (2 ^ aN A - 1) n σ hd hD (fun S l h1 h2 => by omega) (by omega) (by omega)
  refine ⟨σ1, ?_, g2⟩
  have hd1 := g2.shD hd
  have hD1 := g2.md nD_s112 hD
  have dt := d_isThing hd hD w v.toInt64
  rw [p_i64] at dt
  have run : f_X10_buying n 91 v σ = f_X10_buying_L87 n 91 v (fun (w50 : Int32) (w51 : Int32) (s52 : eb_S) => if 0 ≤ v then (some (w50, s52)) else (some (w51, s52))) n 0 (-1) 0 0 σ1 := by
    refine Eq.trans ?_ g1
    have hdu := hd
    unfold ShD at hdu
    unfold f_X10_buying
    rcases hv with h | ⟨t, ht, h⟩
    · subst h
      simp only [eb_jn_e, if_true, eb_gI, hdu, List.mem_singleton, yN, shl, em1]
    · subst h
      rw [p_ntoInt (by omega), wi_t.mpr ⟨by omega, by omega⟩] at dt
      simp only [eb_jn_e, nI_nn (show t < 2 ^ 31 by omega) (by decide : (-1 : Int32) < 0), if_false, eb_tg, hdu, if_true, dt, eb_cl_s, eb_b0, Bool.true_eq_false, eb_gI, List.mem_singleton, yN, shl, em1]
  rw [run]
  have z1 : nI (gs A 0).1 = 0 := nI_0
  have z2 : lov (gs A 0).2 = -1 := rfl
  have z3 : lsk A 0 = 0 := rfl
  rcases hv with h | ⟨t, ht, h⟩
  · subst h
    have l4 := d_buy_L4 w (n := n) (y := 0) (e := min (aN A) 1) (by omega) (by omega) rfl (v1 := -1) (by decide) hd1 hD1 g3 (K := fun (w50 : Int32) (w51 : Int32) (s52 : eb_S) => if (0 : Int32) ≤ -1 then (some (w50, s52)) else (some (w51, s52))) n 0 (by omega) (by omega)
    rw [z1, z2, z3, nI_0] at l4
    rw [l4, if_neg (by decide)]
    unfold vBy lsk
    rw [if_pos rfl]
    by_cases e : aN A = 0
    · rw [if_pos (by omega)]
      unfold lstA
      rw [if_pos e, nI_0]
    · rw [if_neg (by omega)]
  · subst h
    have pn := p_nn (show t < 2 ^ 31 by omega)
    have l4 := d_buy_L4 w (n := n) (y := t) (e := t + 1) (by omega) (by omega) (by omega) (v1 := nI t) (by simp only [pn, if_true]) hd1 hD1 g3 (K := fun (w50 : Int32) (w51 : Int32) (s52 : eb_S) => if (0 : Int32) ≤ nI t then (some (w50, s52)) else (some (w51, s52))) n 0 (by omega) (by omega)
    rw [z1, z2, z3, nI_0] at l4
    rw [l4]
    have e2 : lov (gs A (t + 1)).2 = nI (nxt A t) := rfl
    have nn := nI_nn (show t < 2 ^ 31 by omega) (by decide : (-1 : Int32) < 0)
    unfold vBy
    simp only [pn, if_true, nn, if_false, p_cl (show t < 2 ^ 31 by omega), e2]
set_option maxHeartbeats 8000000 in
theorem eq_buying {A : Nat → Nat → Nat} (w : wf A) {n ch : Nat} (hn : 2000 ≤ n) (hch : ch < 2 ^ 30) {σ : eb_S} (hb : ShB σ) (h9 : X9 A ch σ) (hE : XE A ch σ) (hd : ShD σ) (hD : MD A σ) (v : Int32) : ∃ r σ1 σ2, f_X9_buying n 8 v σ = some (r, σ1) ∧ Fq sE σ σ1 ∧ XE A ch σ1 ∧ f_X10_buying n 91 v σ1 = some (r, σ2) ∧ Fr s112 σ1 σ2 := by
  have wN := w.1
  by_cases hv : v = -1 ∨ ∃ t, t < aN A ∧ v = nI t
  · obtain ⟨σ1, g1, g2, g3, g4⟩ := x_bsolve w hn hch h9 hE
    have hd1 : ShD σ1 := g2.shD (fun k j h1 h2 z => by unfold sE at z; omega) hd
    have hD1 : MD A σ1 := g2.md (fun k j h => by unfold sE at h; omega) hD
    obtain ⟨σ2, k1, k2⟩ := d_buying w hn hd1 hD1 hv
    refine ⟨vBy A v, σ1, σ2, ?_, g2, g3, k1, k2⟩
    have it := x_isThing hb h9.1 h9.2.1 w v
    have eb8 : eb_T σ1 8 = eb_T σ 8 ∧ eb_R σ1 8 = eb_R σ 8 := ⟨(g2.1 8 (fun z => by unfold sE at z; omega)).1, (g2.1 8 (fun z => by unfold sE at z; omega)).2.1⟩
    have hbu := hb
    have hE0 := hE.1
    have hE1 := g3.1
    unfold ShB at hbu
    unfold ShE at hE0 hE1
    unfold f_X9_buying vBy
    rcases hv with h | ⟨t, ht, h⟩
    · subst h
      simp [eb_jn_e, eb_gR, eb_gI, eb_tg, hbu, hE0, hE1, eb8, g1, eb_cl_s, m1n, g4.1]
    · subst h
      rw [p_ntoInt (by omega), wi_t.mpr ⟨by omega, by omega⟩] at it
      simp [eb_jn_e, eb_gR, eb_gI, eb_ai, eb_tg, hbu, hE0, hE1, eb8, it, g1, eb_cl_s, eb_b0, nI_nn (show t < 2 ^ 31 by omega) (by decide : (-1 : Int32) < 0), p_nn (show t < 2 ^ 31 by omega), p_in (show t < 10 by omega) (by decide : 10 < 2 ^ 31), p_cl (show t < 2 ^ 31 by omega), g4.2 t ht]
  · have g1 : ¬ v = -1 := fun e => hv (Or.inl e)
    have g3 : wi v.toInt 0 ((aN A : Int) - 1) = false := by
      cases hw : wi v.toInt 0 ((aN A : Int) - 1) with
      | false => rfl
      | true =>
        obtain ⟨t, ht, e⟩ := wi_nat (by omega) hw
        exact absurd (Or.inr ⟨t, ht, e⟩) hv
    have it := x_isThing hb h9.1 h9.2.1 w v
    have dt := d_isThing hd hD w v.toInt64
    rw [p_i64] at dt
    rw [g3] at it dt
    unfold ShB at hb
    unfold ShD at hd
    refine ⟨-1, σ, σ, ?_, Fq.rf, hE, ?_, Fr.rf⟩
    · unfold f_X9_buying; simp [eb_jn_e, g1, eb_tg, hb, it, eb_cl_s, eb_b0]
    · unfold f_X10_buying; simp [eb_jn_e, g1, eb_tg, hd, dt, eb_cl_s, eb_b0]
