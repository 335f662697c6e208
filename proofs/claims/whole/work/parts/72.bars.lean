/-! ===== pure: bars ===== -/
def endB (A : Nat → Nat → Nat) (v : Int32) : Bool := wi v.toInt 0 ((aN A : Int) - 1) || wi v.toInt 10 ((aBn A : Int) + 9)
theorem endB_ok {A : Nat → Nat → Nat} (w : wf A) {v : Int32} (h : endB A v = true) : ∃ e : Nat, v = nI e ∧ endok A e (aBn A) ∧ e < 16 := by
  have wN := w.1
  have wBn := w.2.2.2.2.2.2.2.2.1
  unfold endB at h
  rw [Bool.or_eq_true] at h
  rcases h with h | h
  · obtain ⟨e, he, rfl⟩ := wi_nat (by omega) h
    exact ⟨e, rfl, Or.inl he, by omega⟩
  · have := wi_t.mp h
    obtain ⟨e, he, rfl⟩ := p_nat (x := v) (n := 16) (by decide) (by omega) (by show v.toInt < 16; omega)
    rw [p_ntoInt (by omega)] at this
    exact ⟨e, rfl, Or.inr (by omega), by omega⟩
theorem x_isEnd {A : Nat → Nat → Nat} {σ : eb_S} (hb : ShB σ) (hs : ShM9 σ) (hX : MX9 A σ) (w : wf A) (v : Int32) : f_X9_isEnd 8 v σ = some (endB A v, σ) := by
  have wBn := w.2.2.2.2.2.2.2.2.1
  have xBn := hX.2.2.2.2.2.2.2.2.2.2.2.2.2.2.2.2.1
  have it := x_isThing hb hs hX w v
  have e1 : ((10 : Int32) + nI (aBn A) - 1).toInt = (aBn A : Int) + 9 := by
    rw [show (10 : Int32) + nI (aBn A) - 1 = nI (aBn A + 9) from by rw [show (10 : Int32) + nI (aBn A) = nI (10 + aBn A) from nI_add 10 _, show 10 + aBn A = (aBn A + 9) + 1 by omega, nI_pred], p_ntoInt (by omega)]
    omega
  have e2 := x_within v 10 ((10 : Int32) + nI (aBn A) - 1) σ
  rw [e1, show (10 : Int32).toInt = 10 from rfl] at e2
  unfold ShB at hb
  unfold ShM9 at hs
  unfold f_X9_isEnd endB
  cases h1 : wi v.toInt 0 ((aN A : Int) - 1) with
  | true =>
    rw [h1] at it
    simp [eb_tg, hb, it, eb_cl_s, eb_b0]
  | false =>
    rw [h1] at it
    cases h2 : wi v.toInt 10 ((aBn A : Int) + 9) with
    | true => rw [h2] at e2; simp [eb_tg, eb_gR, eb_gI, hb, hs, it, xBn, e2, eb_cl_s, eb_b0]
    | false => rw [h2] at e2; simp [eb_tg, eb_gR, eb_gI, hb, hs, it, xBn, e2, eb_cl_s, eb_b0]
theorem d_isEnd {A : Nat → Nat → Nat} {σ : eb_S} (hd : ShD σ) (hD : MD A σ) (w : wf A) (v : Int32) : f_X10_isEnd 91 v σ = some (endB A v, σ) := by
  have wN := w.1
  have wBn := w.2.2.2.2.2.2.2.2.1
  have yBn := hD.2.2.2.2.2.2.2.2.2.2.2.2.2.2.2.2.1
  have dt := d_isThing hd hD w v.toInt64
  rw [p_i64] at dt
  have bv := i32_bd v
  have c10 : ((10 : Int32) ≤ v) = (10 ≤ v.toInt) := by rw [Int32.le_iff_toInt_le]; rfl
  unfold ShD at hd
  unfold f_X10_isEnd endB
  simp only [c10]
  by_cases h : 10 ≤ v.toInt
  · have e1 : (v - 10).toInt = v.toInt - 10 := by
      rw [iI_of v, show (10 : Int32) = iI 10 from rfl, iI_sub, iI_toInt (by omega) (by omega), iI_toInt (by omega) (by omega)]
    have e2 := d_in (v - 10).toInt64 0 (nI (aBn A) - 1).toInt64 σ
    rw [p_i64, p_i64, e1, p_m1 (by omega), show (0 : Int64).toInt = 0 from rfl] at e2
    have e3 : wi v.toInt 0 ((aN A : Int) - 1) = false := wi_f.mpr (by omega)
    have e4 : wi (v.toInt - 10) 0 ((aBn A : Int) - 1) = wi v.toInt 10 ((aBn A : Int) + 9) := by
      unfold wi
      congr 1
      rw [eq_iff_iff]
      omega
    rw [if_pos h, e3, ← e4]
    simp [eb_gI, hd, yBn, e2, eb_cl_s]
  · have e3 : wi v.toInt 10 ((aBn A : Int) + 9) = false := wi_f.mpr (by omega)
    rw [if_neg h, e3]
    simp [eb_tg, hd, dt, eb_cl_s]
set_option maxHeartbeats 4000000 in
theorem eq_bar {A : Nat → Nat → Nat} (w : wf A) {ch n : Nat} (hn : 100 ≤ n) {σ : eb_S} (hb : ShB σ) (h9 : X9 A ch σ) (hd : ShD σ) (hD : MD A σ) (a b : Int32) : OPM (f_X9_bar n 8 a b) (f_X10_bar n 91 a b) A ch σ := by
  have wBn := w.2.2.2.2.2.2.2.2.1
  have hbu := hb
  have hdu := hd
  have hsu := h9.1
  unfold ShB at hbu
  unfold ShD at hdu
  unfold ShM9 at hsu
  have it := x_isEnd hb h9.1 h9.2.1 w a
  have dt := d_isEnd hd hD w a
  have iu := x_isEnd hb h9.1 h9.2.1 w b
  have du := d_isEnd hd hD w b
  cases h1 : endB A a with
  | false =>
    rw [h1] at it dt
    exact OPM.same w h9 hD (r := -1) (by unfold f_X9_bar; simp [eb_tg, hbu, it, eb_cl_s, eb_b0]) (by unfold f_X10_bar; simp [eb_tg, hdu, dt, eb_cl_s, eb_b0])
  | true =>
  rw [h1] at it dt
  cases h2 : endB A b with
  | false =>
    rw [h2] at iu du
    exact OPM.same w h9 hD (r := -1) (by unfold f_X9_bar; simp [eb_tg, hbu, it, iu, eb_cl_s, eb_b0]) (by unfold f_X10_bar; simp [eb_tg, hdu, dt, du, eb_cl_s, eb_b0])
  | true =>
  rw [h2] at iu du
  by_cases hab : a = b
  · subst hab
    exact OPM.same w h9 hD (r := -1) (by unfold f_X9_bar; simp [eb_tg, hbu, it, eb_cl_s, eb_b0]) (by unfold f_X10_bar; simp [eb_tg, hdu, dt, eb_cl_s, eb_b0])
  obtain ⟨p, rfl, hp, hp16⟩ := endB_ok w h1
  obtain ⟨q, rfl, hq, hq16⟩ := endB_ok w h2
  have xh := x_hangs h9.1 h9.2.1 w (e := p) (by omega) hn
  have dh := d_hangs hd hD w (e := p) (by omega) hn
  cases h3 : hng A p (aBn A) with
  | true =>
    rw [h3] at xh dh
    exact OPM.same w h9 hD (r := -2) (by unfold f_X9_bar; simp [eb_tg, eb_gR, hbu, hsu, it, iu, hab, xh, eb_cl_s, eb_b0]) (by unfold f_X10_bar; simp [eb_tg, hdu, dt, du, hab, dh, eb_cl_s, eb_b0])
  | false =>
  rw [h3] at xh dh
  have xh2 := x_hangs h9.1 h9.2.1 w (e := q) (by omega) hn
  have dh2 := d_hangs hd hD w (e := q) (by omega) hn
  cases h4 : hng A q (aBn A) with
  | true =>
    rw [h4] at xh2 dh2
    exact OPM.same w h9 hD (r := -2) (by unfold f_X9_bar; simp [eb_tg, eb_gR, hbu, hsu, it, iu, hab, xh, xh2, eb_cl_s, eb_b0]) (by unfold f_X10_bar; simp [eb_tg, hdu, dt, du, hab, dh, dh2, eb_cl_s, eb_b0])
  | false =>
  rw [h4] at xh2 dh2
  have xN := h9.2.1.2.2.2.2.2.2.2.2.2.2.2.2.2.2.2.2.1
  have c10 : ((6 : Int32) ≤ nI (aBn A)) = (6 ≤ aBn A) := p_leN (a := 6) (by decide) (by omega)
  have c11 : (nI (aBn A) = (6 : Int32)) = (aBn A = 6) := p_eqN (b := 6) (by omega) (by decide)
  by_cases h10 : aBn A = 6
  · have yN := hD.2.2.2.2.2.2.2.2.2.2.2.2.2.2.2.2.1
    exact OPM.same w h9 hD (r := -3) (by unfold f_X9_bar; simp [eb_tg, it, iu, hab, xh, xh2, eb_cl_s, eb_b0, eb_gR, eb_gI, hbu, hsu, xN, h10, show nI 6 = 6 from rfl]) (by unfold f_X10_bar; simp [eb_tg, dt, du, hab, dh, dh2, eb_cl_s, eb_b0, eb_gI, hdu, yN, h10, show nI 6 = 6 from rfl])
  · obtain ⟨σ1, a1, a2, a3, a4⟩ := x_addBar h9.1 h9.2.1.ft bd_sca (N := aBn A) (k := p) (w := q) xN (by omega) bd_b
    have a2 : Fr sMk σ σ1 := a2
    have hd1 := a2.shD hd
    have hD1 := a2.md nD_sMk hD
    have yN := hD1.2.2.2.2.2.2.2.2.2.2.2.2.2.2.2.2.1
    have dt1 := d_isEnd hd1 hD1 w (nI p)
    have du1 := d_isEnd hd1 hD1 w (nI q)
    have dh1 := d_hangs hd1 hD1 w (e := p) (by omega) hn
    have dh3 := d_hangs hd1 hD1 w (e := q) (by omega) hn
    rw [h1] at dt1
    rw [h2] at du1
    rw [h3] at dh1
    rw [h4] at dh3
    have f1 := FT.add slOk_dS hD1.ft bd_sca 17 (aBn A) p (c := 105) (s := aBn A) (v := nI p) (by decide) (by decide) (bd_b 17 (by decide) (by decide)) rfl rfl rfl
    have g1 := bw_sca (b := bd A) (i0 := 17) (n := aBn A + 1) (by decide) bd_sca
    have f2 := FT.add slOk_dS f1 g1 18 (aBn A) q (c := 106) (s := aBn A) (v := nI q) (by decide) (by decide) (by rw [bw_ne (by decide)]; exact bd_b 18 (by decide) (by decide)) rfl rfl rfl
    have g2 := bw_sca (i0 := 18) (n := aBn A + 1) (by decide) g1
    have f4 := FT.sc slOk_dS f2 g2 16 (aBn A + 1) (c := 91) (s := 16) (v := nI (aBn A + 1)) (by decide) (by decide) rfl rfl rfl
    have tin : eb_in (nI (aBn A)) 6 = true := p_in (by omega) (by decide)
    have tcl : (nI (aBn A)).toNatClampNeg = aBn A := p_cl (by omega)
    refine ⟨nI (aBn A), σ1, _, addB A (aBn A) p q, ch + 1, ?_, a2, ⟨a2.shM9 h9.1, FT.MX9 (a4.cut bd_addB), by rw [a3, h9.2.2, nI_1]⟩, ?_, ((Fr.sI (by unfold sMd; omega)).tr (Fr.sI (by unfold sMd; omega))).tr (Fr.sI (by unfold sMd; omega)), FT.MD (f4.cut bd_addB), wf_addB w (by omega) hp hq (fun z => hab (by rw [z])) (hng_f _ h3) (hng_f _ h4), Or.inr rfl⟩
    · unfold f_X9_bar; simp [it, iu, hab, xh, xh2, eb_cl_s, eb_b0, eb_gR, eb_gI, eb_tg, hbu, hsu, xN, c10, show ¬ 6 ≤ aBn A by omega, a1]
    · unfold ShD at hd1
      unfold f_X10_bar
      simp [dt1, du1, hab, dh1, dh3, eb_cl_s, eb_b0, eb_gR, eb_gI, eb_pI, eb_wi, eb_tg, hd1, yN, c11, h10, eb_T_sI, eb_R_sI, eb_L_sI, eb_J_sI, eb_N_sI, eb_T_sJ, eb_R_sJ, eb_L_sJ, eb_I_sJ, eb_N_sJ, eb_T_rI, eb_R_rI, eb_L_rI, eb_J_rI, eb_N_rI, eb_T_rJ, eb_R_rJ, eb_L_rJ, eb_I_rJ, eb_N_rJ, tin, tcl, eb_I_sI, nI_1, nI_pred]
-- what hangs at an end
def hwE (A : Nat → Nat → Nat) : Nat → Nat → Nat
  | 0, e => aW A e
  | d + 1, e => if e < 10 then aW A e else hwE A d (aB1 A (e - 10)) + hwE A d (aB2 A (e - 10))
theorem endok_up {A : Nat → Nat → Nat} {e b b' : Nat} (h : endok A e b) (hb : b ≤ b') : endok A e b' := by
  unfold endok at h ⊢
  omega
theorem hwE_lo {A : Nat → Nat → Nat} {d e : Nat} (h : e < 10) : hwE A d e = aW A e := by
  cases d with
  | zero => rfl
  | succ d => show (if e < 10 then _ else _) = _; rw [if_pos h]
theorem hwE_bd {A : Nat → Nat → Nat} (w : wf A) : ∀ (d e : Nat), d ≤ aBn A → endok A e d → 1 ≤ hwE A d e ∧ hwE A d e ≤ 99 * 2 ^ d
  | 0, e, h1, h2 => by
    unfold endok at h2
    have h := w.2.1 e (by omega)
    show 1 ≤ aW A e ∧ aW A e ≤ 99 * 1
    omega
  | d + 1, e, h1, h2 => by
    have wN := w.1
    have hp : 2 ^ (d + 1) = 2 * 2 ^ d := by rw [Nat.pow_succ]; omega
    have hp0 : 0 < 2 ^ d := Nat.two_pow_pos d
    by_cases he : e < 10
    · rw [hwE_lo he]
      unfold endok at h2
      have h := w.2.1 e (by omega)
      omega
    · unfold endok at h2
      have hE := w.2.2.2.2.2.2.2.2.2 (e - 10) (by omega)
      have i1 := hwE_bd w d (aB1 A (e - 10)) (by omega) (endok_up hE.1 (by omega))
      have i2 := hwE_bd w d (aB2 A (e - 10)) (by omega) (endok_up hE.2.1 (by omega))
      show 1 ≤ (if e < 10 then _ else _) ∧ (if e < 10 then _ else _) ≤ _
      rw [if_neg he]
      omega
theorem hwE_st {A : Nat → Nat → Nat} (w : wf A) : ∀ (d e j : Nat), d ≤ aBn A → endok A e d → hwE A (d + j) e = hwE A d e
  | 0, e, j, h1, h2 => by
    have wN := w.1
    unfold endok at h2
    rw [hwE_lo (by omega), hwE_lo (by omega)]
  | d + 1, e, j, h1, h2 => by
    by_cases he : e < 10
    · rw [hwE_lo he, hwE_lo he]
    · have wN := w.1
      unfold endok at h2
      have hE := w.2.2.2.2.2.2.2.2.2 (e - 10) (by omega)
      have i1 := hwE_st w d (aB1 A (e - 10)) j (by omega) (endok_up hE.1 (by omega))
      have i2 := hwE_st w d (aB2 A (e - 10)) j (by omega) (endok_up hE.2.1 (by omega))
      rw [show d + 1 + j = (d + j) + 1 by omega]
      show (if e < 10 then _ else _) = (if e < 10 then _ else _)
      rw [if_neg he, if_neg he, i1, i2]
def s113 (k _j : Nat) : Prop := k = 113
theorem nD_s113 : nD s113 := fun k j h => by unfold s113 at h; omega
set_option maxHeartbeats 4000000 in
theorem d_hangsOn {A : Nat → Nat → Nat} {σ : eb_S} (hd : ShD σ) (hD : MD A σ) (w : wf A) {k e : Nat} (hk : k ≤ aBn A) (he : endok A e k) (hz : ∀ j, j < k → eb_I σ 113 j = nI (hwE A (j + 1) (10 + j))) : f_X10_hangsOn 91 (nI e) σ = some (nI (hwE A k e), σ) := by
  have wN := w.1
  have wBn := w.2.2.2.2.2.2.2.2.1
  unfold ShD at hd
  unfold f_X10_hangsOn
  unfold endok at he
  by_cases h : e < aN A
  · have yW := hD.2.2.1 e h
    rw [hwE_lo (by omega), if_neg (show ¬ (10 : Int32) ≤ nI e by rw [show (10 : Int32) = nI 10 from rfl, p_leN (by decide) (by omega)]; omega)]
    simp [eb_gR, eb_ai, hd, p_in (show e < 10 by omega) (by decide : 10 < 2 ^ 31), p_cl (show e < 2 ^ 31 by omega), yW]
  · obtain ⟨b, rfl⟩ : ∃ b, e = b + 10 := ⟨e - 10, by omega⟩
    have es : nI (b + 10) - 10 = nI b := pk_sub (a := b + 10) (b := 10) (by omega)
    have z := hz b (by omega)
    have st := hwE_st w (b + 1) (10 + b) (k - (b + 1)) (by omega) (Or.inr (by omega))
    rw [show b + 1 + (k - (b + 1)) = k by omega] at st
    rw [if_pos (show (10 : Int32) ≤ nI (b + 10) by rw [show (10 : Int32) = nI 10 from rfl, p_leN (by decide) (by omega)]; omega), Nat.add_comm b 10, st, Nat.add_comm 10 b]
    rw [Nat.add_comm 10 b] at z
    simp [eb_gR, eb_ai, hd, es, p_in (show b < 6 by omega) (by decide : 6 < 2 ^ 31), p_cl (show b < 2 ^ 31 by omega), z]
set_option maxHeartbeats 4000000 in
theorem d_hung_L {A : Nat → Nat → Nat} (w : wf A) {n b : Nat} (hb : b < aBn A) {v : Int32} {K : eb_S → Option (Int32 × eb_S)} : ∀ (m k : Nat) (σ : eb_S), ShD σ → MD A σ → (∀ j, j < k → eb_I σ 113 j = nI (hwE A (j + 1) (10 + j))) → k ≤ b + 1 → b + 1 < k + m → ∃ σ', f_X10_hung_L32 n 91 (nI b) v K m (nI k) σ = K σ' ∧ Fr s113 σ σ' ∧ ∀ j, j < b + 1 → eb_I σ' 113 j = nI (hwE A (j + 1) (10 + j)) := by
  intro m
  induction m with
  | zero => intro k σ _ _ _ h1 h2; omega
  | succ m ih =>
    intro k σ hd hD hz h1 h2
    have wBn := w.2.2.2.2.2.2.2.2.1
    rw [f_X10_hung_L32.eq_2]
    by_cases h : b < k
    · have e : k = b + 1 := by omega
      subst e
      exact ⟨σ, by rw [if_pos (by rw [p_ltN (by omega) (by omega)]; exact h)], Fr.rf, hz⟩
    · rw [if_neg (by rw [p_ltN (by omega) (by omega)]; exact h)]
      have hE := w.2.2.2.2.2.2.2.2.2 k (by omega)
      have o1 := d_hangsOn hd hD w (k := k) (e := aB1 A k) (by omega) hE.1 hz
      have o2 := d_hangsOn hd hD w (k := k) (e := aB2 A k) (by omega) hE.2.1 hz
      have y1 := hD.2.2.2.2.2.2.2.2.2.2.2.2.2.2.2.2.2.1 k (by omega)
      have y2 := hD.2.2.2.2.2.2.2.2.2.2.2.2.2.2.2.2.2.2 k (by omega)
      have ev : hwE A (k + 1) (10 + k) = hwE A k (aB1 A k) + hwE A k (aB2 A k) := by
        show (if 10 + k < 10 then _ else _) = _
        rw [if_neg (by omega), show 10 + k - 10 = k by omega]
      have hF : Fr s113 σ (eb_sI σ 113 k (nI (hwE A k (aB1 A k) + hwE A k (aB2 A k)))) := Fr.sI rfl
      obtain ⟨σ', g1, g2, g3⟩ := ih (k + 1) _ (hF.shD hd) (hF.md nD_s113 hD) (fun i hi => by
        rw [eb_I_sI, if_pos rfl]
        by_cases e : i = k
        · rw [if_pos e, e, ev]
        · rw [if_neg e]; exact hz i (by omega)) (by omega) (by omega)
      refine ⟨σ', ?_, hF.tr g2, g3⟩
      unfold ShD at hd
      simp [eb_gR, eb_ai, eb_wi, eb_tg, eb_cl_s, hd, p_in (show k < 6 by omega) (by decide : 6 < 2 ^ 31), p_cl (show k < 2 ^ 31 by omega), y1, y2, o1, o2, nI_add, nI_1, g1]
