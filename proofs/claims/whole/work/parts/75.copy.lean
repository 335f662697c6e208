/-! ===== pure: copy, lay ===== -/
def cpI (it : Nat → Nat → Int64) (f i t j : Nat) : Nat → Nat → Nat → Int64
  | 0 => it
  | k + 1 => iput (cpI it f i t j k) t (j + k) (it f (i + k))
theorem cpI_at {it : Nat → Nat → Int64} {f i t j : Nat} (u q : Nat) : ∀ k, cpI it f i t j k u q = if u = t ∧ j ≤ q ∧ q < j + k then it f (i + (q - j)) else it u q
  | 0 => by rw [if_neg (by omega)]; rfl
  | k + 1 => by
    show iput (cpI it f i t j k) t (j + k) (it f (i + k)) u q = _
    unfold iput
    by_cases e : u = t ∧ q = j + k
    · rw [if_pos e, if_pos (by omega), show q - j = k by omega]
    · rw [if_neg e, cpI_at u q k]
      by_cases e2 : u = t ∧ j ≤ q ∧ q < j + k
      · rw [if_pos e2, if_pos (by omega)]
      · rw [if_neg e2, if_neg (by omega)]
def s118 (k j : Nat) : Prop := k = 118 ∧ j < 1000
theorem s118_0 : ∀ k, ¬ s118 k 1000 := fun k h => by unfold s118 at h; omega
theorem s118_H : ∀ k j, s118 k j → sHd k j := fun k j h => by unfold s118 at h; unfold sHd; omega
set_option maxHeartbeats 4000000 in
theorem d_copy_L1 {ln sz : Nat → Nat} {it : Nat → Nat → Int64} {n f i N : Nat} (hf : f < 4) (hln : ln f ≠ 0) (hi : i + N ≤ 16) {v3 v4 : Int32} {K : eb_S → Option (Int32 × eb_S)} : ∀ (m k : Nat) (σ : eb_S), ShD σ → DH ln sz it σ → (∀ u, u < k → eb_J σ 118 u = it f (i + u)) → k ≤ N → N < k + m → ∃ σ', f_X10_copy_L101 n 91 (nI f) (nI i) v3 v4 (nI N) K m (nI k) σ = K σ' ∧ Fq s118 σ σ' ∧ ∀ u, u < N → eb_J σ' 118 u = it f (i + u) := by
  intro m
  induction m with
  | zero => intro k σ _ _ _ h1 h2; omega
  | succ m ih =>
    intro k σ hd hD hz h1 h2
    rw [f_X10_copy_L101.eq_2]
    by_cases h : N ≤ k
    · have e : k = N := by omega
      subst e
      rw [if_pos (show nI k ≤ nI k by rw [p_leN (by omega) (by omega)]; exact Nat.le_refl _)]
      exact ⟨σ, rfl, Fq.rf, hz⟩
    · rw [if_neg (show ¬ nI N ≤ nI k by rw [p_leN (by omega) (by omega)]; exact h)]
      have hF : Fq s118 σ (eb_sJ σ 118 k (it f (i + k))) := Fq.sJ ⟨rfl, by omega⟩
      obtain ⟨σ', g1, g2, g3⟩ := ih (k + 1) (eb_sJ σ 118 k (it f (i + k))) (hF.shD0 s118_0 hd) (hD.fr hF (fun k j h1 h2 z => by unfold s118 at z; omega)) (fun u hu => by
        rw [eb_J_sJ, if_pos rfl]
        by_cases e : u = k
        · rw [if_pos e, e]
        · rw [if_neg e]; exact hz u (by omega)) (by omega) (by omega)
      refine ⟨σ', ?_, hF.tr g2, g3⟩
      have rd := ((hD f hf).2 hln).2 (i + k) (by omega)
      have ex := p_x16 f i k
      rw [show 16 * f + i + k = 16 * f + (i + k) by omega] at ex
      unfold ShD at hd
      simp [eb_gR, eb_al, eb_wl, hd, ex, p_in (show 16 * f + (i + k) < 64 by omega) (by decide : 64 < 2 ^ 31), p_cl (show 16 * f + (i + k) < 2 ^ 31 by omega), p_in (show k < 16 by omega) (by decide : 16 < 2 ^ 31), p_cl (show k < 2 ^ 31 by omega), rd, nI_1, g1]
set_option maxHeartbeats 4000000 in
theorem d_copy_L2 {ln sz : Nat → Nat} {it : Nat → Nat → Int64} {n f i t j N : Nat} (ht : t < 4) (hj : j + N ≤ 16) : ∀ (m k : Nat) (σ : eb_S), ShD σ → DH ln sz (cpI it f i t j k) σ → (∀ u, u < N → eb_J σ 118 u = it f (i + u)) → k ≤ N → N < k + m → ∃ σ', f_X10_copy_L138 n 91 (nI t) (nI j) (nI N) m (nI k) σ = some (nI N, σ') ∧ Fq sHd σ σ' ∧ DH ln sz (cpI it f i t j N) σ' := by
  intro m
  induction m with
  | zero => intro k σ _ _ _ h1 h2; omega
  | succ m ih =>
    intro k σ hd hD hz h1 h2
    rw [f_X10_copy_L138.eq_2]
    by_cases h : N ≤ k
    · have e : k = N := by omega
      subst e
      rw [if_pos (show nI k ≤ nI k by rw [p_leN (by omega) (by omega)]; exact Nat.le_refl _)]
      exact ⟨σ, rfl, Fq.rf, hD⟩
    · rw [if_neg (show ¬ nI N ≤ nI k by rw [p_leN (by omega) (by omega)]; exact h)]
      have hF : Fq sHd σ (eb_sJ σ 117 (16 * t + (j + k)) (it f (i + k))) := Fq.sJ (by unfold sHd; omega)
      obtain ⟨σ', g1, g2, g3⟩ := ih (k + 1) (eb_sJ σ 117 (16 * t + (j + k)) (it f (i + k))) (hF.shD0 sHd_0 hd) (fun u hu => by
        obtain ⟨c1, c2⟩ := hD u hu
        refine ⟨c1, fun hl => ⟨(c2 hl).1, fun q hq => ?_⟩⟩
        show _ = iput (cpI it f i t j k) t (j + k) (it f (i + k)) u q
        unfold iput
        rw [eb_J_sJ, if_pos rfl]
        by_cases e : u = t ∧ q = j + k
        · rw [if_pos (by omega), if_pos e]
        · rw [if_neg (by omega), if_neg e]; exact (c2 hl).2 q hq) (fun u hu => by
        rw [eb_J_sJ, if_neg (by decide)]; exact hz u hu) (by omega) (by omega)
      refine ⟨σ', ?_, hF.tr g2, g3⟩
      have ex := p_x16 t j k
      rw [show 16 * t + j + k = 16 * t + (j + k) by omega] at ex
      unfold ShD at hd
      simp [eb_gR, eb_al, eb_wl, hd, ex, p_in (show 16 * t + (j + k) < 64 by omega) (by decide : 64 < 2 ^ 31), p_cl (show 16 * t + (j + k) < 2 ^ 31 by omega), p_in (show k < 16 by omega) (by decide : 16 < 2 ^ 31), p_cl (show k < 2 ^ 31 by omega), hz k (by omega), nI_1, g1]
theorem spn_at {i n : Int32} {z : Nat} (hz : z ≤ 16) (h : spn i n z = true) : ∃ i' n' : Nat, i = nI i' ∧ n = nI n' ∧ i' + n' ≤ z := by
  have h : 0 ≤ n.toInt ∧ 0 ≤ i.toInt ∧ i.toInt + n.toInt ≤ z := of_decide_eq_true h
  obtain ⟨i', hi, rfl⟩ := p_nat (x := i) (n := 17) (by decide) h.2.1 (by show i.toInt < 17; omega)
  obtain ⟨n', hn, rfl⟩ := p_nat (x := n) (n := 17) (by decide) h.1 (by show n.toInt < 17; omega)
  rw [p_ntoInt (by omega), p_ntoInt (by omega)] at h
  exact ⟨i', n', rfl, rfl, by omega⟩
set_option maxHeartbeats 4000000 in
theorem eq_copy {ln sz : Nat → Nat} {it : Nat → Nat → Int64} (wh : wfH ln sz) {nn : Nat} (hn : 100 ≤ nn) {σ : eb_S} (hb : ShB σ) (hH : XH ln sz it σ) (hd : ShD σ) (hD : DH ln sz it σ) (a i b j n : Int32) : OPH (f_X9_copy 8 a i b j n) (f_X10_copy nn 91 a i b j n) σ := by
  have x1 := fun σ => x_isSheet a σ
  have d1 := fun σ => d_isSheet a σ
  have x2 := fun σ => x_isSheet b σ
  have d2 := fun σ => d_isSheet b σ
  cases h1 : wi a.toInt 0 3 with
  | false =>
    rw [h1] at x1 d1
    exact OPH.same wh hH hD (r := -1) (by unfold f_X9_copy; simp [x1, eb_cl_s, eb_b0]) (by unfold f_X10_copy; simp [d1, eb_cl_s, eb_b0])
  | true =>
  rw [h1] at x1 d1
  cases h2 : wi b.toInt 0 3 with
  | false =>
    rw [h2] at x2 d2
    exact OPH.same wh hH hD (r := -1) (by unfold f_X9_copy; simp [x1, x2, eb_cl_s, eb_b0]) (by unfold f_X10_copy; simp [d1, d2, eb_cl_s, eb_b0])
  | true =>
  rw [h2] at x2 d2
  obtain ⟨f, hf, rfl⟩ := wi_nat2 (n := 3) (by decide) h1
  obtain ⟨t, ht, rfl⟩ := wi_nat2 (n := 3) (by decide) h2
  have hf : f < 4 := by omega
  have ht : t < 4 := by omega
  have fr' := hb.sh hf
  have tr' := hb.sh ht
  have fa := hH.1.at hf
  have ta := hH.1.at ht
  have fin : eb_in (nI f) 4 = true := p_in hf (by decide)
  have fcl : (nI f).toNatClampNeg = f := p_cl (by omega)
  have tin : eb_in (nI t) 4 = true := p_in ht (by decide)
  have tcl : (nI t).toNatClampNeg = t := p_cl (by omega)
  obtain ⟨fl1, fl2, fl3⟩ := p_l1 (wh f hf).1
  obtain ⟨tl1, tl2, tl3⟩ := p_l1 (wh t ht).1
  have xf := (hH.2 f hf).1
  have xt := (hH.2 t ht).1
  have df := (hD f hf).1
  have dt := (hD t ht).1
  have hbu := hb
  have hdu := hd
  unfold ShB at hbu
  unfold ShD at hdu
  by_cases cf : ln f = 0
  · have q2 : (nI (ln f) - 1 < 0) = True := by rw [fl2]; exact eq_true cf
    have q3 : (nI (ln f) - 1 = -1) = True := by rw [fl3]; exact eq_true cf
    exact OPH.same wh hH hD (r := -11) (by unfold f_X9_copy f_X7_isMissing; simp [x1, x2, eb_cl_s, eb_b0, eb_gR, eb_gI, eb_ar, eb_tg, hbu, fin, fcl, tin, tcl, fr', tr', fa, xf, q3]) (by unfold f_X10_copy; simp [d1, d2, eb_cl_s, eb_b0, eb_gR, eb_ai, hdu, fin, fcl, df, q2])
  have p2 : (nI (ln f) - 1 < 0) = False := by rw [fl2]; exact eq_false cf
  have p3 : (nI (ln f) - 1 = -1) = False := by rw [fl3]; exact eq_false cf
  by_cases ct : ln t = 0
  · have q1 : ((0 : Int32) ≤ nI (ln t) - 1) = False := by rw [tl1]; exact eq_false (fun z => z ct)
    have q3 : (nI (ln t) - 1 = -1) = True := by rw [tl3]; exact eq_true ct
    exact OPH.same wh hH hD (r := -11) (by unfold f_X9_copy f_X7_isMissing; simp [x1, x2, eb_cl_s, eb_b0, eb_gR, eb_gI, eb_ar, eb_tg, hbu, fin, fcl, tin, tcl, fr', tr', fa, ta, xf, xt, p3, q3]) (by unfold f_X10_copy; simp [d1, d2, eb_cl_s, eb_b0, eb_gR, eb_ai, hdu, fin, fcl, tin, tcl, df, dt, p2, q1])
  have r1 : ((0 : Int32) ≤ nI (ln t) - 1) = True := by rw [tl1]; exact eq_true ct
  have r3 : (nI (ln t) - 1 = -1) = False := by rw [tl3]; exact eq_false ct
  obtain ⟨lf, hlf⟩ : ∃ l, ln f = l + 1 := ⟨ln f - 1, by omega⟩
  obtain ⟨lt, hlt⟩ : ∃ l, ln t = l + 1 := ⟨ln t - 1, by omega⟩
  have wf4 := (wh f hf).1
  have wt4 := (wh t ht).1
  rw [hlf, nI_pred] at xf df p2 p3
  rw [hlt, nI_pred] at xt dt r1 r3
  have eqn : (nI lf = nI lt) = (lf = lt) := p_eqN (by omega) (by omega)
  by_cases cl : lf = lt
  · subst cl
    have sf := x_spans hH wh hf cf i n
    have st := x_spans hH wh ht ct j n
    by_cases c1 : spn i n (sz f) = true
    · rw [c1] at sf
      by_cases c2 : spn j n (sz t) = true
      · rw [c2] at st
        obtain ⟨i', n', rfl, rfl, o1⟩ := spn_at (wh f hf).2 c1
        obtain ⟨j', n'', rfl, e2, o2⟩ := spn_at (wh t ht).2 c2
        have zf := (wh f hf).2
        have zt := (wh t ht).2
        have : n'' = n' := by
          have := (p_eqN (a := n') (b := n'') (by omega) (by omega)).mp e2
          exact this.symm
        subst this
        have F1 : Fq (sXs t) σ (eb_rJ σ (83 + 2 * t) (va_cpy (eb_J σ (83 + 2 * f)) (eb_J σ (83 + 2 * t)) i' j' n'')) := ⟨fun _ _ => ⟨rfl, rfl, rfl⟩, fun p q hpq => ⟨rfl, by
          rw [eb_J_rJ]
          by_cases e : p = 83 + 2 * t
          · rw [if_pos e]
            unfold va_cpy
            rw [if_neg (fun z => hpq ⟨Or.inr e, by omega⟩), e]
          · rw [if_neg e]⟩, Nat.le_refl _⟩
        have F1H := F1.mono (sXs_H (s := t) ht)
        have hd1 := F1H.shD0 sH_0 hd
        have hD1 := hD.x F1H
        have w1 := d_why hd1 hD1 wh (s := f) (l := lf) hf (by omega) (nI i') (nI n'') (by rw [p_ntoInt (by omega)]; omega)
        have w2 := d_why hd1 hD1 wh (s := t) (l := lf) ht (by omega) (nI j') (nI n'') (by rw [p_ntoInt (by omega)]; omega)
        have e1 : rfs ln sz f lf (nI i') (nI n'') = 0 := by unfold rfs; rw [if_neg cf, if_pos hlf, if_pos c1]
        have e2 : rfs ln sz t lf (nI j') (nI n'') = 0 := by unfold rfs; rw [if_neg ct, if_pos hlt, if_pos c2]
        rw [e1] at w1
        rw [e2] at w2
        obtain ⟨σ2, g1, g2, g3⟩ := d_copy_L1 (n := nn) (f := f) (i := i') (N := n'') (sz := sz) hf cf (by omega) (v3 := nI t) (v4 := nI j') (K := fun s25 => f_X10_copy_L138 nn 91 (nI t) (nI j') (nI n'') nn 0 s25) nn 0 _ hd1 hD1 (fun u hu => by omega) (by omega) (by omega)
        obtain ⟨σ3, k1, k2, k3⟩ := d_copy_L2 (n := nn) (f := f) (i := i') (t := t) (j := j') (N := n'') (it := it) (sz := sz) (ln := ln) ht (by omega) nn 0 σ2 (g2.shD0 s118_0 hd1) (hD1.fr g2 (fun k j h1 h2 z => by unfold s118 at z; omega)) g3 (by omega) (by omega)
        refine ⟨nI n'', _, σ3, ln, sz, cpI it f i' t j' n'', ?_, F1H, ⟨F1H.shH0 sH_0 hH.1, fun u hu => ?_⟩, ?_, (g2.mono s118_H).tr k2, k3, wh⟩
        · unfold f_X9_copy f_X7_isMissing
          simp [x1, x2, eb_cl_s, eb_b0, eb_gR, eb_gI, eb_ar, eb_tg, hbu, fin, fcl, tin, tcl, fr', tr', fa, ta, xf, xt, p3, sf, st, eb_cj, p_cl (show i' < 2 ^ 31 by omega), p_cl (show j' < 2 ^ 31 by omega), p_cl (show n'' < 2 ^ 31 by omega), p_neg (show i' < 2 ^ 31 by omega), p_neg (show j' < 2 ^ 31 by omega), p_neg (show n'' < 2 ^ 31 by omega), show i' + n'' ≤ 16 by omega, show j' + n'' ≤ 16 by omega]
        · obtain ⟨q1, q2⟩ := hH.2 u hu
          refine ⟨q1, fun hl => ⟨(q2 hl).1, fun q hq => ?_⟩⟩
          rw [cpI_at, eb_J_rJ]
          by_cases e : u = t
          · subst e
            rw [if_pos rfl]
            unfold va_cpy
            by_cases e2 : j' ≤ q ∧ q < j' + n''
            · rw [if_pos e2, if_pos ⟨rfl, e2⟩]; exact ((hH.2 f hf).2 cf).2 _ (by omega)
            · rw [if_neg e2, if_neg (fun z => e2 z.2)]; exact (q2 hl).2 q hq
          · rw [if_neg (by omega), if_neg (fun z => e z.1)]; exact (q2 hl).2 q hq
        · have df1 := (hD1 f hf).1
          have dt1 := (hD1 t ht).1
          rw [hlf, nI_pred] at df1
          rw [hlt, nI_pred] at dt1
          unfold ShD at hd1
          rw [nI_0] at g1 k1
          have nn0 : ¬ nI n'' < 0 := nI_pos (by omega)
          unfold f_X10_copy
          simp only [d1, d2, eb_cl_s, eb_b0, Bool.true_eq_false, if_false, eb_gR, eb_ai, eb_tg, hd1, List.mem_singleton, if_true, true_and, ne_eq, show ¬ (115 : Nat) = 0 by decide, not_false_eq_true, fin, fcl, tin, tcl, df1, dt1, p2, r1, nn0, w1, w2, show ¬ (0 : Int32) < 0 by decide, show (0 : Int32) ≤ 0 by decide]
          rw [g1]
          exact k1
      · have c2 : spn j n (sz t) = false := by cases h : spn j n (sz t) with
          | true => exact absurd h c2
          | false => rfl
        rw [c2] at st
        have n0 : ¬ n < 0 := by
          have c1 : 0 ≤ n.toInt ∧ 0 ≤ i.toInt ∧ i.toInt + n.toInt ≤ sz f := of_decide_eq_true c1
          rw [p_lt0]; omega
        have n0' : 0 ≤ n.toInt := by rw [p_lt0] at n0; omega
        have w1 := d_why hd hD wh (s := f) (l := lf) hf (by omega) i n n0'
        have w2 := d_why hd hD wh (s := t) (l := lf) ht (by omega) j n n0'
        have e1 : rfs ln sz f lf i n = 0 := by unfold rfs; rw [if_neg cf, if_pos hlf, if_pos c1]
        have e2 : rfs ln sz t lf j n = -13 := by unfold rfs; rw [if_neg ct, if_pos hlt, if_neg (by rw [c2]; decide)]
        rw [e1] at w1
        rw [e2] at w2
        exact OPH.same wh hH hD (r := -13) (by unfold f_X9_copy f_X7_isMissing; simp [x1, x2, eb_cl_s, eb_b0, eb_gR, eb_gI, eb_ar, eb_tg, hbu, fin, fcl, tin, tcl, fr', tr', fa, ta, xf, xt, p3, sf, st]) (by unfold f_X10_copy; simp [d1, d2, eb_cl_s, eb_b0, eb_gR, eb_ai, eb_tg, hdu, fin, fcl, tin, tcl, df, dt, p2, r1, n0, w1, w2, show ¬ (0 : Int32) ≤ -13 by decide])
    · have c1 : spn i n (sz f) = false := by cases h : spn i n (sz f) with
        | true => exact absurd h c1
        | false => rfl
      rw [c1] at sf
      by_cases n0 : n < 0
      · exact OPH.same wh hH hD (r := -13) (by unfold f_X9_copy f_X7_isMissing; simp [x1, x2, eb_cl_s, eb_b0, eb_gR, eb_gI, eb_ar, eb_tg, hbu, fin, fcl, tin, tcl, fr', tr', fa, ta, xf, xt, p3, sf]) (by unfold f_X10_copy; simp [d1, d2, eb_cl_s, eb_b0, eb_gR, eb_ai, eb_tg, hdu, fin, fcl, tin, tcl, df, dt, p2, r1, n0])
      · have n0' : 0 ≤ n.toInt := by rw [p_lt0] at n0; omega
        have w1 := d_why hd hD wh (s := f) (l := lf) hf (by omega) i n n0'
        have e1 : rfs ln sz f lf i n = -13 := by unfold rfs; rw [if_neg cf, if_pos hlf, if_neg (by rw [c1]; decide)]
        rw [e1] at w1
        exact OPH.same wh hH hD (r := -13) (by unfold f_X9_copy f_X7_isMissing; simp [x1, x2, eb_cl_s, eb_b0, eb_gR, eb_gI, eb_ar, eb_tg, hbu, fin, fcl, tin, tcl, fr', tr', fa, ta, xf, xt, p3, sf]) (by unfold f_X10_copy; simp [d1, d2, eb_cl_s, eb_b0, eb_gR, eb_ai, eb_tg, hdu, fin, fcl, tin, tcl, df, dt, p2, r1, n0, w1, show (-13 : Int32) < 0 by decide])
  · have q : (nI lf = nI lt) = False := by rw [eqn]; exact eq_false cl
    exact OPH.same wh hH hD (r := -12) (by unfold f_X9_copy f_X7_isMissing; simp [x1, x2, eb_cl_s, eb_b0, eb_gR, eb_gI, eb_ar, eb_tg, hbu, fin, fcl, tin, tcl, fr', tr', fa, ta, xf, xt, p3, r3, q]) (by unfold f_X10_copy; simp [d1, d2, eb_cl_s, eb_b0, eb_gR, eb_ai, hdu, fin, fcl, tin, tcl, df, dt, p2, r1, q])
