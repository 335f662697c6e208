/-! ===== pure: item, film, copy ===== -/
def lowb (l : Nat) (v : Int64) : Int64 := if l = 0 then (v.toInt32.toInt8.toInt32).toInt64 else if l = 1 then (v.toInt32.toInt16.toInt32).toInt64 else if l = 2 then v.toInt32.toInt64 else v
def iput (it : Nat → Nat → Int64) (s i : Nat) (x : Int64) : Nat → Nat → Int64 := fun u j => if u = s ∧ j = i then x else it u j
set_option maxHeartbeats 4000000 in
theorem x_write {ln sz : Nat → Nat} {it : Nat → Nat → Int64} {s l i : Nat} (hs : s < 4) (hl : l < 4) (hln : ln s = l + 1) (hi : i < 16) {σ : eb_S} (hH : XH ln sz it σ) (v : Int64) : ∃ σ', f_X7_write (82 + 2 * s) (nI i) v σ = some ((), σ') ∧ Fq (sXs s) σ σ' ∧ XH ln sz (iput it s i (lowb l v)) σ' := by
  have a := hH.1.at hs
  obtain ⟨b1, b2⟩ := hH.2 s hs
  rw [hln, nI_pred] at b1
  have b2 := b2 (by omega)
  have hF : Fq (sXs s) σ (eb_sJ σ (83 + 2 * s) i (lowb l v)) := Fq.sJ ⟨Or.inr rfl, by omega⟩
  refine ⟨_, ?_, hF, hF.shH0 sXs_0 hH.1, fun u hu => ?_⟩
  · have lb : f_X7_lowestBits (82 + 2 * s) v σ = some (lowb l v, σ) := by
      unfold f_X7_lowestBits lowb
      rcases (show l = 0 ∨ l = 1 ∨ l = 2 ∨ l = 3 by omega) with h | h | h | h <;> subst h
      · simp [eb_gI, a, b1, eb_sw, nI_0]
      · simp [eb_gI, a, b1, eb_sw, n_lit1]
      · simp [eb_gI, a, b1, eb_sw, n_lit2]
      · simp [eb_gI, a, b1, eb_sw, n_lit3]
    unfold f_X7_write
    simp [eb_gR, eb_tg, eb_cl_s, eb_wl, a, lb, p_in hi (by decide : 16 < 2 ^ 31), p_cl (show i < 2 ^ 31 by omega)]
  · obtain ⟨c1, c2⟩ := hH.2 u hu
    refine ⟨c1, fun hz => ⟨(c2 hz).1, fun j hj => ?_⟩⟩
    unfold iput
    rw [eb_J_sJ]
    by_cases e : u = s
    · subst e
      rw [if_pos rfl]
      by_cases e2 : j = i
      · rw [if_pos e2, if_pos ⟨rfl, e2⟩]
      · rw [if_neg e2, if_neg (fun z => e2 z.2)]; exact (c2 hz).2 j hj
    · rw [if_neg (by omega), if_neg (fun z => e z.1)]; exact (c2 hz).2 j hj
set_option maxHeartbeats 4000000 in
theorem d_puts {ln sz : Nat → Nat} {it : Nat → Nat → Int64} {s l i : Nat} (hs : s < 4) (hl : l < 4) (hln : ln s = l + 1) (hi : i < 16) {σ : eb_S} (hd : ShD σ) (hH : DH ln sz it σ) (v : Int64) : ∃ σ', f_X10_puts 91 (nI s) (nI i) v σ = some ((), σ') ∧ Fq (sDs s) σ σ' ∧ DH ln sz (iput it s i (lowb l v)) σ' := by
  obtain ⟨b1, b2⟩ := hH s hs
  rw [hln, nI_pred] at b1
  have b2 := b2 (by omega)
  have hF : Fq (sDs s) σ (eb_sJ σ 117 (16 * s + i) (lowb l v)) := Fq.sJ (by unfold sDs; omega)
  refine ⟨_, ?_, hF, fun u hu => ?_⟩
  · have ex : (16 : Int32) * nI s + nI i = nI (16 * s + i) := by rw [show (16 : Int32) = nI 16 from rfl, pk_mul, nI_add]
    have ein : eb_in (nI (16 * s + i)) 64 = true := p_in (by omega) (by decide)
    have ecl : (nI (16 * s + i)).toNatClampNeg = 16 * s + i := p_cl (by omega)
    unfold ShD at hd
    unfold f_X10_puts lowb
    rcases (show l = 0 ∨ l = 1 ∨ l = 2 ∨ l = 3 by omega) with h | h | h | h <;> subst h
    · simp [eb_gR, eb_ai, eb_wl, hd, p_in hs (by decide : 4 < 2 ^ 31), p_cl (show s < 2 ^ 31 by omega), b1, nI_0, ex, ein, ecl]
    · simp [eb_gR, eb_ai, eb_wl, hd, p_in hs (by decide : 4 < 2 ^ 31), p_cl (show s < 2 ^ 31 by omega), b1, n_lit1, ex, ein, ecl]
    · simp [eb_gR, eb_ai, eb_wl, hd, p_in hs (by decide : 4 < 2 ^ 31), p_cl (show s < 2 ^ 31 by omega), b1, n_lit2, ex, ein, ecl]
    · simp [eb_gR, eb_ai, eb_wl, hd, p_in hs (by decide : 4 < 2 ^ 31), p_cl (show s < 2 ^ 31 by omega), b1, n_lit3, ex, ein, ecl]
  · obtain ⟨c1, c2⟩ := hH u hu
    refine ⟨c1, fun hz => ⟨(c2 hz).1, fun j hj => ?_⟩⟩
    unfold iput
    rw [eb_J_sJ, if_pos rfl]
    by_cases e : u = s ∧ j = i
    · rw [if_pos (by omega), if_pos e]
    · rw [if_neg (by omega), if_neg e]; exact (c2 hz).2 j hj
/-- a sheet that isn't refused -/
theorem rfs_at {ln sz : Nat → Nat} (wh : wfH ln sz) {s l k : Nat} (hs : s < 4) (hk : k < 2 ^ 31) {i : Int32} (h : (0 : Int32) ≤ rfs ln sz s l i (nI k)) : ln s = l + 1 ∧ rfs ln sz s l i (nI k) = 0 ∧ ∃ i', i = nI i' ∧ i' + k ≤ 16 ∧ i' + k ≤ sz s := by
  obtain ⟨o1, o2, o3⟩ := rfs_ok h
  have hz := (wh s hs).2
  have o2 : 0 ≤ (nI k).toInt ∧ 0 ≤ i.toInt ∧ i.toInt + (nI k).toInt ≤ sz s := of_decide_eq_true o2
  rw [p_ntoInt (by omega)] at o2
  obtain ⟨i', hi', rfl⟩ := p_nat (x := i) (n := 17) (by decide) o2.2.1 (by show i.toInt < 17; omega)
  rw [p_ntoInt (by omega)] at o2
  exact ⟨o1, o3, i', rfl, by omega, by omega⟩
set_option maxHeartbeats 4000000 in
theorem eq_item {ln sz : Nat → Nat} {it : Nat → Nat → Int64} (wh : wfH ln sz) {σ : eb_S} (hb : ShB σ) (hH : XH ln sz it σ) (hd : ShD σ) (hD : DH ln sz it σ) (a b i : Int32) (v : Int64) : OPH (f_X9_item 8 a b i v) (f_X10_item 91 a b i v) σ := by
  have d1 := fun σ => d_isSheet a σ
  have d2 := fun σ => d_isLane b σ
  have hbu := hb
  have hdu := hd
  unfold ShB at hbu
  unfold ShD at hdu
  cases h1 : wi a.toInt 0 3 with
  | false =>
    rw [h1] at d1
    have rb := x_refusal_bad (σ := σ) (Or.inl h1 : wi a.toInt 0 3 = false ∨ wi b.toInt 0 3 = false) i 1
    exact OPH.same wh hH hD (r := -1) (by unfold f_X9_item; simp [eb_tg, hbu, rb, eb_cl_s, m1n]) (by unfold f_X10_item; simp [d1, eb_cl_s, eb_b0])
  | true =>
  rw [h1] at d1
  cases h2 : wi b.toInt 0 3 with
  | false =>
    rw [h2] at d2
    have rb := x_refusal_bad (σ := σ) (Or.inr h2 : wi a.toInt 0 3 = false ∨ wi b.toInt 0 3 = false) i 1
    exact OPH.same wh hH hD (r := -1) (by unfold f_X9_item; simp [eb_tg, hbu, rb, eb_cl_s, m1n]) (by unfold f_X10_item; simp [d1, d2, eb_cl_s, eb_b0])
  | true =>
  rw [h2] at d2
  obtain ⟨s, hs, rfl⟩ := wi_nat2 (n := 3) (by decide) h1
  obtain ⟨l, hl, rfl⟩ := wi_nat2 (n := 3) (by decide) h2
  have xr := x_refusal hb hH wh (s := s) (l := l) (by omega) (by omega) i (nI 1)
  have dr := d_why hd hD wh (s := s) (l := l) (by omega) (by omega) i (nI 1) (by decide)
  by_cases h3 : (0 : Int32) ≤ rfs ln sz s l i (nI 1)
  · obtain ⟨o1, o2, i', rfl, o3, o4⟩ := rfs_at wh (by omega) (by decide) h3
    rw [o2, n_lit1] at xr
    obtain ⟨σ1, a1, a2, a3⟩ := x_write (s := s) (l := l) (i := i') (by omega) (by omega) o1 (by omega) hH v
    have a2H := a2.mono (sXs_H (s := s) (by omega))
    have hd1 := a2H.shD0 sH_0 hd
    have hD1 := hD.x a2H
    have dr1 := d_why hd1 hD1 wh (s := s) (l := l) (by omega) (by omega) (nI i') (nI 1) (by decide)
    rw [o2, n_lit1] at dr1
    obtain ⟨σ2, b1, b2, b3⟩ := d_puts (s := s) (l := l) (i := i') (by omega) (by omega) o1 (by omega) hd1 hD1 v
    refine ⟨1, σ1, σ2, ln, sz, _, ?_, a2H, a3, ?_, b2.mono sDs_H, b3, wh⟩
    · have hr := hb.sh (s := s) (by omega)
      have hT := (hH.1.at (s := s) (by omega)).1
      unfold f_X9_item
      simp [eb_tg, hbu, xr, eb_cl_s, eb_gR, eb_ar, p_in (show s < 4 by omega) (by decide : 4 < 2 ^ 31), p_cl (show s < 2 ^ 31 by omega), hr, hT, a1]
    · unfold ShD at hd1
      unfold f_X10_item
      simp [d1, d2, eb_tg, hd1, dr1, eb_cl_s, eb_b0, b1]
  · rw [n_lit1] at xr dr h3
    exact OPH.same wh hH hD (r := rfs ln sz s l i 1) (by unfold f_X9_item; simp [eb_tg, hbu, xr, eb_cl_s, h3]) (by unfold f_X10_item; simp [d1, d2, eb_tg, hdu, dr, eb_cl_s, eb_b0, h3])
def filI (A : Nat → Nat → Nat) (it : Nat → Nat → Int64) (s i l : Nat) : Nat → Nat → Nat → Int64
  | 0 => it
  | k + 1 => iput (filI A it s i l k) s (i + k) (lowb l (iI (off A (aB A) k)).toInt64)
set_option maxHeartbeats 4000000 in
theorem x_film_L {A : Nat → Nat → Nat} (w : wf A) {ln sz : Nat → Nat} {it : Nat → Nat → Int64} {n s l i : Nat} (hn : 100 ≤ n) (hs : s < 4) (hl : l < 4) (hln : ln s = l + 1) (hi : i + aS A ≤ 16) {K : eb_S → Option (Int32 × eb_S)} : ∀ (m k : Nat) (σ : eb_S), ShB σ → ShM9 σ → MX9 A σ → XH ln sz (filI A it s i l k) σ → k ≤ aS A → aS A < k + m → ∃ σ', f_X9_film_L27 n 8 (nI s) (nI i) K m (nI k) σ = K σ' ∧ Fq sH σ σ' ∧ XH ln sz (filI A it s i l (aS A)) σ' := by
  intro m
  induction m with
  | zero => intro k σ _ _ _ _ h1 h2; omega
  | succ m ih =>
    intro k σ hb hs9 hX hH h1 h2
    have wS := w.2.2.1
    have xS := hX.2.2.2.2.2.2.1
    have hbu := hb
    have hsu := hs9
    unfold ShB at hbu
    unfold ShM9 at hsu
    rw [f_X9_film_L27.eq_2]
    by_cases h : aS A ≤ k
    · have e : k = aS A := by omega
      subst e
      have le : nI (aS A) ≤ nI (aS A) := by rw [p_leN (by omega) (by omega)]; exact Nat.le_refl _
      exact ⟨σ, by simp [eb_gR, eb_gI, hbu, hsu, xS, le], Fq.rf, hH⟩
    · have nle : ¬ nI (aS A) ≤ nI k := by rw [p_leN (by omega) (by omega)]; omega
      have of := x_offOn hs9 hX w (s := k) (n := n) (by omega) hn
      obtain ⟨σ1, a1, a2, a3⟩ := x_write (s := s) (l := l) (i := i + k) hs hl hln (by omega) hH (iI (off A (aB A) k)).toInt64
      have a2H := a2.mono (sXs_H (s := s) hs)
      obtain ⟨σ', g1, g2, g3⟩ := ih (k + 1) σ1 (a2H.shB0 sH_0 hb) (a2H.shM90 sH_0 hs9) (a2H.mx (fun k j x1 x2 z => by unfold sH at z; omega) hX) a3 (by omega) (by omega)
      refine ⟨σ', ?_, a2H.tr g2, g3⟩
      have hr := hb.sh (s := s) hs
      have hT := (hH.1.at (s := s) hs).1
      simp [eb_gR, eb_gI, eb_ar, eb_tg, eb_cl_s, hbu, hsu, xS, nle, p_in (show s < 4 by omega) (by decide : 4 < 2 ^ 31), p_cl (show s < 2 ^ 31 by omega), hr, hT, of, nI_add, a1, nI_1, g1]
set_option maxHeartbeats 4000000 in
theorem d_film_L {A : Nat → Nat → Nat} (w : wf A) {ln sz : Nat → Nat} {it : Nat → Nat → Int64} {n s l i : Nat} (hn : 100 ≤ n) (hs : s < 4) (hl : l < 4) (hln : ln s = l + 1) (hi : i + aS A ≤ 16) {K : eb_S → Option (Int32 × eb_S)} : ∀ (m k : Nat) (σ : eb_S), ShD σ → MD A σ → DH ln sz (filI A it s i l k) σ → k ≤ aS A → aS A < k + m → ∃ σ', f_X10_film_L40 n 91 (nI s) (nI i) K m (nI k) σ = K σ' ∧ Fq sHd σ σ' ∧ DH ln sz (filI A it s i l (aS A)) σ' := by
  intro m
  induction m with
  | zero => intro k σ _ _ _ h1 h2; omega
  | succ m ih =>
    intro k σ hd hD hH h1 h2
    have wS := w.2.2.1
    have yS := hD.2.2.2.2.2.2.1
    have hdu := hd
    unfold ShD at hdu
    rw [f_X10_film_L40.eq_2]
    by_cases h : aS A ≤ k
    · have e : k = aS A := by omega
      subst e
      have le : nI (aS A) ≤ nI (aS A) := by rw [p_leN (by omega) (by omega)]; exact Nat.le_refl _
      exact ⟨σ, by simp [eb_gI, hdu, yS, le], Fq.rf, hH⟩
    · have nle : ¬ nI (aS A) ≤ nI k := by rw [p_leN (by omega) (by omega)]; omega
      have of := d_offOf hd hD w (MD.bags hd hD w) (s := k) (n := n) (by omega) hn
      obtain ⟨σ1, a1, a2, a3⟩ := d_puts (s := s) (l := l) (i := i + k) hs hl hln (by omega) hd hH (iI (off A (aB A) k)).toInt64
      have a2H := a2.mono (sDs_H (s := s))
      obtain ⟨σ', g1, g2, g3⟩ := ih (k + 1) σ1 (a2H.shD0 sHd_0 hd) (a2H.md (fun k j h => by unfold sHd at h; omega) hD) a3 (by omega) (by omega)
      refine ⟨σ', ?_, a2H.tr g2, g3⟩
      simp [eb_gR, eb_gI, eb_tg, eb_cl_s, hdu, yS, nle, of, nI_add, a1, nI_1, g1]
set_option maxHeartbeats 4000000 in
theorem eq_film {A : Nat → Nat → Nat} (w : wf A) {ln sz : Nat → Nat} {it : Nat → Nat → Int64} (wh : wfH ln sz) {n : Nat} (hn : 100 ≤ n) {σ : eb_S} (hb : ShB σ) (hs9 : ShM9 σ) (hX : MX9 A σ) (hH : XH ln sz it σ) (hd : ShD σ) (hMD : MD A σ) (hD : DH ln sz it σ) (a b i : Int32) : OPH (f_X9_film n 8 a b i) (f_X10_film n 91 a b i) σ := by
  have wS := w.2.2.1
  have xS := hX.2.2.2.2.2.2.1
  have yS := hMD.2.2.2.2.2.2.1
  have d1 := fun σ => d_isSheet a σ
  have d2 := fun σ => d_isLane b σ
  have hbu := hb
  have hdu := hd
  have hsu := hs9
  unfold ShB at hbu
  unfold ShD at hdu
  unfold ShM9 at hsu
  cases h1 : wi a.toInt 0 3 with
  | false =>
    rw [h1] at d1
    have rb := x_refusal_bad (σ := σ) (Or.inl h1 : wi a.toInt 0 3 = false ∨ wi b.toInt 0 3 = false) i (nI (aS A))
    exact OPH.same wh hH hD (r := -1) (by unfold f_X9_film; simp [eb_gR, eb_gI, eb_tg, hbu, hsu, xS, rb, eb_cl_s, m1n]) (by unfold f_X10_film; simp [d1, eb_cl_s, eb_b0])
  | true =>
  rw [h1] at d1
  cases h2 : wi b.toInt 0 3 with
  | false =>
    rw [h2] at d2
    have rb := x_refusal_bad (σ := σ) (Or.inr h2 : wi a.toInt 0 3 = false ∨ wi b.toInt 0 3 = false) i (nI (aS A))
    exact OPH.same wh hH hD (r := -1) (by unfold f_X9_film; simp [eb_gR, eb_gI, eb_tg, hbu, hsu, xS, rb, eb_cl_s, m1n]) (by unfold f_X10_film; simp [d1, d2, eb_cl_s, eb_b0])
  | true =>
  rw [h2] at d2
  obtain ⟨s, hs, rfl⟩ := wi_nat2 (n := 3) (by decide) h1
  obtain ⟨l, hl, rfl⟩ := wi_nat2 (n := 3) (by decide) h2
  have hp : 0 ≤ (nI (aS A)).toInt := by rw [p_ntoInt (by omega)]; omega
  have xr := x_refusal hb hH wh (s := s) (l := l) (by omega) (by omega) i (nI (aS A))
  have dr := d_why hd hD wh (s := s) (l := l) (by omega) (by omega) i (nI (aS A)) hp
  by_cases h3 : (0 : Int32) ≤ rfs ln sz s l i (nI (aS A))
  · obtain ⟨o1, o2, i', rfl, o3, o4⟩ := rfs_at wh (by omega) (by omega) h3
    rw [o2] at xr
    obtain ⟨σ1, a1, a2, a3⟩ := x_film_L w (n := n) (s := s) (l := l) (i := i') (sz := sz) (it := it) hn (by omega) (by omega) o1 (by omega) (K := fun s13 => eb_gR s13 [8] 8 0 fun r14 => eb_gI s13 [3] r14 7 fun x15 => some (x15, s13)) n 0 σ hb hs9 hX hH (by omega) (by omega)
    have hd1 := a2.shD0 sH_0 hd
    have hD1 := hD.x a2
    have hMD1 : MD A σ1 := a2.md (fun k j h => by unfold sH at h; omega) hMD
    have hb1 := a2.shB0 sH_0 hb
    have hs1 := a2.shM90 sH_0 hs9
    have hX1 : MX9 A σ1 := a2.mx (fun k j x1 x2 z => by unfold sH at z; omega) hX
    have xS1 := hX1.2.2.2.2.2.2.1
    have yS1 := hMD1.2.2.2.2.2.2.1
    have dr1 := d_why hd1 hD1 wh (s := s) (l := l) (by omega) (by omega) (nI i') (nI (aS A)) hp
    rw [o2] at dr1
    obtain ⟨σ2, b1, b2, b3⟩ := d_film_L w (n := n) (s := s) (l := l) (i := i') (sz := sz) (it := it) hn (by omega) (by omega) o1 (by omega) (K := fun s13 => eb_gI s13 [9] 91 6 fun x14 => some (x14, s13)) n 0 σ1 hd1 hMD1 hD1 (by omega) (by omega)
    have hd2 := b2.shD0 sHd_0 hd1
    have hMD2 : MD A σ2 := b2.md (fun k j h => by unfold sHd at h; omega) hMD1
    have yS2 := hMD2.2.2.2.2.2.2.1
    refine ⟨nI (aS A), σ1, σ2, ln, sz, _, ?_, a2, a3, ?_, b2, b3, wh⟩
    · rw [nI_0] at a1
      unfold f_X9_film
      simp only [eb_gR, eb_gI, eb_tg, hbu, hsu, xS, xr, eb_cl_s, List.mem_singleton, if_true, true_and, ne_eq, show ¬ (9 : Nat) = 0 by decide, not_false_eq_true, show (0 : Int32) ≤ 0 by decide] at a1 ⊢
      rw [a1]
      unfold ShB at hb1
      unfold ShM9 at hs1
      simp [hb1, hs1, xS1]
    · rw [nI_0] at b1
      unfold ShD at hd1 hd2
      unfold f_X10_film
      simp only [d1, d2, eb_gI, eb_tg, hd1, yS1, dr1, eb_cl_s, eb_b0, Bool.true_eq_false, if_false, List.mem_singleton, if_true, show (0 : Int32) ≤ 0 by decide] at b1 ⊢
      rw [b1]
      simp [hd2, yS2]
  · exact OPH.same wh hH hD (r := rfs ln sz s l i (nI (aS A))) (by unfold f_X9_film; simp [eb_gR, eb_gI, eb_tg, hbu, hsu, xS, xr, eb_cl_s, h3]) (by unfold f_X10_film; simp [d1, d2, eb_gI, eb_tg, hdu, yS, dr, eb_cl_s, eb_b0, h3])
