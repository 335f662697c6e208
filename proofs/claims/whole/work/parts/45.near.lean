/-! ===== pure: how near to even a row can still come ===== -/
def offp (A : Nat → Nat → Nat) (p : Nat → Nat) (s t : Nat) : Int := ((ldB A p 0 s t * aR A 1 : Nat) : Int) - ((ldB A p 1 s t * aR A 0 : Nat) : Int)
def lst (A : Nat → Nat → Nat) (p : Nat → Nat) (s t : Nat) : Int := offp A p s t - ((ahd A s t * aR A 0 : Nat) : Int)
def mst (A : Nat → Nat → Nat) (p : Nat → Nat) (s t : Nat) : Int := offp A p s t + ((ahd A s t * aR A 1 : Nat) : Int)
def near (A : Nat → Nat → Nat) (p : Nat → Nat) (s t : Nat) : Nat := (max (lst A p s t) (-(mst A p s t))).toNat
theorem offp_bd {A : Nat → Nat → Nat} (w : wf A) (p : Nat → Nat) (s : Nat) {t : Nat} (ht : t ≤ aN A) : -8910 ≤ offp A p s t ∧ offp A p s t ≤ 8910 := by
  have wN := w.1
  have r0 := w.2.2.2.2.2.1 0 (by decide)
  have r1 := w.2.2.2.2.2.1 1 (by decide)
  have l0 := ldB_le w p 0 s t ht
  have l1 := ldB_le w p 1 s t ht
  have m0 : ldB A p 0 s t * aR A 1 ≤ 990 * 9 := Nat.mul_le_mul (by omega) r1.2
  have m1 : ldB A p 1 s t * aR A 0 ≤ 990 * 9 := Nat.mul_le_mul (by omega) r0.2
  unfold offp
  omega
theorem lst_bd {A : Nat → Nat → Nat} (w : wf A) (p : Nat → Nat) (s : Nat) {t : Nat} (ht : t ≤ aN A) : -17820 ≤ lst A p s t ∧ lst A p s t ≤ 8910 ∧ -8910 ≤ mst A p s t ∧ mst A p s t ≤ 17820 := by
  have r0 := w.2.2.2.2.2.1 0 (by decide)
  have r1 := w.2.2.2.2.2.1 1 (by decide)
  have h := offp_bd w p s ht
  have a := ahd_le w s t
  have m0 : ahd A s t * aR A 0 ≤ 990 * 9 := Nat.mul_le_mul a r0.2
  have m1 : ahd A s t * aR A 1 ≤ 990 * 9 := Nat.mul_le_mul a r1.2
  unfold lst mst
  omega
theorem near_bd {A : Nat → Nat → Nat} (w : wf A) (p : Nat → Nat) (s : Nat) {t : Nat} (ht : t ≤ aN A) : near A p s t ≤ 8910 := by
  have h := lst_bd w p s ht
  unfold near
  omega
theorem near_end {A : Nat → Nat → Nat} (p : Nat → Nat) (s : Nat) : near A p s (aN A) = (off A p s).natAbs := by
  have e : offp A p s (aN A) = off A p s := rfl
  unfold near lst mst
  rw [ahd_end, e]
  omega
/-- q goes on where p ends -/
def goon (A : Nat → Nat → Nat) (p : Nat → Nat) (t : Nat) (q : Nat → Nat) : Prop := ∀ u, u < t → q u = p u
theorem ldB_grow {A : Nat → Nat → Nat} (q : Nat → Nat) (s t b : Nat) : ∀ d, ldB A q b s t ≤ ldB A q b s (t + d)
  | 0 => Nat.le_refl _
  | d + 1 => Nat.le_trans (ldB_grow q s t b d) (Nat.le_add_right _ _)
theorem ldB_both {A : Nat → Nat → Nat} (q : Nat → Nat) (s t : Nat) : ∀ d, ldB A q 0 s (t + d) + ldB A q 1 s (t + d) + lsum A s t ≤ ldB A q 0 s t + ldB A q 1 s t + lsum A s (t + d)
  | 0 => by simp
  | d + 1 => by
    have h := ldB_both (A := A) q s t d
    show (ldB A q 0 s (t + d) + if q (t + d) = 0 then ldT A (t + d) s else 0) + (ldB A q 1 s (t + d) + if q (t + d) = 1 then ldT A (t + d) s else 0) + lsum A s t ≤ ldB A q 0 s t + ldB A q 1 s t + (lsum A s (t + d) + ldT A (t + d) s)
    by_cases e0 : q (t + d) = 0
    · rw [if_pos e0, if_neg (by omega)]; omega
    · rw [if_neg e0]
      by_cases e1 : q (t + d) = 1
      · rw [if_pos e1]; omega
      · rw [if_neg e1]; omega
theorem lst_mst {A : Nat → Nat → Nat} {p q : Nat → Nat} {s t : Nat} (ht : t ≤ aN A) (hq : goon A p t q) : lst A p s t ≤ off A q s ∧ off A q s ≤ mst A p s t := by
  obtain ⟨d, hd⟩ : ∃ d, aN A = t + d := ⟨aN A - t, by omega⟩
  have g0 := ldB_grow (A := A) q s t 0 d
  have g1 := ldB_grow (A := A) q s t 1 d
  have gb := ldB_both (A := A) q s t d
  rw [← hd] at g0 g1 gb
  have c0 : ldB A q 0 s t = ldB A p 0 s t := ldB_cong t hq
  have c1 : ldB A q 1 s t = ldB A p 1 s t := ldB_cong t hq
  have gm : lsum A s t ≤ lsum A s (aN A) := lsum_mono' ht
  rw [c0, c1] at gb
  rw [c0] at g0
  rw [c1] at g1
  unfold lst mst offp off ahd
  obtain ⟨x, hx⟩ : ∃ x, ldB A q 0 s (aN A) = ldB A p 0 s t + x := ⟨ldB A q 0 s (aN A) - ldB A p 0 s t, by omega⟩
  obtain ⟨y, hy⟩ : ∃ y, ldB A q 1 s (aN A) = ldB A p 1 s t + y := ⟨ldB A q 1 s (aN A) - ldB A p 1 s t, by omega⟩
  rw [hx, hy]
  rw [hx, hy] at gb
  have hxa : x + y ≤ lsum A s (aN A) - lsum A s t := by omega
  rw [Nat.add_mul, Nat.add_mul]
  have m1 : x * aR A 1 ≤ (lsum A s (aN A) - lsum A s t) * aR A 1 := Nat.mul_le_mul_right _ (by omega)
  have m2 : y * aR A 0 ≤ (lsum A s (aN A) - lsum A s t) * aR A 0 := Nat.mul_le_mul_right _ (by omega)
  generalize (lsum A s (aN A) - lsum A s t) * aR A 1 = e1 at *
  generalize (lsum A s (aN A) - lsum A s t) * aR A 0 = e2 at *
  generalize x * aR A 1 = e3 at *
  generalize y * aR A 0 = e4 at *
  generalize ldB A p 0 s t * aR A 1 = e5 at *
  generalize ldB A p 1 s t * aR A 0 = e6 at *
  omega
theorem near_le {A : Nat → Nat → Nat} {p q : Nat → Nat} {s t : Nat} (ht : t ≤ aN A) (hq : goon A p t q) : near A p s t ≤ (off A q s).natAbs := by
  have h := lst_mst (s := s) ht hq
  unfold near
  omega
theorem near_a (a b c r q : Nat) : ((a * r : Nat) : Int) - (((b + c) * q : Nat) : Int) = ((a * r : Nat) : Int) - ((b * q : Nat) : Int) - ((c * q : Nat) : Int) := by
  rw [Nat.add_mul]
  omega
theorem near_b (a b c r q : Nat) : (((a + c) * r : Nat) : Int) - ((b * q : Nat) : Int) = ((a * r : Nat) : Int) - ((b * q : Nat) : Int) + ((c * r : Nat) : Int) := by
  rw [Nat.add_mul]
  omega
set_option maxHeartbeats 2000000 in
theorem x_least {A : Nat → Nat → Nat} (w : wf A) {v t s : Nat} {p : Nat → Nat} {σ : eb_S} (hv : SS v σ) (hs : ShM9 σ) (hX : MX9 A σ) (hA : AH A v 0 σ) (hL : LD A p t v σ) (ht : t ≤ aN A) (h5 : s < aS A) : f_X6_leastOff v (nI t) (nI s) σ = some (iI (lst A p s t), σ) ∧ f_X6_mostOff v (nI t) (nI s) σ = some (iI (mst A p s t), σ) := by
  have wS := w.2.2.1
  have ob1 := x_offBetween hs hX (nI (ldB A p 0 s t)) (nI (ldB A p 1 s t) + nI (ahd A s t))
  have ob2 := x_offBetween hs hX (nI (ldB A p 0 s t) + nI (ahd A s t)) (nI (ldB A p 1 s t))
  have e0 := hL.at w h5 (b := 0) (by decide)
  have e1 := hL.at w h5 (b := 1) (by decide)
  have e2 := x_loadAhead hv hs hX w hA (Nat.zero_le _) ht h5
  unfold SS at hv
  have h9 : eb_T σ v = 0 ∨ eb_T σ v = 4 ∨ eb_T σ v = 5 := by simpa using hv.1
  unfold ShM9 at hs
  unfold f_X6_leastOff f_X6_mostOff lst mst offp
  rw [← near_a, ← near_b]
  simp only [eb_ts, if_true, eb_gR, eb_ai, eb_tg, hv, hs, p_x30, p_x31, p_in (show s * 3 + 0 < 15 by omega) (by decide : 15 < 2 ^ 31), p_cl (show s * 3 + 0 < 2 ^ 31 by omega), p_in (show s * 3 + 1 < 15 by omega) (by decide : 15 < 2 ^ 31), p_cl (show s * 3 + 1 < 2 ^ 31 by omega), e0, e1, e2, ob1, ob2, eb_cl_s]
  constructor <;> simp [pk_mul, nI_iI, iI_sub, iI_add, iI_mul, eb_cl_s]
theorem p_near {a b : Int} (ha : -2147483648 ≤ a ∧ a < 2147483648) (hb : -2147483648 ≤ b ∧ b < 2147483648) : (if (0 : Int32) < (if iI a < iI b then iI b else iI a) then (if iI a < iI b then iI b else iI a) else 0) = nI (max a b).toNat := by
  have e : (if iI a < iI b then iI b else iI a) = iI (max a b) := by
    by_cases h : a < b
    · have h2 : iI a < iI b := by rw [p_ltI ha hb]; exact h
      rw [if_pos h2, Int.max_eq_right (by omega)]
    · have h2 : ¬ iI a < iI b := by rw [p_ltI ha hb]; exact h
      rw [if_neg h2, Int.max_eq_left (by omega)]
  have l : ((0 : Int32) < iI (max a b)) = (0 < max a b) := p_ltI (a := 0) (b := max a b) (by omega) (by omega)
  rw [e, nI_iI]
  by_cases h : 0 < max a b
  · rw [if_pos (by rw [l]; exact h)]; congr 1; omega
  · rw [if_neg (by rw [l]; exact h), show ((max a b).toNat : Int) = 0 by omega]; rfl
theorem x_near {A : Nat → Nat → Nat} (w : wf A) {v t s : Nat} {p : Nat → Nat} {σ : eb_S} (hv : SS v σ) (hs : ShM9 σ) (hX : MX9 A σ) (hA : AH A v 0 σ) (hL : LD A p t v σ) (ht : t ≤ aN A) (h5 : s < aS A) : f_X6_nearestOff v (nI t) (nI s) σ = some (nI (near A p s t), σ) := by
  obtain ⟨e1, e2⟩ := x_least w hv hs hX hA hL ht h5
  have bd := lst_bd w p s ht
  unfold SS at hv
  unfold f_X6_nearestOff
  simp only [eb_ts, hv, if_true, e1, e2, eb_cl_s, iI_neg]
  rw [p_near (by omega) (by omega)]
  rfl
