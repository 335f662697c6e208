/-! ===== pure: fractions, pole ===== -/
def fr (u l : Nat) (v : Int32) : Int32 := if v = 0 then nI (u / Nat.gcd u l) else nI (l / Nat.gcd u l)
theorem gcd_step (a b : Nat) : Nat.gcd a b = Nat.gcd b (a % b) := by
  rw [Nat.gcd_comm a b, Nat.gcd_rec b a, Nat.gcd_comm]
theorem half_rem {b c : Nat} (h0 : 0 < c) (h : c < b) : 2 * (b % c) < b := by
  have h1 := Nat.mod_lt b h0
  have h2 := Nat.mod_add_div b c
  have h3 : 1 ≤ b / c := (Nat.one_le_div_iff h0).mpr (Nat.le_of_lt h)
  have h4 : c * 1 ≤ c * (b / c) := Nat.mul_le_mul_left c h3
  omega
theorem x_low_L {n : Nat} {v0 v1 v2 : Int32} {K : Int32 → eb_S → Option (Int32 × eb_S)} {σ : eb_S} : ∀ (j a b k m : Nat), b < 2 ^ j → j ≤ 31 → a < 2 ^ 31 → k + 2 * j < 100 → 2 * j < m → f_X9_inLowestTerms_L8 n v0 v1 v2 K m (nI a) (nI b) (nI k) σ = K (nI (Nat.gcd a b)) σ := by
  intro j
  induction j with
  | zero =>
    intro a b k m hb _ ha hk hm
    have : b = 0 := by omega
    subst this
    obtain ⟨m, rfl⟩ : ∃ m', m = m' + 1 := ⟨m - 1, by omega⟩
    rw [f_X9_inLowestTerms_L8.eq_2, Nat.gcd_zero_right, nI_0]
    rw [if_neg (show ¬ (100 : Int32) ≤ nI k by rw [show (100 : Int32) = nI 100 from rfl, p_leN (by decide) (by omega)]; omega), if_pos (by decide)]
  | succ j ih =>
    intro a b k m hb hj ha hk hm
    have hp : 2 ^ (j + 1) ≤ 2 ^ 31 := Nat.pow_le_pow_right (by decide) hj
    obtain ⟨m, rfl⟩ : ∃ m', m = m' + 1 := ⟨m - 1, by omega⟩
    rw [f_X9_inLowestTerms_L8.eq_2]
    rw [if_neg (show ¬ (100 : Int32) ≤ nI k by rw [show (100 : Int32) = nI 100 from rfl, p_leN (by decide) (by omega)]; omega)]
    by_cases b0 : b = 0
    · subst b0
      rw [if_pos (by rw [nI_0]; decide), Nat.gcd_zero_right]
    · rw [if_neg (nI_nle (by omega) (by omega)), if_neg (nI_ne0 (by omega) (by omega)), pk_rem ha (by omega) (by omega), nI_1]
      rw [gcd_step a b]
      have hc : a % b < b := Nat.mod_lt a (by omega)
      generalize a % b = c at hc ⊢
      obtain ⟨m, rfl⟩ : ∃ m', m = m' + 1 := ⟨m - 1, by omega⟩
      rw [f_X9_inLowestTerms_L8.eq_2]
      rw [if_neg (show ¬ (100 : Int32) ≤ nI (k + 1) by rw [show (100 : Int32) = nI 100 from rfl, p_leN (by decide) (by omega)]; omega)]
      by_cases c0 : c = 0
      · subst c0
        rw [if_pos (by rw [nI_0]; decide), Nat.gcd_zero_right]
      · rw [if_neg (nI_nle (by omega) (by omega)), if_neg (nI_ne0 (by omega) (by omega)), pk_rem (by omega) (by omega) (by omega), nI_1]
        rw [gcd_step b c]
        have hr := half_rem (b := b) (c := c) (by omega) hc
        have hpe : 2 ^ (j + 1) = 2 * 2 ^ j := by rw [Nat.pow_succ]; omega
        exact ih c (b % c) (k + 1 + 1) m (by omega) (by omega) (by omega) (by omega) (by omega)
theorem d_com_L {n : Nat} {σ : eb_S} : ∀ (j a b m : Nat), b < 2 ^ j → j ≤ 31 → a < 2 ^ 31 → 2 * j < m → f_X10_common_L4 n m (nI a) (nI b) σ = some (nI (Nat.gcd a b), σ) := by
  intro j
  induction j with
  | zero =>
    intro a b m hb _ ha hm
    have : b = 0 := by omega
    subst this
    obtain ⟨m, rfl⟩ : ∃ m', m = m' + 1 := ⟨m - 1, by omega⟩
    rw [f_X10_common_L4.eq_2, Nat.gcd_zero_right, nI_0, if_pos rfl]
  | succ j ih =>
    intro a b m hb hj ha hm
    have hp : 2 ^ (j + 1) ≤ 2 ^ 31 := Nat.pow_le_pow_right (by decide) hj
    obtain ⟨m, rfl⟩ : ∃ m', m = m' + 1 := ⟨m - 1, by omega⟩
    rw [f_X10_common_L4.eq_2]
    by_cases b0 : b = 0
    · subst b0
      rw [nI_0, if_pos rfl, Nat.gcd_zero_right]
    · rw [if_neg (nI_ne0 (by omega) (by omega)), if_neg (nI_ne0 (by omega) (by omega)), pk_rem ha (by omega) (by omega)]
      rw [gcd_step a b]
      have hc : a % b < b := Nat.mod_lt a (by omega)
      generalize a % b = c at hc ⊢
      obtain ⟨m, rfl⟩ : ∃ m', m = m' + 1 := ⟨m - 1, by omega⟩
      rw [f_X10_common_L4.eq_2]
      by_cases c0 : c = 0
      · subst c0
        rw [nI_0, if_pos rfl, Nat.gcd_zero_right]
      · rw [if_neg (nI_ne0 (by omega) (by omega)), if_neg (nI_ne0 (by omega) (by omega)), pk_rem (by omega) (by omega) (by omega)]
        rw [gcd_step b c]
        have hr := half_rem (b := b) (c := c) (by omega) hc
        have hpe : 2 ^ (j + 1) = 2 * 2 ^ j := by rw [Nat.pow_succ]; omega
        exact ih c (b % c) m (by omega) (by omega) (by omega) (by omega)
theorem x_low {u l n : Nat} (hu : u < 2 ^ 31) (h0 : 0 < l) (hl : l < 2 ^ 31) (hn : 100 ≤ n) (v : Int32) (σ : eb_S) : f_X9_inLowestTerms n (nI u) (nI l) v σ = some (fr u l v, σ) := by
  have g := x_low_L (n := n) (v0 := nI u) (v1 := nI l) (v2 := v) (K := fun (w1 : Int32) (s2 : eb_S) => if 1 ≤ w1 then (if v = 0 then (if w1 = 0 then none else some (nI u / w1, s2)) else (if w1 = 0 then none else some (nI l / w1, s2))) else (if v = 0 then (some (nI u, s2)) else (some (nI l, s2)))) (σ := σ) 31 l u 0 n hu (Nat.le_refl _) hl (by omega) (by omega)
  have gp : 0 < Nat.gcd l u := Nat.gcd_pos_of_pos_left u h0
  have gl : Nat.gcd l u ≤ l := Nat.gcd_le_left u h0
  rw [nI_0] at g
  unfold f_X9_inLowestTerms
  refine g.trans ?_
  rw [if_pos (show (1 : Int32) ≤ nI (Nat.gcd l u) by rw [show (1 : Int32) = nI 1 from rfl, p_leN (by decide) (by omega)]; omega), if_neg (nI_ne0 gp (by omega)), pk_div hu gp (by omega), pk_div hl gp (by omega)]
  unfold fr
  rw [Nat.gcd_comm u l]
  by_cases hv : v = 0
  · rw [if_pos hv, if_pos hv]
  · rw [if_neg hv, if_neg hv, if_neg (nI_ne0 gp (by omega))]
theorem d_part {u l n : Nat} (hu : u < 2 ^ 31) (h0 : 0 < l) (hl : l < 2 ^ 31) (hn : 100 ≤ n) (v : Int32) (σ : eb_S) : f_X10_part n (nI u) (nI l) v σ = some (fr u l v, σ) := by
  have g : f_X10_common n (nI u) (nI l) σ = some (nI (Nat.gcd u l), σ) := d_com_L 31 u l n hl (Nat.le_refl _) hu (by omega)
  have gp : 0 < Nat.gcd u l := Nat.gcd_pos_of_pos_right u h0
  have gl : Nat.gcd u l ≤ l := Nat.gcd_le_right u h0
  unfold f_X10_part fr
  rw [g, eb_cl_s, if_neg (nI_ne0 gp (by omega)), pk_div hu gp (by omega), pk_div hl gp (by omega)]
  by_cases hv : v = 0
  · rw [if_pos hv, if_pos hv]
  · rw [if_neg hv, if_neg hv, if_neg (nI_ne0 gp (by omega))]
set_option maxHeartbeats 4000000 in
theorem eq_pole {A : Nat → Nat → Nat} {σ : eb_S} (hb : ShB σ) (hs : ShM9 σ) (hX : MX9 A σ) (w : wf A) (hd : ShD σ) (hD : MD A σ) (a b c f : Int32) {n : Nat} (hn : 100 ≤ n) : ∃ r, f_X9_pole n 8 a b c f σ = some (r, σ) ∧ f_X10_pole n 91 a b c f σ = some (r, σ) := by
  have wN := w.1
  have hbu := hb
  have hdu := hd
  have hsu := hs
  unfold ShB at hbu
  unfold ShD at hdu
  unfold ShM9 at hsu
  have it := x_isThing hb hs hX w a
  have dt := d_isThing hd hD w a.toInt64
  have iu := x_isThing hb hs hX w b
  have du := d_isThing hd hD w b.toInt64
  rw [p_i64] at dt du
  unfold f_X9_pole f_X10_pole
  cases h1 : wi a.toInt 0 ((aN A : Int) - 1) with
  | false =>
    rw [h1] at it dt
    exact ⟨-1, by simp [eb_tg, hbu, it, eb_cl_s, eb_b0], by simp [eb_tg, hdu, dt, eb_cl_s, eb_b0]⟩
  | true =>
  rw [h1] at it dt
  cases h2 : wi b.toInt 0 ((aN A : Int) - 1) with
  | false =>
    rw [h2] at iu du
    exact ⟨-1, by simp [eb_tg, hbu, it, iu, eb_cl_s, eb_b0], by simp [eb_tg, hdu, dt, du, eb_cl_s, eb_b0]⟩
  | true =>
  rw [h2] at iu du
  by_cases hab : a = b
  · subst hab
    exact ⟨-1, by simp [eb_tg, hbu, it, eb_cl_s, eb_b0], by simp [eb_tg, hdu, dt, eb_cl_s, eb_b0]⟩
  cases h3 : wi c.toInt 1 999 with
  | false =>
    have x3 := x_in c 1 999 1 999 rfl rfl _ h3
    have d3 := d_ins c 1 999 1 999 rfl rfl _ h3
    exact ⟨-1, by simp [eb_tg, hbu, it, iu, hab, x3, eb_cl_s, eb_b0], by simp [eb_tg, hdu, dt, du, hab, d3, eb_cl_s, eb_b0]⟩
  | true =>
  have x3 := x_in c 1 999 1 999 rfl rfl _ h3
  have d3 := d_ins c 1 999 1 999 rfl rfl _ h3
  cases h4 : wi f.toInt 0 1 with
  | false =>
    have x4 := x_in f 0 1 0 1 rfl rfl _ h4
    have d4 := d_ins f 0 1 0 1 rfl rfl _ h4
    exact ⟨-1, by simp [eb_tg, hbu, it, iu, hab, x3, x4, eb_cl_s, eb_b0], by simp [eb_tg, hdu, dt, du, hab, d3, d4, eb_cl_s, eb_b0]⟩
  | true =>
  have x4 := x_in f 0 1 0 1 rfl rfl _ h4
  have d4 := d_ins f 0 1 0 1 rfl rfl _ h4
  have hv := wi_t.mp h3
  obtain ⟨p, hp, rfl⟩ := wi_nat (by omega) h1
  obtain ⟨q, hq, rfl⟩ := wi_nat (by omega) h2
  obtain ⟨x, hx, rfl⟩ := p_nat (x := c) (n := 1000) (by decide) (by omega) (by show c.toInt < 1000; omega)
  have xW := hX.2.2.1
  have yW := hD.2.2.1
  have w1 := w.2.1 p hp
  have w2 := w.2.1 q hq
  have hm : aW A q * x ≤ 99 * 999 := Nat.mul_le_mul (by omega) (by omega)
  have l1 := x_low (u := aW A q * x) (l := aW A p + aW A q) (n := n) (by omega) (by omega) (by omega) hn f σ
  have l2 := d_part (u := aW A q * x) (l := aW A p + aW A q) (n := n) (by omega) (by omega) (by omega) hn f σ
  have m2 : nI x * nI (aW A q) = nI (aW A q * x) := by rw [pk_mul, Nat.mul_comm]
  refine ⟨fr (aW A q * x) (aW A p + aW A q) f, ?_, ?_⟩
  · simp [eb_tg, hbu, hsu, it, iu, hab, x3, x4, eb_cl_s, eb_b0, eb_gR, eb_ai, p_in (show p < 10 by omega) (by decide : 10 < 2 ^ 31), p_cl (show p < 2 ^ 31 by omega), p_in (show q < 10 by omega) (by decide : 10 < 2 ^ 31), p_cl (show q < 2 ^ 31 by omega), xW p hp, xW q hq, f_X9_levelAt, pk_mul, nI_add, l1]
  · simp [eb_tg, hdu, dt, du, hab, d3, d4, eb_cl_s, eb_b0, eb_gR, eb_ai, p_in (show p < 10 by omega) (by decide : 10 < 2 ^ 31), p_cl (show p < 2 ^ 31 by omega), p_in (show q < 10 by omega) (by decide : 10 < 2 ^ 31), p_cl (show q < 2 ^ 31 by omega), yW p hp, yW q hq, m2, nI_add, l2]
