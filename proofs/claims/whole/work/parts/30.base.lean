/-! ===== pure: numbers, the store's rewriting, shapes ===== -/
theorem eb_cl_s {ρ τ : Type} (r : ρ) (s : eb_S) (K : ρ → eb_S → Option τ) : eb_cl (some (r, s)) K = K r s := rfl
theorem eb_b0 (b : Bool) : (eb_b b = 0) = (b = false) := by cases b <;> decide
theorem eb_b1 (b : Bool) : (eb_b b = 1) = (b = true) := by cases b <;> decide
theorem eb_jn_e {α τ : Type} (F : α) (B : α → Option τ) : eb_jn F B = B F := rfl
theorem eb_T_sI (σ : eb_S) (k j : Nat) (x : Int32) : eb_T (eb_sI σ k j x) = eb_T σ := rfl
theorem eb_R_sI (σ : eb_S) (k j : Nat) (x : Int32) : eb_R (eb_sI σ k j x) = eb_R σ := rfl
theorem eb_L_sI (σ : eb_S) (k j : Nat) (x : Int32) : eb_L (eb_sI σ k j x) = eb_L σ := rfl
theorem eb_J_sI (σ : eb_S) (k j : Nat) (x : Int32) : eb_J (eb_sI σ k j x) = eb_J σ := rfl
theorem eb_N_sI (σ : eb_S) (k j : Nat) (x : Int32) : eb_N (eb_sI σ k j x) = eb_N σ := rfl
theorem eb_T_sJ (σ : eb_S) (k j : Nat) (x : Int64) : eb_T (eb_sJ σ k j x) = eb_T σ := rfl
theorem eb_R_sJ (σ : eb_S) (k j : Nat) (x : Int64) : eb_R (eb_sJ σ k j x) = eb_R σ := rfl
theorem eb_L_sJ (σ : eb_S) (k j : Nat) (x : Int64) : eb_L (eb_sJ σ k j x) = eb_L σ := rfl
theorem eb_I_sJ (σ : eb_S) (k j : Nat) (x : Int64) : eb_I (eb_sJ σ k j x) = eb_I σ := rfl
theorem eb_N_sJ (σ : eb_S) (k j : Nat) (x : Int64) : eb_N (eb_sJ σ k j x) = eb_N σ := rfl
theorem eb_T_rI (σ : eb_S) (k : Nat) (f : Nat → Int32) : eb_T (eb_rI σ k f) = eb_T σ := rfl
theorem eb_R_rI (σ : eb_S) (k : Nat) (f : Nat → Int32) : eb_R (eb_rI σ k f) = eb_R σ := rfl
theorem eb_L_rI (σ : eb_S) (k : Nat) (f : Nat → Int32) : eb_L (eb_rI σ k f) = eb_L σ := rfl
theorem eb_J_rI (σ : eb_S) (k : Nat) (f : Nat → Int32) : eb_J (eb_rI σ k f) = eb_J σ := rfl
theorem eb_N_rI (σ : eb_S) (k : Nat) (f : Nat → Int32) : eb_N (eb_rI σ k f) = eb_N σ := rfl
theorem eb_T_rJ (σ : eb_S) (k : Nat) (f : Nat → Int64) : eb_T (eb_rJ σ k f) = eb_T σ := rfl
theorem eb_R_rJ (σ : eb_S) (k : Nat) (f : Nat → Int64) : eb_R (eb_rJ σ k f) = eb_R σ := rfl
theorem eb_L_rJ (σ : eb_S) (k : Nat) (f : Nat → Int64) : eb_L (eb_rJ σ k f) = eb_L σ := rfl
theorem eb_I_rJ (σ : eb_S) (k : Nat) (f : Nat → Int64) : eb_I (eb_rJ σ k f) = eb_I σ := rfl
theorem eb_N_rJ (σ : eb_S) (k : Nat) (f : Nat → Int64) : eb_N (eb_rJ σ k f) = eb_N σ := rfl
theorem eb_I_sI (σ : eb_S) (k j a b : Nat) (x : Int32) : eb_I (eb_sI σ k j x) a b = if a = k then (if b = j then x else eb_I σ k b) else eb_I σ a b := by
  show eb_up (eb_I σ) k (upd (eb_I σ k) j x) a b = _
  unfold eb_up upd
  by_cases h : a = k
  · rw [if_pos h, if_pos h]
  · rw [if_neg h, if_neg h]
theorem eb_J_sJ (σ : eb_S) (k j a b : Nat) (x : Int64) : eb_J (eb_sJ σ k j x) a b = if a = k then (if b = j then x else eb_J σ k b) else eb_J σ a b := by
  show eb_up (eb_J σ) k (vp_updL (eb_J σ k) j x) a b = _
  unfold eb_up vp_updL
  by_cases h : a = k
  · rw [if_pos h, if_pos h]
  · rw [if_neg h, if_neg h]
theorem eb_I_rI (σ : eb_S) (k a : Nat) (f : Nat → Int32) : eb_I (eb_rI σ k f) a = if a = k then f else eb_I σ a := rfl
theorem eb_J_rJ (σ : eb_S) (k a : Nat) (f : Nat → Int64) : eb_J (eb_rJ σ k f) a = if a = k then f else eb_J σ a := rfl
-- numbers
theorem p_in {t n : Nat} (h : t < n) (hn : n < 2 ^ 31) : eb_in (nI t) n = true := decide_eq_true (nI_in h hn)
theorem p_cl {t : Nat} (h : t < 2 ^ 31) : (nI t).toNatClampNeg = t := nI_clamp h
def wi (v lo hi : Int) : Bool := decide (lo ≤ v ∧ v ≤ hi)
theorem wi_t {v lo hi : Int} : wi v lo hi = true ↔ lo ≤ v ∧ v ≤ hi := decide_eq_true_iff
theorem wi_f {v lo hi : Int} : wi v lo hi = false ↔ ¬ (lo ≤ v ∧ v ≤ hi) := decide_eq_false_iff_not
theorem x_within (v a b : Int32) (s : eb_S) : f_X9_within v a b s = some (wi v.toInt a.toInt b.toInt, s) := by
  unfold f_X9_within
  simp only [Int32.lt_iff_toInt_lt]
  by_cases h1 : v.toInt < a.toInt
  · rw [if_pos h1, wi_f.mpr (by omega)]
  · rw [if_neg h1]
    by_cases h2 : b.toInt < v.toInt
    · rw [if_pos h2, wi_f.mpr (by omega)]
    · rw [if_neg h2, wi_t.mpr (by omega)]
theorem p_lgl (x y : Int64) : (lg_cmp x y < 0) = (x.toInt < y.toInt) := by
  unfold lg_cmp
  simp only [gt_iff_lt, Int64.lt_iff_toInt_lt, ← Int64.toInt_inj]
  split
  · rw [eq_iff_iff]; constructor
    · intro h; exact absurd h (by decide)
    · intro h; omega
  · split
    · rw [eq_iff_iff]; constructor
      · intro h; exact absurd h (by decide)
      · intro h; omega
    · rw [eq_iff_iff]; constructor
      · intro _; omega
      · intro _; decide
theorem p_lgg (x y : Int64) : (0 < lg_cmp x y) = (y.toInt < x.toInt) := by
  unfold lg_cmp
  simp only [gt_iff_lt, Int64.lt_iff_toInt_lt, ← Int64.toInt_inj]
  split
  · rw [eq_iff_iff]; constructor
    · intro _; assumption
    · intro _; decide
  · split
    · rw [eq_iff_iff]; constructor
      · intro h; exact absurd h (by decide)
      · intro h; omega
    · rw [eq_iff_iff]; constructor
      · intro h; exact absurd h (by decide)
      · intro h; omega
theorem d_in (v a b : Int64) (s : eb_S) : f_X10_in v a b s = some (wi v.toInt a.toInt b.toInt, s) := by
  unfold f_X10_in
  simp only [p_lgl, p_lgg]
  by_cases h1 : v.toInt < a.toInt
  · rw [if_pos h1, wi_f.mpr (by omega)]
  · rw [if_neg h1]
    by_cases h2 : b.toInt < v.toInt
    · rw [if_pos h2, wi_f.mpr (by omega)]
    · rw [if_neg h2, wi_t.mpr (by omega)]
theorem p_i64 (x : Int32) : x.toInt64.toInt = x.toInt := Int32.toInt_toInt64 x
/-- an int in a small range is a natural number -/
theorem p_nat {x : Int32} {n : Nat} (hn : n < 2 ^ 31) (h0 : 0 ≤ x.toInt) (h1 : x.toInt < n) : ∃ t : Nat, t < n ∧ x = nI t := by
  refine ⟨x.toInt.toNat, by omega, Int32.toInt_inj.mp ?_⟩
  rw [nI_toInt (by omega)]
  omega
theorem p_ntoInt {n : Nat} (h : n < 2 ^ 31) : (nI n).toInt = (n : Int) := nI_toInt h
theorem p_m1 {n : Nat} (h : n < 2 ^ 31) : (nI n - 1).toInt = (n : Int) - 1 := by
  rw [Int32.toInt_sub, nI_toInt h, show (1 : Int32).toInt = 1 from rfl]
  exact Int.bmod_eq_of_le (by omega) (by omega)
def ShM9 (σ : eb_S) : Prop := eb_T σ 9 = 3 ∧ eb_R σ 9 2 = 10 ∧ eb_T σ 10 = 11 ∧ eb_L σ 10 = 10 ∧ eb_R σ 9 3 = 11 ∧ eb_T σ 11 = 11 ∧ eb_L σ 11 = 10 ∧ eb_R σ 9 4 = 12 ∧ eb_T σ 12 = 11 ∧ eb_L σ 12 = 10 ∧ eb_R σ 9 5 = 13 ∧ eb_T σ 13 = 11 ∧ eb_L σ 13 = 10 ∧ eb_R σ 9 6 = 14 ∧ eb_T σ 14 = 11 ∧ eb_L σ 14 = 10 ∧ eb_R σ 9 8 = 15 ∧ eb_T σ 15 = 11 ∧ eb_L σ 15 = 5 ∧ eb_R σ 9 9 = 16 ∧ eb_T σ 16 = 11 ∧ eb_L σ 16 = 5 ∧ eb_R σ 9 10 = 17 ∧ eb_T σ 17 = 11 ∧ eb_L σ 17 = 3 ∧ eb_R σ 9 11 = 18 ∧ eb_T σ 18 = 11 ∧ eb_L σ 18 = 3 ∧ eb_R σ 9 12 = 19 ∧ eb_T σ 19 = 11 ∧ eb_L σ 19 = 2 ∧ eb_R σ 9 14 = 20 ∧ eb_T σ 20 = 11 ∧ eb_L σ 20 = 8 ∧ eb_R σ 9 15 = 21 ∧ eb_T σ 21 = 11 ∧ eb_L σ 21 = 8 ∧ eb_R σ 9 16 = 22 ∧ eb_T σ 22 = 11 ∧ eb_L σ 22 = 8 ∧ eb_R σ 9 18 = 23 ∧ eb_T σ 23 = 11 ∧ eb_L σ 23 = 6 ∧ eb_R σ 9 19 = 24 ∧ eb_T σ 24 = 11 ∧ eb_L σ 24 = 6
def ShM25 (σ : eb_S) : Prop := eb_T σ 25 = 3 ∧ eb_R σ 25 2 = 26 ∧ eb_T σ 26 = 11 ∧ eb_L σ 26 = 10 ∧ eb_R σ 25 3 = 27 ∧ eb_T σ 27 = 11 ∧ eb_L σ 27 = 10 ∧ eb_R σ 25 4 = 28 ∧ eb_T σ 28 = 11 ∧ eb_L σ 28 = 10 ∧ eb_R σ 25 5 = 29 ∧ eb_T σ 29 = 11 ∧ eb_L σ 29 = 10 ∧ eb_R σ 25 6 = 30 ∧ eb_T σ 30 = 11 ∧ eb_L σ 30 = 10 ∧ eb_R σ 25 8 = 31 ∧ eb_T σ 31 = 11 ∧ eb_L σ 31 = 5 ∧ eb_R σ 25 9 = 32 ∧ eb_T σ 32 = 11 ∧ eb_L σ 32 = 5 ∧ eb_R σ 25 10 = 33 ∧ eb_T σ 33 = 11 ∧ eb_L σ 33 = 3 ∧ eb_R σ 25 11 = 34 ∧ eb_T σ 34 = 11 ∧ eb_L σ 34 = 3 ∧ eb_R σ 25 12 = 35 ∧ eb_T σ 35 = 11 ∧ eb_L σ 35 = 2 ∧ eb_R σ 25 14 = 36 ∧ eb_T σ 36 = 11 ∧ eb_L σ 36 = 8 ∧ eb_R σ 25 15 = 37 ∧ eb_T σ 37 = 11 ∧ eb_L σ 37 = 8 ∧ eb_R σ 25 16 = 38 ∧ eb_T σ 38 = 11 ∧ eb_L σ 38 = 8 ∧ eb_R σ 25 18 = 39 ∧ eb_T σ 39 = 11 ∧ eb_L σ 39 = 6 ∧ eb_R σ 25 19 = 40 ∧ eb_T σ 40 = 11 ∧ eb_L σ 40 = 6
def ShM41 (σ : eb_S) : Prop := eb_T σ 41 = 3 ∧ eb_R σ 41 2 = 42 ∧ eb_T σ 42 = 11 ∧ eb_L σ 42 = 10 ∧ eb_R σ 41 3 = 43 ∧ eb_T σ 43 = 11 ∧ eb_L σ 43 = 10 ∧ eb_R σ 41 4 = 44 ∧ eb_T σ 44 = 11 ∧ eb_L σ 44 = 10 ∧ eb_R σ 41 5 = 45 ∧ eb_T σ 45 = 11 ∧ eb_L σ 45 = 10 ∧ eb_R σ 41 6 = 46 ∧ eb_T σ 46 = 11 ∧ eb_L σ 46 = 10 ∧ eb_R σ 41 8 = 47 ∧ eb_T σ 47 = 11 ∧ eb_L σ 47 = 5 ∧ eb_R σ 41 9 = 48 ∧ eb_T σ 48 = 11 ∧ eb_L σ 48 = 5 ∧ eb_R σ 41 10 = 49 ∧ eb_T σ 49 = 11 ∧ eb_L σ 49 = 3 ∧ eb_R σ 41 11 = 50 ∧ eb_T σ 50 = 11 ∧ eb_L σ 50 = 3 ∧ eb_R σ 41 12 = 51 ∧ eb_T σ 51 = 11 ∧ eb_L σ 51 = 2 ∧ eb_R σ 41 14 = 52 ∧ eb_T σ 52 = 11 ∧ eb_L σ 52 = 8 ∧ eb_R σ 41 15 = 53 ∧ eb_T σ 53 = 11 ∧ eb_L σ 53 = 8 ∧ eb_R σ 41 16 = 54 ∧ eb_T σ 54 = 11 ∧ eb_L σ 54 = 8 ∧ eb_R σ 41 18 = 55 ∧ eb_T σ 55 = 11 ∧ eb_L σ 55 = 6 ∧ eb_R σ 41 19 = 56 ∧ eb_T σ 56 = 11 ∧ eb_L σ 56 = 6
def ShT (σ : eb_S) : Prop := eb_T σ 57 = 7 ∧ eb_R σ 57 1 = 58 ∧ eb_T σ 58 = 10 ∧ eb_L σ 58 = 80
def ShS0 (σ : eb_S) : Prop := eb_T σ 59 = 0 ∧ eb_R σ 59 0 = 9 ∧ eb_R σ 59 1 = 60 ∧ eb_T σ 60 = 11 ∧ eb_L σ 60 = 10 ∧ eb_R σ 59 2 = 61 ∧ eb_T σ 61 = 11 ∧ eb_L σ 61 = 10 ∧ eb_R σ 59 3 = 62 ∧ eb_T σ 62 = 11 ∧ eb_L σ 62 = 15 ∧ eb_R σ 59 4 = 63 ∧ eb_T σ 63 = 11 ∧ eb_L σ 63 = 55
def ShS4 (σ : eb_S) : Prop := eb_T σ 64 = 4 ∧ eb_R σ 64 0 = 9 ∧ eb_R σ 64 1 = 65 ∧ eb_T σ 65 = 11 ∧ eb_L σ 65 = 10 ∧ eb_R σ 64 2 = 66 ∧ eb_T σ 66 = 11 ∧ eb_L σ 66 = 10 ∧ eb_R σ 64 3 = 67 ∧ eb_T σ 67 = 11 ∧ eb_L σ 67 = 15 ∧ eb_R σ 64 4 = 68 ∧ eb_T σ 68 = 11 ∧ eb_L σ 68 = 55
def ShS5 (σ : eb_S) : Prop := eb_T σ 69 = 5 ∧ eb_R σ 69 0 = 9 ∧ eb_R σ 69 1 = 70 ∧ eb_T σ 70 = 11 ∧ eb_L σ 70 = 10 ∧ eb_R σ 69 2 = 71 ∧ eb_T σ 71 = 11 ∧ eb_L σ 71 = 10 ∧ eb_R σ 69 3 = 72 ∧ eb_T σ 72 = 11 ∧ eb_L σ 72 = 15 ∧ eb_R σ 69 4 = 73 ∧ eb_T σ 73 = 11 ∧ eb_L σ 73 = 55 ∧ eb_R σ 69 8 = 74 ∧ eb_T σ 74 = 12 ∧ eb_L σ 74 = 5
def ShE (σ : eb_S) : Prop := eb_T σ 75 = 1 ∧ eb_R σ 75 2 = 9 ∧ eb_R σ 75 1 = 76 ∧ eb_T σ 76 = 11 ∧ eb_L σ 76 = 10
def ShG (σ : eb_S) : Prop := eb_T σ 78 = 2 ∧ eb_R σ 78 1 = 9 ∧ eb_R σ 78 2 = 79 ∧ eb_T σ 79 = 11 ∧ eb_L σ 79 = 8 ∧ eb_R σ 78 3 = 80 ∧ eb_T σ 80 = 11 ∧ eb_L σ 80 = 256
def ShH (σ : eb_S) : Prop := eb_T σ 82 = 6 ∧ eb_R σ 82 2 = 83 ∧ eb_T σ 83 = 12 ∧ eb_L σ 83 = 16 ∧ eb_T σ 84 = 6 ∧ eb_R σ 84 2 = 85 ∧ eb_T σ 85 = 12 ∧ eb_L σ 85 = 16 ∧ eb_T σ 86 = 6 ∧ eb_R σ 86 2 = 87 ∧ eb_T σ 87 = 12 ∧ eb_L σ 87 = 16 ∧ eb_T σ 88 = 6 ∧ eb_R σ 88 2 = 89 ∧ eb_T σ 89 = 12 ∧ eb_L σ 89 = 16
def ShB (σ : eb_S) : Prop := eb_T σ 8 = 8 ∧ eb_R σ 8 0 = 9 ∧ eb_R σ 8 1 = 25 ∧ eb_R σ 8 2 = 41 ∧ eb_R σ 8 3 = 57 ∧ eb_R σ 8 4 = 59 ∧ eb_R σ 8 5 = 64 ∧ eb_R σ 8 6 = 69 ∧ eb_R σ 8 7 = 75 ∧ eb_R σ 8 8 = 78 ∧ eb_R σ 8 9 = 81 ∧ eb_R σ 8 10 = 90 ∧ eb_T σ 81 = 13 ∧ eb_L σ 81 = 4 ∧ eb_R σ 81 0 = 82 ∧ eb_R σ 81 1 = 84 ∧ eb_R σ 81 2 = 86 ∧ eb_R σ 81 3 = 88 ∧ eb_T σ 90 = 11 ∧ eb_L σ 90 = 5
def ShD (σ : eb_S) : Prop := eb_T σ 91 = 9 ∧ eb_R σ 91 1 = 92 ∧ eb_T σ 92 = 11 ∧ eb_L σ 92 = 10 ∧ eb_R σ 91 2 = 93 ∧ eb_T σ 93 = 11 ∧ eb_L σ 93 = 10 ∧ eb_R σ 91 3 = 94 ∧ eb_T σ 94 = 11 ∧ eb_L σ 94 = 10 ∧ eb_R σ 91 4 = 95 ∧ eb_T σ 95 = 11 ∧ eb_L σ 95 = 10 ∧ eb_R σ 91 5 = 96 ∧ eb_T σ 96 = 11 ∧ eb_L σ 96 = 10 ∧ eb_R σ 91 7 = 97 ∧ eb_T σ 97 = 11 ∧ eb_L σ 97 = 5 ∧ eb_R σ 91 8 = 98 ∧ eb_T σ 98 = 11 ∧ eb_L σ 98 = 5 ∧ eb_R σ 91 9 = 99 ∧ eb_T σ 99 = 11 ∧ eb_L σ 99 = 3 ∧ eb_R σ 91 10 = 100 ∧ eb_T σ 100 = 11 ∧ eb_L σ 100 = 3 ∧ eb_R σ 91 11 = 101 ∧ eb_T σ 101 = 11 ∧ eb_L σ 101 = 2 ∧ eb_R σ 91 13 = 102 ∧ eb_T σ 102 = 11 ∧ eb_L σ 102 = 8 ∧ eb_R σ 91 14 = 103 ∧ eb_T σ 103 = 11 ∧ eb_L σ 103 = 8 ∧ eb_R σ 91 15 = 104 ∧ eb_T σ 104 = 11 ∧ eb_L σ 104 = 8 ∧ eb_R σ 91 17 = 105 ∧ eb_T σ 105 = 11 ∧ eb_L σ 105 = 6 ∧ eb_R σ 91 18 = 106 ∧ eb_T σ 106 = 11 ∧ eb_L σ 106 = 6 ∧ eb_R σ 91 19 = 107 ∧ eb_T σ 107 = 11 ∧ eb_L σ 107 = 80 ∧ eb_R σ 91 25 = 108 ∧ eb_T σ 108 = 11 ∧ eb_L σ 108 = 30 ∧ eb_R σ 91 26 = 109 ∧ eb_T σ 109 = 11 ∧ eb_L σ 109 = 10 ∧ eb_R σ 91 29 = 110 ∧ eb_T σ 110 = 11 ∧ eb_L σ 110 = 10 ∧ eb_R σ 91 30 = 111 ∧ eb_T σ 111 = 11 ∧ eb_L σ 111 = 10 ∧ eb_R σ 91 33 = 112 ∧ eb_T σ 112 = 11 ∧ eb_L σ 112 = 10240 ∧ eb_R σ 91 34 = 113 ∧ eb_T σ 113 = 11 ∧ eb_L σ 113 = 6 ∧ eb_R σ 91 35 = 114 ∧ eb_T σ 114 = 11 ∧ eb_L σ 114 = 110 ∧ eb_R σ 91 37 = 115 ∧ eb_T σ 115 = 11 ∧ eb_L σ 115 = 4 ∧ eb_R σ 91 38 = 116 ∧ eb_T σ 116 = 11 ∧ eb_L σ 116 = 4 ∧ eb_R σ 91 39 = 117 ∧ eb_T σ 117 = 12 ∧ eb_L σ 117 = 64 ∧ eb_R σ 91 40 = 118 ∧ eb_T σ 118 = 12 ∧ eb_L σ 118 = 16 ∧ eb_R σ 91 41 = 119 ∧ eb_T σ 119 = 11 ∧ eb_L σ 119 = 8 ∧ eb_R σ 91 42 = 120 ∧ eb_T σ 120 = 11 ∧ eb_L σ 120 = 256

