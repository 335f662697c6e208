/-! ===== pure: the sheets ===== -/
def XH (ln sz : Nat → Nat) (it : Nat → Nat → Int64) (σ : eb_S) : Prop := ShH σ ∧ ∀ s, s < 4 → eb_I σ (82 + 2 * s) 0 = nI (ln s) - 1 ∧ (ln s ≠ 0 → eb_I σ (82 + 2 * s) 1 = nI (sz s) ∧ ∀ j, j < 16 → eb_J σ (83 + 2 * s) j = it s j)
def DH (ln sz : Nat → Nat) (it : Nat → Nat → Int64) (σ : eb_S) : Prop := ∀ s, s < 4 → eb_I σ 115 s = nI (ln s) - 1 ∧ (ln s ≠ 0 → eb_I σ 116 s = nI (sz s) ∧ ∀ j, j < 16 → eb_J σ 117 (16 * s + j) = it s j)
def wfH (ln sz : Nat → Nat) : Prop := ∀ s, s < 4 → ln s ≤ 4 ∧ sz s ≤ 16
theorem ShH.at {σ : eb_S} (h : ShH σ) {s : Nat} (hs : s < 4) : eb_T σ (82 + 2 * s) = 6 ∧ eb_R σ (82 + 2 * s) 2 = 83 + 2 * s ∧ eb_T σ (83 + 2 * s) = 12 ∧ eb_L σ (83 + 2 * s) = 16 := by
  unfold ShH at h
  rcases (show s = 0 ∨ s = 1 ∨ s = 2 ∨ s = 3 by omega) with rfl | rfl | rfl | rfl <;> simp [h]
theorem ShB.sh {σ : eb_S} (h : ShB σ) {s : Nat} (hs : s < 4) : eb_R σ 81 s = 82 + 2 * s := by
  unfold ShB at h
  rcases (show s = 0 ∨ s = 1 ∨ s = 2 ∨ s = 3 by omega) with rfl | rfl | rfl | rfl <;> simp [h]
theorem iI_of (x : Int32) : x = iI x.toInt := (Int32.ofInt_toInt x).symm
theorem i32_bd (x : Int32) : -2147483648 ≤ x.toInt ∧ x.toInt < 2147483648 := ⟨Int32.le_toInt x, Int32.toInt_lt x⟩
theorem p_lt0 (x : Int32) : (x < 0) = (x.toInt < 0) := by rw [Int32.lt_iff_toInt_lt]; rfl
theorem p_0le (x : Int32) : ((0 : Int32) ≤ x) = (0 ≤ x.toInt) := by rw [Int32.le_iff_toInt_le]; rfl
theorem p_l1 {l : Nat} (h : l ≤ 4) : ((0 : Int32) ≤ nI l - 1) = (l ≠ 0) ∧ (nI l - 1 < 0) = (l = 0) ∧ (nI l - 1 = -1) = (l = 0) := by
  rcases (show l = 0 ∨ l = 1 ∨ l = 2 ∨ l = 3 ∨ l = 4 by omega) with rfl | rfl | rfl | rfl | rfl <;> decide
/-- i .. i + n - 1 lie on a sheet of z -/
def spn (i n : Int32) (z : Nat) : Bool := decide (0 ≤ n.toInt ∧ 0 ≤ i.toInt ∧ i.toInt + n.toInt ≤ z)
theorem x_spans {ln sz : Nat → Nat} {it : Nat → Nat → Int64} {σ : eb_S} (hH : XH ln sz it σ) (wh : wfH ln sz) {s : Nat} (hs : s < 4) (hl : ln s ≠ 0) (i n : Int32) : f_X7_spans (82 + 2 * s) i n σ = some (spn i n (sz s), σ) := by
  have hz := (wh s hs).2
  have h1 := ((hH.2 s hs).2 hl).1
  have h2 := hH.1.at hs
  have bi := i32_bd i
  have bn := i32_bd n
  unfold f_X7_spans spn
  simp only [p_lt0]
  by_cases c1 : n.toInt < 0
  · rw [if_pos c1]
    congr 2
    exact (decide_eq_false (by omega)).symm
  · rw [if_neg c1]
    by_cases c2 : i.toInt < 0
    · rw [if_pos c2]
      congr 2
      exact (decide_eq_false (by omega)).symm
    · rw [if_neg c2]
      have e : (nI (sz s) - n < i) = ((sz s : Int) - n.toInt < i.toInt) := by
        rw [Int32.lt_iff_toInt_lt, nI_iI, iI_of n, iI_sub, iI_toInt (by omega) (by omega), iI_toInt (by omega) (by omega)]
      simp only [eb_gI, h2, List.mem_singleton, if_true, h1, e]
      by_cases c3 : (sz s : Int) - n.toInt < i.toInt
      · rw [if_pos c3]
        congr 2
        exact (decide_eq_false (by omega)).symm
      · rw [if_neg c3]
        congr 2
        exact (decide_eq_true (by omega)).symm
/-- what a sheet is refused with -/
def rfs (ln sz : Nat → Nat) (s l : Nat) (i n : Int32) : Int32 := if ln s = 0 then -11 else if ln s = l + 1 then (if spn i n (sz s) = true then 0 else -13) else -12
theorem p_l2 {l k : Nat} (h : l ≤ 4) (hk : k < 4) : (nI l - 1 = nI k) = (l = k + 1) := by
  rcases (show l = 0 ∨ l = 1 ∨ l = 2 ∨ l = 3 ∨ l = 4 by omega) with rfl | rfl | rfl | rfl | rfl <;> rcases (show k = 0 ∨ k = 1 ∨ k = 2 ∨ k = 3 by omega) with rfl | rfl | rfl | rfl <;> decide
theorem p_i64i (x y : Int32) : (x.toInt64 + y.toInt64).toInt = x.toInt + y.toInt := by
  have bx := i32_bd x
  have by' := i32_bd y
  rw [Int64.toInt_add, p_i64, p_i64]
  exact Int.bmod_eq_of_le (by omega) (by omega)
set_option maxHeartbeats 4000000 in
theorem x_refusal {ln sz : Nat → Nat} {it : Nat → Nat → Int64} {σ : eb_S} (hb : ShB σ) (hH : XH ln sz it σ) (wh : wfH ln sz) {s l : Nat} (hs : s < 4) (hl : l < 4) (i n : Int32) : f_X9_refusalOf 8 (nI s) (nI l) i n σ = some (rfs ln sz s l i n, σ) := by
  have h2 := hH.1.at hs
  have hr := hb.sh hs
  have h0 := (hH.2 s hs).1
  have w1 : f_X9_isSheet (nI s) σ = some (true, σ) := by
    unfold f_X9_isSheet
    rw [x_within, eb_cl_s, p_ntoInt (by omega), wi_t.mpr ⟨by show (0 : Int) ≤ s; omega, by show (s : Int) ≤ 3; omega⟩]
  have w2 := x_within (nI l) 0 3 σ
  rw [p_ntoInt (by omega), wi_t.mpr ⟨by show (0 : Int) ≤ l; omega, by show (l : Int) ≤ 3; omega⟩] at w2
  obtain ⟨l1, l2, l3⟩ := p_l1 (wh s hs).1
  have l4 := p_l2 (wh s hs).1 hl
  unfold ShB at hb
  unfold f_X9_refusalOf f_X7_isMissing rfs
  by_cases c0 : ln s = 0
  · have q3 : (nI (ln s) - 1 = -1) = True := by rw [l3]; exact eq_true c0
    rw [if_pos c0]
    simp [w1, w2, eb_cl_s, eb_b0, eb_gR, eb_ar, eb_tg, eb_gI, hb, p_in hs (by decide : 4 < 2 ^ 31), p_cl (show s < 2 ^ 31 by omega), hr, h2, h0, q3]
  · have hsp := x_spans hH wh hs c0 i n
    have q3 : (nI (ln s) - 1 = -1) = False := by rw [l3]; exact eq_false c0
    rw [if_neg c0]
    by_cases c1 : ln s = l + 1
    · have q4 : (nI (ln s) - 1 = nI l) = True := by rw [l4]; exact eq_true c1
      rw [if_pos c1]
      cases c2 : spn i n (sz s) with
      | true => rw [c2] at hsp; simp [w1, w2, eb_cl_s, eb_b0, eb_gR, eb_ar, eb_tg, eb_gI, hb, p_in hs (by decide : 4 < 2 ^ 31), p_cl (show s < 2 ^ 31 by omega), hr, h2, h0, q3, q4, hsp]
      | false => rw [c2] at hsp; simp [w1, w2, eb_cl_s, eb_b0, eb_gR, eb_ar, eb_tg, eb_gI, hb, p_in hs (by decide : 4 < 2 ^ 31), p_cl (show s < 2 ^ 31 by omega), hr, h2, h0, q3, q4, hsp]
    · have q4 : (nI (ln s) - 1 = nI l) = False := by rw [l4]; exact eq_false c1
      rw [if_neg c1]
      simp [w1, w2, eb_cl_s, eb_b0, eb_gR, eb_ar, eb_tg, eb_gI, hb, p_in hs (by decide : 4 < 2 ^ 31), p_cl (show s < 2 ^ 31 by omega), hr, h2, h0, q3, q4]
set_option maxHeartbeats 4000000 in
theorem d_why {ln sz : Nat → Nat} {it : Nat → Nat → Int64} {σ : eb_S} (hd : ShD σ) (hH : DH ln sz it σ) (wh : wfH ln sz) {s l : Nat} (hs : s < 4) (hl : l < 4) (i n : Int32) (hn : 0 ≤ n.toInt) : f_X10_why 91 (nI s) (nI l) i n σ = some (rfs ln sz s l i n, σ) := by
  have h0 := (hH s hs).1
  obtain ⟨l1, l2, l3⟩ := p_l1 (wh s hs).1
  have l4 := p_l2 (wh s hs).1 hl
  have hz := (wh s hs).2
  unfold ShD at hd
  unfold f_X10_why rfs
  by_cases c0 : ln s = 0
  · have q1 : ((0 : Int32) ≤ nI (ln s) - 1) = False := by rw [l1]; exact eq_false (fun z => z c0)
    rw [if_pos c0]
    simp [eb_gR, eb_ai, hd, p_in hs (by decide : 4 < 2 ^ 31), p_cl (show s < 2 ^ 31 by omega), h0, q1]
  · have q1 : ((0 : Int32) ≤ nI (ln s) - 1) = True := by rw [l1]; exact eq_true c0
    have hsz := ((hH s hs).2 c0).1
    rw [if_neg c0]
    by_cases c1 : ln s = l + 1
    · have q4 : (nI (ln s) - 1 = nI l) = True := by rw [l4]; exact eq_true c1
      rw [if_pos c1]
      have e : (lg_cmp (i.toInt64 + n.toInt64) (nI (sz s)).toInt64 ≤ 0) = (i.toInt + n.toInt ≤ sz s) := by rw [p_lgle, p_i64i, p_i64, p_ntoInt (by omega)]
      by_cases c2 : i.toInt < 0
      · have c2' : (i < 0) = True := by rw [p_lt0]; exact eq_true c2
        have sp : spn i n (sz s) = false := decide_eq_false (by omega)
        rw [sp]
        simp [eb_gR, eb_ai, hd, p_in hs (by decide : 4 < 2 ^ 31), p_cl (show s < 2 ^ 31 by omega), h0, q1, q4, c2']
      · have c2' : (i < 0) = False := by rw [p_lt0]; exact eq_false c2
        by_cases c3 : i.toInt + n.toInt ≤ sz s
        · have sp : spn i n (sz s) = true := decide_eq_true (by omega)
          rw [sp]
          simp [eb_gR, eb_ai, hd, p_in hs (by decide : 4 < 2 ^ 31), p_cl (show s < 2 ^ 31 by omega), h0, q1, q4, c2', hsz, e, c3]
        · have sp : spn i n (sz s) = false := decide_eq_false (by omega)
          rw [sp]
          simp [eb_gR, eb_ai, hd, p_in hs (by decide : 4 < 2 ^ 31), p_cl (show s < 2 ^ 31 by omega), h0, q1, q4, c2', hsz, e, c3]
    · have q4 : (nI (ln s) - 1 = nI l) = False := by rw [l4]; exact eq_false c1
      rw [if_neg c1]
      simp [eb_gR, eb_ai, hd, p_in hs (by decide : 4 < 2 ^ 31), p_cl (show s < 2 ^ 31 by omega), h0, q1, q4]
theorem rfs_ok {ln sz : Nat → Nat} {s l : Nat} {i n : Int32} (h : (0 : Int32) ≤ rfs ln sz s l i n) : ln s = l + 1 ∧ spn i n (sz s) = true ∧ rfs ln sz s l i n = 0 := by
  unfold rfs at h ⊢
  by_cases c0 : ln s = 0
  · rw [if_pos c0] at h; exact absurd h (by decide)
  · rw [if_neg c0] at h ⊢
    by_cases c1 : ln s = l + 1
    · rw [if_pos c1] at h ⊢
      by_cases c2 : spn i n (sz s) = true
      · rw [if_pos c2]; exact ⟨c1, c2, rfl⟩
      · rw [if_neg c2] at h; exact absurd h (by decide)
    · rw [if_neg c1] at h; exact absurd h (by decide)
