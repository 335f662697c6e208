/-! ===== pure: what stays ===== -/
def Fr (S : Nat → Nat → Prop) (σ σ' : eb_S) : Prop := eb_T σ' = eb_T σ ∧ eb_R σ' = eb_R σ ∧ eb_L σ' = eb_L σ ∧ eb_N σ' = eb_N σ ∧ eb_J σ' = eb_J σ ∧ ∀ k j, ¬ S k j → eb_I σ' k j = eb_I σ k j
theorem Fr.rf {S : Nat → Nat → Prop} {σ : eb_S} : Fr S σ σ := ⟨rfl, rfl, rfl, rfl, rfl, fun _ _ _ => rfl⟩
theorem Fr.tr {S : Nat → Nat → Prop} {σ σ' σ'' : eb_S} (h : Fr S σ σ') (h' : Fr S σ' σ'') : Fr S σ σ'' := ⟨h'.1.trans h.1, h'.2.1.trans h.2.1, h'.2.2.1.trans h.2.2.1, h'.2.2.2.1.trans h.2.2.2.1, h'.2.2.2.2.1.trans h.2.2.2.2.1, fun k j hk => (h'.2.2.2.2.2 k j hk).trans (h.2.2.2.2.2 k j hk)⟩
theorem Fr.mono {S S' : Nat → Nat → Prop} {σ σ' : eb_S} (h : Fr S σ σ') (hS : ∀ k j, S k j → S' k j) : Fr S' σ σ' := ⟨h.1, h.2.1, h.2.2.1, h.2.2.2.1, h.2.2.2.2.1, fun k j hk => h.2.2.2.2.2 k j (fun z => hk (hS k j z))⟩
theorem Fr.sI {S : Nat → Nat → Prop} {σ : eb_S} {k j : Nat} {x : Int32} (h : S k j) : Fr S σ (eb_sI σ k j x) := ⟨rfl, rfl, rfl, rfl, rfl, fun a b hab => by
  rw [eb_I_sI]
  by_cases ha : a = k
  · by_cases hb : b = j
    · exact absurd (by rw [ha, hb]; exact h) hab
    · rw [if_pos ha, if_neg hb, ha]
  · rw [if_neg ha]⟩
theorem Fr.rI {S : Nat → Nat → Prop} {σ : eb_S} {k : Nat} {f : Nat → Int32} (h : ∀ j, S k j ∨ f j = eb_I σ k j) : Fr S σ (eb_rI σ k f) := ⟨rfl, rfl, rfl, rfl, rfl, fun a b hab => by
  rw [eb_I_rI]
  by_cases ha : a = k
  · rw [if_pos ha]
    rcases h b with h | h
    · exact absurd (by rw [ha]; exact h) hab
    · rw [h, ha]
  · rw [if_neg ha]⟩
theorem Fr.shD {S : Nat → Nat → Prop} {σ σ' : eb_S} (h : Fr S σ σ') (hs : ShD σ) : ShD σ' := by
  unfold ShD at *; rw [h.1, h.2.1, h.2.2.1]; exact hs
theorem Fr.shM9 {S : Nat → Nat → Prop} {σ σ' : eb_S} (h : Fr S σ σ') (hs : ShM9 σ) : ShM9 σ' := by
  unfold ShM9 at *; rw [h.1, h.2.1, h.2.2.1]; exact hs
theorem Fr.shB {S : Nat → Nat → Prop} {σ σ' : eb_S} (h : Fr S σ σ') (hs : ShB σ) : ShB σ' := by
  unfold ShB at *; rw [h.1, h.2.1, h.2.2.1]; exact hs
/-- places that the model's numbers don't lie at -/
def nD (S : Nat → Nat → Prop) : Prop := ∀ k j, S k j → ¬ (k = 91 ∧ (j = 0 ∨ j = 6 ∨ j = 12 ∨ j = 16)) ∧ ¬ (92 ≤ k ∧ k ≤ 106)
def nX (S : Nat → Nat → Prop) : Prop := ∀ k j, S k j → ¬ (k = 9 ∧ (j = 1 ∨ j = 7 ∨ j = 13 ∨ j = 17)) ∧ ¬ (10 ≤ k ∧ k ≤ 24)
theorem Fr.md {S : Nat → Nat → Prop} {σ σ' : eb_S} (h : Fr S σ σ') (hn : nD S) {A : Nat → Nat → Nat} (hX : MD A σ) : MD A σ' := by
  obtain ⟨hN, hK, hW, hP, hL, hB, hS, hY, hU, hH, hG, hR, hLn, hL1, hL2, hLk, hBn, hB1, hB2⟩ := hX
  have e : ∀ k j, (k = 91 ∧ (j = 0 ∨ j = 6 ∨ j = 12 ∨ j = 16)) ∨ (92 ≤ k ∧ k ≤ 106) → eb_I σ' k j = eb_I σ k j := fun k j hk => h.2.2.2.2.2 k j (fun z => by have := hn k j z; omega)
  refine ⟨?_, fun t ht => ?_, fun t ht => ?_, fun t ht => ?_, fun t ht => ?_, fun t ht => ?_, ?_, fun t ht => ?_, fun t ht => ?_, fun t ht => ?_, fun t ht => ?_, fun t ht => ?_, ?_, fun t ht => ?_, fun t ht => ?_, fun t ht => ?_, ?_, fun t ht => ?_, fun t ht => ?_⟩
  all_goals rw [e _ _ (by omega)]
  · exact hN
  · exact hK t ht
  · exact hW t ht
  · exact hP t ht
  · exact hL t ht
  · exact hB t ht
  · exact hS
  · exact hY t ht
  · exact hU t ht
  · exact hH t ht
  · exact hG t ht
  · exact hR t ht
  · exact hLn
  · exact hL1 t ht
  · exact hL2 t ht
  · exact hLk t ht
  · exact hBn
  · exact hB1 t ht
  · exact hB2 t ht
theorem Fr.mx {S : Nat → Nat → Prop} {σ σ' : eb_S} (h : Fr S σ σ') (hn : nX S) {A : Nat → Nat → Nat} (hX : MX9 A σ) : MX9 A σ' := by
  obtain ⟨hN, hK, hW, hP, hL, hB, hS, hY, hU, hH, hG, hR, hLn, hL1, hL2, hLk, hBn, hB1, hB2⟩ := hX
  have e : ∀ k j, (k = 9 ∧ (j = 1 ∨ j = 7 ∨ j = 13 ∨ j = 17)) ∨ (10 ≤ k ∧ k ≤ 24) → eb_I σ' k j = eb_I σ k j := fun k j hk => h.2.2.2.2.2 k j (fun z => by have := hn k j z; omega)
  refine ⟨?_, fun t ht => ?_, fun t ht => ?_, fun t ht => ?_, fun t ht => ?_, fun t ht => ?_, ?_, fun t ht => ?_, fun t ht => ?_, fun t ht => ?_, fun t ht => ?_, fun t ht => ?_, ?_, fun t ht => ?_, fun t ht => ?_, fun t ht => ?_, ?_, fun t ht => ?_, fun t ht => ?_⟩
  all_goals rw [e _ _ (by omega)]
  · exact hN
  · exact hK t ht
  · exact hW t ht
  · exact hP t ht
  · exact hL t ht
  · exact hB t ht
  · exact hS
  · exact hY t ht
  · exact hU t ht
  · exact hH t ht
  · exact hG t ht
  · exact hR t ht
  · exact hLn
  · exact hL1 t ht
  · exact hL2 t ht
  · exact hLk t ht
  · exact hBn
  · exact hB1 t ht
  · exact hB2 t ht
-- whole numbers below 0 too
def iI (z : Int) : Int32 := Int32.ofInt z
theorem nI_iI (n : Nat) : nI n = iI (n : Int) := by
  unfold nI iI
  rw [Int32.ofInt_eq_ofNat]
theorem iI_toInt {z : Int} (h1 : -2147483648 ≤ z) (h2 : z < 2147483648) : (iI z).toInt = z := by
  unfold iI
  rw [Int32.toInt_ofInt]
  show z.bmod 4294967296 = z
  exact Int.bmod_eq_of_le (by omega) (by omega)
theorem iI_add (a b : Int) : iI a + iI b = iI (a + b) := (Int32.ofInt_add a b).symm
theorem iI_sub (a b : Int) : iI a - iI b = iI (a - b) := (Int32.ofInt_sub a b).symm
theorem iI_mul (a b : Int) : iI a * iI b = iI (a * b) := (Int32.ofInt_mul a b).symm
theorem iI_neg (a : Int) : -iI a = iI (-a) := (Int32.ofInt_neg a).symm
theorem p_ltI {a b : Int} (ha : -2147483648 ≤ a ∧ a < 2147483648) (hb : -2147483648 ≤ b ∧ b < 2147483648) : (iI a < iI b) = (a < b) := by
  rw [eq_iff_iff, Int32.lt_iff_toInt_lt, iI_toInt ha.1 ha.2, iI_toInt hb.1 hb.2]
theorem p_leI {a b : Int} (ha : -2147483648 ≤ a ∧ a < 2147483648) (hb : -2147483648 ≤ b ∧ b < 2147483648) : (iI a ≤ iI b) = (a ≤ b) := by
  rw [eq_iff_iff, Int32.le_iff_toInt_le, iI_toInt ha.1 ha.2, iI_toInt hb.1 hb.2]
theorem p_eqI {a b : Int} (ha : -2147483648 ≤ a ∧ a < 2147483648) (hb : -2147483648 ≤ b ∧ b < 2147483648) : (iI a = iI b) = (a = b) := by
  rw [eq_iff_iff, ← Int32.toInt_inj, iI_toInt ha.1 ha.2, iI_toInt hb.1 hb.2]
theorem p_abs {z : Int} (h1 : -2147483647 ≤ z) (h2 : z < 2147483648) : (if 0 ≤ iI z then iI z else 0 - iI z) = nI z.natAbs := by
  rw [nI_iI]
  have e0 : (0 : Int32) = iI 0 := rfl
  simp only [e0, p_leI (a := 0) (b := z) (by omega) (by omega), iI_sub]
  by_cases h : 0 ≤ z
  · rw [if_pos h, Int.natAbs_of_nonneg h]
  · rw [if_neg h]
    congr 1
    omega
theorem p_abs2 {z : Int} (h1 : -2147483647 ≤ z) (h2 : z < 2147483648) : (if 0 ≤ iI z then iI z else -iI z) = nI z.natAbs := by
  rw [← p_abs h1 h2, show (0 : Int32) - iI z = -iI z from Int32.zero_sub _]
theorem p_maxN {a b : Nat} (ha : a < 2 ^ 31) (hb : b < 2 ^ 31) : (if nI a < nI b then nI b else nI a) = nI (max a b) := by
  simp only [p_ltN ha hb]
  by_cases h : a < b
  · rw [if_pos h, Nat.max_eq_right (by omega)]
  · rw [if_neg h, Nat.max_eq_left (by omega)]
