/-! ===== pure: the model reads a THING ===== -/
theorem skp_st {tl : Nat} {tc : Nat → Nat} : ∀ (d p : Nat), tl - p = d → ¬ (skp tl tc p < tl ∧ tc (skp tl tc p) = 32)
  | 0, p, hd => by rw [skp_n (by omega)]; omega
  | d + 1, p, hd => by
    by_cases h : p < tl ∧ tc p = 32
    · rw [skp_s h.1 h.2]; exact skp_st d (p + 1) (by omega)
    · rw [skp_n h]; exact h
theorem skp_id {tl p : Nat} {tc : Nat → Nat} : skp tl tc (skp tl tc p) = skp tl tc p := skp_n (skp_st _ p rfl)
def sMr (k j : Nat) : Prop := (k = 91 ∧ 21 ≤ j ∧ j ≤ 24) ∨ k = 108 ∨ k = 109
theorem sAd_r : ∀ k j, sAd k j → sMr k j := fun k j h => by unfold sAd at h; unfold sMr; omega
def sRw (k j : Nat) : Prop := (k = 91 ∧ (j = 23 ∨ j = 24)) ∨ k = 108 ∨ k = 109
theorem sRw_r : ∀ k j, sRw k j → sMr k j := fun k j h => by unfold sRw at h; unfold sMr; omega
theorem PD.r {tl p : Nat} {tc : Nat → Nat} {wr : Bool} {σ σ' : eb_S} (h : PD tl tc p wr σ) (hF : Fr sRw σ σ') : PD tl tc p wr σ' := ⟨hF.shD h.1, h.2.1.at hF (fun z => by unfold sRw at z; omega) (fun j z => by unfold sRw at z; omega), by rw [hF.2.2.2.2.2 _ _ (fun z => by unfold sRw at z; omega)]; exact h.2.2.1, by rw [hF.2.2.2.2.2 _ _ (fun z => by unfold sRw at z; omega)]; exact h.2.2.2.1, h.2.2.2.2⟩
def RD (A : Nat → Nat → Nat) (k s : Nat) (σ : eb_S) : Prop := eb_I σ 91 23 = nI k ∧ eb_I σ 91 24 = nI s ∧ (∀ t, t < k → eb_I σ 108 (3 * t) = nI (A 1 t) ∧ eb_I σ 108 (3 * t + 1) = nI (A 2 t) ∧ eb_I σ 108 (3 * t + 2) = nI (A 3 t)) ∧ ∀ t, t < s → eb_I σ 109 (2 * t) = nI (A 7 t) ∧ eb_I σ 109 (2 * t + 1) = nI (A 8 t)
theorem RD.at {A : Nat → Nat → Nat} {k s : Nat} {σ σ' : eb_S} (h : RD A k s σ) (hF : Fr sAd σ σ') : RD A k s σ' := by
  obtain ⟨h1, h2, h3, h4⟩ := h
  have e : ∀ a b, ¬ sAd a b → eb_I σ' a b = eb_I σ a b := hF.2.2.2.2.2
  exact ⟨by rw [e _ _ (fun z => by unfold sAd at z; omega)]; exact h1, by rw [e _ _ (fun z => by unfold sAd at z; omega)]; exact h2, fun t ht => by rw [e _ _ (fun z => by unfold sAd at z; omega), e _ _ (fun z => by unfold sAd at z; omega), e _ _ (fun z => by unfold sAd at z; omega)]; exact h3 t ht, fun t ht => by rw [e _ _ (fun z => by unfold sAd at z; omega), e _ _ (fun z => by unfold sAd at z; omega)]; exact h4 t ht⟩
-- one step at a time
theorem dgI {τ : Type} {σ : eb_S} (hd : ShD σ) (j : Nat) (K : Int32 → Option τ) : eb_gI σ [9] 91 j K = K (eb_I σ 91 j) := by
  unfold ShD at hd
  unfold eb_gI
  rw [if_pos (by rw [hd.1]; exact List.mem_singleton.mpr rfl)]
theorem dpI {τ : Type} {σ : eb_S} (hd : ShD σ) (j : Nat) (x : Int32) (K : eb_S → Option τ) : eb_pI σ [9] 91 j x K = K (eb_sI σ 91 j x) := by
  unfold ShD at hd
  unfold eb_pI
  rw [if_pos (by rw [hd.1]; exact List.mem_singleton.mpr rfl)]
theorem dpZ {τ : Type} {σ : eb_S} (hd : ShD σ) (j : Nat) (b : Bool) (K : eb_S → Option τ) : eb_pZ σ [9] 91 j (eb_b b) K = K (eb_sI σ 91 j (eb_b b)) := by
  unfold ShD at hd
  unfold eb_pZ
  rw [if_pos ⟨by rw [hd.1]; exact List.mem_singleton.mpr rfl, by cases b <;> decide⟩]
theorem dg25 {τ : Type} {σ : eb_S} (hd : ShD σ) (K : Nat → Option τ) : eb_gR σ [9] 91 25 K = K 108 := by
  unfold ShD at hd
  unfold eb_gR
  simp [hd]
theorem dg26 {τ : Type} {σ : eb_S} (hd : ShD σ) (K : Nat → Option τ) : eb_gR σ [9] 91 26 K = K 109 := by
  unfold ShD at hd
  unfold eb_gR
  simp [hd]
theorem dw108 {τ : Type} {σ : eb_S} (hd : ShD σ) {i : Nat} {ix : Int32} (hx : ix = nI i) (hi : i < 30) (x : Int32) (K : eb_S → Option τ) : eb_wi σ 108 ix x K = K (eb_sI σ 108 i x) := by
  unfold ShD at hd
  unfold eb_wi
  simp [hd, hx, p_in hi (by decide : 30 < 2 ^ 31), p_cl (show i < 2 ^ 31 by omega)]
theorem dw109 {τ : Type} {σ : eb_S} (hd : ShD σ) {i : Nat} {ix : Int32} (hx : ix = nI i) (hi : i < 10) (x : Int32) (K : eb_S → Option τ) : eb_wi σ 109 ix x K = K (eb_sI σ 109 i x) := by
  unfold ShD at hd
  unfold eb_wi
  simp [hd, hx, p_in hi (by decide : 10 < 2 ^ 31), p_cl (show i < 2 ^ 31 by omega)]
theorem dtg {τ : Type} {σ : eb_S} (hd : ShD σ) (o : Option τ) : eb_tg σ 91 9 o = o := by
  unfold ShD at hd
  unfold eb_tg
  rw [if_pos hd.1]
theorem i3 (k : Nat) : (3 : Int32) * nI k = nI (3 * k) := pk_mul 3 k
theorem i31 (k : Nat) : (3 : Int32) * nI k + 1 = nI (3 * k + 1) := by rw [i3, nI_1]
theorem i32' (k : Nat) : (3 : Int32) * nI k + 2 = nI (3 * k + 2) := by rw [i3, show (2 : Int32) = nI 2 from rfl, nI_add]
/-- behind the kind -/
def rtK (n : Nat) (y5 : Int32) (s18 : eb_S) : Option (Unit × eb_S) := eb_gR s18 [9] 91 25 fun r19 => eb_gI s18 [9] 91 23 fun x20 => eb_wi s18 r19 ((3 : Int32) * x20) y5 fun s21 => eb_gR s21 [9] 91 25 fun r22 => eb_gI s21 [9] 91 23 fun x23 => eb_cl (eb_tg s21 91 9 (f_X10_number n 91 s21)) fun x25 s24 => eb_wi s24 r22 (((3 : Int32) * x23) + 1) x25 fun s26 => eb_gR s26 [9] 91 25 fun r27 => eb_gI s26 [9] 91 23 fun x28 => eb_wi s26 r27 (((3 : Int32) * x28) + 2) 5 fun s29 => eb_cl (eb_tg s29 91 9 (f_X10_has n 91 64 s29)) fun b31 s30 => eb_jn (fun (s32 : eb_S) => eb_gI s32 [9] 91 23 fun x34 => eb_pI s32 [9] 91 23 (x34 + 1) fun s35 => some ((), s35)) fun j33 => if (eb_b b31) = 0 then (j33 s30) else (eb_cl (eb_tg s30 91 9 (f_X10_here n 91 s30)) fun x37 s36 => eb_cl (f_X10_in ((x37).toInt64) 48 53 s36) fun b39 s38 => eb_jn (fun (y40 : Int32) (s41 : eb_S) => eb_pZ s41 [9] 91 22 y40 fun s43 => eb_gR s43 [9] 91 25 fun r44 => eb_gI s43 [9] 91 23 fun x45 => eb_cl (eb_tg s43 91 9 (f_X10_here n 91 s43)) fun x47 s46 => eb_wi s46 r44 (((3 : Int32) * x45) + 2) (x47 - 48) fun s48 => eb_gI s48 [9] 91 21 fun x49 => eb_gI s48 [9] 91 22 fun x50 => eb_jn (fun (y51 : Int32) (s52 : eb_S) => eb_pI s52 [9] 91 21 (x49 + y51) fun s54 => j33 s54) fun j53 => if x50 = 0 then (j53 1 s48) else (j53 0 s48)) fun j42 => if (eb_b b39) = 0 then (j42 1 s38) else (j42 0 s38))
theorem rt_eq (n : Nat) (s : eb_S) : f_X10_readThing n 91 s = eb_gI s [9] 91 22 fun x1 => eb_jn (fun (y2 : Int32) (s3 : eb_S) => eb_jn (fun (y5 : Int32) (s6 : eb_S) => eb_gI s6 [9] 91 22 fun x8 => eb_jn (fun (y9 : Int32) (s10 : eb_S) => eb_pZ s10 [9] 91 22 y9 fun s12 => eb_gI s12 [9] 91 21 fun x13 => eb_gI s12 [9] 91 22 fun x14 => eb_jn (fun (y15 : Int32) (s16 : eb_S) => eb_pI s16 [9] 91 21 (x13 + y15) fun s18 => rtK n y5 s18) fun j17 => if x14 = 0 then (j17 1 s12) else (j17 0 s12)) fun j11 => eb_jn (fun (s55 : eb_S) => j11 1 s55) fun j56 => if x8 = 0 then (if 0 ≤ y5 then (j11 0 s6) else (j56 s6)) else (j56 s6)) fun j7 => if y2 = 112 then (j7 0 s3) else (if y2 = 105 then (j7 1 s3) else (if y2 = 115 then (j7 2 s3) else (if y2 = 102 then (j7 3 s3) else (j7 ((-4)) s3))))) fun j4 => if x1 = 0 then (eb_cl (eb_tg s 91 9 (f_X10_here n 91 s)) fun x58 s57 => j4 x58 s57) else (j4 0 s) := rfl
