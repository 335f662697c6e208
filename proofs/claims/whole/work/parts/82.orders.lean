/-! ===== pure: trays, tips and orders ===== -/
def txy (wt : Nat → Int32) (c : Nat → Int32) (P : Nat) : Nat → Int32
  | 0 => 0
  | p + 1 => if bit P p then txy wt c P p + wt p * c p else txy wt c P p
def abI (x : Int32) : Int32 := if 0 ≤ x then x else 0 - x
def tipb (wt : Nat → Int32) (lim : Int32) (P : Nat) : Bool := if lim < abI (txy wt eb_k2 P 8) then true else if abI (txy wt eb_k3 P 8) ≤ lim then false else true
theorem txy_t {wt c : Nat → Int32} {P p : Nat} (h : bit P p) : txy wt c P (p + 1) = txy wt c P p + wt p * c p := by
  show (if bit P p then _ else _) = _
  rw [if_pos h]
theorem txy_f {wt c : Nat → Int32} {P p : Nat} (h : ¬ bit P p) : txy wt c P (p + 1) = txy wt c P p := by
  show (if bit P p then _ else _) = _
  rw [if_neg h]
theorem lt8 {k : Nat} (h : k < 8) : k = 0 ∨ k = 1 ∨ k = 2 ∨ k = 3 ∨ k = 4 ∨ k = 5 ∨ k = 6 ∨ k = 7 := by omega
set_option maxHeartbeats 4000000 in
theorem x_tips_L {wt : Nat → Int32} {n P : Nat} (hP : P < 2 ^ 31) {lim : Int32} {σ : eb_S} (hG : ShG σ) (hw : ∀ p, p < 8 → bit P p → eb_I σ 79 p = wt p) {K : Int32 → Int32 → eb_S → Option (Bool × eb_S)} : ∀ (m p : Nat), p ≤ 8 → 8 < p + m → f_X2_tips_L8 n 78 (nI P) lim K m (txy wt eb_k2 P p) (txy wt eb_k3 P p) (nI p) σ = K (txy wt eb_k2 P 8) (txy wt eb_k3 P 8) σ := by
  intro m
  induction m with
  | zero => intro p h1 h2; omega
  | succ m ih =>
    intro p h1 h2
    have hGu := hG
    unfold ShG at hGu
    rw [f_X2_tips_L8.eq_2]
    by_cases h : 8 ≤ p
    · have e : p = 8 := by omega
      subst e
      rw [if_pos (show (8 : Int32) ≤ nI 8 by decide)]
    · rw [if_neg (show ¬ (8 : Int32) ≤ nI p by rw [show (8 : Int32) = nI 8 from rfl, p_leN (by decide) (by omega)]; exact h)]
      have ih' := ih (p + 1) (by omega) (by omega)
      simp only [eb_jn_e, bit_i hP (show p < 31 by omega), nI_1]
      by_cases hb : bit P p
      · rw [if_pos hb]
        rw [txy_t hb, txy_t hb] at ih'
        simp only [eb_gR, eb_ai, eb_xi, hGu, List.mem_singleton, if_true, true_and, ne_eq, show ¬ (79 : Nat) = 0 by decide, not_false_eq_true, p_in (show p < 8 by omega) (by decide : 8 < 2 ^ 31), p_cl (show p < 2 ^ 31 by omega), hw p (by omega) hb]
        exact ih'
      · rw [if_neg hb]
        rw [txy_f hb, txy_f hb] at ih'
        exact ih'
theorem x_tips {wt : Nat → Int32} {n P : Nat} (hn : 100 ≤ n) (hP : P < 2 ^ 31) {lim : Int32} {σ : eb_S} (hG : ShG σ) (hw : ∀ p, p < 8 → bit P p → eb_I σ 79 p = wt p) : f_X2_tips n 78 (nI P) lim σ = some (tipb wt lim P, σ) := by
  have g := fun K => x_tips_L (n := n) hP (lim := lim) hG hw (K := K) n 0 (by omega) (by omega)
  have z : txy wt eb_k2 P 0 = 0 := rfl
  have z' : txy wt eb_k3 P 0 = 0 := rfl
  simp only [z, z', nI_0] at g
  unfold f_X2_tips
  rw [g]
  show (if lim < abI (txy wt eb_k2 P 8) then some (true, σ) else if abI (txy wt eb_k3 P 8) ≤ lim then some (false, σ) else some (true, σ)) = _
  unfold tipb
  split
  · rfl
  · split <;> rfl
theorem d_across : ∀ p, p < 8 → ∀ s : eb_S, f_X10_across (nI p) s = some (eb_k2 p, s) ∧ f_X10_across (nI p + 2 - (nI p + 2) / 8 * 8) s = some (eb_k3 p, s) := by
  intro p hp s
  rcases lt8 hp with h | h | h | h | h | h | h | h <;> subst h <;> exact ⟨rfl, rfl⟩
set_option maxHeartbeats 4000000 in
theorem d_tips_L {wt : Nat → Int32} {n P : Nat} (hP : P < 2 ^ 31) {lim : Int32} {σ : eb_S} (hd : ShD σ) (hw : ∀ p, p < 8 → eb_I σ 119 p = wt p) {K : Int32 → Int32 → eb_S → Option (Bool × eb_S)} : ∀ (m p : Nat), p ≤ 8 → 8 < p + m → f_X10_isTipped_L8 n 91 (nI P) lim K m (txy wt eb_k2 P p) (txy wt eb_k3 P p) (nI p) σ = K (txy wt eb_k2 P 8) (txy wt eb_k3 P 8) σ := by
  intro m
  induction m with
  | zero => intro p h1 h2; omega
  | succ m ih =>
    intro p h1 h2
    have hdu := hd
    unfold ShD at hdu
    rw [f_X10_isTipped_L8.eq_2]
    by_cases h : 8 ≤ p
    · have e : p = 8 := by omega
      subst e
      rw [if_pos (show (8 : Int32) ≤ nI 8 by decide)]
    · rw [if_neg (show ¬ (8 : Int32) ≤ nI p by rw [show (8 : Int32) = nI 8 from rfl, p_leN (by decide) (by omega)]; exact h)]
      have ih' := ih (p + 1) (by omega) (by omega)
      obtain ⟨a1, a2⟩ := d_across p (by omega) σ
      simp only [eb_jn_e, bit_i hP (show p < 31 by omega), nI_1]
      by_cases hb : bit P p
      · rw [if_pos hb]
        rw [txy_t hb, txy_t hb] at ih'
        simp only [eb_gR, eb_ai, hdu, List.mem_singleton, if_true, true_and, ne_eq, show ¬ (119 : Nat) = 0 by decide, not_false_eq_true, p_in (show p < 8 by omega) (by decide : 8 < 2 ^ 31), p_cl (show p < 2 ^ 31 by omega), hw p (by omega), a1, eb_cl_s, show ¬ (8 : Int32) = 0 by decide, if_false, a2]
        exact ih'
      · rw [if_neg hb]
        rw [txy_f hb, txy_f hb] at ih'
        exact ih'
theorem abI_e (x : Int32) : (if 0 ≤ x then x else -x) = abI x := by
  unfold abI
  rw [Int32.zero_sub]
theorem d_tips {wt : Nat → Int32} {n P : Nat} (hn : 100 ≤ n) (hP : P < 2 ^ 31) {lim : Int32} {σ : eb_S} (hd : ShD σ) (hw : ∀ p, p < 8 → eb_I σ 119 p = wt p) : f_X10_isTipped n 91 (nI P) lim σ = some (tipb wt lim P, σ) := by
  have g := fun K => d_tips_L (n := n) hP (lim := lim) hd hw (K := K) n 0 (by omega) (by omega)
  have z : txy wt eb_k2 P 0 = 0 := rfl
  have z' : txy wt eb_k3 P 0 = 0 := rfl
  simp only [z, z', nI_0] at g
  unfold f_X10_isTipped
  rw [g]
  unfold ShD at hd
  simp only [eb_tg, hd, if_true, d_plain, eb_cl_s, abI_e]
  unfold tipb
  split
  · rfl
  · split <;> rfl
-- orders
theorem clr_i : ∀ P, P < 256 → ∀ p, p < 8 → P / 2 ^ p % 2 = 1 → (nI P &&& (((1 : Int32) <<< (nI p &&& 31)) ^^^ (-1))) = nI (P - 2 ^ p) := by decide +kernel
theorem clr_lt {P p : Nat} (h : bit P p) : P - 2 ^ p < P := by
  have hp := Nat.two_pow_pos p
  have : 0 < P := by
    rcases Nat.eq_zero_or_pos P with z | z
    · subst z; unfold bit at h; rw [Nat.zero_div] at h; exact absurd h (by decide)
    · exact z
  omega
def smW (W : Nat → Int32) (P : Nat) : Nat → Int32
  | 0 => 0
  | p + 1 => smW W P p + if bit P p then W (P - 2 ^ p) else 0
theorem smW_cong {W W' : Nat → Int32} {P : Nat} : ∀ k, (∀ p, p < k → bit P p → W (P - 2 ^ p) = W' (P - 2 ^ p)) → smW W P k = smW W' P k
  | 0, _ => rfl
  | k + 1, h => by
    show smW W P k + (if bit P k then _ else _) = smW W' P k + (if bit P k then _ else _)
    rw [smW_cong k (fun p hp => h p (by omega))]
    by_cases e : bit P k
    · rw [if_pos e, if_pos e, h k (by omega) e]
    · rw [if_neg e, if_neg e]
def WWf (wt : Nat → Int32) (lim : Int32) : Nat → Nat → Int32
  | 0, _ => 1
  | d + 1, P => if P = 0 then 1 else if tipb wt lim P = true then 0 else smW (WWf wt lim d) P 8
def WW (wt : Nat → Int32) (lim : Int32) (P : Nat) : Int32 := WWf wt lim P P
theorem WWf_st {wt : Nat → Int32} {lim : Int32} : ∀ (b P d : Nat), P ≤ b → P ≤ d → WWf wt lim d P = WWf wt lim P P
  | b, P, d, hb, hd => by
    match P, d, hd with
    | 0, 0, _ => rfl
    | 0, d + 1, _ => show (if (0 : Nat) = 0 then _ else _) = _; rw [if_pos rfl]; rfl
    | P + 1, d + 1, hd =>
      match b, hb with
      | b + 1, hb =>
        show (if P + 1 = 0 then (1 : Int32) else if tipb wt lim (P + 1) = true then 0 else smW (WWf wt lim d) (P + 1) 8) = (if P + 1 = 0 then (1 : Int32) else if tipb wt lim (P + 1) = true then 0 else smW (WWf wt lim P) (P + 1) 8)
        rw [smW_cong (W := WWf wt lim d) (W' := WWf wt lim P) 8 (fun p hp hbt => by
          have := clr_lt hbt
          rw [WWf_st b (P + 1 - 2 ^ p) d (by omega) (by omega), WWf_st b (P + 1 - 2 ^ p) P (by omega) (by omega)])]
theorem WW_eq {wt : Nat → Int32} {lim : Int32} {P : Nat} (h : P ≠ 0) : WW wt lim P = if tipb wt lim P = true then 0 else smW (WW wt lim) P 8 := by
  obtain ⟨Q, rfl⟩ : ∃ Q, P = Q + 1 := ⟨P - 1, by omega⟩
  show (if Q + 1 = 0 then (1 : Int32) else if tipb wt lim (Q + 1) = true then 0 else smW (WWf wt lim Q) (Q + 1) 8) = _
  rw [if_neg h, smW_cong (W := WWf wt lim Q) (W' := WW wt lim) 8 (fun p hp hbt => by
    have := clr_lt hbt
    exact WWf_st Q _ Q (by omega) (by omega))]
/-- P is a part of F -/
def sbt (P F : Nat) : Prop := (nI P &&& (nI F ^^^ (-1))) = 0
theorem and3 (a b c : Int32) (h : (a &&& c) = 0) : ((a &&& b) &&& c) = 0 := by
  have h' : a.toBitVec &&& c.toBitVec = 0#32 := congrArg Int32.toBitVec h
  apply Int32.toBitVec_inj.mp
  show (a.toBitVec &&& b.toBitVec) &&& c.toBitVec = 0#32
  rw [BitVec.and_assoc, BitVec.and_comm b.toBitVec, ← BitVec.and_assoc, h', BitVec.zero_and]
theorem sbt_clr {P F p : Nat} (hP : P < 256) (hp : p < 8) (hb : bit P p) (h : sbt P F) : sbt (P - 2 ^ p) F := by
  unfold sbt at h ⊢
  rw [← clr_i P hP p hp hb]
  exact and3 _ _ _ h
theorem sbt_rf : ∀ F, F < 256 → (nI F &&& (nI F ^^^ (-1))) = 0 := by decide +kernel
theorem bit_tb {P p : Nat} : bit P p ↔ P.testBit p = true := by
  unfold bit
  rw [Nat.testBit_eq_decide_div_mod_eq, decide_eq_true_iff]
theorem sbt_bit {P F p : Nat} (hp : p < 8) (h : sbt P F) (hb : bit P p) : bit F p := by
  rw [bit_tb] at hb ⊢
  have h' : (BitVec.ofNat 32 P &&& (BitVec.ofNat 32 F ^^^ BitVec.allOnes 32)) = 0#32 := by
    have := congrArg Int32.toBitVec h
    exact this
  have g := congrArg (fun z => BitVec.getLsbD z p) h'
  simp only [BitVec.getLsbD_and, BitVec.getLsbD_xor, BitVec.getLsbD_ofNat, BitVec.getLsbD_allOnes, BitVec.getLsbD_zero, show p < 32 by omega, decide_true, Bool.true_and, hb] at g
  cases hf : F.testBit p with
  | true => rfl
  | false => rw [hf, Nat.zero_testBit] at g; exact absurd g (by decide)
