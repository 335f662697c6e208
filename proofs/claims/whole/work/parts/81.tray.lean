/-! ===== pure: trays, seats ===== -/
abbrev bit (P p : Nat) : Prop := P / 2 ^ p % 2 = 1
theorem bit_dec {P p : Nat} : ¬ bit P p → P / 2 ^ p % 2 = 0 := fun h => by
  unfold bit at h
  have := Nat.mod_lt (P / 2 ^ p) (by decide : 0 < 2)
  omega
theorem bit_i {P p : Nat} (hP : P < 2 ^ 31) (hp : p < 31) : (((nI P >>> (nI p &&& 31)) &&& 1) = 1) = bit P p := by
  rw [bit_at hP hp]
  have := Nat.mod_lt (P / 2 ^ p) (by decide : 0 < 2)
  exact p_eqN (b := 1) (by omega) (by decide)
theorem n_or (a b : Nat) : nI a ||| nI b = nI (a ||| b) := by
  apply Int32.toBitVec_inj.mp
  show BitVec.ofNat 32 a ||| BitVec.ofNat 32 b = BitVec.ofNat 32 (a ||| b)
  apply BitVec.eq_of_toNat_eq
  simp only [BitVec.toNat_or, BitVec.toNat_ofNat]
  exact (Nat.or_mod_two_pow).symm
theorem or_pw {F k : Nat} (h : F < 2 ^ k) : F ||| 2 ^ k = F + 2 ^ k := by
  have e := Nat.two_pow_add_eq_or_of_lt h 1
  rw [Nat.mul_one] at e
  rw [Nat.or_comm, ← e, Nat.add_comm]
theorem or_bit {F k : Nat} (h : F < 2 ^ k) (hk : k < 31) : nI F ||| ((1 : Int32) <<< (nI k &&& 31)) = nI (F + 2 ^ k) := by
  rw [b_shl k hk, n_or, or_pw h]
/-- which places are taken -/
def fullN (x : Nat → Int64) : Nat → Nat
  | 0 => 0
  | k + 1 => fullN x k + if (x k).toInt < 0 then 0 else 2 ^ k
theorem fullN_lt (x : Nat → Int64) : ∀ k, fullN x k < 2 ^ k
  | 0 => by show 0 < 1; decide
  | k + 1 => by
    have h := fullN_lt x k
    have e : 2 ^ (k + 1) = 2 * 2 ^ k := by rw [Nat.pow_succ]; omega
    show fullN x k + (if (x k).toInt < 0 then 0 else 2 ^ k) < _
    split <;> omega
theorem fullN_bit (x : Nat → Int64) (p : Nat) : ∀ d, bit (fullN x (p + 1 + d)) p ↔ ¬ (x p).toInt < 0
  | 0 => by
    have h := fullN_lt x p
    have hp := Nat.two_pow_pos p
    show (fullN x p + (if (x p).toInt < 0 then 0 else 2 ^ p)) / 2 ^ p % 2 = 1 ↔ _
    by_cases e : (x p).toInt < 0
    · rw [if_pos e, Nat.add_zero, Nat.div_eq_of_lt h]
      exact ⟨fun z => absurd z (by decide), fun z => absurd e z⟩
    · rw [if_neg e, Nat.add_div_right _ hp, Nat.div_eq_of_lt h]
      exact ⟨fun _ => e, fun _ => rfl⟩
  | d + 1 => by
    have ih := fullN_bit x p d
    unfold bit at ih ⊢
    rw [← ih]
    show (fullN x (p + 1 + d) + (if (x (p + 1 + d)).toInt < 0 then 0 else 2 ^ (p + 1 + d))) / 2 ^ p % 2 = 1 ↔ _
    by_cases e : (x (p + 1 + d)).toInt < 0
    · rw [if_pos e, Nat.add_zero]
    · rw [if_neg e, show p + 1 + d = p + (d + 1) by omega, Nat.pow_add, Nat.add_mul_div_left _ _ (Nat.two_pow_pos p), Nat.pow_succ, Nat.mul_comm (2 ^ d) 2, Nat.add_mul_mod_self_left]
theorem full8 (x : Nat → Int64) {p : Nat} (hp : p < 8) : bit (fullN x 8) p ↔ ¬ (x p).toInt < 0 := by
  have := fullN_bit x p (8 - (p + 1))
  rw [show p + 1 + (8 - (p + 1)) = 8 by omega] at this
  exact this
/-- the things that sit already, or none: one doesn't sit -/
def sstep (A : Nat → Nat → Nat) (v : Int64) (m : Int32) : Option Int32 := if v.toInt < 0 then some m else if v.toInt < (aN A : Int) ∧ ¬ ((m >>> (v.toInt32 &&& 31)) &&& 1) = 1 then some (m ||| ((1 : Int32) <<< (v.toInt32 &&& 31))) else none
def sst (A : Nat → Nat → Nat) (x : Nat → Int64) : Nat → Option Int32
  | 0 => some 0
  | k + 1 => match sst A x k with
    | none => none
    | some m => sstep A (x k) m
theorem sst_none {A : Nat → Nat → Nat} {x : Nat → Int64} {k : Nat} (h : sst A x k = none) : ∀ d, sst A x (k + d) = none
  | 0 => h
  | d + 1 => by
    show (match sst A x (k + d) with | none => none | some m => sstep A (x (k + d)) m) = none
    rw [sst_none h d]
def wtA (A : Nat → Nat → Nat) (x : Nat → Int64) (p : Nat) : Int32 := if (x p).toInt < 0 then 0 else nI (aW A (x p).toInt.toNat)
theorem l2i {v : Int64} (h0 : ¬ v.toInt < 0) (h1 : v.toInt < 2147483648) : v.toInt32 = nI v.toInt.toNat := by
  rw [← Int32.toInt_inj, Int64.toInt_toInt32, p_ntoInt (by omega), Int.toNat_of_nonneg (by omega)]
  exact Int.bmod_eq_of_le (by omega) (by omega)
def sG (k j : Nat) : Prop := (k = 78 ∧ j = 0) ∨ k = 79 ∨ k = 80
def sGd (k _j : Nat) : Prop := k = 119 ∨ k = 120
theorem nD_sGd : nD sGd := fun k j h => by unfold sGd at h; omega
theorem Fr.shG {S : Nat → Nat → Prop} {σ σ' : eb_S} (h : Fr S σ σ') (hs : ShG σ) : ShG σ' := by
  unfold ShG at *; rw [h.1, h.2.1, h.2.2.1]; exact hs
set_option maxHeartbeats 8000000 in
theorem x_seat_L {A : Nat → Nat → Nat} (w : wf A) {ln sz : Nat → Nat} {it : Nat → Nat → Int64} {n s i : Nat} (hs : s < 4) (hln : ln s ≠ 0) (hi : i + 8 ≤ 16) : ∀ (m k : Nat) (σ : eb_S) (sn : Int32), ShG σ → ShM9 σ → MX9 A σ → XH ln sz it σ → sst A (fun p => it s (i + p)) k = some sn → eb_I σ 78 0 = nI (fullN (fun p => it s (i + p)) k) → (∀ p, p < k → ¬ (it s (i + p)).toInt < 0 → eb_I σ 79 p = wtA A (fun p => it s (i + p)) p) → k ≤ 8 → 8 < k + m → ∃ b σ', f_X2_seat_L10 n 78 (82 + 2 * s) (nI i) m sn (nI k) σ = some (b, σ') ∧ Fr sG σ σ' ∧ (b = false ↔ sst A (fun p => it s (i + p)) 8 = none) ∧ (b = true → eb_I σ' 78 0 = nI (fullN (fun p => it s (i + p)) 8) ∧ ∀ p, p < 8 → ¬ (it s (i + p)).toInt < 0 → eb_I σ' 79 p = wtA A (fun p => it s (i + p)) p) := by
  intro m
  induction m with
  | zero => intro k σ sn _ _ _ _ _ _ _ h1 h2; omega
  | succ m ih =>
    intro k σ sn hG hs9 hX hH hst hfu hwt h1 h2
    have wN := w.1
    have xN := hX.1
    have at' := hH.1.at hs
    have hGu := hG
    have hsu := hs9
    unfold ShG at hGu
    unfold ShM9 at hsu
    rw [f_X2_seat_L10.eq_2]
    by_cases h : 8 ≤ k
    · have e : k = 8 := by omega
      subst e
      rw [if_pos (show (8 : Int32) ≤ nI 8 by decide)]
      exact ⟨true, σ, rfl, Fr.rf, ⟨fun z => absurd z (by decide), fun z => by rw [hst] at z; cases z⟩, fun _ => ⟨hfu, hwt⟩⟩
    · rw [if_neg (show ¬ (8 : Int32) ≤ nI k by rw [show (8 : Int32) = nI 8 from rfl, p_leN (by decide) (by omega)]; exact h)]
      have rd := ((hH.2 s hs).2 hln).2 (i + k) (by omega)
      have cN : (lg_cmp (it s (i + k)) (nI (aN A)).toInt64 < 0) = ((it s (i + k)).toInt < (aN A : Int)) := by rw [p_lgl, p_i64, p_ntoInt (by omega)]
      have c0 : (lg_cmp (it s (i + k)) 0 < 0) = ((it s (i + k)).toInt < 0) := by rw [p_lgl]; rfl
      have nx : sst A (fun p => it s (i + p)) (k + 1) = sstep A (it s (i + k)) sn := by
        show (match sst A (fun p => it s (i + p)) k with | none => none | some m => sstep A (it s (i + k)) m) = _
        rw [hst]
      have last : sst A (fun p => it s (i + p)) (k + 1) = none → sst A (fun p => it s (i + p)) 8 = none := fun z => by
        have := sst_none z (8 - (k + 1))
        rw [show k + 1 + (8 - (k + 1)) = 8 by omega] at this
        exact this
      simp only [eb_gR, eb_gI, eb_pI, eb_al, eb_ai, eb_wi, eb_jn_e, hGu, hsu, at', xN, List.mem_singleton, if_true, true_and, ne_eq, show ¬ (9 : Nat) = 0 by decide, show ¬ (11 : Nat) = 0 by decide, show ¬ (79 : Nat) = 0 by decide, not_false_eq_true, show ¬ 83 + 2 * s = 0 by omega, nI_add, p_in (show i + k < 16 by omega) (by decide : 16 < 2 ^ 31), p_cl (show i + k < 2 ^ 31 by omega), rd, cN, c0, eb_T_sI, eb_R_sI, eb_L_sI, eb_J_sI, eb_N_sI, eb_T_sJ, eb_R_sJ, eb_L_sJ, eb_I_sJ, eb_N_sJ, eb_T_rI, eb_R_rI, eb_L_rI, eb_J_rI, eb_N_rI, eb_T_rJ, eb_R_rJ, eb_L_rJ, eb_I_rJ, eb_N_rJ, hfu]
      by_cases e0 : (it s (i + k)).toInt < 0
      · rw [if_pos (show (it s (i + k)).toInt < (aN A : Int) by omega), if_pos e0]
        have ek : fullN (fun p => it s (i + p)) (k + 1) = fullN (fun p => it s (i + p)) k := by
          show _ + (if (it s (i + k)).toInt < 0 then 0 else 2 ^ k) = _
          rw [if_pos e0]; rfl
        have nx' : sst A (fun p => it s (i + p)) (k + 1) = some sn := by
          rw [nx]; unfold sstep; rw [if_pos e0]
        rw [nI_1]
        exact ih (k + 1) σ sn hG hs9 hX hH nx' (by rw [ek]; exact hfu) (fun p hp hz => by
          by_cases e : p = k
          · subst e; exact absurd e0 hz
          · exact hwt p (by omega) hz) (by omega) (by omega)
      · by_cases eN : (it s (i + k)).toInt < (aN A : Int)
        · rw [if_pos eN, if_neg e0]
          by_cases eb : ((sn >>> ((it s (i + k)).toInt32 &&& 31)) &&& 1) = 1
          · rw [if_pos eb]
            have z : sst A (fun p => it s (i + p)) (k + 1) = none := by
              rw [nx]; unfold sstep; rw [if_neg e0, if_neg (fun z => z.2 eb)]
            exact ⟨false, σ, rfl, Fr.rf, ⟨fun _ => last z, fun _ => rfl⟩, fun z => absurd z (by decide)⟩
          · rw [if_neg eb]
            have ht : (it s (i + k)).toInt.toNat < aN A := by omega
            have ti := l2i e0 (by omega)
            have xW := hX.2.2.1 _ ht
            have fl := fullN_lt (fun p => it s (i + p)) k
            have ob := or_bit fl (by omega)
            have ek : fullN (fun p => it s (i + p)) (k + 1) = fullN (fun p => it s (i + p)) k + 2 ^ k := by
              show _ + (if (it s (i + k)).toInt < 0 then 0 else 2 ^ k) = _
              rw [if_neg e0]
            have nx' : sst A (fun p => it s (i + p)) (k + 1) = some (sn ||| ((1 : Int32) <<< ((it s (i + k)).toInt32 &&& 31))) := by
              rw [nx]; unfold sstep; rw [if_neg e0, if_pos ⟨eN, eb⟩]
            have wk : wtA A (fun p => it s (i + p)) k = nI (aW A (it s (i + k)).toInt.toNat) := by
              unfold wtA; rw [if_neg e0]
            have F1 : Fr sG σ (eb_sI (eb_sI σ 78 0 (nI (fullN (fun p => it s (i + p)) (k + 1)))) 79 k (nI (aW A (it s (i + k)).toInt.toNat))) := (Fr.sI (Or.inl ⟨rfl, rfl⟩)).tr (Fr.sI (Or.inr (Or.inl rfl)))
            obtain ⟨b, σ', g1, g2, g3, g4⟩ := ih (k + 1) _ (sn ||| ((1 : Int32) <<< ((it s (i + k)).toInt32 &&& 31))) (F1.shG hG) (F1.shM9 hs9) (F1.mx (fun k j h => by unfold sG at h; omega) hX) (hH.fr F1.fq (fun k j h1 h2 z => by unfold sG at z; omega)) nx' (by rw [eb_I_sI, if_neg (by decide), eb_I_sI, if_pos rfl, if_pos rfl]) (fun p hp hz => by
              rw [eb_I_sI, if_pos rfl]
              by_cases e : p = k
              · subst e; rw [if_pos rfl, wk]
              · rw [if_neg e, eb_I_sI, if_neg (by decide)]; exact hwt p (by omega) hz) (by omega) (by omega)
            refine ⟨b, σ', ?_, F1.tr g2, g3, g4⟩
            rw [ob, ← ek, ti]
            simp only [p_in (show (it s (i + k)).toInt.toNat < 10 by omega) (by decide : 10 < 2 ^ 31), p_cl (show (it s (i + k)).toInt.toNat < 2 ^ 31 by omega), p_in (show k < 8 by omega) (by decide : 8 < 2 ^ 31), p_cl (show k < 2 ^ 31 by omega), and_self, if_true, eb_I_sI, show ¬ (11 : Nat) = 78 by decide, if_false, xW, nI_1]
            rw [ti] at g1
            exact g1
        · rw [if_neg eN]
          have z : sst A (fun p => it s (i + p)) (k + 1) = none := by
            rw [nx]; unfold sstep; rw [if_neg e0, if_neg (fun z => eN z.1)]
          exact ⟨false, σ, rfl, Fr.rf, ⟨fun _ => last z, fun _ => rfl⟩, fun z => absurd z (by decide)⟩
set_option maxHeartbeats 8000000 in
theorem d_seat_L {A : Nat → Nat → Nat} (w : wf A) {ln sz : Nat → Nat} {it : Nat → Nat → Int64} {n s i : Nat} (hs : s < 4) (hln : ln s ≠ 0) (hi : i + 8 ≤ 16) {v4 v5 : Int32} {K : Int32 → eb_S → Option (Int32 × eb_S)} : ∀ (m k : Nat) (σ : eb_S) (sn : Int32), ShD σ → MD A σ → DH ln sz it σ → sst A (fun p => it s (i + p)) k = some sn → (∀ p, p < k → eb_I σ 119 p = wtA A (fun p => it s (i + p)) p) → k ≤ 8 → 8 < k + m → ∃ σ', Fr sGd σ σ' ∧ ((sst A (fun p => it s (i + p)) 8 = none ∧ f_X10_tray_L70 n 91 (nI s) (nI i) v4 v5 K m sn (nI (fullN (fun p => it s (i + p)) k)) (nI k) σ = some (-2, σ')) ∨ (sst A (fun p => it s (i + p)) 8 ≠ none ∧ f_X10_tray_L70 n 91 (nI s) (nI i) v4 v5 K m sn (nI (fullN (fun p => it s (i + p)) k)) (nI k) σ = K (nI (fullN (fun p => it s (i + p)) 8)) σ' ∧ ∀ p, p < 8 → eb_I σ' 119 p = wtA A (fun p => it s (i + p)) p)) := by
  intro m
  induction m with
  | zero => intro k σ sn _ _ _ _ _ h1 h2; omega
  | succ m ih =>
    intro k σ sn hd hD hH hst hwt h1 h2
    have wN := w.1
    have hdu := hd
    unfold ShD at hdu
    rw [f_X10_tray_L70.eq_2]
    by_cases h : 8 ≤ k
    · have e : k = 8 := by omega
      subst e
      rw [if_pos (show (8 : Int32) ≤ nI 8 by decide)]
      exact ⟨σ, Fr.rf, Or.inr ⟨fun z => (by rw [hst] at z; cases z), rfl, hwt⟩⟩
    · rw [if_neg (show ¬ (8 : Int32) ≤ nI k by rw [show (8 : Int32) = nI 8 from rfl, p_leN (by decide) (by omega)]; exact h)]
      have rd := ((hH s hs).2 hln).2 (i + k) (by omega)
      have ex := p_x16 s i k
      rw [show 16 * s + i + k = 16 * s + (i + k) by omega] at ex
      have c0 : (lg_cmp (it s (i + k)) 0 < 0) = ((it s (i + k)).toInt < 0) := by rw [p_lgl]; rfl
      have nx : sst A (fun p => it s (i + p)) (k + 1) = sstep A (it s (i + k)) sn := by
        show (match sst A (fun p => it s (i + p)) k with | none => none | some m => sstep A (it s (i + k)) m) = _
        rw [hst]
      have last : sst A (fun p => it s (i + p)) (k + 1) = none → sst A (fun p => it s (i + p)) 8 = none := fun z => by
        have := sst_none z (8 - (k + 1))
        rw [show k + 1 + (8 - (k + 1)) = 8 by omega] at this
        exact this
      have F0 : Fr sGd σ (eb_sI σ 119 k 0) := Fr.sI (Or.inl rfl)
      have hd0 := F0.shD hd
      have hD0 : MD A (eb_sI σ 119 k 0) := F0.md nD_sGd hD
      have isT := d_isThing hd0 hD0 w (it s (i + k))
      simp only [eb_gR, eb_al, eb_wi, eb_jn_e, hdu, List.mem_singleton, if_true, true_and, ne_eq, show ¬ (117 : Nat) = 0 by decide, show ¬ (119 : Nat) = 0 by decide, not_false_eq_true, ex, p_in (show 16 * s + (i + k) < 64 by omega) (by decide : 64 < 2 ^ 31), p_cl (show 16 * s + (i + k) < 2 ^ 31 by omega), p_in (show k < 8 by omega) (by decide : 8 < 2 ^ 31), p_cl (show k < 2 ^ 31 by omega), rd, c0]
      by_cases e0 : (it s (i + k)).toInt < 0
      · rw [if_pos e0]
        have ek : fullN (fun p => it s (i + p)) (k + 1) = fullN (fun p => it s (i + p)) k := by
          show _ + (if (it s (i + k)).toInt < 0 then 0 else 2 ^ k) = _
          rw [if_pos e0]; rfl
        have nx' : sst A (fun p => it s (i + p)) (k + 1) = some sn := by
          rw [nx]; unfold sstep; rw [if_pos e0]
        have wk : wtA A (fun p => it s (i + p)) k = 0 := by unfold wtA; rw [if_pos e0]
        obtain ⟨σ', g1, g2⟩ := ih (k + 1) _ sn hd0 hD0 (hH.fr F0.fq (fun k j h1 h2 z => by unfold sGd at z; omega)) nx' (fun p hp => by
          rw [eb_I_sI, if_pos rfl]
          by_cases e : p = k
          · subst e; rw [if_pos rfl, wk]
          · rw [if_neg e]; exact hwt p (by omega)) (by omega) (by omega)
        rw [ek] at g2
        rw [nI_1]
        exact ⟨σ', F0.tr g1, g2⟩
      · rw [if_neg e0]
        have hdu0 := hd0
        unfold ShD at hdu0
        simp only [eb_tg, hdu0, if_true, isT, eb_cl_s, eb_b0]
        by_cases eN : (it s (i + k)).toInt < (aN A : Int)
        · rw [wi_t.mpr ⟨by omega, by omega⟩]
          simp only [Bool.true_eq_false, if_false]
          by_cases eb : ((sn >>> ((it s (i + k)).toInt32 &&& 31)) &&& 1) = 1
          · rw [if_pos eb]
            have z : sst A (fun p => it s (i + p)) (k + 1) = none := by
              rw [nx]; unfold sstep; rw [if_neg e0, if_neg (fun z => z.2 eb)]
            exact ⟨_, F0, Or.inl ⟨last z, rfl⟩⟩
          · rw [if_neg eb]
            have ht : (it s (i + k)).toInt.toNat < aN A := by omega
            have ti := l2i e0 (by omega)
            have yW := hD0.2.2.1 _ ht
            have fl := fullN_lt (fun p => it s (i + p)) k
            have ob := or_bit fl (by omega)
            have ek : fullN (fun p => it s (i + p)) (k + 1) = fullN (fun p => it s (i + p)) k + 2 ^ k := by
              show _ + (if (it s (i + k)).toInt < 0 then 0 else 2 ^ k) = _
              rw [if_neg e0]
            have nx' : sst A (fun p => it s (i + p)) (k + 1) = some (sn ||| ((1 : Int32) <<< ((it s (i + k)).toInt32 &&& 31))) := by
              rw [nx]; unfold sstep; rw [if_neg e0, if_pos ⟨eN, eb⟩]
            have wk : wtA A (fun p => it s (i + p)) k = nI (aW A (it s (i + k)).toInt.toNat) := by
              unfold wtA; rw [if_neg e0]
            have F1 : Fr sGd σ (eb_sI (eb_sI σ 119 k 0) 119 k (nI (aW A (it s (i + k)).toInt.toNat))) := F0.tr (Fr.sI (Or.inl rfl))
            obtain ⟨σ', g1, g2⟩ := ih (k + 1) _ (sn ||| ((1 : Int32) <<< ((it s (i + k)).toInt32 &&& 31))) (F1.shD hd) (F1.md nD_sGd hD) (hH.fr F1.fq (fun k j h1 h2 z => by unfold sGd at z; omega)) nx' (fun p hp => by
              rw [eb_I_sI, if_pos rfl]
              by_cases e : p = k
              · subst e; rw [if_pos rfl, wk]
              · rw [if_neg e, eb_I_sI, if_pos rfl, if_neg e]; exact hwt p (by omega)) (by omega) (by omega)
            rw [ek, ← ob, ti] at g2
            refine ⟨σ', F1.tr g1, ?_⟩
            rw [ti]
            simp only [eb_ai, hdu0, List.mem_singleton, true_and, ne_eq, show ¬ (93 : Nat) = 0 by decide, show ¬ (119 : Nat) = 0 by decide, not_false_eq_true, p_in (show (it s (i + k)).toInt.toNat < 10 by omega) (by decide : 10 < 2 ^ 31), p_cl (show (it s (i + k)).toInt.toNat < 2 ^ 31 by omega), p_in (show k < 8 by omega) (by decide : 8 < 2 ^ 31), p_cl (show k < 2 ^ 31 by omega), and_self, if_true, yW, nI_1]
            exact g2
        · rw [wi_f.mpr (by omega)]
          have z : sst A (fun p => it s (i + p)) (k + 1) = none := by
            rw [nx]; unfold sstep; rw [if_neg e0, if_neg (fun z => eN z.1)]
          exact ⟨_, F0, Or.inl ⟨last z, by simp⟩⟩
