/-! ===== pure: image, restore ===== -/
def cpS (σ : eb_S) (c1 c2 n : Nat) : eb_S := eb_rI σ c2 (va_cpy (eb_I σ c1) (eb_I σ c2) 0 0 n)
def csS (σ : eb_S) (c1 s1 c2 s2 : Nat) : eb_S := eb_sI σ c2 s2 (eb_I σ c1 s1)
def inS (σ : eb_S) (c : Nat) : eb_S := eb_sI σ c 0 (eb_I σ c 0 + 1)
theorem cpS_I (σ : eb_S) (c1 c2 n a b : Nat) : eb_I (cpS σ c1 c2 n) a b = if a = c2 ∧ b < n then eb_I σ c1 b else eb_I σ a b := by
  unfold cpS
  rw [eb_I_rI]
  by_cases e : a = c2
  · rw [if_pos e]
    unfold va_cpy
    by_cases e2 : b < n
    · rw [if_pos ⟨by omega, by omega⟩, if_pos ⟨e, e2⟩, show 0 + (b - 0) = b by omega]
    · rw [if_neg (by omega), if_neg (fun z => e2 z.2), e]
  · rw [if_neg e, if_neg (fun z => e z.1)]
theorem csS_I (σ : eb_S) (c1 s1 c2 s2 a b : Nat) : eb_I (csS σ c1 s1 c2 s2) a b = if a = c2 ∧ b = s2 then eb_I σ c1 s1 else eb_I σ a b := by
  unfold csS
  rw [eb_I_sI]
  by_cases e : a = c2
  · by_cases e2 : b = s2
    · rw [if_pos e, if_pos e2, if_pos ⟨e, e2⟩]
    · rw [if_pos e, if_neg e2, if_neg (fun z => e2 z.2), e]
  · rw [if_neg e, if_neg (fun z => e z.1)]
theorem inS_I (σ : eb_S) (c a b : Nat) : eb_I (inS σ c) a b = if a = c ∧ b = 0 then eb_I σ c 0 + 1 else eb_I σ a b := by
  unfold inS
  rw [eb_I_sI]
  by_cases e : a = c
  · by_cases e2 : b = 0
    · rw [if_pos e, if_pos e2, if_pos ⟨e, e2⟩]
    · rw [if_pos e, if_neg e2, if_neg (fun z => e2 z.2), e]
  · rw [if_neg e, if_neg (fun z => e z.1)]
theorem nrf {α : Sort _} {a b : α} (h : a = b) : a = b := h.symm.symm
theorem cpS_T (σ : eb_S) (c1 c2 n : Nat) : eb_T (cpS σ c1 c2 n) = eb_T σ := by unfold cpS; exact nrf (by rfl)
theorem cpS_R (σ : eb_S) (c1 c2 n : Nat) : eb_R (cpS σ c1 c2 n) = eb_R σ := by unfold cpS; exact nrf (by rfl)
theorem cpS_L (σ : eb_S) (c1 c2 n : Nat) : eb_L (cpS σ c1 c2 n) = eb_L σ := by unfold cpS; exact nrf (by rfl)
theorem csS_T (σ : eb_S) (c1 s1 c2 s2 : Nat) : eb_T (csS σ c1 s1 c2 s2) = eb_T σ := by unfold csS; exact nrf (by rfl)
theorem csS_R (σ : eb_S) (c1 s1 c2 s2 : Nat) : eb_R (csS σ c1 s1 c2 s2) = eb_R σ := by unfold csS; exact nrf (by rfl)
theorem csS_L (σ : eb_S) (c1 s1 c2 s2 : Nat) : eb_L (csS σ c1 s1 c2 s2) = eb_L σ := by unfold csS; exact nrf (by rfl)
theorem inS_T (σ : eb_S) (c : Nat) : eb_T (inS σ c) = eb_T σ := by unfold inS; exact nrf (by rfl)
theorem inS_R (σ : eb_S) (c : Nat) : eb_R (inS σ c) = eb_R σ := by unfold inS; exact nrf (by rfl)
theorem inS_L (σ : eb_S) (c : Nat) : eb_L (inS σ c) = eb_L σ := by unfold inS; exact nrf (by rfl)
theorem Fr.cp {S : Nat → Nat → Prop} {σ : eb_S} {c1 c2 n : Nat} (h : ∀ j, S c2 j) : Fr S σ (cpS σ c1 c2 n) := Fr.rI (fun j => Or.inl (h j))
theorem Fr.cs {S : Nat → Nat → Prop} {σ : eb_S} {c1 s1 c2 s2 : Nat} (h : S c2 s2) : Fr S σ (csS σ c1 s1 c2 s2) := Fr.sI h
theorem Fr.inc {S : Nat → Nat → Prop} {σ : eb_S} {c : Nat} (h : S c 0) : Fr S σ (inS σ c) := Fr.sI h
theorem gp_eq {τ : Type} (s : eb_S) (p j q i : Nat) (K : eb_S → Option τ) : (eb_gI s [3] p j fun x => eb_pI s [3] q i x K) = if eb_T s p = 3 ∧ eb_T s q = 3 then K (csS s p j q i) else none := by
  unfold eb_gI eb_pI csS
  by_cases h1 : eb_T s p = 3
  · by_cases h2 : eb_T s q = 3
    · simp [h1, h2]
    · simp [h1, h2]
  · simp [h1]
theorem in_eq {τ : Type} (s : eb_S) (q : Nat) (K : eb_S → Option τ) : (eb_gI s [3] q 0 fun x => eb_pI s [3] q 0 (x + 1) K) = if eb_T s q = 3 then K (inS s q) else none := by
  unfold eb_gI eb_pI inS
  by_cases h1 : eb_T s q = 3
  · simp [h1]
  · simp [h1]
theorem cp10_eq {τ : Type} (s : eb_S) (a b : Nat) (K : eb_S → Option τ) : eb_ci s a 0 b 0 10 K = if eb_T s a = 11 ∧ eb_T s b = 11 ∧ 10 ≤ eb_L s a ∧ 10 ≤ eb_L s b then K (cpS s a b 10) else none := by
  have e : (10 : Int32).toNatClampNeg = 10 := by decide
  have z : (0 : Int32).toNatClampNeg = 0 := by decide
  unfold eb_ci cpS
  simp only [e, z, show ¬ (0 : Int32) < 0 by decide, show ¬ (10 : Int32) < 0 by decide, not_false_eq_true, true_and, Nat.zero_add]
theorem cp5_eq {τ : Type} (s : eb_S) (a b : Nat) (K : eb_S → Option τ) : eb_ci s a 0 b 0 5 K = if eb_T s a = 11 ∧ eb_T s b = 11 ∧ 5 ≤ eb_L s a ∧ 5 ≤ eb_L s b then K (cpS s a b 5) else none := by
  have e : (5 : Int32).toNatClampNeg = 5 := by decide
  have z : (0 : Int32).toNatClampNeg = 0 := by decide
  unfold eb_ci cpS
  simp only [e, z, show ¬ (0 : Int32) < 0 by decide, show ¬ (5 : Int32) < 0 by decide, not_false_eq_true, true_and, Nat.zero_add]
theorem cp3_eq {τ : Type} (s : eb_S) (a b : Nat) (K : eb_S → Option τ) : eb_ci s a 0 b 0 3 K = if eb_T s a = 11 ∧ eb_T s b = 11 ∧ 3 ≤ eb_L s a ∧ 3 ≤ eb_L s b then K (cpS s a b 3) else none := by
  have e : (3 : Int32).toNatClampNeg = 3 := by decide
  have z : (0 : Int32).toNatClampNeg = 0 := by decide
  unfold eb_ci cpS
  simp only [e, z, show ¬ (0 : Int32) < 0 by decide, show ¬ (3 : Int32) < 0 by decide, not_false_eq_true, true_and, Nat.zero_add]
theorem cp2_eq {τ : Type} (s : eb_S) (a b : Nat) (K : eb_S → Option τ) : eb_ci s a 0 b 0 2 K = if eb_T s a = 11 ∧ eb_T s b = 11 ∧ 2 ≤ eb_L s a ∧ 2 ≤ eb_L s b then K (cpS s a b 2) else none := by
  have e : (2 : Int32).toNatClampNeg = 2 := by decide
  have z : (0 : Int32).toNatClampNeg = 0 := by decide
  unfold eb_ci cpS
  simp only [e, z, show ¬ (0 : Int32) < 0 by decide, show ¬ (2 : Int32) < 0 by decide, not_false_eq_true, true_and, Nat.zero_add]
theorem cp8_eq {τ : Type} (s : eb_S) (a b : Nat) (K : eb_S → Option τ) : eb_ci s a 0 b 0 8 K = if eb_T s a = 11 ∧ eb_T s b = 11 ∧ 8 ≤ eb_L s a ∧ 8 ≤ eb_L s b then K (cpS s a b 8) else none := by
  have e : (8 : Int32).toNatClampNeg = 8 := by decide
  have z : (0 : Int32).toNatClampNeg = 0 := by decide
  unfold eb_ci cpS
  simp only [e, z, show ¬ (0 : Int32) < 0 by decide, show ¬ (8 : Int32) < 0 by decide, not_false_eq_true, true_and, Nat.zero_add]
theorem cp6_eq {τ : Type} (s : eb_S) (a b : Nat) (K : eb_S → Option τ) : eb_ci s a 0 b 0 6 K = if eb_T s a = 11 ∧ eb_T s b = 11 ∧ 6 ≤ eb_L s a ∧ 6 ≤ eb_L s b then K (cpS s a b 6) else none := by
  have e : (6 : Int32).toNatClampNeg = 6 := by decide
  have z : (0 : Int32).toNatClampNeg = 0 := by decide
  unfold eb_ci cpS
  simp only [e, z, show ¬ (0 : Int32) < 0 by decide, show ¬ (6 : Int32) < 0 by decide, not_false_eq_true, true_and, Nat.zero_add]
def tkG (q p : Nat) (σ : eb_S) : eb_S := cpS (cpS (csS (cpS (cpS (cpS (cpS (cpS (csS (inS σ q) p 1 q 1) (p + 1) (q + 1) 10) (p + 2) (q + 2) 10) (p + 3) (q + 3) 10) (p + 4) (q + 4) 10) (p + 5) (q + 5) 10) p 7 q 7) (p + 6) (q + 6) 5) (p + 7) (q + 7) 5
def tkA (q p : Nat) (σ : eb_S) : eb_S := cpS (cpS (csS (cpS (cpS (cpS (csS (cpS (cpS (cpS (tkG q p σ) (p + 8) (q + 8) 3) (p + 9) (q + 9) 3) (p + 10) (q + 10) 2) p 13 q 13) (p + 11) (q + 11) 8) (p + 12) (q + 12) 8) (p + 13) (q + 13) 8) p 17 q 17) (p + 14) (q + 14) 6) (p + 15) (q + 15) 6
set_option maxHeartbeats 4000000 in
theorem x_tkG25_9 {σ : eb_S} (hq : ShM25 σ) (hp : ShM9 σ) : f_X3_takeGoods 25 9 σ = some ((), tkG 25 9 σ) := by
  unfold ShM25 at hq
  unfold ShM9 at hp
  unfold f_X3_takeGoods tkG
  simp only [in_eq, gp_eq, cp10_eq, cp5_eq, eb_gR, cpS_T, cpS_R, cpS_L, csS_T, csS_R, csS_L, inS_T, inS_R, inS_L, hq, hp, List.mem_singleton, if_true, true_and, and_self, ne_eq, show ¬ (9 : Nat) = 0 by decide, show ¬ (10 : Nat) = 0 by decide, show ¬ (11 : Nat) = 0 by decide, show ¬ (12 : Nat) = 0 by decide, show ¬ (13 : Nat) = 0 by decide, show ¬ (14 : Nat) = 0 by decide, show ¬ (15 : Nat) = 0 by decide, show ¬ (16 : Nat) = 0 by decide, show ¬ (17 : Nat) = 0 by decide, show ¬ (18 : Nat) = 0 by decide, show ¬ (19 : Nat) = 0 by decide, show ¬ (20 : Nat) = 0 by decide, show ¬ (21 : Nat) = 0 by decide, show ¬ (22 : Nat) = 0 by decide, show ¬ (23 : Nat) = 0 by decide, show ¬ (24 : Nat) = 0 by decide, show ¬ (25 : Nat) = 0 by decide, show ¬ (26 : Nat) = 0 by decide, show ¬ (27 : Nat) = 0 by decide, show ¬ (28 : Nat) = 0 by decide, show ¬ (29 : Nat) = 0 by decide, show ¬ (30 : Nat) = 0 by decide, show ¬ (31 : Nat) = 0 by decide, show ¬ (32 : Nat) = 0 by decide, show ¬ (33 : Nat) = 0 by decide, show ¬ (34 : Nat) = 0 by decide, show ¬ (35 : Nat) = 0 by decide, show ¬ (36 : Nat) = 0 by decide, show ¬ (37 : Nat) = 0 by decide, show ¬ (38 : Nat) = 0 by decide, show ¬ (39 : Nat) = 0 by decide, show ¬ (40 : Nat) = 0 by decide, not_false_eq_true, Nat.le_refl]
theorem tkG25_9_fr {σ : eb_S} : Fr (fun k _ => 25 ≤ k ∧ k ≤ 40) σ (tkG 25 9 σ) := by
  unfold tkG
  exact ((((((((((Fr.inc (by omega)).tr (Fr.cs (by omega))).tr (Fr.cp (by omega))).tr (Fr.cp (by omega))).tr (Fr.cp (by omega))).tr (Fr.cp (by omega))).tr (Fr.cp (by omega))).tr (Fr.cs (by omega))).tr (Fr.cp (by omega))).tr (Fr.cp (by omega)))
set_option maxHeartbeats 4000000 in
theorem x_tkA25_9 {σ : eb_S} (hq : ShM25 σ) (hp : ShM9 σ) : f_X3_takeAll 25 9 σ = some ((), tkA 25 9 σ) := by
  have g := x_tkG25_9 hq hp
  have F := tkG25_9_fr (σ := σ)
  unfold ShM25 at hq
  unfold ShM9 at hp
  have F1 := F.1
  have F2 := F.2.1
  have F3 := F.2.2.1
  unfold f_X3_takeAll tkA
  rw [g]
  generalize tkG 25 9 σ = τ at F1 F2 F3 ⊢
  simp only [eb_tg, eb_cl_s, gp_eq, cp3_eq, cp2_eq, cp8_eq, cp6_eq, eb_gR, F1, F2, F3, cpS_T, cpS_R, cpS_L, csS_T, csS_R, csS_L, inS_T, inS_R, inS_L, hq, hp, List.mem_singleton, if_true, true_and, and_self, ne_eq, show ¬ (9 : Nat) = 0 by decide, show ¬ (10 : Nat) = 0 by decide, show ¬ (11 : Nat) = 0 by decide, show ¬ (12 : Nat) = 0 by decide, show ¬ (13 : Nat) = 0 by decide, show ¬ (14 : Nat) = 0 by decide, show ¬ (15 : Nat) = 0 by decide, show ¬ (16 : Nat) = 0 by decide, show ¬ (17 : Nat) = 0 by decide, show ¬ (18 : Nat) = 0 by decide, show ¬ (19 : Nat) = 0 by decide, show ¬ (20 : Nat) = 0 by decide, show ¬ (21 : Nat) = 0 by decide, show ¬ (22 : Nat) = 0 by decide, show ¬ (23 : Nat) = 0 by decide, show ¬ (24 : Nat) = 0 by decide, show ¬ (25 : Nat) = 0 by decide, show ¬ (26 : Nat) = 0 by decide, show ¬ (27 : Nat) = 0 by decide, show ¬ (28 : Nat) = 0 by decide, show ¬ (29 : Nat) = 0 by decide, show ¬ (30 : Nat) = 0 by decide, show ¬ (31 : Nat) = 0 by decide, show ¬ (32 : Nat) = 0 by decide, show ¬ (33 : Nat) = 0 by decide, show ¬ (34 : Nat) = 0 by decide, show ¬ (35 : Nat) = 0 by decide, show ¬ (36 : Nat) = 0 by decide, show ¬ (37 : Nat) = 0 by decide, show ¬ (38 : Nat) = 0 by decide, show ¬ (39 : Nat) = 0 by decide, show ¬ (40 : Nat) = 0 by decide, not_false_eq_true, Nat.le_refl]
theorem tkA25_9_fr {σ : eb_S} : Fr (fun k _ => 25 ≤ k ∧ k ≤ 40) σ (tkA 25 9 σ) := by
  unfold tkA
  exact ((((((((((tkG25_9_fr.tr (Fr.cp (by omega))).tr (Fr.cp (by omega))).tr (Fr.cp (by omega))).tr (Fr.cs (by omega))).tr (Fr.cp (by omega))).tr (Fr.cp (by omega))).tr (Fr.cp (by omega))).tr (Fr.cs (by omega))).tr (Fr.cp (by omega))).tr (Fr.cp (by omega)))
theorem tkA25_9_ch {σ : eb_S} : eb_I (tkA 25 9 σ) 25 0 = eb_I σ 25 0 + 1 := by
  simp [tkA, tkG, cpS_I, csS_I, inS_I]
set_option maxHeartbeats 8000000 in
theorem tkA25_9_ft {A : Nat → Nat → Nat} (w : wf A) {σ : eb_S} (h : FT 9 tS tE (bd A) A σ) : FT 25 tS tE (bd A) A (tkA 25 9 σ) := by
  intro i j hi hj
  rw [← h i j hi hj]
  have hb := hj
  have wN := w.1
  have wS := w.2.2.1
  have wLn := w.2.2.2.2.2.2.1
  have wBn := w.2.2.2.2.2.2.2.2.1
  unfold aN at wN
  unfold aS at wS
  unfold aLn at wLn
  unfold aBn at wBn
  rcases lt19 hi with rfl | rfl | rfl | rfl | rfl | rfl | rfl | rfl | rfl | rfl | rfl | rfl | rfl | rfl | rfl | rfl | rfl | rfl | rfl
  · simp only [bd, sca, aN, aS, aLn, aBn] at hb
    have hb : j < 1 := by simp at hb; omega
    simp [tC, tS, sca, tkA, tkG, cpS_I, csS_I, inS_I]
  · simp only [bd, sca, aN, aS, aLn, aBn] at hb
    have hb : j < 10 := by simp at hb; omega
    simp [tC, tS, sca, tkA, tkG, cpS_I, csS_I, inS_I, hb]
  · simp only [bd, sca, aN, aS, aLn, aBn] at hb
    have hb : j < 10 := by simp at hb; omega
    simp [tC, tS, sca, tkA, tkG, cpS_I, csS_I, inS_I, hb]
  · simp only [bd, sca, aN, aS, aLn, aBn] at hb
    have hb : j < 10 := by simp at hb; omega
    simp [tC, tS, sca, tkA, tkG, cpS_I, csS_I, inS_I, hb]
  · simp only [bd, sca, aN, aS, aLn, aBn] at hb
    have hb : j < 10 := by simp at hb; omega
    simp [tC, tS, sca, tkA, tkG, cpS_I, csS_I, inS_I, hb]
  · simp only [bd, sca, aN, aS, aLn, aBn] at hb
    have hb : j < 10 := by simp at hb; omega
    simp [tC, tS, sca, tkA, tkG, cpS_I, csS_I, inS_I, hb]
  · simp only [bd, sca, aN, aS, aLn, aBn] at hb
    have hb : j < 1 := by simp at hb; omega
    simp [tC, tS, sca, tkA, tkG, cpS_I, csS_I, inS_I]
  · simp only [bd, sca, aN, aS, aLn, aBn] at hb
    have hb : j < 5 := by simp at hb; omega
    simp [tC, tS, sca, tkA, tkG, cpS_I, csS_I, inS_I, hb]
  · simp only [bd, sca, aN, aS, aLn, aBn] at hb
    have hb : j < 5 := by simp at hb; omega
    simp [tC, tS, sca, tkA, tkG, cpS_I, csS_I, inS_I, hb]
  · simp only [bd, sca, aN, aS, aLn, aBn] at hb
    have hb : j < 3 := by simp at hb; omega
    simp [tC, tS, sca, tkA, tkG, cpS_I, csS_I, inS_I, hb]
  · simp only [bd, sca, aN, aS, aLn, aBn] at hb
    have hb : j < 3 := by simp at hb; omega
    simp [tC, tS, sca, tkA, tkG, cpS_I, csS_I, inS_I, hb]
  · simp only [bd, sca, aN, aS, aLn, aBn] at hb
    have hb : j < 2 := by simp at hb; omega
    simp [tC, tS, sca, tkA, tkG, cpS_I, csS_I, inS_I, hb]
  · simp only [bd, sca, aN, aS, aLn, aBn] at hb
    have hb : j < 1 := by simp at hb; omega
    simp [tC, tS, sca, tkA, tkG, cpS_I, csS_I, inS_I]
  · simp only [bd, sca, aN, aS, aLn, aBn] at hb
    have hb : j < 8 := by simp at hb; omega
    simp [tC, tS, sca, tkA, tkG, cpS_I, csS_I, inS_I, hb]
  · simp only [bd, sca, aN, aS, aLn, aBn] at hb
    have hb : j < 8 := by simp at hb; omega
    simp [tC, tS, sca, tkA, tkG, cpS_I, csS_I, inS_I, hb]
  · simp only [bd, sca, aN, aS, aLn, aBn] at hb
    have hb : j < 8 := by simp at hb; omega
    simp [tC, tS, sca, tkA, tkG, cpS_I, csS_I, inS_I, hb]
  · simp only [bd, sca, aN, aS, aLn, aBn] at hb
    have hb : j < 1 := by simp at hb; omega
    simp [tC, tS, sca, tkA, tkG, cpS_I, csS_I, inS_I]
  · simp only [bd, sca, aN, aS, aLn, aBn] at hb
    have hb : j < 6 := by simp at hb; omega
    simp [tC, tS, sca, tkA, tkG, cpS_I, csS_I, inS_I, hb]
  · simp only [bd, sca, aN, aS, aLn, aBn] at hb
    have hb : j < 6 := by simp at hb; omega
    simp [tC, tS, sca, tkA, tkG, cpS_I, csS_I, inS_I, hb]
set_option maxHeartbeats 4000000 in
theorem x_tkG9_25 {σ : eb_S} (hq : ShM9 σ) (hp : ShM25 σ) : f_X3_takeGoods 9 25 σ = some ((), tkG 9 25 σ) := by
  unfold ShM9 at hq
  unfold ShM25 at hp
  unfold f_X3_takeGoods tkG
  simp only [in_eq, gp_eq, cp10_eq, cp5_eq, eb_gR, cpS_T, cpS_R, cpS_L, csS_T, csS_R, csS_L, inS_T, inS_R, inS_L, hq, hp, List.mem_singleton, if_true, true_and, and_self, ne_eq, show ¬ (9 : Nat) = 0 by decide, show ¬ (10 : Nat) = 0 by decide, show ¬ (11 : Nat) = 0 by decide, show ¬ (12 : Nat) = 0 by decide, show ¬ (13 : Nat) = 0 by decide, show ¬ (14 : Nat) = 0 by decide, show ¬ (15 : Nat) = 0 by decide, show ¬ (16 : Nat) = 0 by decide, show ¬ (17 : Nat) = 0 by decide, show ¬ (18 : Nat) = 0 by decide, show ¬ (19 : Nat) = 0 by decide, show ¬ (20 : Nat) = 0 by decide, show ¬ (21 : Nat) = 0 by decide, show ¬ (22 : Nat) = 0 by decide, show ¬ (23 : Nat) = 0 by decide, show ¬ (24 : Nat) = 0 by decide, show ¬ (25 : Nat) = 0 by decide, show ¬ (26 : Nat) = 0 by decide, show ¬ (27 : Nat) = 0 by decide, show ¬ (28 : Nat) = 0 by decide, show ¬ (29 : Nat) = 0 by decide, show ¬ (30 : Nat) = 0 by decide, show ¬ (31 : Nat) = 0 by decide, show ¬ (32 : Nat) = 0 by decide, show ¬ (33 : Nat) = 0 by decide, show ¬ (34 : Nat) = 0 by decide, show ¬ (35 : Nat) = 0 by decide, show ¬ (36 : Nat) = 0 by decide, show ¬ (37 : Nat) = 0 by decide, show ¬ (38 : Nat) = 0 by decide, show ¬ (39 : Nat) = 0 by decide, show ¬ (40 : Nat) = 0 by decide, not_false_eq_true, Nat.le_refl]
theorem tkG9_25_fr {σ : eb_S} : Fr (fun k _ => 9 ≤ k ∧ k ≤ 24) σ (tkG 9 25 σ) := by
  unfold tkG
  exact ((((((((((Fr.inc (by omega)).tr (Fr.cs (by omega))).tr (Fr.cp (by omega))).tr (Fr.cp (by omega))).tr (Fr.cp (by omega))).tr (Fr.cp (by omega))).tr (Fr.cp (by omega))).tr (Fr.cs (by omega))).tr (Fr.cp (by omega))).tr (Fr.cp (by omega)))
set_option maxHeartbeats 4000000 in
theorem x_tkA9_25 {σ : eb_S} (hq : ShM9 σ) (hp : ShM25 σ) : f_X3_takeAll 9 25 σ = some ((), tkA 9 25 σ) := by
  have g := x_tkG9_25 hq hp
  have F := tkG9_25_fr (σ := σ)
  unfold ShM9 at hq
  unfold ShM25 at hp
  have F1 := F.1
  have F2 := F.2.1
  have F3 := F.2.2.1
  unfold f_X3_takeAll tkA
  rw [g]
  generalize tkG 9 25 σ = τ at F1 F2 F3 ⊢
  simp only [eb_tg, eb_cl_s, gp_eq, cp3_eq, cp2_eq, cp8_eq, cp6_eq, eb_gR, F1, F2, F3, cpS_T, cpS_R, cpS_L, csS_T, csS_R, csS_L, inS_T, inS_R, inS_L, hq, hp, List.mem_singleton, if_true, true_and, and_self, ne_eq, show ¬ (9 : Nat) = 0 by decide, show ¬ (10 : Nat) = 0 by decide, show ¬ (11 : Nat) = 0 by decide, show ¬ (12 : Nat) = 0 by decide, show ¬ (13 : Nat) = 0 by decide, show ¬ (14 : Nat) = 0 by decide, show ¬ (15 : Nat) = 0 by decide, show ¬ (16 : Nat) = 0 by decide, show ¬ (17 : Nat) = 0 by decide, show ¬ (18 : Nat) = 0 by decide, show ¬ (19 : Nat) = 0 by decide, show ¬ (20 : Nat) = 0 by decide, show ¬ (21 : Nat) = 0 by decide, show ¬ (22 : Nat) = 0 by decide, show ¬ (23 : Nat) = 0 by decide, show ¬ (24 : Nat) = 0 by decide, show ¬ (25 : Nat) = 0 by decide, show ¬ (26 : Nat) = 0 by decide, show ¬ (27 : Nat) = 0 by decide, show ¬ (28 : Nat) = 0 by decide, show ¬ (29 : Nat) = 0 by decide, show ¬ (30 : Nat) = 0 by decide, show ¬ (31 : Nat) = 0 by decide, show ¬ (32 : Nat) = 0 by decide, show ¬ (33 : Nat) = 0 by decide, show ¬ (34 : Nat) = 0 by decide, show ¬ (35 : Nat) = 0 by decide, show ¬ (36 : Nat) = 0 by decide, show ¬ (37 : Nat) = 0 by decide, show ¬ (38 : Nat) = 0 by decide, show ¬ (39 : Nat) = 0 by decide, show ¬ (40 : Nat) = 0 by decide, not_false_eq_true, Nat.le_refl]
theorem tkA9_25_fr {σ : eb_S} : Fr (fun k _ => 9 ≤ k ∧ k ≤ 24) σ (tkA 9 25 σ) := by
  unfold tkA
  exact ((((((((((tkG9_25_fr.tr (Fr.cp (by omega))).tr (Fr.cp (by omega))).tr (Fr.cp (by omega))).tr (Fr.cs (by omega))).tr (Fr.cp (by omega))).tr (Fr.cp (by omega))).tr (Fr.cp (by omega))).tr (Fr.cs (by omega))).tr (Fr.cp (by omega))).tr (Fr.cp (by omega)))
theorem tkA9_25_ch {σ : eb_S} : eb_I (tkA 9 25 σ) 9 0 = eb_I σ 9 0 + 1 := by
  simp [tkA, tkG, cpS_I, csS_I, inS_I]
set_option maxHeartbeats 8000000 in
theorem tkA9_25_ft {A : Nat → Nat → Nat} (w : wf A) {σ : eb_S} (h : FT 25 tS tE (bd A) A σ) : FT 9 tS tE (bd A) A (tkA 9 25 σ) := by
  intro i j hi hj
  rw [← h i j hi hj]
  have hb := hj
  have wN := w.1
  have wS := w.2.2.1
  have wLn := w.2.2.2.2.2.2.1
  have wBn := w.2.2.2.2.2.2.2.2.1
  unfold aN at wN
  unfold aS at wS
  unfold aLn at wLn
  unfold aBn at wBn
  rcases lt19 hi with rfl | rfl | rfl | rfl | rfl | rfl | rfl | rfl | rfl | rfl | rfl | rfl | rfl | rfl | rfl | rfl | rfl | rfl | rfl
  · simp only [bd, sca, aN, aS, aLn, aBn] at hb
    have hb : j < 1 := by simp at hb; omega
    simp [tC, tS, sca, tkA, tkG, cpS_I, csS_I, inS_I]
  · simp only [bd, sca, aN, aS, aLn, aBn] at hb
    have hb : j < 10 := by simp at hb; omega
    simp [tC, tS, sca, tkA, tkG, cpS_I, csS_I, inS_I, hb]
  · simp only [bd, sca, aN, aS, aLn, aBn] at hb
    have hb : j < 10 := by simp at hb; omega
    simp [tC, tS, sca, tkA, tkG, cpS_I, csS_I, inS_I, hb]
  · simp only [bd, sca, aN, aS, aLn, aBn] at hb
    have hb : j < 10 := by simp at hb; omega
    simp [tC, tS, sca, tkA, tkG, cpS_I, csS_I, inS_I, hb]
  · simp only [bd, sca, aN, aS, aLn, aBn] at hb
    have hb : j < 10 := by simp at hb; omega
    simp [tC, tS, sca, tkA, tkG, cpS_I, csS_I, inS_I, hb]
  · simp only [bd, sca, aN, aS, aLn, aBn] at hb
    have hb : j < 10 := by simp at hb; omega
    simp [tC, tS, sca, tkA, tkG, cpS_I, csS_I, inS_I, hb]
  · simp only [bd, sca, aN, aS, aLn, aBn] at hb
    have hb : j < 1 := by simp at hb; omega
    simp [tC, tS, sca, tkA, tkG, cpS_I, csS_I, inS_I]
  · simp only [bd, sca, aN, aS, aLn, aBn] at hb
    have hb : j < 5 := by simp at hb; omega
    simp [tC, tS, sca, tkA, tkG, cpS_I, csS_I, inS_I, hb]
  · simp only [bd, sca, aN, aS, aLn, aBn] at hb
    have hb : j < 5 := by simp at hb; omega
    simp [tC, tS, sca, tkA, tkG, cpS_I, csS_I, inS_I, hb]
  · simp only [bd, sca, aN, aS, aLn, aBn] at hb
    have hb : j < 3 := by simp at hb; omega
    simp [tC, tS, sca, tkA, tkG, cpS_I, csS_I, inS_I, hb]
  · simp only [bd, sca, aN, aS, aLn, aBn] at hb
    have hb : j < 3 := by simp at hb; omega
    simp [tC, tS, sca, tkA, tkG, cpS_I, csS_I, inS_I, hb]
  · simp only [bd, sca, aN, aS, aLn, aBn] at hb
    have hb : j < 2 := by simp at hb; omega
    simp [tC, tS, sca, tkA, tkG, cpS_I, csS_I, inS_I, hb]
  · simp only [bd, sca, aN, aS, aLn, aBn] at hb
    have hb : j < 1 := by simp at hb; omega
    simp [tC, tS, sca, tkA, tkG, cpS_I, csS_I, inS_I]
  · simp only [bd, sca, aN, aS, aLn, aBn] at hb
    have hb : j < 8 := by simp at hb; omega
    simp [tC, tS, sca, tkA, tkG, cpS_I, csS_I, inS_I, hb]
  · simp only [bd, sca, aN, aS, aLn, aBn] at hb
    have hb : j < 8 := by simp at hb; omega
    simp [tC, tS, sca, tkA, tkG, cpS_I, csS_I, inS_I, hb]
  · simp only [bd, sca, aN, aS, aLn, aBn] at hb
    have hb : j < 8 := by simp at hb; omega
    simp [tC, tS, sca, tkA, tkG, cpS_I, csS_I, inS_I, hb]
  · simp only [bd, sca, aN, aS, aLn, aBn] at hb
    have hb : j < 1 := by simp at hb; omega
    simp [tC, tS, sca, tkA, tkG, cpS_I, csS_I, inS_I]
  · simp only [bd, sca, aN, aS, aLn, aBn] at hb
    have hb : j < 6 := by simp at hb; omega
    simp [tC, tS, sca, tkA, tkG, cpS_I, csS_I, inS_I, hb]
  · simp only [bd, sca, aN, aS, aLn, aBn] at hb
    have hb : j < 6 := by simp at hb; omega
    simp [tC, tS, sca, tkA, tkG, cpS_I, csS_I, inS_I, hb]
set_option maxHeartbeats 4000000 in
theorem x_tkG9_41 {σ : eb_S} (hq : ShM9 σ) (hp : ShM41 σ) : f_X3_takeGoods 9 41 σ = some ((), tkG 9 41 σ) := by
  unfold ShM9 at hq
  unfold ShM41 at hp
  unfold f_X3_takeGoods tkG
  simp only [in_eq, gp_eq, cp10_eq, cp5_eq, eb_gR, cpS_T, cpS_R, cpS_L, csS_T, csS_R, csS_L, inS_T, inS_R, inS_L, hq, hp, List.mem_singleton, if_true, true_and, and_self, ne_eq, show ¬ (9 : Nat) = 0 by decide, show ¬ (10 : Nat) = 0 by decide, show ¬ (11 : Nat) = 0 by decide, show ¬ (12 : Nat) = 0 by decide, show ¬ (13 : Nat) = 0 by decide, show ¬ (14 : Nat) = 0 by decide, show ¬ (15 : Nat) = 0 by decide, show ¬ (16 : Nat) = 0 by decide, show ¬ (17 : Nat) = 0 by decide, show ¬ (18 : Nat) = 0 by decide, show ¬ (19 : Nat) = 0 by decide, show ¬ (20 : Nat) = 0 by decide, show ¬ (21 : Nat) = 0 by decide, show ¬ (22 : Nat) = 0 by decide, show ¬ (23 : Nat) = 0 by decide, show ¬ (24 : Nat) = 0 by decide, show ¬ (41 : Nat) = 0 by decide, show ¬ (42 : Nat) = 0 by decide, show ¬ (43 : Nat) = 0 by decide, show ¬ (44 : Nat) = 0 by decide, show ¬ (45 : Nat) = 0 by decide, show ¬ (46 : Nat) = 0 by decide, show ¬ (47 : Nat) = 0 by decide, show ¬ (48 : Nat) = 0 by decide, show ¬ (49 : Nat) = 0 by decide, show ¬ (50 : Nat) = 0 by decide, show ¬ (51 : Nat) = 0 by decide, show ¬ (52 : Nat) = 0 by decide, show ¬ (53 : Nat) = 0 by decide, show ¬ (54 : Nat) = 0 by decide, show ¬ (55 : Nat) = 0 by decide, show ¬ (56 : Nat) = 0 by decide, not_false_eq_true, Nat.le_refl]
theorem tkG9_41_fr {σ : eb_S} : Fr (fun k _ => 9 ≤ k ∧ k ≤ 24) σ (tkG 9 41 σ) := by
  unfold tkG
  exact ((((((((((Fr.inc (by omega)).tr (Fr.cs (by omega))).tr (Fr.cp (by omega))).tr (Fr.cp (by omega))).tr (Fr.cp (by omega))).tr (Fr.cp (by omega))).tr (Fr.cp (by omega))).tr (Fr.cs (by omega))).tr (Fr.cp (by omega))).tr (Fr.cp (by omega)))
