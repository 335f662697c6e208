/-! ===== pure: the state as one table ===== -/
abbrev sca (i : Nat) : Prop := i = 0 ∨ i = 6 ∨ i = 12 ∨ i = 16
def tC (o i : Nat) : Nat := if sca i then o else o + (if i < 6 then i else if i < 12 then i - 1 else if i < 16 then i - 2 else i - 3)
def tS (i j : Nat) : Nat := if sca i then i + 1 else j
def dS (i j : Nat) : Nat := if sca i then i else j
def tE (i x : Nat) : Int32 := if i = 4 then nI x - 50 else nI x
def dE (_i x : Nat) : Int32 := nI x
def bd (A : Nat → Nat → Nat) (i : Nat) : Nat := if sca i then 1 else if i < 6 then aN A else if i < 9 then aS A else if i < 11 then 3 else if i = 11 then 2 else if i < 16 then aLn A else aBn A
def FT (o : Nat) (sl : Nat → Nat → Nat) (e : Nat → Nat → Int32) (b : Nat → Nat) (A : Nat → Nat → Nat) (σ : eb_S) : Prop := ∀ i j, i < 19 → j < b i → eb_I σ (tC o i) (sl i j) = e i (A i j)
theorem FT.mk {o : Nat} {sl : Nat → Nat → Nat} {e : Nat → Nat → Int32} {A : Nat → Nat → Nat} {σ : eb_S}
    (h0 : eb_I σ (tC o 0) (sl 0 0) = e 0 (aN A)) (h6 : eb_I σ (tC o 6) (sl 6 0) = e 6 (aS A)) (h12 : eb_I σ (tC o 12) (sl 12 0) = e 12 (aLn A)) (h16 : eb_I σ (tC o 16) (sl 16 0) = e 16 (aBn A))
    (hn : ∀ i, 0 < i → i < 6 → ∀ t, t < aN A → eb_I σ (tC o i) (sl i t) = e i (A i t)) (hs : ∀ i, 6 < i → i < 9 → ∀ t, t < aS A → eb_I σ (tC o i) (sl i t) = e i (A i t)) (hb : ∀ i, 9 ≤ i → i < 11 → ∀ t, t < 3 → eb_I σ (tC o i) (sl i t) = e i (A i t)) (hr : ∀ t, t < 2 → eb_I σ (tC o 11) (sl 11 t) = e 11 (A 11 t)) (hl : ∀ i, 12 < i → i < 16 → ∀ t, t < aLn A → eb_I σ (tC o i) (sl i t) = e i (A i t)) (hk : ∀ i, 16 < i → i < 19 → ∀ t, t < aBn A → eb_I σ (tC o i) (sl i t) = e i (A i t)) : FT o sl e (bd A) A σ := by
  intro i j hi hj
  unfold bd at hj
  by_cases e0 : sca i
  · rw [if_pos e0] at hj
    have : j = 0 := by omega
    subst this
    rcases e0 with h | h | h | h <;> subst h
    · exact h0
    · exact h6
    · exact h12
    · exact h16
  · rw [if_neg e0] at hj
    unfold sca at e0
    by_cases e1 : i < 6
    · rw [if_pos e1] at hj; exact hn i (by omega) e1 j hj
    · rw [if_neg e1] at hj
      by_cases e2 : i < 9
      · rw [if_pos e2] at hj; exact hs i (by omega) e2 j hj
      · rw [if_neg e2] at hj
        by_cases e3 : i < 11
        · rw [if_pos e3] at hj; exact hb i (by omega) e3 j hj
        · rw [if_neg e3] at hj
          by_cases e4 : i = 11
          · rw [if_pos e4] at hj; subst e4; exact hr j hj
          · rw [if_neg e4] at hj
            by_cases e5 : i < 16
            · rw [if_pos e5] at hj; exact hl i (by omega) e5 j hj
            · rw [if_neg e5] at hj; exact hk i (by omega) hi j hj
theorem MX9.ft {A : Nat → Nat → Nat} {σ : eb_S} (hX : MX9 A σ) : FT 9 tS tE (bd A) A σ := by
  obtain ⟨hN, hK, hW, hP, hL, hB, hS, hY, hU, hH, hG, hR, hLn, hL1, hL2, hLk, hBn, hB1, hB2⟩ := hX
  refine FT.mk hN hS hLn hBn (fun i h1 h2 => ?_) (fun i h1 h2 => ?_) (fun i h1 h2 => ?_) hR (fun i h1 h2 => ?_) (fun i h1 h2 => ?_)
  · rcases (show i = 1 ∨ i = 2 ∨ i = 3 ∨ i = 4 ∨ i = 5 by omega) with rfl | rfl | rfl | rfl | rfl
    · exact hK
    · exact hW
    · exact hP
    · exact hL
    · exact hB
  · rcases (show i = 7 ∨ i = 8 by omega) with rfl | rfl
    · exact hY
    · exact hU
  · rcases (show i = 9 ∨ i = 10 by omega) with rfl | rfl
    · exact hH
    · exact hG
  · rcases (show i = 13 ∨ i = 14 ∨ i = 15 by omega) with rfl | rfl | rfl
    · exact hL1
    · exact hL2
    · exact hLk
  · rcases (show i = 17 ∨ i = 18 by omega) with rfl | rfl
    · exact hB1
    · exact hB2
theorem FT.MX9 {A : Nat → Nat → Nat} {σ : eb_S} (h : FT 9 tS tE (bd A) A σ) : MX9 A σ :=
  ⟨h 0 0 (by decide) Nat.one_pos, fun t ht => h 1 t (by decide) ht, fun t ht => h 2 t (by decide) ht, fun t ht => h 3 t (by decide) ht, fun t ht => h 4 t (by decide) ht, fun t ht => h 5 t (by decide) ht, h 6 0 (by decide) Nat.one_pos, fun t ht => h 7 t (by decide) ht, fun t ht => h 8 t (by decide) ht, fun t ht => h 9 t (by decide) ht, fun t ht => h 10 t (by decide) ht, fun t ht => h 11 t (by decide) ht, h 12 0 (by decide) Nat.one_pos, fun t ht => h 13 t (by decide) ht, fun t ht => h 14 t (by decide) ht, fun t ht => h 15 t (by decide) ht, h 16 0 (by decide) Nat.one_pos, fun t ht => h 17 t (by decide) ht, fun t ht => h 18 t (by decide) ht⟩
theorem MX25.ft {A : Nat → Nat → Nat} {σ : eb_S} (hX : MX25 A σ) : FT 25 tS tE (bd A) A σ := by
  obtain ⟨hN, hK, hW, hP, hL, hB, hS, hY, hU, hH, hG, hR, hLn, hL1, hL2, hLk, hBn, hB1, hB2⟩ := hX
  refine FT.mk hN hS hLn hBn (fun i h1 h2 => ?_) (fun i h1 h2 => ?_) (fun i h1 h2 => ?_) hR (fun i h1 h2 => ?_) (fun i h1 h2 => ?_)
  · rcases (show i = 1 ∨ i = 2 ∨ i = 3 ∨ i = 4 ∨ i = 5 by omega) with rfl | rfl | rfl | rfl | rfl
    · exact hK
    · exact hW
    · exact hP
    · exact hL
    · exact hB
  · rcases (show i = 7 ∨ i = 8 by omega) with rfl | rfl
    · exact hY
    · exact hU
  · rcases (show i = 9 ∨ i = 10 by omega) with rfl | rfl
    · exact hH
    · exact hG
  · rcases (show i = 13 ∨ i = 14 ∨ i = 15 by omega) with rfl | rfl | rfl
    · exact hL1
    · exact hL2
    · exact hLk
  · rcases (show i = 17 ∨ i = 18 by omega) with rfl | rfl
    · exact hB1
    · exact hB2
theorem FT.MX25 {A : Nat → Nat → Nat} {σ : eb_S} (h : FT 25 tS tE (bd A) A σ) : MX25 A σ :=
  ⟨h 0 0 (by decide) Nat.one_pos, fun t ht => h 1 t (by decide) ht, fun t ht => h 2 t (by decide) ht, fun t ht => h 3 t (by decide) ht, fun t ht => h 4 t (by decide) ht, fun t ht => h 5 t (by decide) ht, h 6 0 (by decide) Nat.one_pos, fun t ht => h 7 t (by decide) ht, fun t ht => h 8 t (by decide) ht, fun t ht => h 9 t (by decide) ht, fun t ht => h 10 t (by decide) ht, fun t ht => h 11 t (by decide) ht, h 12 0 (by decide) Nat.one_pos, fun t ht => h 13 t (by decide) ht, fun t ht => h 14 t (by decide) ht, fun t ht => h 15 t (by decide) ht, h 16 0 (by decide) Nat.one_pos, fun t ht => h 17 t (by decide) ht, fun t ht => h 18 t (by decide) ht⟩
theorem MD.ft {A : Nat → Nat → Nat} {σ : eb_S} (hX : MD A σ) : FT 91 dS dE (bd A) A σ := by
  obtain ⟨hN, hK, hW, hP, hL, hB, hS, hY, hU, hH, hG, hR, hLn, hL1, hL2, hLk, hBn, hB1, hB2⟩ := hX
  refine FT.mk hN hS hLn hBn (fun i h1 h2 => ?_) (fun i h1 h2 => ?_) (fun i h1 h2 => ?_) hR (fun i h1 h2 => ?_) (fun i h1 h2 => ?_)
  · rcases (show i = 1 ∨ i = 2 ∨ i = 3 ∨ i = 4 ∨ i = 5 by omega) with rfl | rfl | rfl | rfl | rfl
    · exact hK
    · exact hW
    · exact hP
    · exact hL
    · exact hB
  · rcases (show i = 7 ∨ i = 8 by omega) with rfl | rfl
    · exact hY
    · exact hU
  · rcases (show i = 9 ∨ i = 10 by omega) with rfl | rfl
    · exact hH
    · exact hG
  · rcases (show i = 13 ∨ i = 14 ∨ i = 15 by omega) with rfl | rfl | rfl
    · exact hL1
    · exact hL2
    · exact hLk
  · rcases (show i = 17 ∨ i = 18 by omega) with rfl | rfl
    · exact hB1
    · exact hB2
theorem FT.MD {A : Nat → Nat → Nat} {σ : eb_S} (h : FT 91 dS dE (bd A) A σ) : MD A σ :=
  ⟨h 0 0 (by decide) Nat.one_pos, fun t ht => h 1 t (by decide) ht, fun t ht => h 2 t (by decide) ht, fun t ht => h 3 t (by decide) ht, fun t ht => h 4 t (by decide) ht, fun t ht => h 5 t (by decide) ht, h 6 0 (by decide) Nat.one_pos, fun t ht => h 7 t (by decide) ht, fun t ht => h 8 t (by decide) ht, fun t ht => h 9 t (by decide) ht, fun t ht => h 10 t (by decide) ht, fun t ht => h 11 t (by decide) ht, h 12 0 (by decide) Nat.one_pos, fun t ht => h 13 t (by decide) ht, fun t ht => h 14 t (by decide) ht, fun t ht => h 15 t (by decide) ht, h 16 0 (by decide) Nat.one_pos, fun t ht => h 17 t (by decide) ht, fun t ht => h 18 t (by decide) ht⟩

def aup (A : Nat → Nat → Nat) (i0 j0 x : Nat) : Nat → Nat → Nat := fun i j => if i = i0 ∧ j = j0 then x else A i j
theorem tC_inj {o i i' : Nat} (hi : i < 19) (hi' : i' < 19) (h : tC o i = tC o i') : i = i' ∨ (sca i ∧ sca i') := by
  unfold tC at h
  by_cases s1 : sca i
  · by_cases s2 : sca i'
    · exact Or.inr ⟨s1, s2⟩
    · rw [if_pos s1, if_neg s2] at h
      unfold sca at s2
      left
      split at h
      · omega
      · split at h
        · omega
        · split at h <;> omega
  · by_cases s2 : sca i'
    · rw [if_neg s1, if_pos s2] at h
      unfold sca at s1
      left
      split at h
      · omega
      · split at h
        · omega
        · split at h <;> omega
    · rw [if_neg s1, if_neg s2] at h
      unfold sca at s1 s2
      left
      by_cases a1 : i < 6
      · rw [if_pos a1] at h
        by_cases b1 : i' < 6
        · rw [if_pos b1] at h; omega
        · rw [if_neg b1] at h
          by_cases b2 : i' < 12
          · rw [if_pos b2] at h; omega
          · rw [if_neg b2] at h
            split at h <;> omega
      · rw [if_neg a1] at h
        by_cases a2 : i < 12
        · rw [if_pos a2] at h
          by_cases b1 : i' < 6
          · rw [if_pos b1] at h; omega
          · rw [if_neg b1] at h
            by_cases b2 : i' < 12
            · rw [if_pos b2] at h; omega
            · rw [if_neg b2] at h
              split at h <;> omega
        · rw [if_neg a2] at h
          by_cases a3 : i < 16
          · rw [if_pos a3] at h
            by_cases b1 : i' < 6
            · rw [if_pos b1] at h; omega
            · rw [if_neg b1] at h
              by_cases b2 : i' < 12
              · rw [if_pos b2] at h; omega
              · rw [if_neg b2] at h
                split at h <;> omega
          · rw [if_neg a3] at h
            by_cases b1 : i' < 6
            · rw [if_pos b1] at h; omega
            · rw [if_neg b1] at h
              by_cases b2 : i' < 12
              · rw [if_pos b2] at h; omega
              · rw [if_neg b2] at h
                split at h <;> omega
def slOk (sl : Nat → Nat → Nat) : Prop := (∀ i i' j j', sca i → sca i' → sl i j = sl i' j' → i = i') ∧ ∀ i j, ¬ sca i → sl i j = j
theorem slOk_tS : slOk tS := ⟨fun i i' j j' h1 h2 h => by unfold tS at h; rw [if_pos h1, if_pos h2] at h; omega, fun i j h => by unfold tS; rw [if_neg h]⟩
theorem slOk_dS : slOk dS := ⟨fun i i' j j' h1 h2 h => by unfold dS at h; rw [if_pos h1, if_pos h2] at h; exact h, fun i j h => by unfold dS; rw [if_neg h]⟩
/-- one number of the table is written; what the table reaches to may grow by it -/
theorem FT.up {o : Nat} {sl : Nat → Nat → Nat} (so : slOk sl) {e : Nat → Nat → Int32} {b b' : Nat → Nat} {A : Nat → Nat → Nat} {σ : eb_S} (h : FT o sl e b A σ) (i0 j0 x : Nat) {c s : Nat} {v : Int32} (hi : i0 < 19) (hc : c = tC o i0) (hs : s = sl i0 j0) (hv : v = e i0 x) (h1 : ∀ i, sca i → b' i ≤ 1) (hj : sca i0 → j0 = 0) (hb : ∀ i j, i < 19 → j < b' i → (i = i0 ∧ j = j0) ∨ j < b i) : FT o sl e b' (aup A i0 j0 x) (eb_sI σ c s v) := by
  intro i j hi2 hj2
  rw [eb_I_sI]
  unfold aup
  by_cases e0 : i = i0 ∧ j = j0
  · rw [e0.1, e0.2, if_pos hc.symm, if_pos hs.symm, if_pos ⟨rfl, rfl⟩, hv]
  · have hjb : j < b i := by
      rcases hb i j hi2 hj2 with z | z
      · exact absurd z e0
      · exact z
    rw [if_neg e0]
    by_cases e1 : tC o i = c
    · rw [if_pos e1]
      rw [hc] at e1
      have e2 : sl i j ≠ s := by
        intro e2
        rw [hs] at e2
        rcases tC_inj hi2 hi e1 with z | ⟨z1, z2⟩
        · subst z
          by_cases s0 : sca i
          · have := h1 i s0
            have := hj s0
            exact e0 ⟨rfl, by omega⟩
          · rw [so.2 i j s0, so.2 i j0 s0] at e2
            exact e0 ⟨rfl, e2⟩
        · have z := so.1 i i0 j j0 z1 z2 e2
          have := h1 i z1
          have := hj z2
          exact e0 ⟨z, by omega⟩
      rw [if_neg e2, hc, ← e1]
      exact h i j hi2 hjb
    · rw [if_neg e1]
      exact h i j hi2 hjb
theorem FT.ch {b : Nat → Nat} {e : Nat → Nat → Int32} {A : Nat → Nat → Nat} {σ : eb_S} {o : Nat} (h : FT o tS e b A σ) {v : Int32} : FT o tS e b A (eb_sI σ o 0 v) := by
  intro i j hi hj
  rw [eb_I_sI]
  by_cases e1 : tC o i = o
  · rw [if_pos e1]
    by_cases s0 : sca i
    · rw [if_neg (by unfold tS; rw [if_pos s0]; omega)]
      have := h i j hi hj
      rw [e1] at this
      exact this
    · exfalso
      unfold tC at e1
      rw [if_neg s0] at e1
      unfold sca at s0
      split at e1
      · omega
      · split at e1
        · omega
        · split at e1 <;> omega
  · rw [if_neg e1]
    exact h i j hi hj
theorem bd_sca {A : Nat → Nat → Nat} : ∀ i, sca i → bd A i ≤ 1 := fun i h => by unfold bd; rw [if_pos h]; exact Nat.le_refl _
