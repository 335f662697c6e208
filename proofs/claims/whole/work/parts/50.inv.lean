/-! ===== pure: what holds between two calls ===== -/
/-- only what S names has changed; S k 1000: the cell's shape -/
def Fq (S : Nat → Nat → Prop) (σ σ' : eb_S) : Prop := (∀ k, ¬ S k 1000 → eb_T σ' k = eb_T σ k ∧ eb_R σ' k = eb_R σ k ∧ eb_L σ' k = eb_L σ k) ∧ (∀ k j, ¬ S k j → eb_I σ' k j = eb_I σ k j ∧ eb_J σ' k j = eb_J σ k j) ∧ eb_N σ ≤ eb_N σ'
theorem Fr.fq {S : Nat → Nat → Prop} {σ σ' : eb_S} (h : Fr S σ σ') : Fq S σ σ' := ⟨fun k _ => ⟨by rw [h.1], by rw [h.2.1], by rw [h.2.2.1]⟩, fun k j hk => ⟨h.2.2.2.2.2 k j hk, by rw [h.2.2.2.2.1]⟩, by rw [h.2.2.2.1]; exact Nat.le_refl _⟩
theorem Fq.rf {S : Nat → Nat → Prop} {σ : eb_S} : Fq S σ σ := ⟨fun _ _ => ⟨rfl, rfl, rfl⟩, fun _ _ _ => ⟨rfl, rfl⟩, Nat.le_refl _⟩
theorem Fq.tr {S : Nat → Nat → Prop} {σ σ' σ'' : eb_S} (h : Fq S σ σ') (h' : Fq S σ' σ'') : Fq S σ σ'' := ⟨fun k hk => ⟨(h'.1 k hk).1.trans (h.1 k hk).1, (h'.1 k hk).2.1.trans (h.1 k hk).2.1, (h'.1 k hk).2.2.trans (h.1 k hk).2.2⟩, fun k j hk => ⟨(h'.2.1 k j hk).1.trans (h.2.1 k j hk).1, (h'.2.1 k j hk).2.trans (h.2.1 k j hk).2⟩, Nat.le_trans h.2.2 h'.2.2⟩
theorem Fq.mono {S S' : Nat → Nat → Prop} {σ σ' : eb_S} (h : Fq S σ σ') (hS : ∀ k j, S k j → S' k j) : Fq S' σ σ' := ⟨fun k hk => h.1 k (fun z => hk (hS _ _ z)), fun k j hk => h.2.1 k j (fun z => hk (hS _ _ z)), h.2.2⟩
theorem Fq.sI {S : Nat → Nat → Prop} {σ : eb_S} {k j : Nat} {x : Int32} (h : S k j) : Fq S σ (eb_sI σ k j x) := (Fr.sI h).fq
theorem Fq.sJ {S : Nat → Nat → Prop} {σ : eb_S} {k j : Nat} {x : Int64} (h : S k j) : Fq S σ (eb_sJ σ k j x) := ⟨fun _ _ => ⟨rfl, rfl, rfl⟩, fun a b hab => ⟨rfl, by
  rw [eb_J_sJ]
  by_cases e : a = k
  · rw [if_pos e, if_neg (fun z => hab (by rw [e, z]; exact h)), e]
  · rw [if_neg e]⟩, Nat.le_refl _⟩
theorem Fq.i {S : Nat → Nat → Prop} {σ σ' : eb_S} (h : Fq S σ σ') {k j : Nat} (hk : ¬ S k j) : eb_I σ' k j = eb_I σ k j := (h.2.1 k j hk).1
theorem Fq.jj {S : Nat → Nat → Prop} {σ σ' : eb_S} (h : Fq S σ σ') {k j : Nat} (hk : ¬ S k j) : eb_J σ' k j = eb_J σ k j := (h.2.1 k j hk).2
/-- cells a .. b are not touched -/
def nt (S : Nat → Nat → Prop) (a b : Nat) : Prop := ∀ k j, a ≤ k → k ≤ b → ¬ S k j
theorem Fq.t {S : Nat → Nat → Prop} {σ σ' : eb_S} (h : Fq S σ σ') {a b : Nat} (hn : nt S a b) {k : Nat} (h1 : a ≤ k) (h2 : k ≤ b) : eb_T σ' k = eb_T σ k ∧ eb_R σ' k = eb_R σ k ∧ eb_L σ' k = eb_L σ k := h.1 k (hn k 1000 h1 h2)
theorem Fq.it {S : Nat → Nat → Prop} {σ σ' : eb_S} (h : Fq S σ σ') {a b : Nat} (hn : nt S a b) {k j : Nat} (h1 : a ≤ k) (h2 : k ≤ b) : eb_I σ' k j = eb_I σ k j := h.i (hn k j h1 h2)
theorem Fq.shM9 {S : Nat → Nat → Prop} {σ σ' : eb_S} (h : Fq S σ σ') (hn : nt S 9 24) (hs : ShM9 σ) : ShM9 σ' := by
  have c9 := h.t hn (k := 9) (by decide) (by decide)
  have c10 := h.t hn (k := 10) (by decide) (by decide)
  have c11 := h.t hn (k := 11) (by decide) (by decide)
  have c12 := h.t hn (k := 12) (by decide) (by decide)
  have c13 := h.t hn (k := 13) (by decide) (by decide)
  have c14 := h.t hn (k := 14) (by decide) (by decide)
  have c15 := h.t hn (k := 15) (by decide) (by decide)
  have c16 := h.t hn (k := 16) (by decide) (by decide)
  have c17 := h.t hn (k := 17) (by decide) (by decide)
  have c18 := h.t hn (k := 18) (by decide) (by decide)
  have c19 := h.t hn (k := 19) (by decide) (by decide)
  have c20 := h.t hn (k := 20) (by decide) (by decide)
  have c21 := h.t hn (k := 21) (by decide) (by decide)
  have c22 := h.t hn (k := 22) (by decide) (by decide)
  have c23 := h.t hn (k := 23) (by decide) (by decide)
  have c24 := h.t hn (k := 24) (by decide) (by decide)
  unfold ShM9 at hs ⊢
  simp only [c9.1, c9.2.1, c9.2.2, c10.1, c10.2.1, c10.2.2, c11.1, c11.2.1, c11.2.2, c12.1, c12.2.1, c12.2.2, c13.1, c13.2.1, c13.2.2, c14.1, c14.2.1, c14.2.2, c15.1, c15.2.1, c15.2.2, c16.1, c16.2.1, c16.2.2, c17.1, c17.2.1, c17.2.2, c18.1, c18.2.1, c18.2.2, c19.1, c19.2.1, c19.2.2, c20.1, c20.2.1, c20.2.2, c21.1, c21.2.1, c21.2.2, c22.1, c22.2.1, c22.2.2, c23.1, c23.2.1, c23.2.2, c24.1, c24.2.1, c24.2.2]
  exact hs
theorem Fq.shM25 {S : Nat → Nat → Prop} {σ σ' : eb_S} (h : Fq S σ σ') (hn : nt S 25 40) (hs : ShM25 σ) : ShM25 σ' := by
  have c25 := h.t hn (k := 25) (by decide) (by decide)
  have c26 := h.t hn (k := 26) (by decide) (by decide)
  have c27 := h.t hn (k := 27) (by decide) (by decide)
  have c28 := h.t hn (k := 28) (by decide) (by decide)
  have c29 := h.t hn (k := 29) (by decide) (by decide)
  have c30 := h.t hn (k := 30) (by decide) (by decide)
  have c31 := h.t hn (k := 31) (by decide) (by decide)
  have c32 := h.t hn (k := 32) (by decide) (by decide)
  have c33 := h.t hn (k := 33) (by decide) (by decide)
  have c34 := h.t hn (k := 34) (by decide) (by decide)
  have c35 := h.t hn (k := 35) (by decide) (by decide)
  have c36 := h.t hn (k := 36) (by decide) (by decide)
  have c37 := h.t hn (k := 37) (by decide) (by decide)
  have c38 := h.t hn (k := 38) (by decide) (by decide)
  have c39 := h.t hn (k := 39) (by decide) (by decide)
  have c40 := h.t hn (k := 40) (by decide) (by decide)
  unfold ShM25 at hs ⊢
  simp only [c25.1, c25.2.1, c25.2.2, c26.1, c26.2.1, c26.2.2, c27.1, c27.2.1, c27.2.2, c28.1, c28.2.1, c28.2.2, c29.1, c29.2.1, c29.2.2, c30.1, c30.2.1, c30.2.2, c31.1, c31.2.1, c31.2.2, c32.1, c32.2.1, c32.2.2, c33.1, c33.2.1, c33.2.2, c34.1, c34.2.1, c34.2.2, c35.1, c35.2.1, c35.2.2, c36.1, c36.2.1, c36.2.2, c37.1, c37.2.1, c37.2.2, c38.1, c38.2.1, c38.2.2, c39.1, c39.2.1, c39.2.2, c40.1, c40.2.1, c40.2.2]
  exact hs
theorem Fq.shM41 {S : Nat → Nat → Prop} {σ σ' : eb_S} (h : Fq S σ σ') (hn : nt S 41 56) (hs : ShM41 σ) : ShM41 σ' := by
  have c41 := h.t hn (k := 41) (by decide) (by decide)
  have c42 := h.t hn (k := 42) (by decide) (by decide)
  have c43 := h.t hn (k := 43) (by decide) (by decide)
  have c44 := h.t hn (k := 44) (by decide) (by decide)
  have c45 := h.t hn (k := 45) (by decide) (by decide)
  have c46 := h.t hn (k := 46) (by decide) (by decide)
  have c47 := h.t hn (k := 47) (by decide) (by decide)
  have c48 := h.t hn (k := 48) (by decide) (by decide)
  have c49 := h.t hn (k := 49) (by decide) (by decide)
  have c50 := h.t hn (k := 50) (by decide) (by decide)
  have c51 := h.t hn (k := 51) (by decide) (by decide)
  have c52 := h.t hn (k := 52) (by decide) (by decide)
  have c53 := h.t hn (k := 53) (by decide) (by decide)
  have c54 := h.t hn (k := 54) (by decide) (by decide)
  have c55 := h.t hn (k := 55) (by decide) (by decide)
  have c56 := h.t hn (k := 56) (by decide) (by decide)
  unfold ShM41 at hs ⊢
  simp only [c41.1, c41.2.1, c41.2.2, c42.1, c42.2.1, c42.2.2, c43.1, c43.2.1, c43.2.2, c44.1, c44.2.1, c44.2.2, c45.1, c45.2.1, c45.2.2, c46.1, c46.2.1, c46.2.2, c47.1, c47.2.1, c47.2.2, c48.1, c48.2.1, c48.2.2, c49.1, c49.2.1, c49.2.2, c50.1, c50.2.1, c50.2.2, c51.1, c51.2.1, c51.2.2, c52.1, c52.2.1, c52.2.2, c53.1, c53.2.1, c53.2.2, c54.1, c54.2.1, c54.2.2, c55.1, c55.2.1, c55.2.2, c56.1, c56.2.1, c56.2.2]
  exact hs
theorem Fq.shT {S : Nat → Nat → Prop} {σ σ' : eb_S} (h : Fq S σ σ') (hn : nt S 57 58) (hs : ShT σ) : ShT σ' := by
  have c57 := h.t hn (k := 57) (by decide) (by decide)
  have c58 := h.t hn (k := 58) (by decide) (by decide)
  unfold ShT at hs ⊢
  simp only [c57.1, c57.2.1, c57.2.2, c58.1, c58.2.1, c58.2.2]
  exact hs
theorem Fq.shS0 {S : Nat → Nat → Prop} {σ σ' : eb_S} (h : Fq S σ σ') (hn : nt S 59 63) (hs : ShS0 σ) : ShS0 σ' := by
  have c59 := h.t hn (k := 59) (by decide) (by decide)
  have c60 := h.t hn (k := 60) (by decide) (by decide)
  have c61 := h.t hn (k := 61) (by decide) (by decide)
  have c62 := h.t hn (k := 62) (by decide) (by decide)
  have c63 := h.t hn (k := 63) (by decide) (by decide)
  unfold ShS0 at hs ⊢
  simp only [c59.1, c59.2.1, c59.2.2, c60.1, c60.2.1, c60.2.2, c61.1, c61.2.1, c61.2.2, c62.1, c62.2.1, c62.2.2, c63.1, c63.2.1, c63.2.2]
  exact hs
theorem Fq.shS4 {S : Nat → Nat → Prop} {σ σ' : eb_S} (h : Fq S σ σ') (hn : nt S 64 68) (hs : ShS4 σ) : ShS4 σ' := by
  have c64 := h.t hn (k := 64) (by decide) (by decide)
  have c65 := h.t hn (k := 65) (by decide) (by decide)
  have c66 := h.t hn (k := 66) (by decide) (by decide)
  have c67 := h.t hn (k := 67) (by decide) (by decide)
  have c68 := h.t hn (k := 68) (by decide) (by decide)
  unfold ShS4 at hs ⊢
  simp only [c64.1, c64.2.1, c64.2.2, c65.1, c65.2.1, c65.2.2, c66.1, c66.2.1, c66.2.2, c67.1, c67.2.1, c67.2.2, c68.1, c68.2.1, c68.2.2]
  exact hs
theorem Fq.shS5 {S : Nat → Nat → Prop} {σ σ' : eb_S} (h : Fq S σ σ') (hn : nt S 69 74) (hs : ShS5 σ) : ShS5 σ' := by
  have c69 := h.t hn (k := 69) (by decide) (by decide)
  have c70 := h.t hn (k := 70) (by decide) (by decide)
  have c71 := h.t hn (k := 71) (by decide) (by decide)
  have c72 := h.t hn (k := 72) (by decide) (by decide)
  have c73 := h.t hn (k := 73) (by decide) (by decide)
  have c74 := h.t hn (k := 74) (by decide) (by decide)
  unfold ShS5 at hs ⊢
  simp only [c69.1, c69.2.1, c69.2.2, c70.1, c70.2.1, c70.2.2, c71.1, c71.2.1, c71.2.2, c72.1, c72.2.1, c72.2.2, c73.1, c73.2.1, c73.2.2, c74.1, c74.2.1, c74.2.2]
  exact hs
theorem Fq.shE {S : Nat → Nat → Prop} {σ σ' : eb_S} (h : Fq S σ σ') (hn : nt S 75 76) (hs : ShE σ) : ShE σ' := by
  have c75 := h.t hn (k := 75) (by decide) (by decide)
  have c76 := h.t hn (k := 76) (by decide) (by decide)
  unfold ShE at hs ⊢
  simp only [c75.1, c75.2.1, c75.2.2, c76.1, c76.2.1, c76.2.2]
  exact hs
theorem Fq.shG {S : Nat → Nat → Prop} {σ σ' : eb_S} (h : Fq S σ σ') (hn : nt S 78 80) (hs : ShG σ) : ShG σ' := by
  have c78 := h.t hn (k := 78) (by decide) (by decide)
  have c79 := h.t hn (k := 79) (by decide) (by decide)
  have c80 := h.t hn (k := 80) (by decide) (by decide)
  unfold ShG at hs ⊢
  simp only [c78.1, c78.2.1, c78.2.2, c79.1, c79.2.1, c79.2.2, c80.1, c80.2.1, c80.2.2]
  exact hs
theorem Fq.shH {S : Nat → Nat → Prop} {σ σ' : eb_S} (h : Fq S σ σ') (hn : nt S 82 89) (hs : ShH σ) : ShH σ' := by
  have c82 := h.t hn (k := 82) (by decide) (by decide)
  have c83 := h.t hn (k := 83) (by decide) (by decide)
  have c84 := h.t hn (k := 84) (by decide) (by decide)
  have c85 := h.t hn (k := 85) (by decide) (by decide)
  have c86 := h.t hn (k := 86) (by decide) (by decide)
  have c87 := h.t hn (k := 87) (by decide) (by decide)
  have c88 := h.t hn (k := 88) (by decide) (by decide)
  have c89 := h.t hn (k := 89) (by decide) (by decide)
  unfold ShH at hs ⊢
  simp only [c82.1, c82.2.1, c82.2.2, c83.1, c83.2.1, c83.2.2, c84.1, c84.2.1, c84.2.2, c85.1, c85.2.1, c85.2.2, c86.1, c86.2.1, c86.2.2, c87.1, c87.2.1, c87.2.2, c88.1, c88.2.1, c88.2.2, c89.1, c89.2.1, c89.2.2]
  exact hs
theorem Fq.shD {S : Nat → Nat → Prop} {σ σ' : eb_S} (h : Fq S σ σ') (hn : nt S 91 120) (hs : ShD σ) : ShD σ' := by
  have c91 := h.t hn (k := 91) (by decide) (by decide)
  have c92 := h.t hn (k := 92) (by decide) (by decide)
  have c93 := h.t hn (k := 93) (by decide) (by decide)
  have c94 := h.t hn (k := 94) (by decide) (by decide)
  have c95 := h.t hn (k := 95) (by decide) (by decide)
  have c96 := h.t hn (k := 96) (by decide) (by decide)
  have c97 := h.t hn (k := 97) (by decide) (by decide)
  have c98 := h.t hn (k := 98) (by decide) (by decide)
  have c99 := h.t hn (k := 99) (by decide) (by decide)
  have c100 := h.t hn (k := 100) (by decide) (by decide)
  have c101 := h.t hn (k := 101) (by decide) (by decide)
  have c102 := h.t hn (k := 102) (by decide) (by decide)
  have c103 := h.t hn (k := 103) (by decide) (by decide)
  have c104 := h.t hn (k := 104) (by decide) (by decide)
  have c105 := h.t hn (k := 105) (by decide) (by decide)
  have c106 := h.t hn (k := 106) (by decide) (by decide)
  have c107 := h.t hn (k := 107) (by decide) (by decide)
  have c108 := h.t hn (k := 108) (by decide) (by decide)
  have c109 := h.t hn (k := 109) (by decide) (by decide)
  have c110 := h.t hn (k := 110) (by decide) (by decide)
  have c111 := h.t hn (k := 111) (by decide) (by decide)
  have c112 := h.t hn (k := 112) (by decide) (by decide)
  have c113 := h.t hn (k := 113) (by decide) (by decide)
  have c114 := h.t hn (k := 114) (by decide) (by decide)
  have c115 := h.t hn (k := 115) (by decide) (by decide)
  have c116 := h.t hn (k := 116) (by decide) (by decide)
  have c117 := h.t hn (k := 117) (by decide) (by decide)
  have c118 := h.t hn (k := 118) (by decide) (by decide)
  have c119 := h.t hn (k := 119) (by decide) (by decide)
  have c120 := h.t hn (k := 120) (by decide) (by decide)
  unfold ShD at hs ⊢
  simp only [c91.1, c91.2.1, c91.2.2, c92.1, c92.2.1, c92.2.2, c93.1, c93.2.1, c93.2.2, c94.1, c94.2.1, c94.2.2, c95.1, c95.2.1, c95.2.2, c96.1, c96.2.1, c96.2.2, c97.1, c97.2.1, c97.2.2, c98.1, c98.2.1, c98.2.2, c99.1, c99.2.1, c99.2.2, c100.1, c100.2.1, c100.2.2, c101.1, c101.2.1, c101.2.2, c102.1, c102.2.1, c102.2.2, c103.1, c103.2.1, c103.2.2, c104.1, c104.2.1, c104.2.2, c105.1, c105.2.1, c105.2.2, c106.1, c106.2.1, c106.2.2, c107.1, c107.2.1, c107.2.2, c108.1, c108.2.1, c108.2.2, c109.1, c109.2.1, c109.2.2, c110.1, c110.2.1, c110.2.2, c111.1, c111.2.1, c111.2.2, c112.1, c112.2.1, c112.2.2, c113.1, c113.2.1, c113.2.2, c114.1, c114.2.1, c114.2.2, c115.1, c115.2.1, c115.2.2, c116.1, c116.2.1, c116.2.2, c117.1, c117.2.1, c117.2.2, c118.1, c118.2.1, c118.2.2, c119.1, c119.2.1, c119.2.2, c120.1, c120.2.1, c120.2.2]
  exact hs

theorem Fq.mx {S : Nat → Nat → Prop} {σ σ' : eb_S} (h : Fq S σ σ') (hn : nt S 9 24) {A : Nat → Nat → Nat} (hX : MX9 A σ) : MX9 A σ' := by
  obtain ⟨hN, hK, hW, hP, hL, hB, hS, hY, hU, hH, hG, hR, hLn, hL1, hL2, hLk, hBn, hB1, hB2⟩ := hX
  refine ⟨?_, fun t ht => ?_, fun t ht => ?_, fun t ht => ?_, fun t ht => ?_, fun t ht => ?_, ?_, fun t ht => ?_, fun t ht => ?_, fun t ht => ?_, fun t ht => ?_, fun t ht => ?_, ?_, fun t ht => ?_, fun t ht => ?_, fun t ht => ?_, ?_, fun t ht => ?_, fun t ht => ?_⟩ <;> rw [h.it hn (by decide) (by decide)]
  all_goals first | assumption | (first | exact hK t ht | exact hW t ht | exact hP t ht | exact hL t ht | exact hB t ht | exact hY t ht | exact hU t ht | exact hH t ht | exact hG t ht | exact hR t ht | exact hL1 t ht | exact hL2 t ht | exact hLk t ht | exact hB1 t ht | exact hB2 t ht)
theorem Fq.mx25 {S : Nat → Nat → Prop} {σ σ' : eb_S} (h : Fq S σ σ') (hn : nt S 25 40) {A : Nat → Nat → Nat} (hX : MX25 A σ) : MX25 A σ' := by
  obtain ⟨hN, hK, hW, hP, hL, hB, hS, hY, hU, hH, hG, hR, hLn, hL1, hL2, hLk, hBn, hB1, hB2⟩ := hX
  refine ⟨?_, fun t ht => ?_, fun t ht => ?_, fun t ht => ?_, fun t ht => ?_, fun t ht => ?_, ?_, fun t ht => ?_, fun t ht => ?_, fun t ht => ?_, fun t ht => ?_, fun t ht => ?_, ?_, fun t ht => ?_, fun t ht => ?_, fun t ht => ?_, ?_, fun t ht => ?_, fun t ht => ?_⟩ <;> rw [h.it hn (by decide) (by decide)]
  all_goals first | assumption | (first | exact hK t ht | exact hW t ht | exact hP t ht | exact hL t ht | exact hB t ht | exact hY t ht | exact hU t ht | exact hH t ht | exact hG t ht | exact hR t ht | exact hL1 t ht | exact hL2 t ht | exact hLk t ht | exact hB1 t ht | exact hB2 t ht)
