/-! ===== pure: one more ===== -/
def bw (b : Nat → Nat) (i0 n : Nat) : Nat → Nat := fun i => if i = i0 then n else b i
theorem bw_sca {b : Nat → Nat} {i0 n : Nat} (h0 : ¬ sca i0) (h1 : ∀ i, sca i → b i ≤ 1) : ∀ i, sca i → bw b i0 n i ≤ 1 := fun i h => by
  unfold bw
  rw [if_neg (fun e => h0 (by rw [← e]; exact h))]
  exact h1 i h
theorem bw_at {b : Nat → Nat} {i0 n : Nat} : bw b i0 n i0 = n := if_pos rfl
theorem bw_ne {b : Nat → Nat} {i0 n i : Nat} (h : i ≠ i0) : bw b i0 n i = b i := if_neg h
theorem FT.add {o : Nat} {sl : Nat → Nat → Nat} (so : slOk sl) {e : Nat → Nat → Int32} {b : Nat → Nat} {A : Nat → Nat → Nat} {σ : eb_S} (h : FT o sl e b A σ) (h1 : ∀ i, sca i → b i ≤ 1) (i0 N x : Nat) {c s : Nat} {v : Int32} (hi : i0 < 19) (h0 : ¬ sca i0) (hN : N ≤ b i0) (hc : c = tC o i0) (hs : s = N) (hv : v = e i0 x) : FT o sl e (bw b i0 (N + 1)) (aup A i0 N x) (eb_sI σ c s v) :=
  FT.up so h i0 N x hi hc (hs.trans (so.2 i0 N h0).symm) hv (bw_sca h0 h1) (fun z => absurd z h0) (fun i j _ hj => by
    by_cases e1 : i = i0
    · rw [e1, bw_at] at hj
      by_cases e2 : j = N
      · exact Or.inl ⟨e1, e2⟩
      · right; rw [e1]; omega
    · rw [bw_ne e1] at hj; exact Or.inr hj)
theorem tC_sca {o i : Nat} (h : sca i) : tC o i = o := if_pos h
theorem FT.sc {o : Nat} {sl : Nat → Nat → Nat} (so : slOk sl) {e : Nat → Nat → Int32} {b : Nat → Nat} {A : Nat → Nat → Nat} {σ : eb_S} (h : FT o sl e b A σ) (h1 : ∀ i, sca i → b i ≤ 1) (i0 x : Nat) {c s : Nat} {v : Int32} (hi : i0 < 19) (h0 : sca i0) (hc : c = o) (hs : s = sl i0 0) (hv : v = e i0 x) : FT o sl e b (aup A i0 0 x) (eb_sI σ c s v) :=
  FT.up so h i0 0 x hi (hc.trans (tC_sca h0).symm) hs hv h1 (fun _ => rfl) (fun i j _ hj => Or.inr hj)
theorem FT.cut {o : Nat} {sl : Nat → Nat → Nat} {e : Nat → Nat → Int32} {b b' : Nat → Nat} {A : Nat → Nat → Nat} {σ : eb_S} (h : FT o sl e b A σ) (hb : ∀ i, i < 19 → b' i ≤ b i) : FT o sl e b' A σ := fun i j hi hj => h i j hi (Nat.lt_of_lt_of_le hj (hb i hi))
def addT (A : Nat → Nat → Nat) (N k w p : Nat) : Nat → Nat → Nat := aup (aup (aup (aup (aup (aup A 1 N k) 2 N w) 3 N p) 4 N 50) 5 N 0) 0 0 (N + 1)
def bT (b : Nat → Nat) (n : Nat) : Nat → Nat := bw (bw (bw (bw (bw b 1 n) 2 n) 3 n) 4 n) 5 n
def addS (A : Nat → Nat → Nat) (S y u : Nat) : Nat → Nat → Nat := aup (aup (aup A 7 S y) 8 S u) 6 0 (S + 1)
def bSt (b : Nat → Nat) (n : Nat) : Nat → Nat := bw (bw b 7 n) 8 n
def addL (A : Nat → Nat → Nat) (l a b k : Nat) : Nat → Nat → Nat := aup (aup (aup (aup A 13 l a) 14 l b) 15 l k) 12 0 (l + 1)
def bLw (b : Nat → Nat) (n : Nat) : Nat → Nat := bw (bw (bw b 13 n) 14 n) 15 n
def addB (A : Nat → Nat → Nat) (l a b : Nat) : Nat → Nat → Nat := aup (aup (aup A 17 l a) 18 l b) 16 0 (l + 1)
def bBr (b : Nat → Nat) (n : Nat) : Nat → Nat := bw (bw b 17 n) 18 n
set_option maxHeartbeats 4000000 in
theorem x_addThing9 {A : Nat → Nat → Nat} {b : Nat → Nat} {σ : eb_S} (hs : ShM9 σ) (hX : FT 9 tS tE b A σ) (h1 : ∀ i, sca i → b i ≤ 1) {N k w p : Nat} (hN : eb_I σ 9 1 = nI N) (h10 : N < 10) (hb : ∀ i, 0 < i → i < 6 → N ≤ b i) : ∃ σ1, f_X3_addThing 9 (nI k) (nI w) (nI p) σ = some (nI N, σ1) ∧ Fr (fun k _ => 9 ≤ k ∧ k ≤ 24) σ σ1 ∧ eb_I σ1 9 0 = eb_I σ 9 0 + 1 ∧ FT 9 tS tE (bT b (N + 1)) (addT A N k w p) σ1 := by
  have f0 := FT.ch hX (v := eb_I σ 9 0 + 1)
  have f1 := FT.add slOk_tS f0 h1 1 N k (c := 9 + 1) (s := N) (v := nI k) (by decide) (by decide) (hb 1 (by decide) (by decide)) rfl rfl rfl
  have g1 := bw_sca (b := b) (i0 := 1) (n := N + 1) (by decide) h1
  have f2 := FT.add slOk_tS f1 g1 2 N w (c := 9 + 2) (s := N) (v := nI w) (by decide) (by decide) (by rw [bw_ne (by decide)]; exact hb 2 (by decide) (by decide)) rfl rfl rfl
  have g2 := bw_sca (i0 := 2) (n := N + 1) (by decide) g1
  have f3 := FT.add slOk_tS f2 g2 3 N p (c := 9 + 3) (s := N) (v := nI p) (by decide) (by decide) (by rw [bw_ne (by decide), bw_ne (by decide)]; exact hb 3 (by decide) (by decide)) rfl rfl rfl
  have g3 := bw_sca (i0 := 3) (n := N + 1) (by decide) g2
  have f4 := FT.add slOk_tS f3 g3 4 N 50 (c := 9 + 4) (s := N) (v := 0) (by decide) (by decide) (by rw [bw_ne (by decide), bw_ne (by decide), bw_ne (by decide)]; exact hb 4 (by decide) (by decide)) rfl rfl (by decide)
  have g4 := bw_sca (i0 := 4) (n := N + 1) (by decide) g3
  have f5 := FT.add slOk_tS f4 g4 5 N 0 (c := 9 + 5) (s := N) (v := 0) (by decide) (by decide) (by rw [bw_ne (by decide), bw_ne (by decide), bw_ne (by decide), bw_ne (by decide)]; exact hb 5 (by decide) (by decide)) rfl rfl (by decide)
  have g5 := bw_sca (i0 := 5) (n := N + 1) (by decide) g4
  have f6 := FT.sc slOk_tS f5 g5 0 (N + 1) (c := 9) (s := 1) (v := nI (N + 1)) (by decide) (by decide) rfl rfl rfl
  refine ⟨_, ?_, ?_, ?_, f6⟩
  · unfold ShM9 at hs
    unfold f_X3_addThing
    simp [eb_gI, eb_pI, eb_gR, eb_wi, hs, eb_T_sI, eb_R_sI, eb_L_sI, eb_J_sI, eb_N_sI, eb_T_sJ, eb_R_sJ, eb_L_sJ, eb_I_sJ, eb_N_sJ, eb_T_rI, eb_R_rI, eb_L_rI, eb_J_rI, eb_N_rI, eb_T_rJ, eb_R_rJ, eb_L_rJ, eb_I_rJ, eb_N_rJ, eb_I_sI, hN, p_in h10 (by decide : 10 < 2 ^ 31), p_cl (show N < 2 ^ 31 by omega), nI_1]
  · exact (((((((Fr.sI (by omega)).tr (Fr.sI (by omega))).tr (Fr.sI (by omega))).tr (Fr.sI (by omega))).tr (Fr.sI (by omega))).tr (Fr.sI (by omega))).tr (Fr.sI (by omega)))
  · simp [eb_I_sI]
set_option maxHeartbeats 4000000 in
theorem x_addStretch9 {A : Nat → Nat → Nat} {b : Nat → Nat} {σ : eb_S} (hs : ShM9 σ) (hX : FT 9 tS tE b A σ) (h1 : ∀ i, sca i → b i ≤ 1) {N k w : Nat} (hN : eb_I σ 9 7 = nI N) (h10 : N < 5) (hb : ∀ i, 6 < i → i < 9 → N ≤ b i) : ∃ σ1, f_X3_addStretch 9 (nI k) (nI w) σ = some (nI N, σ1) ∧ Fr (fun k _ => 9 ≤ k ∧ k ≤ 24) σ σ1 ∧ eb_I σ1 9 0 = eb_I σ 9 0 + 1 ∧ FT 9 tS tE (bSt b (N + 1)) (addS A N k w) σ1 := by
  have f0 := FT.ch hX (v := eb_I σ 9 0 + 1)
  have f1 := FT.add slOk_tS f0 h1 7 N k (c := 9 + 6) (s := N) (v := nI k) (by decide) (by decide) (hb 7 (by decide) (by decide)) rfl rfl rfl
  have g1 := bw_sca (b := b) (i0 := 7) (n := N + 1) (by decide) h1
  have f2 := FT.add slOk_tS f1 g1 8 N w (c := 9 + 7) (s := N) (v := nI w) (by decide) (by decide) (by rw [bw_ne (by decide)]; exact hb 8 (by decide) (by decide)) rfl rfl rfl
  have g2 := bw_sca (i0 := 8) (n := N + 1) (by decide) g1
  have f6 := FT.sc slOk_tS f2 g2 6 (N + 1) (c := 9) (s := 7) (v := nI (N + 1)) (by decide) (by decide) rfl rfl rfl
  refine ⟨_, ?_, ?_, ?_, f6⟩
  · unfold ShM9 at hs
    unfold f_X3_addStretch
    simp [eb_gI, eb_pI, eb_gR, eb_wi, hs, eb_T_sI, eb_R_sI, eb_L_sI, eb_J_sI, eb_N_sI, eb_T_sJ, eb_R_sJ, eb_L_sJ, eb_I_sJ, eb_N_sJ, eb_T_rI, eb_R_rI, eb_L_rI, eb_J_rI, eb_N_rI, eb_T_rJ, eb_R_rJ, eb_L_rJ, eb_I_rJ, eb_N_rJ, eb_I_sI, hN, p_in h10 (by decide : 5 < 2 ^ 31), p_cl (show N < 2 ^ 31 by omega), nI_1]
  · exact ((((Fr.sI (by omega)).tr (Fr.sI (by omega))).tr (Fr.sI (by omega))).tr (Fr.sI (by omega)))
  · simp [eb_I_sI]
set_option maxHeartbeats 4000000 in
theorem x_addThing41 {A : Nat → Nat → Nat} {b : Nat → Nat} {σ : eb_S} (hs : ShM41 σ) (hX : FT 41 tS tE b A σ) (h1 : ∀ i, sca i → b i ≤ 1) {N k w p : Nat} (hN : eb_I σ 41 1 = nI N) (h10 : N < 10) (hb : ∀ i, 0 < i → i < 6 → N ≤ b i) : ∃ σ1, f_X3_addThing 41 (nI k) (nI w) (nI p) σ = some (nI N, σ1) ∧ Fr (fun k _ => 41 ≤ k ∧ k ≤ 56) σ σ1 ∧ eb_I σ1 41 0 = eb_I σ 41 0 + 1 ∧ FT 41 tS tE (bT b (N + 1)) (addT A N k w p) σ1 := by
  have f0 := FT.ch hX (v := eb_I σ 41 0 + 1)
  have f1 := FT.add slOk_tS f0 h1 1 N k (c := 41 + 1) (s := N) (v := nI k) (by decide) (by decide) (hb 1 (by decide) (by decide)) rfl rfl rfl
  have g1 := bw_sca (b := b) (i0 := 1) (n := N + 1) (by decide) h1
  have f2 := FT.add slOk_tS f1 g1 2 N w (c := 41 + 2) (s := N) (v := nI w) (by decide) (by decide) (by rw [bw_ne (by decide)]; exact hb 2 (by decide) (by decide)) rfl rfl rfl
  have g2 := bw_sca (i0 := 2) (n := N + 1) (by decide) g1
  have f3 := FT.add slOk_tS f2 g2 3 N p (c := 41 + 3) (s := N) (v := nI p) (by decide) (by decide) (by rw [bw_ne (by decide), bw_ne (by decide)]; exact hb 3 (by decide) (by decide)) rfl rfl rfl
  have g3 := bw_sca (i0 := 3) (n := N + 1) (by decide) g2
  have f4 := FT.add slOk_tS f3 g3 4 N 50 (c := 41 + 4) (s := N) (v := 0) (by decide) (by decide) (by rw [bw_ne (by decide), bw_ne (by decide), bw_ne (by decide)]; exact hb 4 (by decide) (by decide)) rfl rfl (by decide)
  have g4 := bw_sca (i0 := 4) (n := N + 1) (by decide) g3
  have f5 := FT.add slOk_tS f4 g4 5 N 0 (c := 41 + 5) (s := N) (v := 0) (by decide) (by decide) (by rw [bw_ne (by decide), bw_ne (by decide), bw_ne (by decide), bw_ne (by decide)]; exact hb 5 (by decide) (by decide)) rfl rfl (by decide)
  have g5 := bw_sca (i0 := 5) (n := N + 1) (by decide) g4
  have f6 := FT.sc slOk_tS f5 g5 0 (N + 1) (c := 41) (s := 1) (v := nI (N + 1)) (by decide) (by decide) rfl rfl rfl
  refine ⟨_, ?_, ?_, ?_, f6⟩
  · unfold ShM41 at hs
    unfold f_X3_addThing
    simp [eb_gI, eb_pI, eb_gR, eb_wi, hs, eb_T_sI, eb_R_sI, eb_L_sI, eb_J_sI, eb_N_sI, eb_T_sJ, eb_R_sJ, eb_L_sJ, eb_I_sJ, eb_N_sJ, eb_T_rI, eb_R_rI, eb_L_rI, eb_J_rI, eb_N_rI, eb_T_rJ, eb_R_rJ, eb_L_rJ, eb_I_rJ, eb_N_rJ, eb_I_sI, hN, p_in h10 (by decide : 10 < 2 ^ 31), p_cl (show N < 2 ^ 31 by omega), nI_1]
  · exact (((((((Fr.sI (by omega)).tr (Fr.sI (by omega))).tr (Fr.sI (by omega))).tr (Fr.sI (by omega))).tr (Fr.sI (by omega))).tr (Fr.sI (by omega))).tr (Fr.sI (by omega)))
  · simp [eb_I_sI]
set_option maxHeartbeats 4000000 in
theorem x_addStretch41 {A : Nat → Nat → Nat} {b : Nat → Nat} {σ : eb_S} (hs : ShM41 σ) (hX : FT 41 tS tE b A σ) (h1 : ∀ i, sca i → b i ≤ 1) {N k w : Nat} (hN : eb_I σ 41 7 = nI N) (h10 : N < 5) (hb : ∀ i, 6 < i → i < 9 → N ≤ b i) : ∃ σ1, f_X3_addStretch 41 (nI k) (nI w) σ = some (nI N, σ1) ∧ Fr (fun k _ => 41 ≤ k ∧ k ≤ 56) σ σ1 ∧ eb_I σ1 41 0 = eb_I σ 41 0 + 1 ∧ FT 41 tS tE (bSt b (N + 1)) (addS A N k w) σ1 := by
  have f0 := FT.ch hX (v := eb_I σ 41 0 + 1)
  have f1 := FT.add slOk_tS f0 h1 7 N k (c := 41 + 6) (s := N) (v := nI k) (by decide) (by decide) (hb 7 (by decide) (by decide)) rfl rfl rfl
  have g1 := bw_sca (b := b) (i0 := 7) (n := N + 1) (by decide) h1
  have f2 := FT.add slOk_tS f1 g1 8 N w (c := 41 + 7) (s := N) (v := nI w) (by decide) (by decide) (by rw [bw_ne (by decide)]; exact hb 8 (by decide) (by decide)) rfl rfl rfl
  have g2 := bw_sca (i0 := 8) (n := N + 1) (by decide) g1
  have f6 := FT.sc slOk_tS f2 g2 6 (N + 1) (c := 41) (s := 7) (v := nI (N + 1)) (by decide) (by decide) rfl rfl rfl
  refine ⟨_, ?_, ?_, ?_, f6⟩
  · unfold ShM41 at hs
    unfold f_X3_addStretch
    simp [eb_gI, eb_pI, eb_gR, eb_wi, hs, eb_T_sI, eb_R_sI, eb_L_sI, eb_J_sI, eb_N_sI, eb_T_sJ, eb_R_sJ, eb_L_sJ, eb_I_sJ, eb_N_sJ, eb_T_rI, eb_R_rI, eb_L_rI, eb_J_rI, eb_N_rI, eb_T_rJ, eb_R_rJ, eb_L_rJ, eb_I_rJ, eb_N_rJ, eb_I_sI, hN, p_in h10 (by decide : 5 < 2 ^ 31), p_cl (show N < 2 ^ 31 by omega), nI_1]
  · exact ((((Fr.sI (by omega)).tr (Fr.sI (by omega))).tr (Fr.sI (by omega))).tr (Fr.sI (by omega)))
  · simp [eb_I_sI]
set_option maxHeartbeats 4000000 in
theorem x_addLaw {A : Nat → Nat → Nat} {b : Nat → Nat} {σ : eb_S} (hs : ShM9 σ) (hX : FT 9 tS tE b A σ) (h1 : ∀ i, sca i → b i ≤ 1) {N k w p : Nat} (hN : eb_I σ 9 13 = nI N) (h10 : N < 8) (hb : ∀ i, 12 < i → i < 16 → N ≤ b i) : ∃ σ1, f_X3_addLaw 9 (nI k) (nI w) (nI p) σ = some (nI N, σ1) ∧ Fr (fun k _ => 9 ≤ k ∧ k ≤ 24) σ σ1 ∧ eb_I σ1 9 0 = eb_I σ 9 0 + 1 ∧ FT 9 tS tE (bLw b (N + 1)) (addL A N k w p) σ1 := by
  have f0 := FT.ch hX (v := eb_I σ 9 0 + 1)
  have f1 := FT.add slOk_tS f0 h1 13 N k (c := 20) (s := N) (v := nI k) (by decide) (by decide) (hb 13 (by decide) (by decide)) rfl rfl rfl
  have g1 := bw_sca (b := b) (i0 := 13) (n := N + 1) (by decide) h1
  have f2 := FT.add slOk_tS f1 g1 14 N w (c := 21) (s := N) (v := nI w) (by decide) (by decide) (by rw [bw_ne (by decide)]; exact hb 14 (by decide) (by decide)) rfl rfl rfl
  have g2 := bw_sca (i0 := 14) (n := N + 1) (by decide) g1
  have f3 := FT.add slOk_tS f2 g2 15 N p (c := 22) (s := N) (v := nI p) (by decide) (by decide) (by rw [bw_ne (by decide), bw_ne (by decide)]; exact hb 15 (by decide) (by decide)) rfl rfl rfl
  have g3 := bw_sca (i0 := 15) (n := N + 1) (by decide) g2
  have f6 := FT.sc slOk_tS f3 g3 12 (N + 1) (c := 9) (s := 13) (v := nI (N + 1)) (by decide) (by decide) rfl rfl rfl
  refine ⟨_, ?_, ?_, ?_, f6⟩
  · unfold ShM9 at hs
    unfold f_X3_addLaw
    simp [eb_gI, eb_pI, eb_gR, eb_wi, hs, eb_T_sI, eb_R_sI, eb_L_sI, eb_J_sI, eb_N_sI, eb_T_sJ, eb_R_sJ, eb_L_sJ, eb_I_sJ, eb_N_sJ, eb_T_rI, eb_R_rI, eb_L_rI, eb_J_rI, eb_N_rI, eb_T_rJ, eb_R_rJ, eb_L_rJ, eb_I_rJ, eb_N_rJ, eb_I_sI, hN, p_in h10 (by decide : 8 < 2 ^ 31), p_cl (show N < 2 ^ 31 by omega), nI_1]
  · exact (((((Fr.sI (by omega)).tr (Fr.sI (by omega))).tr (Fr.sI (by omega))).tr (Fr.sI (by omega))).tr (Fr.sI (by omega)))
  · simp [eb_I_sI]
set_option maxHeartbeats 4000000 in
theorem x_addBar {A : Nat → Nat → Nat} {b : Nat → Nat} {σ : eb_S} (hs : ShM9 σ) (hX : FT 9 tS tE b A σ) (h1 : ∀ i, sca i → b i ≤ 1) {N k w : Nat} (hN : eb_I σ 9 17 = nI N) (h10 : N < 6) (hb : ∀ i, 16 < i → i < 19 → N ≤ b i) : ∃ σ1, f_X3_addBar 9 (nI k) (nI w) σ = some (nI N, σ1) ∧ Fr (fun k _ => 9 ≤ k ∧ k ≤ 24) σ σ1 ∧ eb_I σ1 9 0 = eb_I σ 9 0 + 1 ∧ FT 9 tS tE (bBr b (N + 1)) (addB A N k w) σ1 := by
  have f0 := FT.ch hX (v := eb_I σ 9 0 + 1)
  have f1 := FT.add slOk_tS f0 h1 17 N k (c := 23) (s := N) (v := nI k) (by decide) (by decide) (hb 17 (by decide) (by decide)) rfl rfl rfl
  have g1 := bw_sca (b := b) (i0 := 17) (n := N + 1) (by decide) h1
  have f2 := FT.add slOk_tS f1 g1 18 N w (c := 24) (s := N) (v := nI w) (by decide) (by decide) (by rw [bw_ne (by decide)]; exact hb 18 (by decide) (by decide)) rfl rfl rfl
  have g2 := bw_sca (i0 := 18) (n := N + 1) (by decide) g1
  have f6 := FT.sc slOk_tS f2 g2 16 (N + 1) (c := 9) (s := 17) (v := nI (N + 1)) (by decide) (by decide) rfl rfl rfl
  refine ⟨_, ?_, ?_, ?_, f6⟩
  · unfold ShM9 at hs
    unfold f_X3_addBar
    simp [eb_gI, eb_pI, eb_gR, eb_wi, hs, eb_T_sI, eb_R_sI, eb_L_sI, eb_J_sI, eb_N_sI, eb_T_sJ, eb_R_sJ, eb_L_sJ, eb_I_sJ, eb_N_sJ, eb_T_rI, eb_R_rI, eb_L_rI, eb_J_rI, eb_N_rI, eb_T_rJ, eb_R_rJ, eb_L_rJ, eb_I_rJ, eb_N_rJ, eb_I_sI, hN, p_in h10 (by decide : 6 < 2 ^ 31), p_cl (show N < 2 ^ 31 by omega), nI_1]
  · exact ((((Fr.sI (by omega)).tr (Fr.sI (by omega))).tr (Fr.sI (by omega))).tr (Fr.sI (by omega)))
  · simp [eb_I_sI]
-- the model's side
set_option maxHeartbeats 4000000 in
theorem d_comes {A : Nat → Nat → Nat} {b : Nat → Nat} {σ : eb_S} (hs : ShD σ) (hX : FT 91 dS dE b A σ) (h1 : ∀ i, sca i → b i ≤ 1) {N k w p : Nat} (hN : eb_I σ 91 0 = nI N) (h10 : N < 10) (hb : ∀ i, 0 < i → i < 6 → N ≤ b i) : ∃ σ1, f_X10_comes 91 (nI k) (nI w) (nI p) σ = some ((), σ1) ∧ Fr sMd σ σ1 ∧ eb_I σ1 91 0 = nI (N + 1) ∧ FT 91 dS dE (bT b (N + 1)) (addT A N k w p) σ1 := by
  have f1 := FT.add slOk_dS hX h1 1 N k (c := 92) (s := N) (v := nI k) (by decide) (by decide) (hb 1 (by decide) (by decide)) rfl rfl rfl
  have g1 := bw_sca (b := b) (i0 := 1) (n := N + 1) (by decide) h1
  have f2 := FT.add slOk_dS f1 g1 2 N w (c := 93) (s := N) (v := nI w) (by decide) (by decide) (by rw [bw_ne (by decide)]; exact hb 2 (by decide) (by decide)) rfl rfl rfl
  have g2 := bw_sca (i0 := 2) (n := N + 1) (by decide) g1
  have f3 := FT.add slOk_dS f2 g2 3 N p (c := 94) (s := N) (v := nI p) (by decide) (by decide) (by rw [bw_ne (by decide), bw_ne (by decide)]; exact hb 3 (by decide) (by decide)) rfl rfl rfl
  have g3 := bw_sca (i0 := 3) (n := N + 1) (by decide) g2
  have f4 := FT.add slOk_dS f3 g3 4 N 50 (c := 95) (s := N) (v := 50) (by decide) (by decide) (by rw [bw_ne (by decide), bw_ne (by decide), bw_ne (by decide)]; exact hb 4 (by decide) (by decide)) rfl rfl (by decide)
  have g4 := bw_sca (i0 := 4) (n := N + 1) (by decide) g3
  have f5 := FT.add slOk_dS f4 g4 5 N 0 (c := 96) (s := N) (v := 0) (by decide) (by decide) (by rw [bw_ne (by decide), bw_ne (by decide), bw_ne (by decide), bw_ne (by decide)]; exact hb 5 (by decide) (by decide)) rfl rfl (by decide)
  have g5 := bw_sca (i0 := 5) (n := N + 1) (by decide) g4
  have f6 := FT.sc slOk_dS f5 g5 0 (N + 1) (c := 91) (s := 0) (v := nI (N + 1)) (by decide) (by decide) rfl rfl rfl
  refine ⟨_, ?_, ?_, ?_, f6⟩
  · unfold ShD at hs
    unfold f_X10_comes
    simp [eb_gI, eb_pI, eb_gR, eb_wi, hs, eb_T_sI, eb_R_sI, eb_L_sI, eb_J_sI, eb_N_sI, eb_T_sJ, eb_R_sJ, eb_L_sJ, eb_I_sJ, eb_N_sJ, eb_T_rI, eb_R_rI, eb_L_rI, eb_J_rI, eb_N_rI, eb_T_rJ, eb_R_rJ, eb_L_rJ, eb_I_rJ, eb_N_rJ, eb_I_sI, hN, p_in h10 (by decide : 10 < 2 ^ 31), p_cl (show N < 2 ^ 31 by omega), nI_1]
  · exact ((((((Fr.sI (by unfold sMd; omega)).tr (Fr.sI (by unfold sMd; omega))).tr (Fr.sI (by unfold sMd; omega))).tr (Fr.sI (by unfold sMd; omega))).tr (Fr.sI (by unfold sMd; omega))).tr (Fr.sI (by unfold sMd; omega)))
  · simp [eb_I_sI]
theorem lt19 {i : Nat} (h : i < 19) : i = 0 ∨ i = 1 ∨ i = 2 ∨ i = 3 ∨ i = 4 ∨ i = 5 ∨ i = 6 ∨ i = 7 ∨ i = 8 ∨ i = 9 ∨ i = 10 ∨ i = 11 ∨ i = 12 ∨ i = 13 ∨ i = 14 ∨ i = 15 ∨ i = 16 ∨ i = 17 ∨ i = 18 := by omega
theorem bd_addT {A : Nat → Nat → Nat} {k w p : Nat} : ∀ i, i < 19 → bd (addT A (aN A) k w p) i ≤ bT (bd A) (aN A + 1) i := fun i hi => by
  rcases lt19 hi with rfl | rfl | rfl | rfl | rfl | rfl | rfl | rfl | rfl | rfl | rfl | rfl | rfl | rfl | rfl | rfl | rfl | rfl | rfl <;> simp [bd, bT, bw, sca, addT, aup, aN, aS, aLn, aBn]
theorem bd_addS {A : Nat → Nat → Nat} {k w : Nat} : ∀ i, i < 19 → bd (addS A (aS A) k w) i ≤ bSt (bd A) (aS A + 1) i := fun i hi => by
  rcases lt19 hi with rfl | rfl | rfl | rfl | rfl | rfl | rfl | rfl | rfl | rfl | rfl | rfl | rfl | rfl | rfl | rfl | rfl | rfl | rfl <;> simp [bd, bSt, bw, sca, addS, aup, aN, aS, aLn, aBn]
theorem bd_addL {A : Nat → Nat → Nat} {k w p : Nat} : ∀ i, i < 19 → bd (addL A (aLn A) k w p) i ≤ bLw (bd A) (aLn A + 1) i := fun i hi => by
  rcases lt19 hi with rfl | rfl | rfl | rfl | rfl | rfl | rfl | rfl | rfl | rfl | rfl | rfl | rfl | rfl | rfl | rfl | rfl | rfl | rfl <;> simp [bd, bLw, bw, sca, addL, aup, aN, aS, aLn, aBn]
theorem bd_addB {A : Nat → Nat → Nat} {k w : Nat} : ∀ i, i < 19 → bd (addB A (aBn A) k w) i ≤ bBr (bd A) (aBn A + 1) i := fun i hi => by
  rcases lt19 hi with rfl | rfl | rfl | rfl | rfl | rfl | rfl | rfl | rfl | rfl | rfl | rfl | rfl | rfl | rfl | rfl | rfl | rfl | rfl <;> simp [bd, bBr, bw, sca, addB, aup, aN, aS, aLn, aBn]
theorem wf_addT {A : Nat → Nat → Nat} (wA : wf A) {k w p : Nat} (h10 : aN A < 10) (hk : k ≤ 3) (hw : 1 ≤ w) (hw2 : w ≤ 99) (hp : p ≤ 5) : wf (addT A (aN A) k w p) := by
  obtain ⟨wN, wT, wS, wY, wB, wR, wLn, wL, wBn, wE⟩ := wA
  have eN : aN (addT A (aN A) k w p) = aN A + 1 := by simp [addT, aup, aN]
  have eK : ∀ t, aK (addT A (aN A) k w p) t = if t = aN A then k else aK A t := fun t => by simp [addT, aup, aK]
  have eW : ∀ t, aW (addT A (aN A) k w p) t = if t = aN A then w else aW A t := fun t => by simp [addT, aup, aW]
  have eP : ∀ t, aP (addT A (aN A) k w p) t = if t = aN A then p else aP A t := fun t => by simp [addT, aup, aP]
  have eL : ∀ t, aL (addT A (aN A) k w p) t = if t = aN A then 50 else aL A t := fun t => by simp [addT, aup, aL]
  have eB : ∀ t, aB (addT A (aN A) k w p) t = if t = aN A then 0 else aB A t := fun t => by simp [addT, aup, aB]
  refine ⟨by rw [eN]; omega, fun t ht => ?_, wS, wY, wB, wR, wLn, fun l hl => ?_, wBn, fun b hb => ?_⟩
  · rw [eN] at ht
    rw [eK, eW, eP, eL, eB]
    by_cases e : t = aN A
    · simp only [e, if_true]; omega
    · simp only [e, if_false]; exact wT t (by omega)
  · have h := wL l hl
    rw [eN]
    exact ⟨Nat.lt_succ_of_lt h.1, Nat.lt_succ_of_lt h.2.1, h.2.2⟩
  · have h := wE b hb
    unfold endok at h ⊢
    rw [eN]
    exact ⟨h.1.imp (fun z => Nat.lt_succ_of_lt z) id, h.2.1.imp (fun z => Nat.lt_succ_of_lt z) id, h.2.2⟩
theorem wf_addS {A : Nat → Nat → Nat} (wA : wf A) {y u : Nat} (h10 : aS A < 5) (hy : 1 ≤ y) (hy2 : y ≤ 99) (hu : u ≤ 1) : wf (addS A (aS A) y u) := by
  obtain ⟨wN, wT, wS, wY, wB, wR, wLn, wL, wBn, wE⟩ := wA
  have eN : aS (addS A (aS A) y u) = aS A + 1 := by simp [addS, aup, aS]
  have eK : ∀ t, aY (addS A (aS A) y u) t = if t = aS A then y else aY A t := fun t => by simp [addS, aup, aY]
  have eW : ∀ t, aU (addS A (aS A) y u) t = if t = aS A then u else aU A t := fun t => by simp [addS, aup, aU]
  refine ⟨wN, wT, by rw [eN]; omega, fun t ht => ?_, wB, wR, wLn, wL, wBn, wE⟩
  rw [eN] at ht
  rw [eK, eW]
  by_cases e : t = aS A
  · simp only [e, if_true]; omega
  · simp only [e, if_false]; exact wY t (by omega)
theorem wf_addL {A : Nat → Nat → Nat} (wA : wf A) {a b k : Nat} (h10 : aLn A < 8) (ha : a < aN A) (hb : b < aN A) (hab : a ≠ b) (hk : k ≤ 1) : wf (addL A (aLn A) a b k) := by
  obtain ⟨wN, wT, wS, wY, wB, wR, wLn, wL, wBn, wE⟩ := wA
  have eN : aLn (addL A (aLn A) a b k) = aLn A + 1 := by simp [addL, aup, aLn]
  have e1 : ∀ t, aL1 (addL A (aLn A) a b k) t = if t = aLn A then a else aL1 A t := fun t => by simp [addL, aup, aL1]
  have e2 : ∀ t, aL2 (addL A (aLn A) a b k) t = if t = aLn A then b else aL2 A t := fun t => by simp [addL, aup, aL2]
  have e3 : ∀ t, aLk (addL A (aLn A) a b k) t = if t = aLn A then k else aLk A t := fun t => by simp [addL, aup, aLk]
  refine ⟨wN, wT, wS, wY, wB, wR, by rw [eN]; omega, fun t ht => ?_, wBn, wE⟩
  rw [eN] at ht
  rw [e1, e2, e3]
  show _ < aN A ∧ _ < aN A ∧ _
  by_cases e : t = aLn A
  · simp only [e, if_true]; exact ⟨ha, hb, hab, hk⟩
  · simp only [e, if_false]; exact wL t (by omega)
theorem hng_f {A : Nat → Nat → Nat} {e : Nat} : ∀ k, hng A e k = false → ∀ c, c < k → aB1 A c ≠ e ∧ aB2 A c ≠ e
  | 0, _, c, hc => absurd hc (Nat.not_lt_zero c)
  | k + 1, h, c, hc => by
    have h' : (hng A e k || (decide (aB1 A k = e) || decide (aB2 A k = e))) = false := h
    rw [Bool.or_eq_false_iff, Bool.or_eq_false_iff, decide_eq_false_iff_not, decide_eq_false_iff_not] at h'
    by_cases z : c = k
    · rw [z]; exact h'.2
    · exact hng_f k h'.1 c (by omega)
theorem wf_addB {A : Nat → Nat → Nat} (wA : wf A) {a b : Nat} (h10 : aBn A < 6) (ha : endok A a (aBn A)) (hb : endok A b (aBn A)) (hab : a ≠ b) (na : ∀ c, c < aBn A → aB1 A c ≠ a ∧ aB2 A c ≠ a) (nb : ∀ c, c < aBn A → aB1 A c ≠ b ∧ aB2 A c ≠ b) : wf (addB A (aBn A) a b) := by
  obtain ⟨wN, wT, wS, wY, wB, wR, wLn, wL, wBn, wE⟩ := wA
  have eN : aBn (addB A (aBn A) a b) = aBn A + 1 := by simp [addB, aup, aBn]
  have e1 : ∀ t, aB1 (addB A (aBn A) a b) t = if t = aBn A then a else aB1 A t := fun t => by simp [addB, aup, aB1]
  have e2 : ∀ t, aB2 (addB A (aBn A) a b) t = if t = aBn A then b else aB2 A t := fun t => by simp [addB, aup, aB2]
  refine ⟨wN, wT, wS, wY, wB, wR, wLn, wL, by rw [eN]; omega, fun t ht => ?_⟩
  rw [eN] at ht
  simp only [e1, e2]
  show endok A _ _ ∧ endok A _ _ ∧ _
  by_cases e : t = aBn A
  · simp only [e, if_true]
    refine ⟨ha, hb, hab, fun c hc => ?_⟩
    simp only [show ¬ c = aBn A by omega, if_false]
    exact ⟨(na c hc).1, (na c hc).2, (nb c hc).1, (nb c hc).2⟩
  · simp only [e, if_false]
    obtain ⟨h1, h2, h3, h4⟩ := wE t (by omega)
    refine ⟨h1, h2, h3, fun c hc => ?_⟩
    simp only [show ¬ c = aBn A by omega, if_false]
    exact h4 c hc
theorem wf_off {A : Nat → Nat → Nat} (wA : wf A) {l : Nat} (h : l ≤ aLn A) : wf (aup A 12 0 l) := by
  obtain ⟨wN, wT, wS, wY, wB, wR, wLn, wL, wBn, wE⟩ := wA
  have eN : aLn (aup A 12 0 l) = l := by simp [aup, aLn]
  refine ⟨wN, wT, wS, wY, wB, wR, by rw [eN]; omega, fun t ht => ?_, wBn, wE⟩
  rw [eN] at ht
  exact wL t (by omega)
