/-! ===== pure: the model's told pulls, all rows ===== -/
/-- count and mask as the model keeps them; the row that was found first -/
def aPl (A : Nat → Nat → Nat) (acc : Nat × (Nat → Nat) × Int32) (c k : Int32) (σ : eb_S) : Prop := acc.1 < 2 ^ 31 → c = nI acc.1 ∧ k = acc.2.2 ∧ (acc.1 = 0 → acc.2.2 = mfull (aN A)) ∧ (acc.1 ≠ 0 → ∀ u, u < aN A → eb_I σ 111 u = nI (acc.2.1 u) ∧ acc.2.1 u < 3)
def rPl (A : Nat → Nat → Nat) (ln sz : Nat → Nat) (it : Nat → Nat → Int64) (σ0 : eb_S) (p : Nat → Nat) (acc : Nat × (Nat → Nat) × Int32) (x : (Int32 × Int32) × eb_S) : Prop := ShD x.2 ∧ MD A x.2 ∧ DH ln sz it x.2 ∧ TR (aN A) p x.2 ∧ Fr sM σ0 x.2 ∧ aPl A acc x.1.1 x.1.2 x.2
def lPl (n sh i : Nat) (v4 : Int32) (K : Int32 → Int32 → eb_S → Option (Int32 × eb_S)) (m : Nat) (x : (Int32 × Int32) × eb_S) : Option (Int32 × eb_S) := f_X10_pulled_L73 n 91 (nI sh) (nI i) v4 0 K m x.1.1 x.1.2 1 x.2
def tPl (n sh i : Nat) (v4 : Int32) (K : Int32 → Int32 → eb_S → Option (Int32 × eb_S)) (m : Nat) (x : (Int32 × Int32) × eb_S) : Option (Int32 × eb_S) := eb_cl (f_X10_turns n 91 3 x.2) fun b s => f_X10_pulled_L73 n 91 (nI sh) (nI i) v4 0 K m x.1.1 x.1.2 (eb_b b) s
theorem DH.fr {ln sz : Nat → Nat} {it : Nat → Nat → Int64} {σ σ' : eb_S} {S : Nat → Nat → Prop} (h : DH ln sz it σ) (hF : Fq S σ σ') (hn : nt S 115 117) : DH ln sz it σ' := by
  intro s hs
  obtain ⟨a1, a2⟩ := h s hs
  refine ⟨by rw [hF.it hn (by decide) (by decide)]; exact a1, fun hl => ⟨by rw [hF.it hn (by decide) (by decide)]; exact (a2 hl).1, fun j hj => ?_⟩⟩
  rw [hF.jj (hn _ _ (by decide) (by decide))]
  exact (a2 hl).2 j hj
theorem aPl_Fr {A : Nat → Nat → Nat} {acc : Nat × (Nat → Nat) × Int32} {c k : Int32} {σ σ' : eb_S} {S : Nat → Nat → Prop} (hF : Fr S σ σ') (h3 : ∀ j, ¬ S 111 j) (h : aPl A acc c k σ) : aPl A acc c k σ' := fun hlt => by
  obtain ⟨a1, a2, a3, a4⟩ := h hlt
  exact ⟨a1, a2, a3, fun hne u hu => by rw [hF.2.2.2.2.2 _ _ (h3 u)]; exact a4 hne u hu⟩
theorem d_pull_turn {A : Nat → Nat → Nat} (w : wf A) {ln sz : Nat → Nat} {it : Nat → Nat → Int64} {n sh i : Nat} (hn : 100 ≤ n) {v4 : Int32} {K : Int32 → Int32 → eb_S → Option (Int32 × eb_S)} {σ0 : eb_S} (m : Nat) (p : Nat → Nat) (acc : Nat × (Nat → Nat) × Int32) (x : (Int32 × Int32) × eb_S) (t : Nat) (h : rPl A ln sz it σ0 p acc x) (ht : t < aN A) (hp : p t < 2) (hf : ∀ u, t < u → u < aN A → p u = 2) : ∃ x', tPl n sh i v4 K m x = lPl n sh i v4 K m x' ∧ rPl A ln sz it σ0 (rfil (aN A) (t + 1) 0 (rup p t (p t + 1))) acc x' := by
  obtain ⟨⟨c, k⟩, σ⟩ := x
  obtain ⟨hs, hD, hH, hT, hF, hA⟩ := h
  dsimp only at hs hD hH hT hF hA
  obtain ⟨σ1, g1, g2, g3⟩ := d_turns hn (mm := 2) (by decide) w hs hD hT ht hp hf
  refine ⟨((c, k), σ1), ?_, g2.shD hs, g2.md nD_sT hD, hH.fr g2.fq (fun k j x1 x2 z => by unfold sT at z; omega), g3, hF.tr (g2.mono (fun k j h => Or.inl h)), aPl_Fr g2 (fun j z => by unfold sT at z; omega) hA⟩
  unfold tPl lPl
  dsimp only
  rw [show (3 : Int32) = nI (2 + 1) from rfl, g1, eb_cl_s]
  rfl
theorem d_pull_is {A : Nat → Nat → Nat} (w : wf A) {ln sz : Nat → Nat} {it : Nat → Nat → Int64} {n sh i : Nat} (hn : 100 ≤ n) (hsh : sh < 4) (hl : ln sh ≠ 0) (hi : i + aS A ≤ 16) {v4 v6 v7 v8 : Int32} {p : Nat → Nat} {σ : eb_S} (hs : ShD σ) (hD : MD A σ) (hT : TR (aN A) p σ) (hH : DH ln sz it σ) (is is' : Bool) (hi' : is' = true ↔ is = true ∧ pok A (fun s => it sh (i + s)) p) (K : Int32 → eb_S → Option (Int32 × eb_S)) : f_X10_pulled_L91 n 91 (nI sh) (nI i) v4 v6 v7 v8 K n (eb_b is) 0 σ = K (eb_b is') σ := by
  have wS := w.2.2.1
  obtain ⟨is2, g1, g2⟩ := d_pull_L91 w (n := n) hn hsh hl hi (v4 := v4) (v6 := v6) (v7 := v7) (v8 := v8) hs hD hT hH (K := K) n 0 is (by omega) (by omega)
  rw [nI_0] at g1
  rw [g1]
  have : is2 = is' := by
    have e : is2 = true ↔ is' = true := by
      rw [g2, hi']
      exact ⟨fun z => ⟨z.1, fun s hs => z.2 s (by omega) hs⟩, fun z => ⟨z.1, fun s _ hs => z.2 s hs⟩⟩
    cases is2 <;> cases is' <;> simp_all
  rw [this]
theorem gR29 {τ : Type} {σ : eb_S} (hs : ShD σ) (F : Nat → Option τ) : eb_gR σ [9] 91 29 F = F 110 := by
  unfold ShD at hs
  simp [eb_gR, hs]
theorem tg91 {τ : Type} {σ : eb_S} (hs : ShD σ) (o : Option τ) : eb_tg σ 91 9 o = o := by
  unfold ShD at hs
  simp [eb_tg, hs]
set_option maxHeartbeats 4000000 in
theorem d_pull_step {A : Nat → Nat → Nat} (w : wf A) {ln sz : Nat → Nat} {it : Nat → Nat → Int64} {n sh i : Nat} (hn : 100 ≤ n) (hsh : sh < 4) (hl : ln sh ≠ 0) (hi : i + aS A ≤ 16) {v4 : Int32} {K : Int32 → Int32 → eb_S → Option (Int32 × eb_S)} {σ0 : eb_S} (m : Nat) (p : Nat → Nat) (acc : Nat × (Nat → Nat) × Int32) (x : (Int32 × Int32) × eb_S) (h : rPl A ln sz it σ0 p acc x) : ∃ x', lPl n sh i v4 K (m + 1) x = tPl n sh i v4 K m x' ∧ rPl A ln sz it σ0 p (gP A (fun s => it sh (i + s)) p acc) x' := by
  obtain ⟨⟨c, k⟩, σ⟩ := x
  obtain ⟨hs, hD, hH, hT, hF, hA⟩ := h
  dsimp only at hs hD hH hT hF hA
  have wN := w.1
  obtain ⟨b, hb1, hb2⟩ := d_isLawful hs hD w (hT.rw hs) hn
  unfold lPl tPl
  dsimp only
  rw [f_X10_pulled_L73.eq_2, if_neg (by decide), gR29 hs, tg91 hs, hb1, eb_cl_s]
  by_cases hq : lawfulP A p ∧ pok A (fun s => it sh (i + s)) p
  · rw [d_pull_is w hn hsh hl hi hs hD hT hH b true ⟨fun _ => ⟨hb2.mpr hq.1, hq.2⟩, fun _ => rfl⟩]
    rw [gP_t hq]
    have lt : (pt A p acc).1 < 2 ^ 31 → acc.1 < 2 ^ 31 ∧ (acc.1 ≠ 0 → acc.1 + 1 < 2 ^ 31) := by
      intro hlt
      unfold pt at hlt
      by_cases h0 : acc.1 = 0
      · exact ⟨by omega, fun z => absurd h0 z⟩
      · rw [if_neg h0] at hlt
        have hlt : acc.1 + 1 < 2 ^ 31 := hlt
        exact ⟨by omega, fun _ => hlt⟩
    have one : ¬ (1 : Int32) = 0 := by decide
    by_cases hc : c = 0
    · obtain ⟨σ2, f1, f2, f3⟩ := d_finds hn hs
      have hs2 := f2.shD hs
      have hD2 := f2.md nD_sF hD
      have r1 := d_pull_L164 w (n := n) (v1 := nI sh) (v3 := nI i) (v4 := v4) (v6 := c) (v7 := 0) (k0 := k) hs2 hD2 (K := fun (w36 : Int32) (s37 : eb_S) => eb_cl (eb_tg s37 91 9 (f_X10_turns n 91 3 s37)) fun b42 s41 => f_X10_pulled_L73 n 91 (nI sh) (nI i) v4 0 K m (c + 1) w36 (eb_b b42) s41) n 0 (by omega) (by omega)
      rw [nI_0] at r1
      have i110 : ∀ u, eb_I σ2 110 u = eb_I σ 110 u := fun u => f2.2.2.2.2.2 _ _ (fun z => by unfold sF at z; omega)
      refine ⟨((c + 1, mskI (eb_I σ2 110) (eb_I σ2 111) (aN A) k), σ2), ?_, hs2, hD2, hH.fr f2.fq (fun k j x1 x2 z => by unfold sF at z; omega), fun u hu => by rw [i110 u]; exact hT u hu, hF.tr (f2.mono (fun k j h => Or.inr h)), fun hlt => ?_⟩
      · have r1' : f_X10_pulled_L164 n 91 (nI sh) (nI i) v4 c 0 1 (fun (w36 : Int32) (s37 : eb_S) => eb_cl (eb_tg s37 91 9 (f_X10_turns n 91 3 s37)) fun b42 s41 => f_X10_pulled_L73 n 91 (nI sh) (nI i) v4 0 K m (c + 1) w36 (eb_b b42) s41) n k 0 σ2 = _ := r1
        rw [tg91 hs2] at r1'
        simp only [eb_jn_e, show eb_b true = 1 from rfl, one, if_false, hc, if_true, tg91 hs, f1, eb_cl_s]
        rw [hc] at r1'
        exact r1'
      · obtain ⟨l1, l2⟩ := lt hlt
        obtain ⟨a1, a2, a3, a4⟩ := hA l1
        have h0 : acc.1 = 0 := by
          rw [hc, ← nI_0] at a1
          exact ((p_eqN (by omega) l1).mp a1).symm
        have hr : ∀ u, u < aN A → eb_I σ2 111 u = nI (p u) ∧ p u < 3 := fun u hu => by rw [f3 u (by omega)]; exact hT u hu
        unfold pt
        rw [if_pos h0]
        refine ⟨by rw [hc]; rfl, ?_, fun z => absurd z (Nat.succ_ne_zero 0), fun _ => hr⟩
        show mskI (eb_I σ2 110) (eb_I σ2 111) (aN A) k = mfull (aN A)
        rw [msk_eq (p := p) (q := p) (aN A) (fun u hu => by rw [i110 u]; exact hT u hu) hr, msk_same, a2, a3 h0]
    · have r1 := d_pull_L164 w (n := n) (v1 := nI sh) (v3 := nI i) (v4 := v4) (v6 := c) (v7 := 0) (k0 := k) hs hD (K := fun (w36 : Int32) (s37 : eb_S) => eb_cl (eb_tg s37 91 9 (f_X10_turns n 91 3 s37)) fun b42 s41 => f_X10_pulled_L73 n 91 (nI sh) (nI i) v4 0 K m (c + 1) w36 (eb_b b42) s41) n 0 (by omega) (by omega)
      rw [nI_0] at r1
      refine ⟨((c + 1, mskI (eb_I σ 110) (eb_I σ 111) (aN A) k), σ), ?_, hs, hD, hH, hT, hF, fun hlt => ?_⟩
      · have r1' : f_X10_pulled_L164 n 91 (nI sh) (nI i) v4 c 0 1 (fun (w36 : Int32) (s37 : eb_S) => eb_cl (eb_tg s37 91 9 (f_X10_turns n 91 3 s37)) fun b42 s41 => f_X10_pulled_L73 n 91 (nI sh) (nI i) v4 0 K m (c + 1) w36 (eb_b b42) s41) n k 0 σ = _ := r1
        rw [tg91 hs] at r1'
        simp only [eb_jn_e, show eb_b true = 1 from rfl, one, if_false, hc]
        exact r1'
      · obtain ⟨l1, l2⟩ := lt hlt
        obtain ⟨a1, a2, a3, a4⟩ := hA l1
        have h0 : acc.1 ≠ 0 := fun z => by rw [z, nI_0] at a1; exact hc a1
        have hq4 := a4 h0
        unfold pt
        rw [if_neg h0]
        refine ⟨by rw [a1, nI_1], ?_, fun z => absurd z (Nat.succ_ne_zero _), fun _ => hq4⟩
        show mskI (eb_I σ 110) (eb_I σ 111) (aN A) k = msk p acc.2.1 (aN A) acc.2.2
        rw [msk_eq (p := p) (q := acc.2.1) (aN A) hT hq4, a2]
  · rw [d_pull_is w hn hsh hl hi hs hD hT hH b false ⟨fun z => absurd z Bool.false_ne_true, fun z => absurd ⟨hb2.mp z.1, z.2⟩ hq⟩]
    rw [gP_f hq]
    refine ⟨((c, k), σ), ?_, hs, hD, hH, hT, hF, hA⟩
    have L : ∀ (K' : Int32 → eb_S → Option (Int32 × eb_S)), f_X10_pulled_L164 n 91 (nI sh) (nI i) v4 c 0 0 K' n k 0 σ = K' k σ := by
      intro K'
      obtain ⟨n', rfl⟩ : ∃ n', n = n' + 1 := ⟨n - 1, by omega⟩
      have hs2 := hs
      unfold ShD at hs2
      rw [f_X10_pulled_L164.eq_2]
      simp [eb_gI, hs2]
    simp only [eb_jn_e, show eb_b false = 0 from rfl, if_true, L, tg91 hs, Int32.add_zero]
