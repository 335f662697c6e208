/-! ===== pure: the model's told pulls, all rows ===== -/
/-- count and mask as the model keeps them; the row that was found first -/
def aPl (A : Nat → Nat → Nat) (acc : Nat × (Nat → Nat) × Int32) (c k : Int32) (σ : eb_S) : Prop := acc.1 < 2 ^ 31 → c = nI acc.1 ∧ k = acc.2.2 ∧ (acc.1 = 0 → acc.2.2 = mfull (aN A)) ∧ (acc.1 ≠ 0 → ∀ u, u < aN A → eb_I σ 111 u = nI (acc.2.1 u) ∧ acc.2.1 u < 3)
def rPl (A : Nat → Nat → Nat) (ln sz : Nat → Nat) (it : Nat → Nat → Int64) (σ0 : eb_S) (p : Nat → Nat) (acc : Nat × (Nat → Nat) × Int32) (x : (Int32 × Int32) × eb_S) : Prop := ShD x.2 ∧ MD A x.2 ∧ DH ln sz it x.2 ∧ TR (aN A) p x.2 ∧ Fr sM σ0 x.2 ∧ aPl A acc x.1.1 x.1.2 x.2
def lPl (n sh i : Nat) (v4 : Int32) (K : Int32 → Int32 → eb_S → Option (Int32 × eb_S)) (m : Nat) (x : (Int32 × Int32) × eb_S) : Option (Int32 × eb_S) := f_X10_pulled_L73 n 91 (nI sh) (nI i) v4 0 K m x.1.1 x.1.2 1 x.2
def tPl (n sh i : Nat) (v4 : Int32) (K : Int32 → Int32 → eb_S → Option (Int32 × eb_S)) (m : Nat) (x : (Int32 × Int32) × eb_S) : Option (Int32 × eb_S) := eb_cl (f_X10_turns n 91 3 x.2) fun b s => f_X10_pulled_L73 n 91 (nI sh) (nI i) v4 0 K m x.1.1 x.1.2 (eb_b b) s
theorem DH.fr {ln sz : Nat → Nat} {it : Nat → Nat → Int64} {σ σ' : eb_S} {S : Nat → Nat → Prop} (h : DH ln sz it σ) (hF : Fq S σ σ') (hn : nt S 115 117) : DH ln sz it σ' := by
  intro s hs
  obtain ⟨a1, a2⟩ := h s hs
  refine ⟨by rw [hF.it hn (by decide) (by decide)]; exact a1, fun hl => ⟨by rw [hF.it hn (by decide) (by decide)]; exact (a2 hl).1, fun j hj => ?_⟩⟩
  rw [hF.jj (hn _ _ (by decide) (by decide))]
  exact (a2 hl).2 j hj
theorem aPl_Fr {A : Nat → Nat → Nat} {acc : Nat × (Nat → Nat) × Int32} {c k : Int32} {σ σ' : eb_S} {S : Nat → Nat → Prop} (hF : Fr S σ σ') (h3 : ∀ j, ¬ S 111 j) (h : aPl A acc c k σ) : aPl A acc c k σ' := fun hlt => by
  obtain ⟨a1, a2, a3, a4⟩ := h hlt
  exact ⟨a1, a2, a3, fun hne u hu => by rw [hF.2.2.2.2.2 _ _ (h3 u)]; exact a4 hne u hu⟩
theorem d_pull_turn {A : Nat → Nat → Nat} (w : wf A) {ln sz : Nat → Nat} {it : Nat → Nat → Int64} {n sh i : Nat} (hn : 100 ≤ n) {v4 : Int32} {K : Int32 → Int32 → eb_S → Option (Int32 × eb_S)} {σ0 : eb_S} (m : Nat) (p : Nat → Nat) (acc : Nat × (Nat → Nat) × Int32) (x : (Int32 × Int32) × eb_S) (t : Nat) (h : rPl A ln sz it σ0 p acc x) (ht : t < aN A) (hp : p t < 2) (hf : ∀ u, t < u → u < aN A → p u = 2) : ∃ x', tPl n sh i v4 K m x = lPl n sh i v4 K m x' ∧ rPl A ln sz it σ0 (rfil (aN A) (t + 1) 0 (rup p t (p t + 1))) acc x' := by
  obtain ⟨⟨c, k⟩, σ⟩ := x
  obtain ⟨hs, hD, hH, hT, hF, hA⟩ := h
  dsimp only at hs hD hH hT hF hA
  obtain ⟨σ1, g1, g2, g3⟩ := d_turns hn (mm := 2) (by decide) w hs hD hT ht hp hf
  refine ⟨((c, k), σ1), ?_, g2.shD hs, g2.md nD_sT hD, hH.fr g2.fq (fun k j x1 x2 z => by unfold sT at z; omega), g3, hF.tr (g2.mono (fun k j h => Or.inl h)), aPl_Fr g2 (fun j z => by unfold sT at z; omega) hA⟩
  unfold tPl lPl
  dsimp only
  rw [show (3 : Int32) = nI (2 + 1) from rfl, g1, eb_cl_s]
  rfl
