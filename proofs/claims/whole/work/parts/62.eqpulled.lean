/-! ===== pure: pulled, the model's answer ===== -/
theorem d_pull_all {A : Nat → Nat → Nat} (w : wf A) {ln sz : Nat → Nat} {it : Nat → Nat → Int64} {n sh i : Nat} (hn : 100000 ≤ n) (hsh : sh < 4) (hl : ln sh ≠ 0) (hi : i + aS A ≤ 16) {v4 : Int32} {K : Int32 → Int32 → eb_S → Option (Int32 × eb_S)} {σ σ1 : eb_S} (hs : ShD σ) (hD : MD A σ) (hH : DH ln sz it σ) (g2 : Fr sT σ σ1) (g3 : ∀ u, u < 10 → eb_I σ1 110 u = 0) : ∃ c k σ', f_X10_pulled_L73 n 91 (nI sh) (nI i) v4 0 K n 0 (mfull (aN A)) 1 σ1 = K c k σ' ∧ ShD σ' ∧ MD A σ' ∧ Fr sM σ σ' ∧ aPl A (bP A (fun s => it sh (i + s))) c k σ' := by
  have wN := w.1
  have h3 : 3 ^ aN A ≤ 3 ^ 10 := Nat.pow_le_pow_right (by decide) wN
  have h4 : 3 ^ 10 = 59049 := by decide
  have r0 : rPl A ln sz it σ (fun _ => 0) (pini A) ((0, mfull (aN A)), σ1) := ⟨g2.shD hs, g2.md nD_sT hD, hH.fr g2.fq (fun k j x1 x2 z => by unfold sT at z; omega), fun u hu => ⟨by rw [g3 u (by omega)]; exact nI_0.symm, by show 0 < 3; omega⟩, g2.mono (fun k j h => Or.inl h), fun _ => ⟨nI_0.symm, rfl, fun _ => rfl, fun z => absurd rfl z⟩⟩
  obtain ⟨m, hm⟩ : ∃ m, n = (m + 1) + 3 ^ aN A := ⟨n - 1 - 3 ^ aN A, by omega⟩
  obtain ⟨x', a1, a2⟩ := blk3 (N := aN A) (R := rPl A ln sz it σ) (L := lPl n sh i v4 K) (Tn := tPl n sh i v4 K) (fun m p acc x h => d_pull_step w (by omega) hsh hl hi m p acc x h) (fun m p acc x t h h1 h2 h3 => d_pull_turn w (by omega) m p acc x t h h1 h2 h3) (aN A) 0 (by omega) (fun _ => 0) (pini A) ((0, mfull (aN A)), σ1) (m + 1) r0 (fun _ _ _ => rfl)
  obtain ⟨⟨c, k⟩, σ2⟩ := x'
  obtain ⟨hs2, hD2, hH2, hT2, hF2, hA2⟩ := a2
  dsimp only at hs2 hD2 hT2 hF2 hA2
  obtain ⟨σ3, e1, e2⟩ := d_turnsE (n := n) (by omega) (mm := 2) (by decide) w hs2 hD2 hT2 (fun u hu => by unfold rfil; rw [if_pos ⟨by omega, hu⟩])
  refine ⟨c, k, σ3, ?_, e2.shD hs2, e2.md nD_sT hD2, hF2.tr (e2.mono (fun k j h => Or.inl h)), aPl_Fr e2 (fun j z => by unfold sT at z; omega) hA2⟩
  have : f_X10_pulled_L73 n 91 (nI sh) (nI i) v4 0 K n 0 (mfull (aN A)) 1 σ1 = lPl n sh i v4 K ((m + 1) + 3 ^ aN A) ((0, mfull (aN A)), σ1) := by rw [← hm]; rfl
  rw [this, a1]
  unfold tPl
  dsimp only
  rw [show (3 : Int32) = nI (2 + 1) from rfl, e1, eb_cl_s, f_X10_pulled_L73.eq_2, if_pos (by decide)]
