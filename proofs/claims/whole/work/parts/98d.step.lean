/-! ===== pure: one round of the law ===== -/
theorem mkI {c : Nat} {A B : Nat → Nat → Nat} {ch : Nat} {im : Bool} {tl : Nat} {tc ln sz : Nat → Nat} {it : Nat → Nat → Int64} {σ : eb_S} (h : ch ≤ 16 * c) (w : wf A) (wB : im = true → wf B) (wT : wfT tl tc) (wH : wfH ln sz) (X : CX A ch im B tl tc ln sz it σ) (D : CD A im B tl tc ln sz it σ) : INV c σ := ⟨A, ch, im, B, tl, tc, ln, sz, it, h, w, wB, wT, wH, X, D⟩
theorem st_ro {fx fd : eb_S → Option (Int32 × eb_S)} {c : Nat} {σ : eb_S} (h : INV c σ) (he : ∀ A, ShB σ → ShM9 σ → MX9 A σ → wf A → ShD σ → MD A σ → ∃ r, fx σ = some (r, σ) ∧ fd σ = some (r, σ)) : STEP fx fd c σ := by
  obtain ⟨A, ch, im, B, tl, tc, ln, sz, it, hc, w, wB, wT, wH, X, D⟩ := h
  obtain ⟨r, e1, e2⟩ := he A X.1 X.2.1.1 X.2.1.2.1 w D.1 D.2.1
  exact ⟨r, σ, σ, e1, e2, X.1.t, D.1.t, mkI (by omega) w wB wT wH X D⟩
def okD (S : Nat → Nat → Prop) : Prop := ∀ k j, S k j → 90 ≤ k ∧ k ≤ 120 ∧ (¬ (k = 91 ∧ (j = 20 ∨ j = 36)) ∧ k ≠ 107 ∧ ¬ (114 ≤ k ∧ k ≤ 117))
theorem CX.d {A B : Nat → Nat → Nat} {ch : Nat} {im : Bool} {tl : Nat} {tc ln sz : Nat → Nat} {it : Nat → Nat → Int64} {σ σ' : eb_S} {S : Nat → Nat → Prop} (h : CX A ch im B tl tc ln sz it σ) (hF : Fr S σ σ') (hS : ∀ k j, S k j → 90 ≤ k ∧ k ≤ 120) : CX A ch im B tl tc ln sz it σ' := h.fq hF.fq hS (hF.shB h.1)
theorem st_dw {fx fd : eb_S → Option (Int32 × eb_S)} {c : Nat} {σ : eb_S} {S : Nat → Nat → Prop} (hS : okD S) (hn : nD S) (h : INV c σ) (he : ∀ A, ShB σ → ShM9 σ → MX9 A σ → wf A → ShD σ → MD A σ → ∃ r σ', fx σ = some (r, σ) ∧ fd σ = some (r, σ') ∧ Fr S σ σ') : STEP fx fd c σ := by
  obtain ⟨A, ch, im, B, tl, tc, ln, sz, it, hc, w, wB, wT, wH, X, D⟩ := h
  obtain ⟨r, σ', e1, e2, F⟩ := he A X.1 X.2.1.1 X.2.1.2.1 w D.1 D.2.1
  exact ⟨r, σ, σ', e1, e2, X.1.t, D.1.t, mkI (by omega) w wB wT wH (X.d F (fun k j z => ⟨(hS k j z).1, (hS k j z).2.1⟩)) (D.f F (fun k j z => (hS k j z).2.2) (F.md hn D.2.1))⟩
theorem st_90 {fx fd : eb_S → Option (Int32 × eb_S)} {c : Nat} {σ : eb_S} (h : INV c σ) (he : ∀ A, ShB σ → ShM9 σ → MX9 A σ → wf A → ShD σ → MD A σ → ∃ r σ1, fx σ = some (r, σ1) ∧ Fr s90 σ σ1 ∧ fd σ1 = some (r, σ1)) : STEP fx fd c σ := by
  obtain ⟨A, ch, im, B, tl, tc, ln, sz, it, hc, w, wB, wT, wH, X, D⟩ := h
  obtain ⟨r, σ1, e1, F, e2⟩ := he A X.1 X.2.1.1 X.2.1.2.1 w D.1 D.2.1
  have D1 := D.fq F.fq (fun k j z => by unfold s90 at z; omega)
  exact ⟨r, σ1, σ1, e1, e2, X.1.t, D1.1.t, mkI (by omega) w wB wT wH (X.d F (fun k j z => by unfold s90 at z; omega)) D1⟩
theorem st_n {fx fd : eb_S → Option (Int32 × eb_S)} {c : Nat} {σ : eb_S} (h : INV c σ) (he : ∀ A ch im B ln sz it, wf A → wfH ln sz → ShB σ → X9 A ch σ → XH ln sz it σ → ShD σ → MD A σ → DH ln sz it σ → IM im B σ → OPN fx fd A ch σ) : STEP fx fd c σ := by
  obtain ⟨A, ch, im, B, tl, tc, ln, sz, it, hc, w, wB, wT, wH, X, D⟩ := h
  obtain ⟨r, σ1, σ2, A', ch', e1, F1, h9, e2, F2, hD, w', hc1, hc2⟩ := he A ch im B ln sz it w wH X.1 X.2.1 X.2.2.2.2.2.2.2.2.2.2 D.1 D.2.1 D.2.2.2.2 ⟨X.2.2.1.1, X.2.2.1.2.1, D.2.2.1.1, fun q => ⟨X.2.2.1.2.2 q, D.2.2.1.2 q, wB q⟩⟩
  have D1 := D.fq F1.fq (fun k j z => by unfold sMk at z; omega)
  have X1 := X.r9 F1.fq (fun k j z => by unfold sMk at z; omega) (F1.shB X.1) h9 hc1
  exact ⟨r, σ1, σ2, e1, e2, X.1.t, D1.1.t, mkI (by omega) w' wB wT wH (X1.d F2 (fun k j z => by unfold sMd at z; omega)) (D1.f F2 (fun k j z => by unfold sMd at z; omega) hD)⟩
theorem st_h {fx fd : eb_S → Option (Int32 × eb_S)} {c : Nat} {σ : eb_S} (h : INV c σ) (he : ∀ A ln sz it, wf A → wfH ln sz → ShB σ → ShM9 σ → MX9 A σ → XH ln sz it σ → ShD σ → MD A σ → DH ln sz it σ → OPH fx fd σ) : STEP fx fd c σ := by
  obtain ⟨A, ch, im, B, tl, tc, ln, sz, it, hc, w, wB, wT, wH, X, D⟩ := h
  obtain ⟨r, σ1, σ2, ln', sz', it', e1, F1, hH, e2, F2, hD, wH'⟩ := he A ln sz it w wH X.1 X.2.1.1 X.2.1.2.1 X.2.2.2.2.2.2.2.2.2.2 D.1 D.2.1 D.2.2.2.2
  have D1 := D.fq F1 (fun k j z => by unfold sH at z; omega)
  have X1 := X.rH F1 (fun k j z => by unfold sH at z; omega) (F1.shB0 (fun k z => by unfold sH at z; omega) X.1) hH
  have X2 := X1.fq F2 (fun k j z => by unfold sHd at z; omega) (F2.shB0 (fun k z => by unfold sHd at z; omega) X1.1)
  have q : ∀ k j, ¬ (115 ≤ k) → ¬ sHd k j := fun k j z y => by unfold sHd at y; omega
  exact ⟨r, σ1, σ2, e1, e2, X.1.t, D1.1.t, mkI (by omega) w wB wT wH' X2 ⟨F2.shD0 (fun k z => by unfold sHd at z; omega) D1.1, F2.md (fun k j z => by unfold sHd at z; omega) D1.2.1, ⟨by rw [F2.i (q _ _ (by decide))]; exact D1.2.2.1.1, fun y i j hi hj => by rw [F2.i (q _ _ (by decide))]; exact D1.2.2.1.2 y i j hi hj⟩, ⟨by rw [F2.i (q _ _ (by decide))]; exact D1.2.2.2.1.1, fun j hj => by rw [F2.i (q _ _ (by decide))]; exact D1.2.2.2.1.2 j hj⟩, hD⟩⟩
theorem Fq.shBn {S : Nat → Nat → Prop} {σ σ' : eb_S} (h : Fq S σ σ') (hn : ∀ k, S k 1000 → ¬ (k = 8 ∨ k = 81 ∨ k = 90)) (hs : ShB σ) : ShB σ' := by
  have c8 := h.1 8 (fun z => hn 8 z (by omega))
  have c81 := h.1 81 (fun z => hn 81 z (by omega))
  have c90 := h.1 90 (fun z => hn 90 z (by omega))
  unfold ShB at hs ⊢
  simp only [c8.1, c8.2.1, c8.2.2, c81.1, c81.2.1, c81.2.2, c90.1, c90.2.1, c90.2.2]
  exact hs
theorem st_best {c : Nat} (hc6 : c ≤ 70) {σ : eb_S} (h : INV c σ) (a : Int32) : STEP (f_X9_best 100000 8 a) (f_X10_best 100000 91 a) c σ := by
  obtain ⟨A, ch, im, B, tl, tc, ln, sz, it, hc, w, wB, wT, wH, X, D⟩ := h
  obtain ⟨r, σ1, σ2, e1, F1, hS, e2, F2⟩ := eq_best w (Nat.le_refl _) (by omega) X.1 X.2.1 X.2.2.2.2.2.1 D.1 D.2.1 a
  have D1 := D.fq F1.fq (fun k j z => by unfold sv at z; omega)
  have X1 := X.r0 F1.fq (fun k j z => by unfold sv at z; omega) (F1.shB X.1) hS
  exact ⟨r, σ1, σ2, e1, e2, X.1.t, D1.1.t, mkI (by omega) w wB wT wH (X1.d F2 (fun k j z => by unfold sB at z; omega)) (D1.f F2 (fun k j z => by unfold sB at z; omega) (F2.md nD_sB D1.2.1))⟩
theorem st_moved {c : Nat} (hc6 : c ≤ 70) {σ : eb_S} (h : INV c σ) (a e v : Int32) : STEP (f_X9_moved 100000 8 a e v) (f_X10_moved 100000 91 a e v) c σ := by
  obtain ⟨A, ch, im, B, tl, tc, ln, sz, it, hc, w, wB, wT, wH, X, D⟩ := h
  obtain ⟨r, σ1, σ2, e1, F1, hS, e2, F2⟩ := eq_moved w (Nat.le_refl _) (by omega) X.1 X.2.1 X.2.2.2.2.2.2.1 D.1 D.2.1 a e v
  have D1 := D.fq F1.fq (fun k j z => by unfold sv at z; omega)
  have X1 := X.r4 F1.fq (fun k j z => by unfold sv at z; omega) (F1.shB X.1) hS
  exact ⟨r, σ1, σ2, e1, e2, X.1.t, D1.1.t, mkI (by omega) w wB wT wH (X1.d F2 (fun k j z => by unfold sM at z; omega)) (D1.f F2 (fun k j z => by unfold sM at z; omega) (F2.md nD_sM D1.2.1))⟩
theorem st_pulled {c : Nat} (hc6 : c ≤ 70) {σ : eb_S} (h : INV c σ) (a b i v : Int32) : STEP (f_X9_pulled 100000 8 a b i v) (f_X10_pulled 100000 91 a b i v) c σ := by
  obtain ⟨A, ch, im, B, tl, tc, ln, sz, it, hc, w, wB, wT, wH, X, D⟩ := h
  obtain ⟨r, σ1, σ2, e1, F1, hS, e2, F2⟩ := eq_pulled w wH (Nat.le_refl _) (by omega) X.1 X.2.1 X.2.2.2.2.2.2.2.1 X.2.2.2.2.2.2.2.2.2.2 D.1 D.2.1 D.2.2.2.2 a b i v
  have D1 := D.fq F1 (fun k j z => by unfold sv sA at z; omega)
  have X1 := X.r5 F1 (fun k j z => by unfold sv sA at z; omega) (F1.shBn (fun k z => by unfold sv sA at z; omega) X.1) hS
  exact ⟨r, σ1, σ2, e1, e2, X.1.t, D1.1.t, mkI (by omega) w wB wT wH (X1.d F2 (fun k j z => by unfold sM at z; omega)) (D1.f F2 (fun k j z => by unfold sM at z; omega) (F2.md nD_sM D1.2.1))⟩
theorem st_buying {c : Nat} (hc6 : c ≤ 70) {σ : eb_S} (h : INV c σ) (v : Int32) : STEP (f_X9_buying 100000 8 v) (f_X10_buying 100000 91 v) c σ := by
  obtain ⟨A, ch, im, B, tl, tc, ln, sz, it, hc, w, wB, wT, wH, X, D⟩ := h
  obtain ⟨r, σ1, σ2, e1, F1, hS, e2, F2⟩ := eq_buying w (n := 100000) (by decide) (by omega) X.1 X.2.1 X.2.2.2.2.2.2.2.2.1 D.1 D.2.1 v
  have D1 := D.fq F1 (fun k j z => by unfold sE at z; omega)
  have X1 := X.rE F1 (fun k j z => by unfold sE at z; omega) (F1.shBn (fun k z => by unfold sE at z; omega) X.1) hS
  exact ⟨r, σ1, σ2, e1, e2, X.1.t, D1.1.t, mkI (by omega) w wB wT wH (X1.d F2 (fun k j z => by unfold s112 at z; omega)) (D1.f F2 (fun k j z => by unfold s112 at z; omega) (F2.md nD_s112 D1.2.1))⟩
theorem st_tray {c : Nat} {σ : eb_S} (h : INV c σ) (a b i lim v : Int32) : STEP (f_X9_tray 100000 8 a b i lim v) (f_X10_tray 100000 91 a b i lim v) c σ := by
  obtain ⟨A, ch, im, B, tl, tc, ln, sz, it, hc, w, wB, wT, wH, X, D⟩ := h
  obtain ⟨r, σ1, σ2, e1, F1, e2, F2⟩ := eq_tray w wH (n := 100000) (by decide) X.1 X.2.1.1 X.2.1.2.1 X.2.2.2.2.2.2.2.2.2.1 X.2.2.2.2.2.2.2.2.2.2 D.1 D.2.1 D.2.2.2.2 a b i lim v
  have D1 := D.fq F1.fq (fun k j z => by unfold sG at z; omega)
  have X1 := X.rG F1.fq (fun k j z => by unfold sG at z; omega) (F1.shB X.1) (F1.shG X.2.2.2.2.2.2.2.2.2.1)
  exact ⟨r, σ1, σ2, e1, e2, X.1.t, D1.1.t, mkI (by omega) w wB wT wH (X1.d F2 (fun k j z => by unfold sGd at z; omega)) (D1.f F2 (fun k j z => by unfold sGd at z; omega) (F2.md nD_sGd D1.2.1))⟩
theorem st_type {c : Nat} {σ : eb_S} (h : INV c σ) (a : Int32) : STEP (f_X9_type 8 a) (f_X10_type 91 a) c σ := by
  obtain ⟨A, ch, im, B, tl, tc, ln, sz, it, hc, w, wB, wT, wH, X, D⟩ := h
  obtain ⟨r, σ1, σ2, tl', tc', e1, F1, hT, e2, F2, hD, wT'⟩ := eq_type wT X.1 X.2.2.2.2.1 D.1 D.2.2.2.1 a
  have D1 := D.fq F1.fq (fun k j z => by unfold sTp at z; omega)
  have X1 := X.rT F1.fq (fun k j z => by unfold sTp at z; omega) (F1.shB X.1) hT
  have e : ∀ k j, ¬ sTd k j → eb_I σ2 k j = eb_I σ1 k j := F2.2.2.2.2.2
  exact ⟨r, σ1, σ2, e1, e2, X.1.t, D1.1.t, mkI (by omega) w wB wT' wH (X1.d F2 (fun k j z => by unfold sTd at z; omega)) ⟨F2.shD D1.1, F2.md nD_sTd D1.2.1, ⟨by rw [e _ _ (fun z => by unfold sTd at z; omega)]; exact D1.2.2.1.1, fun y i j hi hj => by rw [e _ _ (fun z => by unfold sTd at z; omega)]; exact D1.2.2.1.2 y i j hi hj⟩, hD, D1.2.2.2.2.fq F2.fq (fun k j a b z => by unfold sTd at z; omega)⟩⟩
theorem st_image {c : Nat} {σ : eb_S} (h : INV c σ) : STEP (f_X9_image 8) (f_X10_image 100000 91) c σ := by
  obtain ⟨A, ch, im, B, tl, tc, ln, sz, it, hc, w, wB, wT, wH, X, D⟩ := h
  obtain ⟨r, σ1, σ2, e1, F1, e2, F2, hI⟩ := eq_image w (n := 100000) (by decide) X.1 X.2.1.1 X.2.1.2.1 D.1 D.2.1 ⟨X.2.2.1.1, X.2.2.1.2.1, D.2.2.1.1, fun q => ⟨X.2.2.1.2.2 q, D.2.2.1.2 q, wB q⟩⟩
  have D1 := D.fq F1.fq (fun k j z => by unfold sIx at z; omega)
  have hS : ∀ k j, sIx k j → ((25 ≤ k ∧ k ≤ 40) ∨ k = 8) := fun k j z => by unfold sIx at z; omega
  have hS2 : ∀ k j, sId k j → 90 ≤ k ∧ k ≤ 120 := fun k j z => by unfold sId at z; omega
  have e : ∀ k j, ¬ sId k j → eb_I σ2 k j = eb_I σ1 k j := F2.2.2.2.2.2
  have X2 : CX A ch true A tl tc ln sz it σ2 := ⟨F2.shB (F1.shB X.1), (X.2.1.fr F1.fq (fun k j x1 x2 z => by have := hS k j z; omega)).fr F2.fq (fun k j x1 x2 z => by have := hS2 k j z; omega), ⟨hI.1, hI.2.1, fun q => (hI.2.2.2 q).1⟩, F2.shM41 (F1.shM41 X.2.2.2.1), (X.2.2.2.2.1.fq F1.fq (fun k j x1 x2 z => by have := hS k j z; omega)).fq F2.fq (fun k j x1 x2 z => by have := hS2 k j z; omega), (X.2.2.2.2.2.1.fr F1.fq (fun k j x1 x2 z => by have := hS k j z; omega)).fr F2.fq (fun k j x1 x2 z => by have := hS2 k j z; omega), (X.2.2.2.2.2.2.1.fr F1.fq (fun k j x1 x2 z => by have := hS k j z; omega)).fr F2.fq (fun k j x1 x2 z => by have := hS2 k j z; omega), (X.2.2.2.2.2.2.2.1.fr F1.fq (fun k j x1 x2 z => by have := hS k j z; omega)).fr F2.fq (fun k j x1 x2 z => by have := hS2 k j z; omega), (X.2.2.2.2.2.2.2.2.1.fr F1.fq (fun k j x1 x2 z => by have := hS k j z; omega) (fun k j x1 z => by have := hS k j z; omega)).fr F2.fq (fun k j x1 x2 z => by have := hS2 k j z; omega) (fun k j x1 z => by have := hS2 k j z; omega), F2.shG (F1.shG X.2.2.2.2.2.2.2.2.2.1), (X.2.2.2.2.2.2.2.2.2.2.fr F1.fq (fun k j x1 x2 z => by have := hS k j z; omega)).fr F2.fq (fun k j x1 x2 z => by have := hS2 k j z; omega)⟩
  exact ⟨r, σ1, σ2, e1, e2, X.1.t, D1.1.t, mkI (by omega) w (fun _ => w) wT wH X2 ⟨F2.shD D1.1, F2.md nD_sId D1.2.1, ⟨hI.2.2.1, fun q => (hI.2.2.2 q).2.1⟩, D1.2.2.2.1.at F2 (fun z => by unfold sId at z; omega) (fun j z => by unfold sId at z; omega), D1.2.2.2.2.fq F2.fq (fun k j a b z => by unfold sId at z; omega)⟩⟩
theorem st_pack {c : Nat} (hc6 : c ≤ 70) {σ : eb_S} (h : INV c σ) : STEP (f_X9_pack 100000 8) (f_X10_pack 100000 91) c σ := by
  obtain ⟨A, ch, im, B, tl, tc, ln, sz, it, hc, w, wB, wT, wH, X, D⟩ := h
  obtain ⟨r, σ1, σ2, A', ch', e1, F1, h9, h0, e2, F2, hD, w', hc1⟩ := eq_pack w (n := 100000) (Nat.le_refl _) (by omega) X.1 X.2.1 X.2.2.2.2.2.1 D.1 D.2.1
  have hS : ∀ k j, sX5 k j → ((9 ≤ k ∧ k ≤ 24) ∨ (59 ≤ k ∧ k ≤ 63)) := fun k j z => by unfold sX5 s14 sv at z; omega
  have hcc : A' = A ∧ ch' = ch ∨ ch < ch' := by rcases hc1 with q | q; · exact .inl q
                                                · exact .inr (by omega)
  have hle : ch' ≤ 16 * (c + 1) := by rcases hc1 with q | q <;> omega
  have D1 := D.fq F1.fq (fun k j z => by have := hS k j z; omega)
  have h4 := X.2.2.2.2.2.2.1.fr F1.fq (fun k j x1 x2 z => by have := hS k j z; omega)
  have h5 := X.2.2.2.2.2.2.2.1.fr F1.fq (fun k j x1 x2 z => by have := hS k j z; omega)
  have hE := X.2.2.2.2.2.2.2.2.1.fr F1.fq (fun k j x1 x2 z => by have := hS k j z; omega) (fun k j x1 z => by have := hS k j z; omega)
  have X1 : CX A' ch' im B tl tc ln sz it σ1 := by
    refine ⟨F1.shB X.1, h9, ⟨F1.shM25 X.2.2.1.1, by rw [F1.fq.i (fun z => by have := hS _ _ z; omega)]; exact X.2.2.1.2.1, fun q => F1.fq.mx25 (fun k j x1 x2 z => by have := hS k j z; omega) (X.2.2.1.2.2 q)⟩, F1.shM41 X.2.2.2.1, X.2.2.2.2.1.fq F1.fq (fun k j x1 x2 z => by have := hS k j z; omega), h0, ?_, ?_, ?_, F1.shG X.2.2.2.2.2.2.2.2.2.1, X.2.2.2.2.2.2.2.2.2.2.fr F1.fq (fun k j x1 x2 z => by have := hS k j z; omega)⟩
    · rcases hcc with ⟨e1, e2⟩ | e
      · rw [e1, e2]; exact h4
      · exact h4.up e
    · rcases hcc with ⟨e1, e2⟩ | e
      · rw [e1, e2]; exact h5
      · exact h5.up e
    · rcases hcc with ⟨e1, e2⟩ | e
      · rw [e1, e2]; exact hE
      · exact hE.up e
  exact ⟨r, σ1, σ2, e1, e2, X.1.t, D1.1.t, mkI hle w' wB wT wH (X1.d F2 (fun k j z => by unfold sP sB at z; omega)) (D1.f F2 (fun k j z => by unfold sP sB at z; omega) hD)⟩
theorem st_market {c : Nat} {σ : eb_S} (h : INV c σ) : STEP (f_X9_market 100000 8) (f_X10_market 100000 91) c σ := by
  obtain ⟨A, ch, im, B, tl, tc, ln, sz, it, hc, w, wB, wT, wH, X, D⟩ := h
  obtain ⟨r, σ1, σ2, A', ch', e1, F1, h9, hT, e2, F2, hD, hDT, w', hcc, hle⟩ := eq_market w (n := 100000) (by decide) wT X.1 X.2.1 X.2.2.2.1 X.2.2.2.2.1 D.1 D.2.1 D.2.2.2.1
  have hS : ∀ k j, sMx k j → ((9 ≤ k ∧ k ≤ 24) ∨ (41 ≤ k ∧ k ≤ 57)) := fun k j z => by unfold sMx at z; omega
  have D1 := D.fq F1.fq (fun k j z => by have := hS k j z; omega)
  have h0 := X.2.2.2.2.2.1.fr F1.fq (fun k j x1 x2 z => by have := hS k j z; omega)
  have h4 := X.2.2.2.2.2.2.1.fr F1.fq (fun k j x1 x2 z => by have := hS k j z; omega)
  have h5 := X.2.2.2.2.2.2.2.1.fr F1.fq (fun k j x1 x2 z => by have := hS k j z; omega)
  have hE := X.2.2.2.2.2.2.2.2.1.fr F1.fq (fun k j x1 x2 z => by have := hS k j z; omega) (fun k j x1 z => by have := hS k j z; omega)
  have X1 : CX A' ch' im B 0 tc ln sz it σ1 := by
    refine ⟨F1.shB X.1, h9, ⟨F1.shM25 X.2.2.1.1, by rw [F1.fq.i (fun z => by have := hS _ _ z; omega)]; exact X.2.2.1.2.1, fun q => F1.fq.mx25 (fun k j x1 x2 z => by have := hS k j z; omega) (X.2.2.1.2.2 q)⟩, F1.shM41 X.2.2.2.1, hT, ?_, ?_, ?_, ?_, F1.shG X.2.2.2.2.2.2.2.2.2.1, X.2.2.2.2.2.2.2.2.2.2.fr F1.fq (fun k j x1 x2 z => by have := hS k j z; omega)⟩
    · rcases hcc with ⟨e1, e2⟩ | e
      · rw [e1, e2]; exact h0
      · exact h0.up e
    · rcases hcc with ⟨e1, e2⟩ | e
      · rw [e1, e2]; exact h4
      · exact h4.up e
    · rcases hcc with ⟨e1, e2⟩ | e
      · rw [e1, e2]; exact h5
      · exact h5.up e
    · rcases hcc with ⟨e1, e2⟩ | e
      · rw [e1, e2]; exact hE
      · exact hE.up e
  have e : ∀ k j, ¬ sMm k j → eb_I σ2 k j = eb_I σ1 k j := F2.2.2.2.2.2
  exact ⟨r, σ1, σ2, e1, e2, X.1.t, D1.1.t, mkI (by omega) w' wB ⟨by omega, fun j hj => by omega⟩ wH (X1.d F2 (fun k j z => by unfold sMm at z; omega)) ⟨F2.shD D1.1, hD, ⟨by rw [e _ _ (fun z => by unfold sMm at z; omega)]; exact D1.2.2.1.1, fun y i j hi hj => by rw [e _ _ (fun z => by unfold sMm at z; omega)]; exact D1.2.2.1.2 y i j hi hj⟩, hDT, D1.2.2.2.2.fq F2.fq (fun k j a b z => by unfold sMm at z; omega)⟩⟩
