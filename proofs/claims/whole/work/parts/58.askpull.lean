/-! ===== pure: asking for told pulls ===== -/
theorem pok_cong {A : Nat → Nat → Nat} {tl tl' : Nat → Int64} (h : ∀ s, s < aS A → tl s = tl' s) (p : Nat → Nat) : pok A tl p ↔ pok A tl' p := by
  unfold pok
  constructor
  · intro z s hs; rw [z s hs, h s hs]
  · intro z s hs; rw [z s hs, h s hs]
theorem gP_cong {A : Nat → Nat → Nat} {tl tl' : Nat → Int64} (h : ∀ s, s < aS A → tl s = tl' s) : gP A tl = gP A tl' := by
  funext p acc
  by_cases c : lawfulP A p ∧ pok A tl p
  · rw [gP_t c, gP_t ⟨c.1, (pok_cong h p).mp c.2⟩]
  · rw [gP_f c, gP_f (fun z => c ⟨z.1, (pok_cong h p).mpr z.2⟩)]
theorem bP_cong {A : Nat → Nat → Nat} {tl tl' : Nat → Int64} (h : ∀ s, s < aS A → tl s = tl' s) : bP A tl = bP A tl' := by unfold bP; rw [gP_cong h]
def XS5 (A : Nat → Nat → Nat) (ch : Nat) (σ : eb_S) : Prop := ShS5 σ ∧ LZ 69 σ ∧ ∃ z : Int, -1 ≤ z ∧ z ≤ ch ∧ eb_I σ 69 5 = iI z ∧ (z = ch → kP A (nI ch) (eb_J σ 74) (bP A (eb_J σ 74)) σ)
theorem ShS5.ss {σ : eb_S} (h : ShS5 σ) : SS 69 σ := by
  unfold ShS5 at h
  unfold SS
  simp [h]
theorem kP.cong {A : Nat → Nat → Nat} {c : Int32} {tl tl' : Nat → Int64} {acc : Nat × (Nat → Nat) × Int32} {σ : eb_S} (h : kP A c tl acc σ) (ht : ∀ s, s < aS A → tl s = tl' s) : kP A c tl' acc σ := ⟨h.1, h.2.1, fun s hs => by rw [h.2.2.1 s hs, ht s hs], h.2.2.2⟩
theorem XS5.fr {A : Nat → Nat → Nat} {ch : Nat} {σ σ' : eb_S} {S : Nat → Nat → Prop} (h : XS5 A ch σ) (hF : Fq S σ σ') (hn : nt S 69 74) : XS5 A ch σ' := by
  obtain ⟨a1, a2, z, a3, a4, a5, a6⟩ := h
  have hJ : eb_J σ' 74 = eb_J σ 74 := by funext j; exact hF.jj (hn 74 j (by decide) (by decide))
  refine ⟨hF.shS5 hn a1, fun j hj => by rw [hF.it hn (by decide) (by decide)]; exact a2 j hj, z, a3, a4, by rw [hF.it hn (by decide) (by decide)]; exact a5, fun hz => ?_⟩
  obtain ⟨b1, b2, b3, b4⟩ := a6 hz
  rw [hJ]
  refine ⟨hF.shS5 hn a1, by rw [hF.it hn (by decide) (by decide)]; exact b2, fun s hs => by rw [hJ], fun hc => ?_⟩
  obtain ⟨c1, c2⟩ := b4 hc
  exact ⟨by rw [hF.it hn (by decide) (by decide)]; exact c1, fun hne => ⟨by rw [hF.it hn (by decide) (by decide)]; exact (c2 hne).1, fun u hu => by rw [hF.it hn (by decide) (by decide)]; exact (c2 hne).2 u hu⟩⟩
theorem XS5.up {A A' : Nat → Nat → Nat} {ch ch' : Nat} {σ : eb_S} (h : XS5 A ch σ) (hc : ch < ch') : XS5 A' ch' σ := by
  obtain ⟨a1, a2, z, a3, a4, a5, a6⟩ := h
  exact ⟨a1, a2, z, a3, by omega, a5, fun hz => by omega⟩
/-- one told pull -/
def sA (k j : Nat) : Prop := k = 74 ∨ (k = 69 ∧ j = 5)
theorem p_lge (x y : Int64) : (lg_cmp x y = 0) = (x = y) := by
  rw [eq_iff_iff]
  constructor
  · intro h
    have h1 : ¬ lg_cmp x y < 0 := by rw [h]; decide
    have h2 : ¬ 0 < lg_cmp x y := by rw [h]; decide
    rw [p_lgl] at h1
    rw [p_lgg] at h2
    exact Int64.toInt_inj.mp (by omega)
  · intro h
    have h1 : ¬ lg_cmp x y < 0 := by rw [p_lgl, h]; omega
    have h2 : ¬ 0 < lg_cmp x y := by rw [p_lgg, h]; omega
    exact Int32.le_antisymm (Int32.not_lt.mp h2) (Int32.not_lt.mp h1)
theorem x_ask5 {σ : eb_S} (h5 : ShS5 σ) {s : Nat} (hs : s < 5) (x : Int64) : ∃ σ', f_X5_ask 69 (nI s) x σ = some ((), σ') ∧ Fq sA σ σ' ∧ (∀ j, eb_J σ' 74 j = if j = s then x else eb_J σ 74 j) ∧ (eb_J σ 74 s = x ∧ eb_I σ' 69 5 = eb_I σ 69 5 ∨ eb_I σ' 69 5 = -1) := by
  unfold ShS5 at h5
  by_cases h : eb_J σ 74 s = x
  · refine ⟨eb_sJ σ 74 s x, ?_, Fq.sJ (Or.inl rfl), fun j => by rw [eb_J_sJ, if_pos rfl], Or.inl ⟨h, rfl⟩⟩
    unfold f_X5_ask
    have e : lg_cmp (eb_J σ 74 s) x = 0 := by rw [p_lge]; exact h
    simp [eb_gR, eb_al, eb_wl, h5, eb_jn_e, p_in hs (by decide : 5 < 2 ^ 31), p_cl (show s < 2 ^ 31 by omega), e]
  · refine ⟨eb_sJ (eb_sI σ 69 5 (-1)) 74 s x, ?_, (Fq.sI (Or.inr ⟨rfl, rfl⟩)).tr (Fq.sJ (Or.inl rfl)), fun j => by rw [eb_J_sJ, if_pos rfl]; rfl, Or.inr ?_⟩
    · unfold f_X5_ask f_X6_forget
      have e : ¬ lg_cmp (eb_J σ 74 s) x = 0 := by rw [p_lge]; exact h
      simp [eb_gR, eb_al, eb_wl, eb_tg, eb_pI, eb_cl_s, h5, eb_jn_e, p_in hs (by decide : 5 < 2 ^ 31), p_cl (show s < 2 ^ 31 by omega), e, eb_T_sI, eb_R_sI, eb_L_sI, eb_J_sI, eb_N_sI, eb_T_sJ, eb_R_sJ, eb_L_sJ, eb_I_sJ, eb_N_sJ, eb_T_rI, eb_R_rI, eb_L_rI, eb_J_rI, eb_N_rI, eb_T_rJ, eb_R_rJ, eb_L_rJ, eb_I_rJ, eb_N_rJ]
    · rw [eb_I_sJ, eb_I_sI, if_pos rfl, if_pos rfl]
