/-! ===== pure: asking for told pulls ===== -/
theorem pok_cong {A : Nat → Nat → Nat} {tl tl' : Nat → Int64} (h : ∀ s, s < aS A → tl s = tl' s) (p : Nat → Nat) : pok A tl p ↔ pok A tl' p := by
  unfold pok
  constructor
  · intro z s hs; rw [z s hs, h s hs]
  · intro z s hs; rw [z s hs, h s hs]
theorem gP_cong {A : Nat → Nat → Nat} {tl tl' : Nat → Int64} (h : ∀ s, s < aS A → tl s = tl' s) : gP A tl = gP A tl' := by
  funext p acc
  by_cases c : lawfulP A p ∧ pok A tl p
  · rw [gP_t c, gP_t ⟨c.1, (pok_cong h p).mp c.2⟩]
  · rw [gP_f c, gP_f (fun z => c ⟨z.1, (pok_cong h p).mpr z.2⟩)]
theorem bP_cong {A : Nat → Nat → Nat} {tl tl' : Nat → Int64} (h : ∀ s, s < aS A → tl s = tl' s) : bP A tl = bP A tl' := by unfold bP; rw [gP_cong h]
def XS5 (A : Nat → Nat → Nat) (ch : Nat) (σ : eb_S) : Prop := ShS5 σ ∧ LZ 69 σ ∧ ∃ z : Int, -1 ≤ z ∧ z ≤ ch ∧ eb_I σ 69 5 = iI z ∧ (z = ch → kP A (nI ch) (eb_J σ 74) (bP A (eb_J σ 74)) σ)
theorem ShS5.ss {σ : eb_S} (h : ShS5 σ) : SS 69 σ := by
  unfold ShS5 at h
  unfold SS
  simp [h]
theorem kP.cong {A : Nat → Nat → Nat} {c : Int32} {tl tl' : Nat → Int64} {acc : Nat × (Nat → Nat) × Int32} {σ : eb_S} (h : kP A c tl acc σ) (ht : ∀ s, s < aS A → tl s = tl' s) : kP A c tl' acc σ := ⟨h.1, h.2.1, fun s hs => by rw [h.2.2.1 s hs, ht s hs], h.2.2.2⟩
theorem XS5.fr {A : Nat → Nat → Nat} {ch : Nat} {σ σ' : eb_S} {S : Nat → Nat → Prop} (h : XS5 A ch σ) (hF : Fq S σ σ') (hn : nt S 69 74) : XS5 A ch σ' := by
  obtain ⟨a1, a2, z, a3, a4, a5, a6⟩ := h
  have hJ : eb_J σ' 74 = eb_J σ 74 := by funext j; exact hF.jj (hn 74 j (by decide) (by decide))
  refine ⟨hF.shS5 hn a1, fun j hj => by rw [hF.it hn (by decide) (by decide)]; exact a2 j hj, z, a3, a4, by rw [hF.it hn (by decide) (by decide)]; exact a5, fun hz => ?_⟩
  obtain ⟨b1, b2, b3, b4⟩ := a6 hz
  rw [hJ]
  refine ⟨hF.shS5 hn a1, by rw [hF.it hn (by decide) (by decide)]; exact b2, fun s hs => by rw [hJ], fun hc => ?_⟩
  obtain ⟨c1, c2⟩ := b4 hc
  exact ⟨by rw [hF.it hn (by decide) (by decide)]; exact c1, fun hne => ⟨by rw [hF.it hn (by decide) (by decide)]; exact (c2 hne).1, fun u hu => by rw [hF.it hn (by decide) (by decide)]; exact (c2 hne).2 u hu⟩⟩
theorem XS5.up {A A' : Nat → Nat → Nat} {ch ch' : Nat} {σ : eb_S} (h : XS5 A ch σ) (hc : ch < ch') : XS5 A' ch' σ := by
  obtain ⟨a1, a2, z, a3, a4, a5, a6⟩ := h
  exact ⟨a1, a2, z, a3, by omega, a5, fun hz => by omega⟩
/-- one told pull -/
def sA (k j : Nat) : Prop := (k = 74 ∧ j < 1000) ∨ (k = 69 ∧ j = 5)
theorem sA_sh (k : Nat) : ¬ sA k 1000 := by unfold sA; omega
theorem Fq.shape {S : Nat → Nat → Prop} {σ σ' : eb_S} (h : Fq S σ σ') (hn : ∀ k, ¬ S k 1000) : eb_T σ' = eb_T σ ∧ eb_R σ' = eb_R σ ∧ eb_L σ' = eb_L σ := ⟨by funext k; exact (h.1 k (hn k)).1, by funext k; exact (h.1 k (hn k)).2.1, by funext k; exact (h.1 k (hn k)).2.2⟩
theorem p_lge (x y : Int64) : (lg_cmp x y = 0) = (x = y) := by
  rw [eq_iff_iff]
  constructor
  · intro h
    have h1 : ¬ lg_cmp x y < 0 := by rw [h]; decide
    have h2 : ¬ 0 < lg_cmp x y := by rw [h]; decide
    rw [p_lgl] at h1
    rw [p_lgg] at h2
    exact Int64.toInt_inj.mp (by omega)
  · intro h
    have h1 : ¬ lg_cmp x y < 0 := by rw [p_lgl, h]; omega
    have h2 : ¬ 0 < lg_cmp x y := by rw [p_lgg, h]; omega
    exact Int32.le_antisymm (Int32.not_lt.mp h2) (Int32.not_lt.mp h1)
theorem x_ask5 {σ : eb_S} (h5 : ShS5 σ) {s : Nat} (hs : s < 5) (x : Int64) : ∃ σ', f_X5_ask 69 (nI s) x σ = some ((), σ') ∧ Fq sA σ σ' ∧ (∀ j, eb_J σ' 74 j = if j = s then x else eb_J σ 74 j) ∧ (eb_J σ 74 s = x ∧ eb_I σ' 69 5 = eb_I σ 69 5 ∨ eb_I σ' 69 5 = -1) := by
  unfold ShS5 at h5
  by_cases h : eb_J σ 74 s = x
  · refine ⟨eb_sJ σ 74 s x, ?_, Fq.sJ (Or.inl ⟨rfl, by omega⟩), fun j => by rw [eb_J_sJ, if_pos rfl], Or.inl ⟨h, rfl⟩⟩
    unfold f_X5_ask
    have e : lg_cmp (eb_J σ 74 s) x = 0 := by rw [p_lge]; exact h
    simp [eb_gR, eb_al, eb_wl, h5, eb_jn_e, p_in hs (by decide : 5 < 2 ^ 31), p_cl (show s < 2 ^ 31 by omega), e]
  · refine ⟨eb_sJ (eb_sI σ 69 5 (-1)) 74 s x, ?_, (Fq.sI (Or.inr ⟨rfl, rfl⟩)).tr (Fq.sJ (Or.inl ⟨rfl, by omega⟩)), fun j => by rw [eb_J_sJ, if_pos rfl]; rfl, Or.inr ?_⟩
    · unfold f_X5_ask f_X6_forget
      have e : ¬ lg_cmp (eb_J σ 74 s) x = 0 := by rw [p_lge]; exact h
      simp [eb_gR, eb_al, eb_wl, eb_tg, eb_pI, eb_cl_s, h5, eb_jn_e, p_in hs (by decide : 5 < 2 ^ 31), p_cl (show s < 2 ^ 31 by omega), e, eb_T_sI, eb_R_sI, eb_L_sI, eb_J_sI, eb_N_sI, eb_T_sJ, eb_R_sJ, eb_L_sJ, eb_I_sJ, eb_N_sJ, eb_T_rI, eb_R_rI, eb_L_rI, eb_J_rI, eb_N_rI, eb_T_rJ, eb_R_rJ, eb_L_rJ, eb_I_rJ, eb_N_rJ]
    · rw [eb_I_sJ, eb_I_sI, if_pos rfl, if_pos rfl]
theorem Fq.shB0 {S : Nat → Nat → Prop} {σ σ' : eb_S} (h : Fq S σ σ') (hn : ∀ k, ¬ S k 1000) (hs : ShB σ) : ShB σ' := by
  obtain ⟨e1, e2, e3⟩ := h.shape hn
  unfold ShB at hs ⊢; rw [e1, e2, e3]; exact hs
theorem Fq.shS50 {S : Nat → Nat → Prop} {σ σ' : eb_S} (h : Fq S σ σ') (hn : ∀ k, ¬ S k 1000) (hs : ShS5 σ) : ShS5 σ' := by
  obtain ⟨e1, e2, e3⟩ := h.shape hn
  unfold ShS5 at hs ⊢; rw [e1, e2, e3]; exact hs
theorem XH.fr {ln sz : Nat → Nat} {it : Nat → Nat → Int64} {σ σ' : eb_S} {S : Nat → Nat → Prop} (h : XH ln sz it σ) (hF : Fq S σ σ') (hn : nt S 82 89) : XH ln sz it σ' := by
  refine ⟨hF.shH hn h.1, fun s hs => ?_⟩
  obtain ⟨a1, a2⟩ := h.2 s hs
  refine ⟨by rw [hF.it hn (by omega) (by omega)]; exact a1, fun hl => ⟨by rw [hF.it hn (by omega) (by omega)]; exact (a2 hl).1, fun j hj => ?_⟩⟩
  rw [hF.jj (hn _ _ (by omega) (by omega))]
  exact (a2 hl).2 j hj
set_option maxHeartbeats 4000000 in
theorem x_asks_L {A : Nat → Nat → Nat} (w : wf A) {ln sz : Nat → Nat} {it : Nat → Nat → Int64} {n sh i : Nat} {v4 : Int32} (hsh : sh < 4) (hl : ln sh ≠ 0) (hi : i + aS A ≤ 16) {K : eb_S → Option (Int32 × eb_S)} : ∀ (m s : Nat) (σ : eb_S), ShB σ → ShM9 σ → eb_I σ 9 7 = nI (aS A) → ShS5 σ → XH ln sz it σ → (∀ s', s' < s → eb_J σ 74 s' = it sh (i + s')) → s ≤ aS A → aS A < s + m → ∃ σ', f_X9_pulled_L39 n 8 (nI sh) (nI i) v4 K m (nI s) σ = K σ' ∧ Fq sA σ σ' ∧ (∀ s', s' < aS A → eb_J σ' 74 s' = it sh (i + s')) ∧ ((∀ s', s ≤ s' → s' < aS A → eb_J σ 74 s' = it sh (i + s')) ∧ eb_I σ' 69 5 = eb_I σ 69 5 ∨ eb_I σ' 69 5 = -1) := by
  intro m
  induction m with
  | zero => intro s σ _ _ _ _ _ _ h1 h2; omega
  | succ m ih =>
    intro s σ hb hs hS h5 hH hz h1 h2
    have wS := w.2.2.1
    have hr := hb.sh hsh
    have h6 := hH.1.at hsh
    have hit := ((hH.2 sh hsh).2 hl).2
    have hbu := hb
    have hsu := hs
    have h5u := h5
    unfold ShB at hbu
    unfold ShM9 at hsu
    unfold ShS5 at h5u
    rw [f_X9_pulled_L39.eq_2]
    simp only [eb_gR, eb_gI, hbu, hsu, hS, List.mem_singleton, p_leN (show aS A < 2 ^ 31 by omega) (show s < 2 ^ 31 by omega)]
    by_cases h : aS A ≤ s
    · exact ⟨σ, by simp [h], Fq.rf, fun s' hs' => hz s' (by omega), Or.inl ⟨fun s' a b => by omega, rfl⟩⟩
    · have hlt : s < aS A := by omega
      obtain ⟨σ1, a1, a2, a3, a4⟩ := x_ask5 h5 (show s < 5 by omega) (it sh (i + s))
      obtain ⟨σ', g1, g2, g3, g4⟩ := ih (s + 1) σ1 (a2.shB0 sA_sh hb) (a2.shM9 (fun k j x1 x2 z => by unfold sA at z; omega) hs) (by rw [a2.i (fun z => by unfold sA at z; omega)]; exact hS) (a2.shS50 sA_sh h5) (hH.fr a2 (fun k j x1 x2 z => by unfold sA at z; omega)) (fun s' hs' => by
        rw [a3 s']
        by_cases e : s' = s
        · rw [if_pos e, e]
        · rw [if_neg e]; exact hz s' (by omega)) (by omega) (by omega)
      refine ⟨σ', ?_, a2.tr g2, g3, ?_⟩
      · simp [h, eb_ar, eb_al, eb_tg, hbu, hr, h6, h5u, p_in hsh (by decide : 4 < 2 ^ 31), p_cl (show sh < 2 ^ 31 by omega), nI_add, p_in (show i + s < 16 by omega) (by decide : 16 < 2 ^ 31), p_cl (show i + s < 2 ^ 31 by omega), hit (i + s) (by omega), a1, eb_cl_s, nI_1, g1]
      · rcases g4 with ⟨q1, q2⟩ | q
        · rcases a4 with ⟨q3, q4⟩ | q4
          · refine Or.inl ⟨fun s' b1 b2 => ?_, by rw [q2, q4]⟩
            by_cases e : s' = s
            · rw [e]; exact q3
            · have := q1 s' (by omega) b2
              rw [a3 s', if_neg e] at this
              exact this
          · exact Or.inr (by rw [q2, q4])
        · exact Or.inr q
