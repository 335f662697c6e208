/-! ===== pure: buying, what is to be found ===== -/
theorem or_bit_iff {S t u : Nat} : bit (S ||| 2 ^ t) u ↔ bit S u ∨ u = t := by
  rw [bit_tb, bit_tb, Nat.testBit_or, Nat.testBit_two_pow, Bool.or_eq_true, decide_eq_true_iff]
  exact ⟨fun h => h.imp id (fun z => z.symm), fun h => h.imp id (fun z => z.symm)⟩
theorem or_gt {S t : Nat} (h : ¬ bit S t) : S < S ||| 2 ^ t := by
  have h1 : S ≤ S ||| 2 ^ t := Nat.left_le_or
  rcases Nat.lt_or_eq_of_le h1 with z | z
  · exact z
  · exfalso
    apply h
    rw [z]
    exact or_bit_iff.mpr (Or.inr rfl)
theorem or_lt2 {S t N : Nat} (hS : S < 2 ^ N) (ht : t < N) : S ||| 2 ^ t < 2 ^ N := Nat.or_lt_two_pow hS (Nat.pow_lt_pow_right (by decide) ht)
theorem all_full {S N : Nat} (hS : S < 2 ^ N) (h : ∀ t, t < N → bit S t) : S = 2 ^ N - 1 := by
  apply Nat.eq_of_testBit_eq
  intro i
  rw [Nat.testBit_two_pow_sub_one]
  by_cases hi : i < N
  · rw [decide_eq_true hi]; exact bit_tb.mp (h i hi)
  · rw [decide_eq_false hi]
    exact Nat.testBit_lt_two_pow (Nat.lt_of_lt_of_le hS (Nat.pow_le_pow_right (by decide) (by omega)))
def wsm (A : Nat → Nat → Nat) (S : Nat) : Nat → Nat
  | 0 => 0
  | t + 1 => wsm A S t + if bit S t then aW A t else 0
def cw (A : Nat → Nat → Nat) (S : Nat) : Nat := wsm A S (aN A)
theorem wsm_le {A : Nat → Nat → Nat} (w : wf A) (S : Nat) : ∀ t, t ≤ aN A → wsm A S t ≤ 99 * t
  | 0, _ => Nat.le_refl _
  | t + 1, h => by
    have h1 := wsm_le w S t (by omega)
    have h2 := w.2.1 t (by omega)
    show wsm A S t + (if bit S t then aW A t else 0) ≤ _
    split <;> omega
theorem cw_le {A : Nat → Nat → Nat} (w : wf A) (S : Nat) : cw A S ≤ 990 := by
  have := wsm_le w S (aN A) (Nat.le_refl _)
  have := w.1
  unfold cw
  omega
theorem cw_0 {A : Nat → Nat → Nat} : cw A 0 = 0 := by
  have : ∀ t, wsm A 0 t = 0 := by
    intro t
    induction t with
    | zero => rfl
    | succ t ih =>
      show wsm A 0 t + (if bit 0 t then aW A t else 0) = 0
      rw [ih, if_neg (bit0 t)]
  exact this _
def dst (A : Nat → Nat → Nat) (a b : Nat) : Nat := ((aL A a : Int) - (aL A b : Int)).natAbs
theorem dst_le {A : Nat → Nat → Nat} (w : wf A) {a b : Nat} (ha : a < aN A) (hb : b < aN A) : dst A a b ≤ 100 := by
  have h1 := w.2.1 a ha
  have h2 := w.2.1 b hb
  unfold dst
  omega
theorem dst_sym {A : Nat → Nat → Nat} (a b : Nat) : dst A a b = dst A b a := by
  unfold dst
  omega
/-- the first of the least -/
def mnr (f : Nat → Nat) (S : Nat) : Nat → Option (Nat × Nat)
  | 0 => none
  | k + 1 => if bit S k then mnr f S k else match mnr f S k with
    | none => some (k, f k)
    | some (t, c) => if f k < c then some (k, f k) else some (t, c)
theorem mnr_cong {f f' : Nat → Nat} {S : Nat} : ∀ k, (∀ t, t < k → ¬ bit S t → f t = f' t) → mnr f S k = mnr f' S k
  | 0, _ => rfl
  | k + 1, h => by
    have ih := mnr_cong (f := f) (f' := f') (S := S) k (fun t ht => h t (by omega))
    unfold mnr
    by_cases e : bit S k
    · rw [if_pos e, if_pos e, ih]
    · rw [if_neg e, if_neg e, ih, h k (by omega) e]
theorem mnr_ok {f : Nat → Nat} {S : Nat} : ∀ k t c, mnr f S k = some (t, c) → t < k ∧ ¬ bit S t ∧ c = f t
  | 0, t, c, h => by cases h
  | k + 1, t, c, h => by
    unfold mnr at h
    by_cases e : bit S k
    · rw [if_pos e] at h
      have := mnr_ok k t c h
      exact ⟨by omega, this.2⟩
    · rw [if_neg e] at h
      cases h2 : mnr f S k with
      | none =>
        rw [h2] at h
        cases h
        exact ⟨by omega, e, rfl⟩
      | some q =>
        obtain ⟨t', c'⟩ := q
        rw [h2] at h
        dsimp only at h
        by_cases e2 : f k < c'
        · rw [if_pos e2] at h
          cases h
          exact ⟨by omega, e, rfl⟩
        · rw [if_neg e2] at h
          cases h
          have := mnr_ok k t c h2
          exact ⟨by omega, this.2⟩
theorem mnr_some {f : Nat → Nat} {S : Nat} : ∀ k t, t < k → ¬ bit S t → mnr f S k ≠ none
  | 0, t, h, _ => by omega
  | k + 1, t, h, hb => by
    unfold mnr
    by_cases e : bit S k
    · rw [if_pos e]
      exact mnr_some k t (by
        have : t ≠ k := fun z => hb (by rw [z]; exact e)
        omega) hb
    · rw [if_neg e]
      cases mnr f S k with
      | none => exact fun z => by cases z
      | some q =>
        dsimp only
        split <;> exact fun z => by cases z
def mnv (o : Option (Nat × Nat)) : Nat := match o with
  | none => 0
  | some q => q.2
def mnt (o : Option (Nat × Nat)) : Nat := match o with
  | none => 0
  | some q => q.1
def bdy (A : Nat → Nat → Nat) (T : Nat → Nat → Nat) (S l : Nat) : Nat := if S = 2 ^ aN A - 1 then cw A S * ((aL A l : Int) - 50).natAbs else mnv (mnr (fun t => cw A S * dst A l t + T (S ||| 2 ^ t) t) S (aN A))
def Tf (A : Nat → Nat → Nat) : Nat → Nat → Nat → Nat
  | 0, _, _ => 0
  | d + 1, S, l => bdy A (Tf A d) S l
def TT (A : Nat → Nat → Nat) (S l : Nat) : Nat := Tf A (2 ^ aN A - S) S l
theorem bdy_cong {A : Nat → Nat → Nat} {T T' : Nat → Nat → Nat} {S l : Nat} (h : ∀ t, t < aN A → ¬ bit S t → T (S ||| 2 ^ t) t = T' (S ||| 2 ^ t) t) : bdy A T S l = bdy A T' S l := by
  unfold bdy
  rw [mnr_cong (f := fun t => cw A S * dst A l t + T (S ||| 2 ^ t) t) (f' := fun t => cw A S * dst A l t + T' (S ||| 2 ^ t) t) (aN A) (fun t ht hb => by
    rw [h t ht hb])]
theorem Tf_st {A : Nat → Nat → Nat} : ∀ (b S l d d' : Nat), S < 2 ^ aN A → 2 ^ aN A - S ≤ b → 2 ^ aN A - S ≤ d → 2 ^ aN A - S ≤ d' → Tf A d S l = Tf A d' S l
  | 0, S, l, d, d', hS, hb, h1, h2 => by omega
  | b + 1, S, l, d, d', hS, hb, h1, h2 => by
    obtain ⟨d, rfl⟩ : ∃ e, d = e + 1 := ⟨d - 1, by omega⟩
    obtain ⟨d', rfl⟩ : ∃ e, d' = e + 1 := ⟨d' - 1, by omega⟩
    show bdy A (Tf A d) S l = bdy A (Tf A d') S l
    refine bdy_cong (fun t ht hbt => ?_)
    have g := or_gt hbt
    have g2 := or_lt2 hS ht
    exact Tf_st b _ t d d' g2 (by omega) (by omega) (by omega)
theorem TT_eq {A : Nat → Nat → Nat} {S l : Nat} (hS : S < 2 ^ aN A) : TT A S l = bdy A (TT A) S l := by
  unfold TT
  obtain ⟨d, hd⟩ : ∃ d, 2 ^ aN A - S = d + 1 := ⟨2 ^ aN A - S - 1, by omega⟩
  rw [hd]
  show bdy A (Tf A d) S l = bdy A _ S l
  refine bdy_cong (fun t ht hbt => ?_)
  have g := or_gt hbt
  have g2 := or_lt2 hS ht
  exact Tf_st (2 ^ aN A) _ t d _ g2 (by omega) (by omega) (by omega)
theorem TT_le {A : Nat → Nat → Nat} (w : wf A) : ∀ (b S l : Nat), S < 2 ^ aN A → 2 ^ aN A - S ≤ b → l < aN A → TT A S l ≤ 99000 * (2 ^ aN A - S)
  | 0, S, l, hS, hb, hl => by omega
  | b + 1, S, l, hS, hb, hl => by
    have wl := w.2.1 l hl
    have hc := cw_le w S
    rw [TT_eq hS]
    unfold bdy
    by_cases e : S = 2 ^ aN A - 1
    · rw [if_pos e]
      have h1 : ((aL A l : Int) - 50).natAbs ≤ 50 := by omega
      have h2 : cw A S * ((aL A l : Int) - 50).natAbs ≤ 990 * 50 := Nat.mul_le_mul hc h1
      omega
    · rw [if_neg e]
      cases hm : mnr (fun t => cw A S * dst A l t + TT A (S ||| 2 ^ t) t) S (aN A) with
      | none => exact Nat.zero_le _
      | some q =>
        obtain ⟨t, c⟩ := q
        obtain ⟨m1, m2, m3⟩ := mnr_ok _ _ _ hm
        show c ≤ _
        rw [m3]
        have g := or_gt m2
        have g2 := or_lt2 hS m1
        have ih := TT_le w b (S ||| 2 ^ t) t g2 (by omega) m1
        have h2 : cw A S * dst A l t ≤ 990 * 100 := Nat.mul_le_mul hc (dst_le w hl m1)
        omega
theorem TT_b {A : Nat → Nat → Nat} (w : wf A) {S l : Nat} (hS : S < 2 ^ aN A) (hl : l < aN A) : TT A S l ≤ 101376000 := by
  have h := TT_le w (2 ^ aN A) S l hS (by omega) hl
  have := pw10 w
  omega
/-- the cost by t, from where one stands -/
def fc (A : Nat → Nat → Nat) (S : Nat) (lo : Option Nat) (t : Nat) : Nat := (match lo with
  | none => 0
  | some l => cw A S * dst A l t) + TT A (S ||| 2 ^ t) t
theorem fc_b {A : Nat → Nat → Nat} (w : wf A) {S t : Nat} {lo : Option Nat} (hS : S < 2 ^ aN A) (ht : t < aN A) (hl : ∀ l, lo = some l → l < aN A) : fc A S lo t ≤ 101475000 := by
  have h1 := TT_b w (or_lt2 hS ht) ht
  have hc := cw_le w S
  unfold fc
  cases lo with
  | none => dsimp only; omega
  | some l =>
    have h2 : cw A S * dst A l t ≤ 990 * 100 := Nat.mul_le_mul hc (dst_le w (hl l rfl) ht)
    dsimp only
    omega
/-- what has been bought after k, and where one stands -/
def gs (A : Nat → Nat → Nat) : Nat → Nat × Option Nat
  | 0 => (0, none)
  | k + 1 => ((gs A k).1 ||| 2 ^ mnt (mnr (fc A (gs A k).1 (gs A k).2) (gs A k).1 (aN A)), some (mnt (mnr (fc A (gs A k).1 (gs A k).2) (gs A k).1 (aN A))))
def nxt (A : Nat → Nat → Nat) (k : Nat) : Nat := mnt (mnr (fc A (gs A k).1 (gs A k).2) (gs A k).1 (aN A))
def lstA (A : Nat → Nat → Nat) : Nat := if aN A = 0 then 0 else mnv (mnr (fc A 0 none) 0 (aN A))
def cnt (S : Nat) : Nat → Nat
  | 0 => 0
  | k + 1 => cnt S k + if bit S k then 1 else 0
theorem cnt_all {S : Nat} : ∀ k, (∀ t, t < k → bit S t) → cnt S k = k
  | 0, _ => rfl
  | k + 1, h => by
    show cnt S k + (if bit S k then 1 else 0) = k + 1
    rw [cnt_all k (fun t ht => h t (by omega)), if_pos (h k (by omega))]
theorem cnt_or {S t : Nat} (hb : ¬ bit S t) : ∀ k, cnt (S ||| 2 ^ t) k = cnt S k + if t < k then 1 else 0
  | 0 => by rw [if_neg (by omega)]; rfl
  | k + 1 => by
    have ih := cnt_or hb k
    show cnt (S ||| 2 ^ t) k + (if bit (S ||| 2 ^ t) k then 1 else 0) = cnt S k + (if bit S k then 1 else 0) + _
    rw [ih]
    by_cases e : k = t
    · subst e
      rw [if_neg (by omega), if_pos (or_bit_iff.mpr (Or.inr rfl)), if_neg hb, if_pos (by omega)]
    · by_cases e2 : bit S k
      · rw [if_pos (or_bit_iff.mpr (Or.inl e2)), if_pos e2]
        by_cases e3 : t < k
        · rw [if_pos e3, if_pos (by omega)]
        · rw [if_neg e3, if_neg (by omega)]
      · rw [if_neg (show ¬ bit (S ||| 2 ^ t) k from fun z => (or_bit_iff.mp z).elim e2 e), if_neg e2]
        by_cases e3 : t < k
        · rw [if_pos e3, if_pos (by omega)]
        · rw [if_neg e3, if_neg (by omega)]
theorem cnt_0 : ∀ k, cnt 0 k = 0
  | 0 => rfl
  | k + 1 => by
    show cnt 0 k + (if bit 0 k then 1 else 0) = 0
    rw [cnt_0 k, if_neg (bit0 k)]
theorem free_ex {S N : Nat} (h : cnt S N < N) : ∃ t, t < N ∧ ¬ bit S t := by
  apply Classical.byContradiction
  intro hn
  have : ∀ t, t < N → bit S t := fun t ht => Classical.byContradiction (fun z => hn ⟨t, ht, z⟩)
  have := cnt_all N this
  omega
theorem gs_ok {A : Nat → Nat → Nat} : ∀ k, k ≤ aN A → (gs A k).1 < 2 ^ aN A ∧ cnt (gs A k).1 (aN A) = k ∧ (∀ l, (gs A k).2 = some l → l < aN A) ∧ (k < aN A → ∃ c, mnr (fc A (gs A k).1 (gs A k).2) (gs A k).1 (aN A) = some (nxt A k, c) ∧ nxt A k < aN A ∧ ¬ bit (gs A k).1 (nxt A k) ∧ c = fc A (gs A k).1 (gs A k).2 (nxt A k)) := by
  have next : ∀ k, cnt (gs A k).1 (aN A) = k → k < aN A → ∃ c, mnr (fc A (gs A k).1 (gs A k).2) (gs A k).1 (aN A) = some (nxt A k, c) ∧ nxt A k < aN A ∧ ¬ bit (gs A k).1 (nxt A k) ∧ c = fc A (gs A k).1 (gs A k).2 (nxt A k) := by
    intro k hc hk
    obtain ⟨t, ht, hb⟩ := free_ex (S := (gs A k).1) (N := aN A) (by omega)
    have hs := mnr_some (f := fc A (gs A k).1 (gs A k).2) (S := (gs A k).1) (aN A) t ht hb
    unfold nxt
    cases hm : mnr (fc A (gs A k).1 (gs A k).2) (gs A k).1 (aN A) with
    | none => exact absurd hm hs
    | some q =>
      obtain ⟨t', c'⟩ := q
      have := mnr_ok _ _ _ hm
      exact ⟨c', rfl, this.1, this.2.1, this.2.2⟩
  intro k
  induction k with
  | zero =>
    intro _
    exact ⟨Nat.two_pow_pos _, cnt_0 _, fun l h => (by cases h), next 0 (cnt_0 _)⟩
  | succ k ih =>
    intro hk
    obtain ⟨i1, i2, i3, i4⟩ := ih (by omega)
    obtain ⟨c, j1, j2, j3, j4⟩ := i4 (by omega)
    have e1 : (gs A (k + 1)).1 = (gs A k).1 ||| 2 ^ nxt A k := rfl
    have e2 : (gs A (k + 1)).2 = some (nxt A k) := rfl
    have hc : cnt (gs A (k + 1)).1 (aN A) = k + 1 := by rw [e1, cnt_or j3, if_pos j2, i2]
    exact ⟨by rw [e1]; exact or_lt2 i1 j2, hc, fun l h => (by rw [e2] at h; cases h; exact j2), next (k + 1) hc⟩
