/-! ===== pure: all rows, one after another ===== -/
def rup (p : Nat → Nat) (t b : Nat) : Nat → Nat := fun u => if u = t then b else p u
def rfil (N t v : Nat) (p : Nat → Nat) : Nat → Nat := fun u => if t ≤ u ∧ u < N then v else p u
def en {S : Type} (g : (Nat → Nat) → S → S) (bs : List Nat) : Nat → Nat → (Nat → Nat) → S → S
  | 0, _, p, acc => g p acc
  | d + 1, t, p, acc => bs.foldl (fun a b => en g bs d (t + 1) (rup p t b) a) acc
theorem en_id {S : Type} {g : (Nat → Nat) → S → S} {bs : List Nat} {acc : S} : ∀ (d t : Nat) (p : Nat → Nat), (∀ q : Nat → Nat, (∀ u, u < t → q u = p u) → (∀ u, t ≤ u → u < t + d → q u ∈ bs) → g q acc = acc) → en g bs d t p acc = acc
  | 0, t, p, h => h p (fun _ _ => rfl) (fun u h1 h2 => by omega)
  | d + 1, t, p, h => by
    have key : ∀ b ∈ bs, en g bs d (t + 1) (rup p t b) acc = acc := by
      intro b hb
      refine en_id d (t + 1) (rup p t b) (fun q h1 h2 => h q (fun u hu => ?_) (fun u h3 h4 => ?_))
      · rw [h1 u (by omega)]; unfold rup; rw [if_neg (by omega)]
      · by_cases e : u = t
        · rw [h1 u (by omega)]; unfold rup; rw [if_pos e]; exact hb
        · exact h2 u (by omega) (by omega)
    unfold en
    have fold : ∀ l : List Nat, (∀ b ∈ l, b ∈ bs) → l.foldl (fun a b => en g bs d (t + 1) (rup p t b) a) acc = acc := by
      intro l
      induction l with
      | nil => intro _; rfl
      | cons b l ih =>
        intro hl
        rw [List.foldl_cons, key b (hl b List.mem_cons_self)]
        exact ih (fun c hc => hl c (List.mem_cons_of_mem _ hc))
    exact fold bs (fun _ h => h)
theorem rup_fil {N t b : Nat} (p : Nat → Nat) (ht : t < N) : rfil N (t + 1) b (rup p t b) = rfil N t b p := by
  funext u
  unfold rfil rup
  by_cases h : u = t
  · subst h; simp [ht]
  · by_cases h2 : t + 1 ≤ u ∧ u < N
    · rw [if_pos h2, if_pos ⟨by omega, h2.2⟩]
    · rw [if_neg h2, if_neg h, if_neg (by omega)]
theorem rfil_id {N t v : Nat} {p : Nat → Nat} (h : ∀ u, t ≤ u → u < N → p u = v) : rfil N t v p = p := by
  funext u
  unfold rfil
  by_cases h2 : t ≤ u ∧ u < N
  · rw [if_pos h2, h u h2.1 h2.2]
  · rw [if_neg h2]
/-- the model's way through all rows: L at the loop's head, Tn where the row is turned on -/
theorem blk3 {S X β : Type} {N : Nat} {g : (Nat → Nat) → S → S} {R : (Nat → Nat) → S → X → Prop} {L Tn : Nat → X → Option β}
    (hstep : ∀ m p acc x, R p acc x → ∃ x', L (m + 1) x = Tn m x' ∧ R p (g p acc) x')
    (hturn : ∀ m p acc x t, R p acc x → t < N → p t < 2 → (∀ u, t < u → u < N → p u = 2) → ∃ x', Tn m x = L m x' ∧ R (rfil N (t + 1) 0 (rup p t (p t + 1))) acc x') :
    ∀ (d t : Nat), t + d = N → ∀ (p : Nat → Nat) (acc : S) (x : X) (m : Nat), R p acc x → (∀ u, t ≤ u → u < N → p u = 0) → ∃ x', L (m + 3 ^ d) x = Tn m x' ∧ R (rfil N t 2 p) (en g [0, 1, 2] d t p acc) x' := by
  intro d
  induction d with
  | zero =>
    intro t ht p acc x m hR hz
    obtain ⟨x', h1, h2⟩ := hstep m p acc x hR
    refine ⟨x', h1, ?_⟩
    rw [show rfil N t 2 p = p from rfil_id (fun u h3 h4 => by omega)]
    exact h2
  | succ d ih =>
    intro t ht p acc x m hR hz
    have htN : t < N := by omega
    have e0 : rup p t 0 = p := by
      funext u; unfold rup
      by_cases h : u = t
      · rw [if_pos h, h, hz t (Nat.le_refl _) htN]
      · rw [if_neg h]
    have zs : ∀ b u, t + 1 ≤ u → u < N → rup p t b u = 0 := fun b u h1 h2 => by
      unfold rup; rw [if_neg (by omega)]; exact hz u (by omega) h2
    have go : ∀ (b : Nat) (acc : S) (x : X) (m : Nat), b < 2 → R (rfil N (t + 1) 2 (rup p t b)) acc x → ∃ x', Tn m x = L m x' ∧ R (rup p t (b + 1)) acc x' := by
      intro b acc x m hb hR
      have v1 : rfil N (t + 1) 2 (rup p t b) t = b := by unfold rfil rup; rw [if_neg (by omega), if_pos rfl]
      obtain ⟨x', h1, h2⟩ := hturn m _ acc x t hR htN (by rw [v1]; exact hb) (fun u h3 h4 => by unfold rfil; rw [if_pos ⟨by omega, h4⟩])
      refine ⟨x', h1, ?_⟩
      have : rfil N (t + 1) 0 (rup (rfil N (t + 1) 2 (rup p t b)) t (rfil N (t + 1) 2 (rup p t b) t + 1)) = rup p t (b + 1) := by
        rw [v1]
        funext u
        unfold rfil rup
        by_cases h : u = t
        · rw [if_neg (by omega), if_pos h, if_pos h]
        · by_cases h5 : t + 1 ≤ u ∧ u < N
          · rw [if_pos h5, if_neg h, hz u (by omega) h5.2]
          · simp only [h5, h, if_false]
      rw [this] at h2
      exact h2
    have hp : 3 ^ (d + 1) = 3 ^ d + 3 ^ d + 3 ^ d := by rw [Nat.pow_succ]; omega
    obtain ⟨x1, a1, a2⟩ := ih (t + 1) (by omega) (rup p t 0) acc x (m + 3 ^ d + 3 ^ d) (by rw [e0]; exact hR) (zs 0)
    obtain ⟨x2, b1, b2⟩ := go 0 _ x1 (m + 3 ^ d + 3 ^ d) (by decide) a2
    obtain ⟨x3, c1, c2⟩ := ih (t + 1) (by omega) (rup p t 1) _ x2 (m + 3 ^ d) b2 (zs 1)
    obtain ⟨x4, d1, d2⟩ := go 1 _ x3 (m + 3 ^ d) (by decide) c2
    obtain ⟨x5, f1, f2⟩ := ih (t + 1) (by omega) (rup p t 2) _ x4 m d2 (zs 2)
    refine ⟨x5, ?_, ?_⟩
    · rw [hp, show m + (3 ^ d + 3 ^ d + 3 ^ d) = m + 3 ^ d + 3 ^ d + 3 ^ d by omega, a1, b1, c1, d1, f1]
    · rw [← rup_fil p htN]
      unfold en
      simp only [List.foldl]
      exact f2
theorem blk2 {S X β : Type} {N : Nat} {g : (Nat → Nat) → S → S} {R : (Nat → Nat) → S → X → Prop} {L Tn : Nat → X → Option β}
    (hstep : ∀ m p acc x, R p acc x → ∃ x', L (m + 1) x = Tn m x' ∧ R p (g p acc) x')
    (hturn : ∀ m p acc x t, R p acc x → t < N → p t < 1 → (∀ u, t < u → u < N → p u = 1) → ∃ x', Tn m x = L m x' ∧ R (rfil N (t + 1) 0 (rup p t (p t + 1))) acc x') :
    ∀ (d t : Nat), t + d = N → ∀ (p : Nat → Nat) (acc : S) (x : X) (m : Nat), R p acc x → (∀ u, t ≤ u → u < N → p u = 0) → ∃ x', L (m + 2 ^ d) x = Tn m x' ∧ R (rfil N t 1 p) (en g [0, 1] d t p acc) x' := by
  intro d
  induction d with
  | zero =>
    intro t ht p acc x m hR hz
    obtain ⟨x', h1, h2⟩ := hstep m p acc x hR
    refine ⟨x', h1, ?_⟩
    rw [show rfil N t 1 p = p from rfil_id (fun u h3 h4 => by omega)]
    exact h2
  | succ d ih =>
    intro t ht p acc x m hR hz
    have htN : t < N := by omega
    have e0 : rup p t 0 = p := by
      funext u; unfold rup
      by_cases h : u = t
      · rw [if_pos h, h, hz t (Nat.le_refl _) htN]
      · rw [if_neg h]
    have zs : ∀ b u, t + 1 ≤ u → u < N → rup p t b u = 0 := fun b u h1 h2 => by
      unfold rup; rw [if_neg (by omega)]; exact hz u (by omega) h2
    have go : ∀ (acc : S) (x : X) (m : Nat), R (rfil N (t + 1) 1 (rup p t 0)) acc x → ∃ x', Tn m x = L m x' ∧ R (rup p t 1) acc x' := by
      intro acc x m hR
      have v1 : rfil N (t + 1) 1 (rup p t 0) t = 0 := by unfold rfil rup; rw [if_neg (by omega), if_pos rfl]
      obtain ⟨x', h1, h2⟩ := hturn m _ acc x t hR htN (by rw [v1]; decide) (fun u h3 h4 => by unfold rfil; rw [if_pos ⟨by omega, h4⟩])
      refine ⟨x', h1, ?_⟩
      have : rfil N (t + 1) 0 (rup (rfil N (t + 1) 1 (rup p t 0)) t (rfil N (t + 1) 1 (rup p t 0) t + 1)) = rup p t 1 := by
        rw [v1]
        funext u
        unfold rfil rup
        by_cases h : u = t
        · rw [if_neg (by omega), if_pos h, if_pos h]
        · by_cases h5 : t + 1 ≤ u ∧ u < N
          · rw [if_pos h5, if_neg h, hz u (by omega) h5.2]
          · simp only [h5, h, if_false]
      rw [this] at h2
      exact h2
    have hp : 2 ^ (d + 1) = 2 ^ d + 2 ^ d := by rw [Nat.pow_succ]; omega
    obtain ⟨x1, a1, a2⟩ := ih (t + 1) (by omega) (rup p t 0) acc x (m + 2 ^ d) (by rw [e0]; exact hR) (zs 0)
    obtain ⟨x2, b1, b2⟩ := go _ x1 (m + 2 ^ d) a2
    obtain ⟨x5, f1, f2⟩ := ih (t + 1) (by omega) (rup p t 1) _ x2 m b2 (zs 1)
    refine ⟨x5, ?_, ?_⟩
    · rw [hp, show m + (2 ^ d + 2 ^ d) = m + 2 ^ d + 2 ^ d by omega, a1, b1, f1]
    · rw [← rup_fil p htN]
      unfold en
      simp only [List.foldl]
      exact f2
