/-! ===== pure: bits, evenest ===== -/
theorem b_sh : ∀ t, t < 31 → ((nI t &&& 31).toBitVec.smod 32).toNat = t := by decide +kernel
theorem bit_at {k t : Nat} (hk : k < 2 ^ 31) (ht : t < 31) : ((nI k >>> (nI t &&& 31)) &&& 1) = nI (k / 2 ^ t % 2) := by
  rw [pk_shrN hk _ t (b_sh t ht)]
  have h : k / 2 ^ t ≤ k := Nat.div_le_self _ _
  exact pk_andN (n := k / 2 ^ t) (by omega) (m := 1) 1 (by decide)
theorem b_shl : ∀ t, t < 31 → ((1 : Int32) <<< (nI t &&& 31)) = nI (2 ^ t) := by decide +kernel
def fld {S : Type} (f : Nat → S → S) : Nat → S → S
  | 0, a => a
  | k + 1, a => f k (fld f k a)
theorem fld_add {S : Type} (f : Nat → S → S) (n : Nat) (a : S) : ∀ m, fld f (n + m) a = fld (fun k => f (n + k)) m (fld f n a)
  | 0 => rfl
  | m + 1 => by
    show f (n + m) (fld f (n + m) a) = f (n + m) (fld (fun k => f (n + k)) m (fld f n a))
    rw [fld_add f n a m]
theorem fld_cong {S : Type} {f f' : Nat → S → S} (a : S) : ∀ m, (∀ k, k < m → f k = f' k) → fld f m a = fld f' m a
  | 0, _ => rfl
  | m + 1, h => by
    show f m (fld f m a) = f' m (fld f' m a)
    rw [h m (by omega), fld_cong a m (fun k hk => h k (by omega))]
def rk (t d : Nat) (p : Nat → Nat) (k : Nat) : Nat → Nat := fun u => if t ≤ u ∧ u < t + d then k / 2 ^ (t + d - 1 - u) % 2 else p u
theorem rk_lo {t d : Nat} {p : Nat → Nat} {k : Nat} (hk : k < 2 ^ d) : rk t (d + 1) p k = rk (t + 1) d (rup p t 0) k := by
  funext u
  unfold rk rup
  by_cases h1 : u = t
  · rw [if_pos (by omega), if_neg (by omega), if_pos h1, show t + (d + 1) - 1 - u = d by omega, Nat.div_eq_of_lt hk]
  · by_cases h2 : t + 1 ≤ u ∧ u < t + 1 + d
    · rw [if_pos (by omega), if_pos h2, show t + (d + 1) - 1 - u = t + 1 + d - 1 - u by omega]
    · rw [if_neg (by omega), if_neg h2, if_neg h1]
theorem rk_hi {t d : Nat} {p : Nat → Nat} {k : Nat} (hk : k < 2 ^ d) : rk t (d + 1) p (2 ^ d + k) = rk (t + 1) d (rup p t 1) k := by
  funext u
  unfold rk rup
  by_cases h1 : u = t
  · rw [if_pos (by omega), if_neg (by omega), if_pos h1, show t + (d + 1) - 1 - u = d by omega, Nat.add_div_left k (Nat.two_pow_pos d), Nat.div_eq_of_lt hk]
  · by_cases h2 : t + 1 ≤ u ∧ u < t + 1 + d
    · rw [if_pos (by omega), if_pos h2, show t + (d + 1) - 1 - u = t + 1 + d - 1 - u by omega]
      obtain ⟨e, he⟩ : ∃ e, t + 1 + d - 1 - u = e := ⟨_, rfl⟩
      obtain ⟨f, hf⟩ : ∃ f, d = e + (f + 1) := ⟨d - e - 1, by omega⟩
      rw [he, hf, Nat.pow_add, Nat.mul_add_div (Nat.two_pow_pos e), Nat.pow_succ, Nat.mul_comm _ 2, Nat.mul_add_mod]
    · rw [if_neg (by omega), if_neg h2, if_neg h1]
theorem en_fld {S : Type} {g : (Nat → Nat) → S → S} : ∀ (d t : Nat) (p : Nat → Nat) (acc : S), en g [0, 1] d t p acc = fld (fun k => g (rk t d p k)) (2 ^ d) acc
  | 0, t, p, acc => by
    show g p acc = g (rk t 0 p 0) acc
    have : rk t 0 p 0 = p := by funext u; unfold rk; rw [if_neg (by omega)]
    rw [this]
  | d + 1, t, p, acc => by
    have e : 2 ^ (d + 1) = 2 ^ d + 2 ^ d := by rw [Nat.pow_succ]; omega
    unfold en
    simp only [List.foldl]
    rw [en_fld d (t + 1) (rup p t 0) acc, en_fld d (t + 1) (rup p t 1), e, fld_add]
    rw [fld_cong (f := fun k => g (rk t (d + 1) p k)) (f' := fun k => g (rk (t + 1) d (rup p t 0) k)) acc (2 ^ d) (fun k hk => by rw [rk_lo hk])]
    exact (fld_cong _ (2 ^ d) (fun k hk => by rw [rk_hi hk])).symm
def rb (N k : Nat) : Nat → Nat := rk 0 N (fun _ => 0) k
theorem rb_at {N k t : Nat} (ht : t < N) : rb N k t = k / 2 ^ (N - 1 - t) % 2 := by
  unfold rb rk
  rw [if_pos ⟨by omega, by omega⟩, show 0 + N - 1 - t = N - 1 - t by omega]
theorem rb_lt {N k : Nat} (t : Nat) : rb N k t < 2 := by
  unfold rb rk
  by_cases h : 0 ≤ t ∧ t < 0 + N
  · rw [if_pos h]; exact Nat.mod_lt _ (by decide)
  · rw [if_neg h]; exact Nat.zero_lt_two
def oA (A : Nat → Nat → Nat) (s : Nat) (p : Nat → Nat) : Nat := (off A p s).natAbs
def gev (A : Nat → Nat → Nat) (s : Nat) (p : Nat → Nat) (acc : Option (Nat × (Nat → Nat))) : Option (Nat × (Nat → Nat)) := match acc with
  | none => some (oA A s p, p)
  | some (v, q) => if oA A s p < v then some (oA A s p, p) else some (v, q)
def evB (A : Nat → Nat → Nat) (s : Nat) : Option (Nat × (Nat → Nat)) := fld (fun k => gev A s (rb (aN A) k)) (2 ^ aN A) none
theorem pw10 {A : Nat → Nat → Nat} (w : wf A) : 2 ^ aN A ≤ 1024 := Nat.le_trans (Nat.pow_le_pow_right (by decide) w.1) (by decide : 2 ^ 10 ≤ 1024)
theorem x_inRight {A : Nat → Nat → Nat} {σ : eb_S} (hs : ShM9 σ) (hX : MX9 A σ) (w : wf A) {k t : Nat} (hk : k < 2 ^ 31) (ht : t < aN A) : f_X3_isInRight 9 (nI k) (nI t) σ = some (decide (rb (aN A) k t = 1), σ) := by
  have wN := w.1
  have xN := hX.1
  have e1 : nI (aN A) - 1 - nI t = nI (aN A - 1 - t) := by
    rw [show (1 : Int32) = nI 1 from rfl, pk_sub (show 1 ≤ aN A by omega), pk_sub (show t ≤ aN A - 1 by omega)]
  have e2 := bit_at (k := k) (t := aN A - 1 - t) hk (by omega)
  rw [← rb_at (k := k) ht] at e2
  have r2 := rb_lt (N := aN A) (k := k) t
  have e3 : (nI (rb (aN A) k t) = 1) = (rb (aN A) k t = 1) := p_eqN (b := 1) (by omega) (by decide)
  unfold ShM9 at hs
  unfold f_X3_isInRight
  simp only [eb_gI, hs, List.mem_singleton, if_true, xN, e1, e2, e3]
  by_cases h : rb (aN A) k t = 1
  · rw [if_pos h, decide_eq_true h]
  · rw [if_neg h, decide_eq_false h]
set_option maxHeartbeats 4000000 in
theorem x_split_L {A : Nat → Nat → Nat} {σ : eb_S} (hs : ShM9 σ) (hX : MX9 A σ) (w : wf A) {k s n : Nat} (hk : k < 2 ^ 31) (h5 : s < 5) {K : Int32 → Int32 → eb_S → Option (Int32 × eb_S)} : ∀ (m t : Nat), t ≤ aN A → aN A < t + m → f_X3_splitOff_L8 n 9 (nI k) (nI s) K m (nI (ldB A (rb (aN A) k) 0 s t)) (nI (ldB A (rb (aN A) k) 1 s t)) (nI t) σ = K (nI (ldB A (rb (aN A) k) 0 s (aN A))) (nI (ldB A (rb (aN A) k) 1 s (aN A))) σ := by
  intro m
  induction m with
  | zero => intro t h1 h2; omega
  | succ m ih =>
    intro t h1 h2
    have wN := w.1
    have xN := hX.1
    have hsu := hs
    unfold ShM9 at hsu
    rw [f_X3_splitOff_L8.eq_2]
    by_cases h : aN A ≤ t
    · have e : t = aN A := by omega
      subst e
      have le : nI (aN A) ≤ nI (aN A) := by rw [p_leN (by omega) (by omega)]; exact Nat.le_refl _
      simp [eb_gI, hsu, xN, le]
    · have nle : ¬ nI (aN A) ≤ nI t := by rw [p_leN (by omega) (by omega)]; omega
      have ht : t < aN A := by omega
      have ir := x_inRight hs hX w hk ht
      have tl := x_thingLoad hs hX w ht h5
      have r2 := rb_lt (N := aN A) (k := k) t
      have ih' := ih (t + 1) (by omega) (by omega)
      simp only [ldB] at ih'
      simp only [eb_gI, eb_tg, eb_jn_e, hsu, xN, nle, List.mem_singleton, if_true, if_false, ir, eb_cl_s, eb_b0, decide_eq_false_iff_not, tl, nI_add, nI_1]
      by_cases e : rb (aN A) k t = 1
      · rw [if_neg (show ¬ rb (aN A) k t = 0 by omega), if_pos e] at ih'
        rw [if_neg (fun z => z e)]
        exact ih'
      · rw [if_pos (show rb (aN A) k t = 0 by omega), if_neg e] at ih'
        rw [if_pos e]
        exact ih'
theorem x_splitOff {A : Nat → Nat → Nat} {σ : eb_S} (hs : ShM9 σ) (hX : MX9 A σ) (w : wf A) {k s n : Nat} (hk : k < 2 ^ 31) (h5 : s < 5) (hn : 100 ≤ n) : f_X3_splitOff n 9 (nI k) (nI s) σ = some (iI (off A (rb (aN A) k) s), σ) := by
  have wN := w.1
  have g := fun K => x_split_L hs hX w (k := k) (s := s) (n := n) hk h5 (K := K) n 0 (by omega) (by omega)
  have z0 : nI (ldB A (rb (aN A) k) 0 s 0) = 0 := nI_0
  have z1 : nI (ldB A (rb (aN A) k) 1 s 0) = 0 := nI_0
  simp only [z0, z1, nI_0] at g
  unfold f_X3_splitOff
  rw [g]
  have hsu := hs
  unfold ShM9 at hsu
  simp only [eb_tg, hsu, if_true, x_offBetween hs hX, eb_cl_s, pk_mul]
  unfold off
  rw [← iI_sub, ← nI_iI, ← nI_iI]
theorem fld_stay {A : Nat → Nat → Nat} {s k : Nat} {q : Nat → Nat} (h : fld (fun k => gev A s (rb (aN A) k)) k none = some (0, q)) : ∀ d, fld (fun k => gev A s (rb (aN A) k)) (k + d) none = some (0, q)
  | 0 => h
  | d + 1 => by
    show gev A s (rb (aN A) (k + d)) (fld (fun k => gev A s (rb (aN A) k)) (k + d) none) = _
    rw [fld_stay h d]
    show (if oA A s (rb (aN A) (k + d)) < 0 then some (oA A s (rb (aN A) (k + d)), rb (aN A) (k + d)) else some (0, q)) = _
    rw [if_neg (by omega)]
set_option maxHeartbeats 4000000 in
theorem x_ev_L {A : Nat → Nat → Nat} {σ : eb_S} (hs : ShM9 σ) (hX : MX9 A σ) (w : wf A) {s n : Nat} (h5 : s < 5) (hn : 100 ≤ n) : ∀ (m k k0 : Nat), k ≤ 2 ^ aN A → 2 ^ aN A < k + m → k0 < 2 ^ aN A → fld (fun k => gev A s (rb (aN A) k)) k none = some (oA A s (rb (aN A) k0), rb (aN A) k0) → ∃ k1, k1 < 2 ^ aN A ∧ f_X3_evenestSplit_L15 n 9 (nI s) m (nI k0) (nI (oA A s (rb (aN A) k0))) (nI k) σ = some (nI k1, σ) ∧ evB A s = some (oA A s (rb (aN A) k1), rb (aN A) k1) := by
  intro m
  induction m with
  | zero => intro k k0 h1 h2; omega
  | succ m ih =>
    intro k k0 h1 h2 h3 hf
    have wN := w.1
    have xN := hX.1
    have hp := pw10 w
    have hsu := hs
    unfold ShM9 at hsu
    have sh := b_shl (aN A) (by omega)
    have ob : ∀ p, oA A s p ≤ 8910 := fun p => off_abs w p s
    have o0 := ob (rb (aN A) k0)
    rw [f_X3_evenestSplit_L15.eq_2]
    simp only [eb_gI, eb_tg, eb_jn_e, hsu, xN, List.mem_singleton, if_true, sh, p_leN (show 2 ^ aN A < 2 ^ 31 by omega) (show k < 2 ^ 31 by omega)]
    by_cases h : 2 ^ aN A ≤ k
    · have e : k = 2 ^ aN A := by omega
      subst e
      rw [if_pos h]
      exact ⟨k0, h3, rfl, hf⟩
    · rw [if_neg h]
      have z0 : (nI (oA A s (rb (aN A) k0)) ≤ 0) = (oA A s (rb (aN A) k0) ≤ 0) := p_leN (b := 0) (by omega) (by decide)
      simp only [z0]
      by_cases hz : oA A s (rb (aN A) k0) ≤ 0
      · rw [if_pos hz]
        refine ⟨k0, h3, rfl, ?_⟩
        have hz : oA A s (rb (aN A) k0) = 0 := by omega
        rw [hz] at hf ⊢
        have := fld_stay hf (2 ^ aN A - k)
        rw [show k + (2 ^ aN A - k) = 2 ^ aN A by omega] at this
        exact this
      · rw [if_neg hz]
        have so := x_splitOff hs hX w (k := k) (s := s) (n := n) (by omega) h5 hn
        have bdk := off_bd w (rb (aN A) k) s
        have ab := p_abs (z := off A (rb (aN A) k) s) (by omega) (by omega)
        have o1 := ob (rb (aN A) k)
        have cm : (nI (oA A s (rb (aN A) k0)) ≤ nI (oA A s (rb (aN A) k))) = (oA A s (rb (aN A) k0) ≤ oA A s (rb (aN A) k)) := p_leN (by omega) (by omega)
        have ab' : (if (0 : Int32) ≤ iI (off A (rb (aN A) k) s) then iI (off A (rb (aN A) k) s) else 0 - iI (off A (rb (aN A) k) s)) = nI (oA A s (rb (aN A) k)) := ab
        simp only [so, eb_cl_s, ab', cm, nI_1]
        by_cases hc : oA A s (rb (aN A) k0) ≤ oA A s (rb (aN A) k)
        · rw [if_pos hc]
          refine ih (k + 1) k0 (by omega) (by omega) h3 ?_
          show gev A s (rb (aN A) k) (fld (fun k => gev A s (rb (aN A) k)) k none) = _
          rw [hf]
          show ite _ _ _ = _
          rw [if_neg (by omega)]
        · rw [if_neg hc]
          refine ih (k + 1) k (by omega) (by omega) (by omega) ?_
          show gev A s (rb (aN A) k) (fld (fun k => gev A s (rb (aN A) k)) k none) = _
          rw [hf]
          show ite _ _ _ = _
          rw [if_pos (by omega)]
theorem x_evSplit {A : Nat → Nat → Nat} {σ : eb_S} (hs : ShM9 σ) (hX : MX9 A σ) (w : wf A) {s n : Nat} (h5 : s < 5) (hn : 2000 ≤ n) : ∃ k1, k1 < 2 ^ aN A ∧ f_X3_evenestSplit n 9 (nI s) σ = some (nI k1, σ) ∧ evB A s = some (oA A s (rb (aN A) k1), rb (aN A) k1) := by
  have hp := pw10 w
  have h0 : 0 < 2 ^ aN A := Nat.two_pow_pos _
  obtain ⟨k1, g1, g2, g3⟩ := x_ev_L hs hX w (s := s) (n := n) h5 (by omega) n 1 0 (by omega) (by omega) h0 rfl
  refine ⟨k1, g1, ?_, g3⟩
  have so := x_splitOff hs hX w (k := 0) (s := s) (n := n) (by decide) h5 (by omega)
  rw [nI_0] at so g2
  have bdk := off_bd w (rb (aN A) 0) s
  have ab := p_abs (z := off A (rb (aN A) 0) s) (by omega) (by omega)
  have ab' : (if (0 : Int32) ≤ iI (off A (rb (aN A) 0) s) then iI (off A (rb (aN A) 0) s) else 0 - iI (off A (rb (aN A) 0) s)) = nI (oA A s (rb (aN A) 0)) := ab
  have hsu := hs
  unfold ShM9 at hsu
  unfold f_X3_evenestSplit
  simp only [eb_tg, hsu, if_true, so, eb_cl_s, ab']
  exact g2
-- the model
def aEv (N : Nat) (acc : Option (Nat × (Nat → Nat))) (v : Int32) (σ : eb_S) : Prop := match acc with
  | none => v = -1
  | some (c0, q) => v = nI c0 ∧ c0 ≤ 8910 ∧ ∀ u, u < N → eb_I σ 111 u = nI (q u) ∧ q u < 3
def rEv (A : Nat → Nat → Nat) (σ0 : eb_S) (p : Nat → Nat) (acc : Option (Nat × (Nat → Nat))) (x : Int32 × eb_S) : Prop := ShD x.2 ∧ MD A x.2 ∧ TR (aN A) p x.2 ∧ Fr sM σ0 x.2 ∧ aEv (aN A) acc x.1 x.2
def lEv (n a : Nat) (v2 : Int32) (K : Int32 → eb_S → Option (Int32 × eb_S)) (m : Nat) (x : Int32 × eb_S) : Option (Int32 × eb_S) := f_X10_evenest_L33 n 91 (nI a) v2 K m x.1 1 x.2
def tEv (n a : Nat) (v2 : Int32) (K : Int32 → eb_S → Option (Int32 × eb_S)) (m : Nat) (x : Int32 × eb_S) : Option (Int32 × eb_S) := eb_cl (f_X10_turns n 91 2 x.2) fun b s => f_X10_evenest_L33 n 91 (nI a) v2 K m x.1 (eb_b b) s
theorem aEv_Fr {N : Nat} {acc : Option (Nat × (Nat → Nat))} {v : Int32} {σ σ' : eb_S} {S : Nat → Nat → Prop} (hF : Fr S σ σ') (h3 : ∀ j, ¬ S 111 j) (h : aEv N acc v σ) : aEv N acc v σ' := by
  match acc, h with
  | none, h => exact h
  | some (c0, q), ⟨a1, a2, a6⟩ => exact ⟨a1, a2, fun u hu => by rw [hF.2.2.2.2.2 _ _ (h3 u)]; exact a6 u hu⟩
set_option maxHeartbeats 4000000 in
theorem d_ev_step {A : Nat → Nat → Nat} (w : wf A) {n a : Nat} (hn : 100 ≤ n) (ha : a < aS A) {v2 : Int32} {K : Int32 → eb_S → Option (Int32 × eb_S)} {σ0 : eb_S} (m : Nat) (p : Nat → Nat) (acc : Option (Nat × (Nat → Nat))) (x : Int32 × eb_S) (h : rEv A σ0 p acc x) : ∃ x', lEv n a v2 K (m + 1) x = tEv n a v2 K m x' ∧ rEv A σ0 p (gev A a p acc) x' := by
  obtain ⟨v, σ⟩ := x
  obtain ⟨hs, hD, hT, hF, hA⟩ := h
  dsimp only at hs hD hT hF hA
  have wS := w.2.2.1
  have wN := w.1
  have of := d_offOf hs hD w (hT.rw hs) (s := a) (n := n) (by omega) hn
  have bdk := off_bd w p a
  have o1 : oA A a p ≤ 8910 := off_abs w p a
  have ab : (if (0 : Int32) ≤ iI (off A p a) then iI (off A p a) else -iI (off A p a)) = nI (oA A a p) := p_abs2 (by omega) (by omega)
  obtain ⟨σ2, f1, f2, f3⟩ := d_finds (n := n) hn hs
  have hsu := hs
  unfold ShD at hsu
  have hs2 := f2.shD hs
  have hsu2 := hs2
  unfold ShD at hsu2
  have keep : rEv A σ0 p (some (oA A a p, p)) (nI (oA A a p), σ2) := ⟨hs2, f2.md nD_sF hD, hT.fr f2 (fun j z => by unfold sF at z; omega), hF.tr (f2.mono (fun k j h => Or.inr h)), rfl, o1, fun u hu => ⟨by rw [f3 u (by omega)]; exact (hT u hu).1, (hT u hu).2⟩⟩
  unfold lEv tEv
  dsimp only
  rw [f_X10_evenest_L33.eq_2, if_neg (by decide)]
  simp only [eb_gR, eb_tg, eb_jn_e, hsu, List.mem_singleton, if_true, true_and, ne_eq, show ¬ (110 : Nat) = 0 by decide, not_false_eq_true, of, d_plain, eb_cl_s, ab, f1]
  match acc, hA with
  | none, a1 =>
    have a1 : v = -1 := a1
    subst a1
    refine ⟨(nI (oA A a p), σ2), ?_, keep⟩
    rw [if_pos (by decide)]
    simp only [hsu2, if_true]
  | some (c0, q), ⟨a1, a2, a6⟩ =>
    subst a1
    rw [if_neg (nI_pos (by omega))]
    by_cases hc : oA A a p < c0
    · refine ⟨(nI (oA A a p), σ2), ?_, ?_⟩
      · rw [if_neg (by rw [p_leN (by omega) (by omega)]; omega)]
        simp only [hsu2, if_true]
      · show rEv A σ0 p (ite _ _ _) _
        rw [if_pos hc]
        exact keep
    · refine ⟨(nI c0, σ), ?_, ?_⟩
      · rw [if_pos (by rw [p_leN (by omega) (by omega)]; omega)]
      · show rEv A σ0 p (ite _ _ _) _
        rw [if_neg hc]
        exact ⟨hs, hD, hT, hF, rfl, a2, a6⟩
theorem d_ev_turn {A : Nat → Nat → Nat} (w : wf A) {n a : Nat} (hn : 100 ≤ n) {v2 : Int32} {K : Int32 → eb_S → Option (Int32 × eb_S)} {σ0 : eb_S} (m : Nat) (p : Nat → Nat) (acc : Option (Nat × (Nat → Nat))) (x : Int32 × eb_S) (t : Nat) (h : rEv A σ0 p acc x) (ht : t < aN A) (hp : p t < 1) (hf : ∀ u, t < u → u < aN A → p u = 1) : ∃ x', tEv n a v2 K m x = lEv n a v2 K m x' ∧ rEv A σ0 (rfil (aN A) (t + 1) 0 (rup p t (p t + 1))) acc x' := by
  obtain ⟨v, σ⟩ := x
  obtain ⟨hs, hD, hT, hF, hA⟩ := h
  dsimp only at hs hD hT hF hA
  obtain ⟨σ1, g1, g2, g3⟩ := d_turns hn (mm := 1) (by decide) w hs hD hT ht hp hf
  refine ⟨(v, σ1), ?_, g2.shD hs, g2.md nD_sT hD, g3, hF.tr (g2.mono (fun k j h => Or.inl h)), aEv_Fr g2 (fun j z => by unfold sT at z; omega) hA⟩
  unfold tEv lEv
  dsimp only
  rw [show (2 : Int32) = nI (1 + 1) from rfl, g1, eb_cl_s]
  rfl
theorem d_ev_all {A : Nat → Nat → Nat} (w : wf A) {n a : Nat} (hn : 100000 ≤ n) (ha : a < aS A) {v2 : Int32} {K : Int32 → eb_S → Option (Int32 × eb_S)} {σ σ1 : eb_S} (hs : ShD σ) (hD : MD A σ) (g2 : Fr sT σ σ1) (g3 : ∀ u, u < 10 → eb_I σ1 110 u = 0) : ∃ v σ', f_X10_evenest_L33 n 91 (nI a) v2 K n (-1) 1 σ1 = K v σ' ∧ ShD σ' ∧ Fr sM σ σ' ∧ aEv (aN A) (evB A a) v σ' := by
  have wN := w.1
  have h3 := pw10 w
  have r0 : rEv A σ (fun _ => 0) none (-1, σ1) := ⟨g2.shD hs, g2.md nD_sT hD, fun u hu => ⟨by rw [g3 u (by omega)]; exact nI_0.symm, by show 0 < 3; omega⟩, g2.mono (fun k j h => Or.inl h), rfl⟩
  obtain ⟨m, hm⟩ : ∃ m, n = (m + 1) + 2 ^ aN A := ⟨n - 1 - 2 ^ aN A, by omega⟩
  obtain ⟨x', a1, a2⟩ := blk2 (N := aN A) (R := rEv A σ) (L := lEv n a v2 K) (Tn := tEv n a v2 K) (fun m p acc x h => d_ev_step w (by omega) ha m p acc x h) (fun m p acc x t h h1 h2 h3 => d_ev_turn w (by omega) m p acc x t h h1 h2 h3) (aN A) 0 (by omega) (fun _ => 0) none (-1, σ1) (m + 1) r0 (fun _ _ _ => rfl)
  rw [en_fld] at a2
  obtain ⟨v, σ2⟩ := x'
  obtain ⟨hs2, hD2, hT2, hF2, hA2⟩ := a2
  dsimp only at hs2 hD2 hT2 hF2 hA2
  obtain ⟨σ3, e1, e2⟩ := d_turnsE (n := n) (by omega) (mm := 1) (by decide) w hs2 hD2 hT2 (fun u hu => by unfold rfil; rw [if_pos ⟨by omega, hu⟩])
  refine ⟨v, σ3, ?_, e2.shD hs2, hF2.tr (e2.mono (fun k j h => Or.inl h)), aEv_Fr e2 (fun j z => by unfold sT at z; omega) hA2⟩
  have : f_X10_evenest_L33 n 91 (nI a) v2 K n (-1) 1 σ1 = lEv n a v2 K ((m + 1) + 2 ^ aN A) (-1, σ1) := by rw [← hm]; rfl
  rw [this, a1]
  unfold tEv
  dsimp only
  rw [show (2 : Int32) = nI (1 + 1) from rfl, e1, eb_cl_s, f_X10_evenest_L33.eq_2, if_pos (by decide)]
set_option maxHeartbeats 4000000 in
theorem eq_evenest {A : Nat → Nat → Nat} {σ : eb_S} (hb : ShB σ) (hs : ShM9 σ) (hX : MX9 A σ) (w : wf A) (hd : ShD σ) (hD : MD A σ) (a v : Int32) {n : Nat} (hn : 100000 ≤ n) : ∃ r σ2, f_X9_evenest n 8 a v σ = some (r, σ) ∧ f_X10_evenest n 91 a v σ = some (r, σ2) ∧ Fr sM σ σ2 := by
  have wN := w.1
  have wS := w.2.2.1
  have is := x_isStretch hb hs hX w a
  have ds := d_isStretch hd hD w a
  have it := x_isThing hb hs hX w v
  have dt := d_isThing hd hD w v.toInt64
  rw [p_i64] at dt
  have hbu := hb
  have hdu := hd
  have hsu := hs
  unfold ShB at hbu
  unfold ShD at hdu
  unfold ShM9 at hsu
  cases h1 : wi a.toInt 0 ((aS A : Int) - 1) with
  | false =>
    rw [h1] at is ds
    exact ⟨-1, σ, by unfold f_X9_evenest; simp [eb_tg, hbu, is, eb_cl_s, eb_b0], by unfold f_X10_evenest; simp [eb_tg, hdu, ds, eb_cl_s, eb_b0], Fr.rf⟩
  | true =>
  rw [h1] at is ds
  by_cases h0 : v = -1 ∨ ∃ t, t < aN A ∧ v = nI t
  · obtain ⟨s, hs5, rfl⟩ := wi_nat (by omega) h1
    obtain ⟨k1, g1, g2, g3⟩ := x_evSplit hs hX w (s := s) (n := n) (by omega) (by omega)
    have hp := pw10 w
    have so := x_splitOff hs hX w (k := k1) (s := s) (n := n) (by omega) (by omega) (by omega)
    have bdk := off_bd w (rb (aN A) k1) s
    have ab : (if (0 : Int32) ≤ iI (off A (rb (aN A) k1) s) then iI (off A (rb (aN A) k1) s) else 0 - iI (off A (rb (aN A) k1) s)) = nI (oA A s (rb (aN A) k1)) := p_abs (by omega) (by omega)
    obtain ⟨σ1, b1, b2, b3⟩ := d_begins (n := n) (by omega) hd
    obtain ⟨x, σ2, e1, e2, e3, e4⟩ := d_ev_all w hn (a := s) hs5 (v2 := v) (K := fun (w19 : Int32) (s20 : eb_S) => if 0 ≤ v then (eb_gR s20 [9] 91 30 fun r21 => eb_ai s20 r21 v fun x22 => some (x22, s20)) else (some (w19, s20))) hd hD b2 b3
    rw [g3] at e4
    obtain ⟨z1, z2, z3⟩ := e4
    unfold ShD at e2
    rcases h0 with h | ⟨t, ht, h⟩
    · subst h
      refine ⟨nI (oA A s (rb (aN A) k1)), σ2, ?_, ?_, e3⟩
      · unfold f_X9_evenest
        simp only [eb_jn_e, eb_gR, eb_tg, hbu, hsu, is, eb_cl_s, eb_b0, Bool.true_eq_false, if_false, List.mem_singleton, if_true, true_and, ne_eq, show ¬ (9 : Nat) = 0 by decide, not_false_eq_true, g2, m1n, so, ab]
      · unfold f_X10_evenest
        simp only [eb_jn_e, eb_tg, hdu, ds, eb_cl_s, eb_b0, Bool.true_eq_false, if_false, if_true, b1] at e1 ⊢
        rw [e1, z1]
        simp [m1n]
    · subst h
      rw [p_ntoInt (by omega), wi_t.mpr ⟨by omega, by omega⟩] at it dt
      have ir := x_inRight hs hX w (k := k1) (t := t) (by omega) ht
      have nn := nI_nn (show t < 2 ^ 31 by omega) (by decide : (-1 : Int32) < 0)
      have pn := p_nn (show t < 2 ^ 31 by omega)
      have r2 := rb_lt (N := aN A) (k := k1) t
      refine ⟨nI (rb (aN A) k1 t), σ2, ?_, ?_, e3⟩
      · unfold f_X9_evenest
        simp only [eb_jn_e, eb_gR, eb_tg, hbu, hsu, is, it, nn, pn, eb_cl_s, eb_b0, Bool.true_eq_false, if_false, List.mem_singleton, if_true, true_and, ne_eq, show ¬ (9 : Nat) = 0 by decide, not_false_eq_true, g2, ir, decide_eq_false_iff_not]
        by_cases e : rb (aN A) k1 t = 1
        · rw [if_neg (fun z => z e), e]; rfl
        · rw [if_pos e, show rb (aN A) k1 t = 0 by omega]; rfl
      · unfold f_X10_evenest
        simp only [eb_jn_e, eb_tg, hdu, ds, dt, nn, pn, eb_cl_s, eb_b0, Bool.true_eq_false, if_false, if_true, b1] at e1 ⊢
        rw [e1]
        simp [eb_gR, eb_ai, e2, p_in (show t < 10 by omega) (by decide : 10 < 2 ^ 31), p_cl (show t < 2 ^ 31 by omega), (z3 t ht).1]
  · have g1 : ¬ v = -1 := fun e => h0 (Or.inl e)
    have g3 : wi v.toInt 0 ((aN A : Int) - 1) = false := by
      cases hw : wi v.toInt 0 ((aN A : Int) - 1) with
      | false => rfl
      | true =>
        obtain ⟨t, ht, e⟩ := wi_nat (by omega) hw
        exact absurd (Or.inr ⟨t, ht, e⟩) h0
    rw [g3] at it dt
    exact ⟨-1, σ, by unfold f_X9_evenest; simp [eb_jn_e, eb_tg, hbu, is, it, g1, eb_cl_s, eb_b0], by unfold f_X10_evenest; simp [eb_jn_e, eb_tg, hdu, ds, dt, g1, eb_cl_s, eb_b0], Fr.rf⟩
