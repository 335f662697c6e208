/-! ===== pure: buying, the component's answer ===== -/
theorem wsm_or {A : Nat → Nat → Nat} {S t : Nat} (hb : ¬ bit S t) : ∀ k, wsm A (S ||| 2 ^ t) k = wsm A S k + if t < k then aW A t else 0
  | 0 => by rw [if_neg (by omega)]; rfl
  | k + 1 => by
    have ih := wsm_or (A := A) hb k
    show wsm A (S ||| 2 ^ t) k + (if bit (S ||| 2 ^ t) k then aW A k else 0) = wsm A S k + (if bit S k then aW A k else 0) + _
    rw [ih]
    by_cases e : k = t
    · subst e
      rw [if_neg (by omega), if_pos (or_bit_iff.mpr (Or.inr rfl)), if_neg hb, if_pos (by omega)]
    · by_cases e2 : bit S k
      · rw [if_pos (or_bit_iff.mpr (Or.inl e2)), if_pos e2]
        by_cases e3 : t < k
        · rw [if_pos e3, if_pos (by omega)]
          omega
        · rw [if_neg e3, if_neg (by omega)]
          omega
      · rw [if_neg (show ¬ bit (S ||| 2 ^ t) k from fun z => (or_bit_iff.mp z).elim e2 e), if_neg e2]
        by_cases e3 : t < k
        · rw [if_pos e3, if_pos (by omega)]
          omega
        · rw [if_neg e3, if_neg (by omega)]
theorem cw_or {A : Nat → Nat → Nat} {S t : Nat} (hb : ¬ bit S t) (ht : t < aN A) : cw A (S ||| 2 ^ t) = cw A S + aW A t := by
  unfold cw
  rw [wsm_or hb, if_pos ht]
theorem TB.up {A : Nat → Nat → Nat} {c r P P' : Nat} {σ : eb_S} (h : TB A c r P σ) (hp : P ≤ P') : TB A c r P' σ := fun S l h1 => h S l (by omega)
theorem gs_n {A : Nat → Nat → Nat} : ∀ k, (gs A k).2 = none → (gs A k).1 = 0
  | 0, _ => rfl
  | k + 1, h => by cases h
set_option maxHeartbeats 8000000 in
theorem x_shop_L {A : Nat → Nat → Nat} (w : wf A) {c n : Nat} (hn : 100 ≤ n) : ∀ (m k : Nat) (σ : eb_S), ShM9 σ → MX9 A σ → EC A c σ → TB A c 0 1 σ → (∀ i, i < k → eb_I σ 76 i = nI (nxt A i)) → eb_I σ 75 0 = (if k = 0 then 0 else nI (lstA A)) → k ≤ aN A → aN A < k + m → ∃ σ', f_X1_goShopping_L14 n 75 m (nI (gs A k).1) (nI (cw A (gs A k).1)) (lov (gs A k).2) (nI k) σ = some ((), σ') ∧ Fr (sC c) σ σ' ∧ (∀ i, i < aN A → eb_I σ' 76 i = nI (nxt A i)) ∧ eb_I σ' 75 0 = nI (lstA A) := by
  intro m
  induction m with
  | zero => intro k σ _ _ _ _ _ _ h1 h2; omega
  | succ m ih =>
    intro k σ hs hX hE hT hz h0 h1 h2
    have wN := w.1
    have hp := pw10 w
    have xN := hX.1
    have hEu := hE
    obtain ⟨a1, a2, a3, a4, a5, a6⟩ := hE
    have hsu := hs
    unfold ShE at a1
    unfold ShM9 at hsu
    rw [f_X1_goShopping_L14.eq_2]
    by_cases h : aN A ≤ k
    · have e : k = aN A := by omega
      subst e
      have le : nI (aN A) ≤ nI (aN A) := by rw [p_leN (by omega) (by omega)]; exact Nat.le_refl _
      refine ⟨σ, by simp [eb_gR, eb_gI, a1, hsu, xN, le], Fr.rf, hz, ?_⟩
      rw [h0]
      by_cases e : aN A = 0
      · rw [if_pos e]; unfold lstA; rw [if_pos e]; exact nI_0.symm
      · rw [if_neg e]
    · have nle : ¬ nI (aN A) ≤ nI k := by rw [p_leN (by omega) (by omega)]; omega
      obtain ⟨i1, i2, i3, i4⟩ := gs_ok (A := A) k h1
      obtain ⟨cc, j1, j2, j3, j4⟩ := i4 (by omega)
      have ne := x_next w (n := n) (lo := (gs A k).2) hn hs hX hEu i1 i3 (gs_n k) (hT.up (by omega))
      have ne : f_X1_nextBehind n 75 (nI (gs A k).1) (lov (gs A k).2) (nI (cw A (gs A k).1)) σ = some (nI (nxt A k), σ) := ne
      have co := x_cost w (lo := (gs A k).2) hs hX hEu i1 j2 i3 (gs_n k) j3 (hT.up (by omega))
      have xW := hX.2.2.1 _ j2
      have oi := or_i (S := (gs A k).1) (t := nxt A k) (by omega)
      have e1 : (gs A (k + 1)).1 = (gs A k).1 ||| 2 ^ nxt A k := rfl
      have e2 : (gs A (k + 1)).2 = some (nxt A k) := rfl
      have e3 := cw_or (A := A) j3 j2
      have kz : (nI k = 0) = (k = 0) := p_eqN (b := 0) (by omega) (by decide)
      have step : ∀ σ0, Fr (sC c) σ σ0 → (∀ i, eb_I σ0 76 i = eb_I σ 76 i) → (∀ j, eb_I σ0 c j = eb_I σ c j) → eb_I σ0 75 0 = nI (lstA A) → ∃ σ', (eb_gR σ0 [1] 75 1 fun r8 => eb_wi σ0 r8 (nI k) (nI (nxt A k)) fun s9 => eb_gR s9 [1] 75 2 fun r10 => eb_gR s9 [3] r10 3 fun r11 => eb_ai s9 r11 (nI (nxt A k)) fun x12 => f_X1_goShopping_L14 n 75 m (nI (gs A k).1 ||| ((1 : Int32) <<< (nI (nxt A k) &&& 31))) (nI (cw A (gs A k).1) + x12) (nI (nxt A k)) (nI k + 1) s9) = some ((), σ') ∧ Fr (sC c) σ σ' ∧ (∀ i, i < aN A → eb_I σ' 76 i = nI (nxt A i)) ∧ eb_I σ' 75 0 = nI (lstA A) := by
        intro σ0 F0 q1 q2 q3
        have F1 : Fr (sC c) σ0 (eb_sI σ0 76 k (nI (nxt A k))) := Fr.sI (Or.inr (Or.inl rfl))
        have F01 := F0.tr F1
        obtain ⟨σ', g1, g2, g3, g4⟩ := ih (k + 1) _ (F01.shM9 hs) (F01.mx (nX_sC a3) hX) (hEu.fr F01) (fun S l z1 z2 z3 z4 => by
          rw [eb_I_sI, if_neg (by omega), q2]; exact hT S l z1 z2 z3 z4) (fun i hi => by
          rw [eb_I_sI, if_pos rfl]
          by_cases e : i = k
          · rw [if_pos e, e]
          · rw [if_neg e, q1]; exact hz i (by omega)) (by rw [eb_I_sI, if_neg (by decide), if_neg (by omega)]; exact q3) (by omega) (by omega)
        refine ⟨σ', ?_, F01.tr g2, g3, g4⟩
        rw [e1, e2, e3] at g1
        have s0 := hEu.fr F0
        have b1 := s0.1
        have m0 := F0.shM9 hs
        have xW0 := (F0.mx (nX_sC a3) hX).2.2.1 _ j2
        unfold ShE at b1
        unfold ShM9 at m0
        simp only [eb_gR, eb_wi, eb_ai, b1, m0, eb_T_sI, eb_R_sI, eb_L_sI, eb_J_sI, eb_N_sI, eb_T_sJ, eb_R_sJ, eb_L_sJ, eb_I_sJ, eb_N_sJ, eb_T_rI, eb_R_rI, eb_L_rI, eb_J_rI, eb_N_rI, eb_T_rJ, eb_R_rJ, eb_L_rJ, eb_I_rJ, eb_N_rJ, List.mem_singleton, if_true, true_and, ne_eq, show ¬ (76 : Nat) = 0 by decide, show ¬ (9 : Nat) = 0 by decide, show ¬ (11 : Nat) = 0 by decide, not_false_eq_true, p_in (show k < 10 by omega) (by decide : 10 < 2 ^ 31), p_cl (show k < 2 ^ 31 by omega), p_in (show nxt A k < 10 by omega) (by decide : 10 < 2 ^ 31), p_cl (show nxt A k < 2 ^ 31 by omega), eb_I_sI, show ¬ (11 : Nat) = 76 by decide, if_false, xW0, oi, nI_add, nI_1]
        exact g1
      simp only [eb_gR, eb_gI, eb_tg, eb_pI, eb_jn_e, a1, hsu, xN, nle, List.mem_singleton, if_true, if_false, true_and, ne_eq, show ¬ (9 : Nat) = 0 by decide, not_false_eq_true, ne, eb_cl_s, kz]
      by_cases hk0 : k = 0
      · subst hk0
        rw [if_pos rfl]
        simp only [co, eb_cl_s]
        have lv : fc A (gs A 0).1 (gs A 0).2 (nxt A 0) = lstA A := by
          unfold lstA
          rw [if_neg (by omega), ← j4]
          have : mnr (fc A 0 none) 0 (aN A) = some (nxt A 0, cc) := j1
          rw [this]
          rfl
        rw [lv]
        have s1 := step (eb_sI σ 75 0 (nI (lstA A))) (Fr.sI (Or.inl ⟨rfl, rfl⟩)) (fun i => by rw [eb_I_sI, if_neg (by decide)]) (fun j => by rw [eb_I_sI, if_neg (by omega)]) (by rw [eb_I_sI, if_pos rfl, if_pos rfl])
        simp only [eb_gR, List.mem_singleton, ne_eq] at s1
        simp only [a1.1, if_true]
        exact s1
      · rw [if_neg hk0]
        rw [if_neg hk0] at h0
        have s1 := step σ Fr.rf (fun _ => rfl) (fun _ => rfl) h0
        simp only [eb_gR, a1, hsu, List.mem_singleton, ne_eq, true_and, if_true, show ¬ (76 : Nat) = 0 by decide, not_false_eq_true] at s1
        simp only [a1, true_and, show ¬ (76 : Nat) = 0 by decide, not_false_eq_true, if_true]
        exact s1
def sE (k _j : Nat) : Prop := (75 ≤ k ∧ k ≤ 77) ∨ 121 ≤ k
def bgt (A : Nat → Nat → Nat) (σ : eb_S) : Prop := eb_I σ 75 0 = nI (lstA A) ∧ ∀ i, i < aN A → eb_I σ 76 i = nI (nxt A i)
def XE (A : Nat → Nat → Nat) (ch : Nat) (σ : eb_S) : Prop := ShE σ ∧ 113 ≤ eb_N σ ∧ (∃ c, eb_R σ 75 3 = c ∧ (c = 77 ∨ 121 ≤ c) ∧ eb_T σ c = 11 ∧ eb_L σ c ≤ 10240) ∧ ∃ z : Int, -1 ≤ z ∧ z ≤ ch ∧ eb_I σ 75 4 = iI z ∧ (z = ch → bgt A σ)
theorem XE.fr {A : Nat → Nat → Nat} {ch : Nat} {σ σ' : eb_S} {S : Nat → Nat → Prop} (h : XE A ch σ) (hF : Fq S σ σ') (hn : nt S 75 77) (hn2 : ∀ k j, 121 ≤ k → ¬ S k j) : XE A ch σ' := by
  obtain ⟨a1, a2, ⟨c, b1, b2, b3, b4⟩, z, c1, c2, c3, c4⟩ := h
  have hS : ∀ j, ¬ S c j := fun j => by
    rcases b2 with e | e
    · exact hn c j (by omega) (by omega)
    · exact hn2 c j e
  refine ⟨hF.shE (fun k j h1 h2 => hn k j h1 (by omega)) a1, Nat.le_trans a2 hF.2.2, ⟨c, by rw [(hF.t hn (by decide) (by decide)).2.1]; exact b1, b2, by rw [(hF.1 c (hS 1000)).1]; exact b3, by rw [(hF.1 c (hS 1000)).2.2]; exact b4⟩, z, c1, c2, by rw [hF.it hn (by decide) (by decide)]; exact c3, fun hz => ⟨by rw [hF.it hn (by decide) (by decide)]; exact (c4 hz).1, fun i hi => by rw [hF.it hn (by decide) (by decide)]; exact (c4 hz).2 i hi⟩⟩
theorem XE.up {A A' : Nat → Nat → Nat} {ch ch' : Nat} {σ : eb_S} (h : XE A ch σ) (hc : ch < ch') : XE A' ch' σ := by
  obtain ⟨a1, a2, a3, z, c1, c2, c3, c4⟩ := h
  exact ⟨a1, a2, a3, z, c1, by omega, c3, fun hz => by omega⟩
theorem new_I (σ : eb_S) (t n a b : Nat) : eb_I (eb_new σ t n) a b = if a = eb_N σ + 8 then 0 else eb_I σ a b := by
  show (if a = eb_N σ + 8 then (fun _ => (0 : Int32)) else eb_I σ a) b = _
  split <;> rfl
theorem new_J (σ : eb_S) (t n a b : Nat) : eb_J (eb_new σ t n) a b = if a = eb_N σ + 8 then 0 else eb_J σ a b := by
  show (if a = eb_N σ + 8 then (fun _ => (0 : Int64)) else eb_J σ a) b = _
  split <;> rfl
theorem new_R (σ : eb_S) (t n a : Nat) : eb_R (eb_new σ t n) a = if a = eb_N σ + 8 then (fun _ => 0) else eb_R σ a := rfl
theorem new_T (σ : eb_S) (t n a : Nat) : eb_T (eb_new σ t n) a = if a = eb_N σ + 8 then t else eb_T σ a := rfl
theorem new_L (σ : eb_S) (t n a : Nat) : eb_L (eb_new σ t n) a = if a = eb_N σ + 8 then n else eb_L σ a := rfl
theorem sR_R (σ : eb_S) (k j r a : Nat) : eb_R (eb_sR σ k j r) a = if a = k then eb_up (eb_R σ k) j r else eb_R σ a := rfl
set_option maxHeartbeats 8000000 in
theorem x_bsolve {A : Nat → Nat → Nat} (w : wf A) {n ch : Nat} (hn : 2000 ≤ n) (hch : ch < 2 ^ 30) {σ : eb_S} (h9 : X9 A ch σ) (hE : XE A ch σ) : ∃ σ', f_X1_solve n 75 σ = some ((), σ') ∧ Fq sE σ σ' ∧ XE A ch σ' ∧ bgt A σ' := by
  have wN := w.1
  have hp := pw10 w
  have hp0 : 0 < 2 ^ aN A := Nat.two_pow_pos _
  have hE0 := hE
  obtain ⟨a1, a2, ⟨c, b1, b2, b3, b4⟩, z, c1, c2, c3, c4⟩ := hE
  obtain ⟨hs, hX, h90⟩ := h9
  have xN := hX.1
  have a1u := a1
  have hsu := hs
  unfold ShE at a1u
  unfold ShM9 at hsu
  by_cases hz : z = ch
  · refine ⟨σ, ?_, Fq.rf, hE0, c4 hz⟩
    unfold f_X1_solve
    simp [eb_gI, eb_gR, a1u, hsu, c3, h90, hz, nI_iI]
  · have hne : ¬ eb_I σ 75 4 = nI ch := by
      rw [c3, nI_iI]
      intro e
      exact hz ((p_eqI (a := z) (b := (ch : Int)) (by omega) (by omega)).mp e)
    have shl := b_shl (aN A) (by omega)
    have e10 : nI (2 ^ aN A) * 10 = nI (2 ^ aN A * 10) := pk_mul _ 10
    have em1 : nI (2 ^ aN A) - 1 = nI (2 ^ aN A - 1) := pk_sub (b := 1) (by omega)
    have go : ∀ c' σ0, Fq sE σ σ0 → EC A c' σ0 → eb_I σ0 75 4 = nI ch → ∃ σ', f_X1_solve_L62 n 75 (nI (2 ^ aN A)) (fun (s17 : eb_S) => eb_cl (eb_tg s17 75 1 (f_X1_goShopping n 75 s17)) fun _u s18 => some ((), s18)) n (nI (2 ^ aN A - 1)) σ0 = some ((), σ') ∧ Fq sE σ σ' ∧ XE A ch σ' ∧ bgt A σ' := by
      intro c' σ0 F0 hEC h4
      have hs0 := F0.shM9 (fun k j h1 h2 z => by unfold sE at z; omega) hs
      have hX0 : MX9 A σ0 := F0.mx (fun k j h1 h2 z => by unfold sE at z; omega) hX
      obtain ⟨σ1, g1, g2, g3⟩ := x_sol_L w (n := n) (c := c') (by omega) (K := fun (s17 : eb_S) => eb_cl (eb_tg s17 75 1 (f_X1_goShopping n 75 s17)) fun _u s18 => some ((), s18)) (2 ^ aN A - 1) n σ0 hs0 hX0 hEC (fun S l h1 h2 => by omega) (by omega) (by omega)
      have hEC1 := hEC.fr g2
      have F2 : Fr (sC c') σ1 (eb_sI σ1 75 0 0) := Fr.sI (Or.inl ⟨rfl, rfl⟩)
      have hEC2 := hEC1.fr F2
      have F12 := g2.tr F2
      obtain ⟨σ2, k1, k2, k3, k4⟩ := x_shop_L w (n := n) (c := c') (by omega) n 0 (eb_sI σ1 75 0 0) (F12.shM9 hs0) (F12.mx (nX_sC hEC.2.2.1) hX0) hEC2 (fun S l z1 z2 z3 z4 => by
        rw [eb_I_sI, if_neg (by have := hEC.2.2.1; omega)]; exact g3 S l z1 z2 z3 z4) (fun i hi => by omega) (by rw [eb_I_sI, if_pos rfl, if_pos rfl, if_pos rfl]) (by omega) (by omega)
      have FF : Fr (sC c') σ0 σ2 := F12.tr k2
      have hEC3 := hEC.fr FF
      have Fall : Fq sE σ σ2 := F0.tr (FF.fq.mono (fun k j h => by unfold sC at h; have := hEC.2.2.1; unfold sE; omega))
      refine ⟨σ2, ?_, Fall, ⟨hEC3.1, Nat.le_trans a2 Fall.2.2, ⟨c', hEC3.2.1, hEC3.2.2.1, hEC3.2.2.2.1, hEC3.2.2.2.2.2⟩, (ch : Int), by omega, by omega, ?_, fun _ => ⟨k4, k3⟩⟩, k4, k3⟩
      · rw [g1]
        have q1 := hEC1.1
        unfold ShE at q1
        have z1 : nI (gs A 0).1 = 0 := nI_0
        have z2 : nI (cw A (gs A 0).1) = 0 := by rw [show (gs A 0).1 = 0 from rfl, cw_0]; exact nI_0
        have z3 : lov (gs A 0).2 = -1 := rfl
        rw [z1, z2, z3, nI_0] at k1
        unfold f_X1_goShopping
        simp only [eb_tg, q1, if_true, eb_pI, List.mem_singleton, k1, eb_cl_s]
      · rw [FF.2.2.2.2.2 _ _ (fun z => by unfold sC at z; have := hEC.2.2.1; omega), h4, nI_iI]
    have F6 : Fq sE σ (eb_sI σ 75 4 (nI ch)) := Fq.sI (Or.inl ⟨by decide, by decide⟩)
    have cn : ¬ c = 0 := by omega
    have c75 : ¬ c = 75 := by omega
    by_cases hl : 2 ^ aN A * 10 ≤ eb_L σ c
    · obtain ⟨σ', g1, g2, g3, g4⟩ := go c (eb_sI σ 75 4 (nI ch)) F6 ⟨a1, b1, b2, b3, hl, b4⟩ (by rw [eb_I_sI, if_pos rfl, if_pos rfl])
      refine ⟨σ', ?_, g2, g3, g4⟩
      have cle : nI (2 ^ aN A * 10) ≤ nI (eb_L σ c) := by rw [p_leN (by omega) (by omega)]; exact hl
      unfold f_X1_solve
      simp only [eb_gI, eb_gR, eb_pI, eb_ln, eb_jn_e, a1u, hsu, h90, hne, xN, b1, b3, ofN, eb_T_sI, eb_R_sI, eb_L_sI, eb_J_sI, eb_N_sI, eb_T_sJ, eb_R_sJ, eb_L_sJ, eb_I_sJ, eb_N_sJ, eb_T_rI, eb_R_rI, eb_L_rI, eb_J_rI, eb_N_rI, eb_T_rJ, eb_R_rJ, eb_L_rJ, eb_I_rJ, eb_N_rJ, List.mem_singleton, if_true, if_false, true_and, ne_eq, show ¬ (9 : Nat) = 0 by decide, cn, not_false_eq_true, shl, e10, em1, cle, show (10 : Nat) ≤ 11 ∧ (11 : Nat) < 14 by decide, eb_I_sI, show ¬ (9 : Nat) = 75 by decide]
      exact g1
    · have hF7 : Fq sE (eb_sI σ 75 4 (nI ch)) (eb_sR (eb_new (eb_sI σ 75 4 (nI ch)) 11 (2 ^ aN A * 10)) 75 3 (eb_N σ + 8)) := by
        refine ⟨fun k hk => ?_, fun k j hk => ?_, ?_⟩
        · have h1 : ¬ k = eb_N σ + 8 := fun e => hk (Or.inr (by omega))
          have h2 : ¬ k = 75 := fun e => hk (Or.inl (by omega))
          refine ⟨?_, ?_, ?_⟩
          · show eb_T (eb_new (eb_sI σ 75 4 (nI ch)) 11 (2 ^ aN A * 10)) k = _
            rw [new_T, eb_N_sI, if_neg h1]
          · rw [sR_R, if_neg h2, new_R, eb_N_sI, if_neg h1]
          · show eb_L (eb_new (eb_sI σ 75 4 (nI ch)) 11 (2 ^ aN A * 10)) k = _
            rw [new_L, eb_N_sI, if_neg h1]
        · have h1 : ¬ k = eb_N σ + 8 := fun e => hk (Or.inr (by omega))
          refine ⟨?_, ?_⟩
          · show eb_I (eb_new (eb_sI σ 75 4 (nI ch)) 11 (2 ^ aN A * 10)) k j = _
            rw [new_I, eb_N_sI, if_neg h1]
          · show eb_J (eb_new (eb_sI σ 75 4 (nI ch)) 11 (2 ^ aN A * 10)) k j = _
            rw [new_J, eb_N_sI, if_neg h1]
        · show eb_N σ ≤ eb_N σ + 1
          omega
      have tT : ∀ k, k < 121 → eb_T (eb_sR (eb_new (eb_sI σ 75 4 (nI ch)) 11 (2 ^ aN A * 10)) 75 3 (eb_N σ + 8)) k = eb_T σ k := fun k hk => by
        show eb_T (eb_new (eb_sI σ 75 4 (nI ch)) 11 (2 ^ aN A * 10)) k = _
        rw [new_T, eb_N_sI, if_neg (show ¬ k = eb_N σ + 8 by omega)]; rfl
      have tL : ∀ k, k < 121 → eb_L (eb_sR (eb_new (eb_sI σ 75 4 (nI ch)) 11 (2 ^ aN A * 10)) 75 3 (eb_N σ + 8)) k = eb_L σ k := fun k hk => by
        show eb_L (eb_new (eb_sI σ 75 4 (nI ch)) 11 (2 ^ aN A * 10)) k = _
        rw [new_L, eb_N_sI, if_neg (show ¬ k = eb_N σ + 8 by omega)]; rfl
      have tR : ∀ j, eb_R (eb_sR (eb_new (eb_sI σ 75 4 (nI ch)) 11 (2 ^ aN A * 10)) 75 3 (eb_N σ + 8)) 75 j = if j = 3 then eb_N σ + 8 else eb_R σ 75 j := fun j => by
        rw [sR_R, if_pos rfl]
        unfold eb_up
        by_cases e : j = 3
        · rw [if_pos e, if_pos e]
        · rw [if_neg e, if_neg e, new_R, eb_N_sI, if_neg (show ¬ (75 : Nat) = eb_N σ + 8 by omega)]; rfl
      have hEC : EC A (eb_N σ + 8) (eb_sR (eb_new (eb_sI σ 75 4 (nI ch)) 11 (2 ^ aN A * 10)) 75 3 (eb_N σ + 8)) := by
        refine ⟨?_, by rw [tR, if_pos rfl], Or.inr (by omega), ?_, ?_, ?_⟩
        · unfold ShE
          rw [tT 75 (by decide), tT 76 (by decide), tL 76 (by decide), tR, tR, if_neg (by decide), if_neg (by decide)]
          exact a1u
        · show eb_T (eb_new (eb_sI σ 75 4 (nI ch)) 11 (2 ^ aN A * 10)) (eb_N σ + 8) = 11
          rw [new_T]; exact if_pos rfl
        · show _ ≤ eb_L (eb_new (eb_sI σ 75 4 (nI ch)) 11 (2 ^ aN A * 10)) (eb_N σ + 8)
          rw [new_L]
          exact Nat.le_of_eq (if_pos rfl).symm
        · show eb_L (eb_new (eb_sI σ 75 4 (nI ch)) 11 (2 ^ aN A * 10)) (eb_N σ + 8) ≤ _
          rw [new_L]
          refine Nat.le_trans (Nat.le_of_eq (if_pos rfl)) (by omega)
      obtain ⟨σ', g1, g2, g3, g4⟩ := go (eb_N σ + 8) _ (F6.tr hF7) hEC (by
        show eb_I (eb_new (eb_sI σ 75 4 (nI ch)) 11 (2 ^ aN A * 10)) 75 4 = _
        rw [new_I, eb_N_sI, if_neg (show ¬ (75 : Nat) = eb_N σ + 8 by omega), eb_I_sI, if_pos rfl, if_pos rfl])
      refine ⟨σ', ?_, g2, g3, g4⟩
      have cle : ¬ nI (2 ^ aN A * 10) ≤ nI (eb_L σ c) := by rw [p_leN (by omega) (by omega)]; exact hl
      have nn : ¬ nI (2 ^ aN A * 10) < 0 := nI_pos (by omega)
      have ecl : (nI (2 ^ aN A * 10)).toNatClampNeg = 2 ^ aN A * 10 := p_cl (by omega)
      have eT : eb_T (eb_new (eb_sI σ 75 4 (nI ch)) 11 (2 ^ aN A * 10)) 75 = 1 := by
        rw [new_T, eb_N_sI, if_neg (show ¬ (75 : Nat) = eb_N σ + 8 by omega)]; exact a1u.1
      unfold f_X1_solve
      simp only [eb_gI, eb_gR, eb_pI, eb_pR, eb_na, eb_ln, eb_jn_e, a1u, hsu, h90, hne, xN, b1, b3, ofN, eb_T_sI, eb_R_sI, eb_L_sI, eb_J_sI, eb_N_sI, eb_T_sJ, eb_R_sJ, eb_L_sJ, eb_I_sJ, eb_N_sJ, eb_T_rI, eb_R_rI, eb_L_rI, eb_J_rI, eb_N_rI, eb_T_rJ, eb_R_rJ, eb_L_rJ, eb_I_rJ, eb_N_rJ, List.mem_singleton, if_true, if_false, true_and, ne_eq, show ¬ (9 : Nat) = 0 by decide, cn, not_false_eq_true, shl, e10, em1, cle, show (10 : Nat) ≤ 11 ∧ (11 : Nat) < 14 by decide, eb_I_sI, show ¬ (9 : Nat) = 75 by decide, nn, ecl, show 2 ^ aN A * 10 ≤ 10240 by omega, eT]
      exact g1
