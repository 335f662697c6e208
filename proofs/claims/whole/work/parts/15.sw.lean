/-! ===== switches, joins ===== -/
def eb_sw {τ : Type} (x : Int32) : Nat → List (Option τ) → Option τ → Option τ
  | _, [], od => od
  | i, o :: os, od => if x = Int32.ofNat i then o else eb_sw x (i + 1) os od
def eb_lw {τ : Type} (x : Int32) : List (Int32 × Option τ) → Option τ → Option τ
  | [], od => od
  | q :: os, od => if x = q.1 then q.2 else eb_lw x os od
def eb_swk {τ : Type} (P : Nat → Option τ → Prop) : List Nat → List (Option τ) → Prop
  | [], [] => True
  | t :: ts, o :: os => P t o ∧ eb_swk P ts os
  | _, _ => False
theorem eb_sw_spec {τ : Type} {x : Int32} {od : Option τ} {out : τ} : ∀ (os : List (Option τ)) (i : Nat), i + os.length < 1000 → eb_sw x i os od = some out → ((x.toInt < (i : Int) ∨ ((i + os.length : Nat) : Int) ≤ x.toInt) ∧ od = some out) ∨ ∃ j, j < os.length ∧ x.toInt = ((i + j : Nat) : Int) ∧ os[j]? = some (some out)
  | [], i, _, h => Or.inl ⟨by simp only [List.length_nil, Nat.add_zero]; omega, h⟩
  | o :: os, i, hl, h => by
    simp only [List.length_cons] at hl
    unfold eb_sw at h
    by_cases hx : x = Int32.ofNat i
    · rw [if_pos hx] at h
      refine Or.inr ⟨0, by simp, ?_, by rw [h]; rfl⟩
      rw [hx]
      exact nI_toInt (n := i) (by omega)
    · rw [if_neg hx] at h
      have hne : x.toInt ≠ (i : Int) := fun e => hx (Int32.toInt_inj.mp (by rw [e]; exact (nI_toInt (n := i) (by omega)).symm))
      rcases eb_sw_spec os (i + 1) (by omega) h with ⟨h1, h2⟩ | ⟨j, h1, h2, h3⟩
      · refine Or.inl ⟨?_, h2⟩
        simp only [List.length_cons]
        omega
      · exact Or.inr ⟨j + 1, by simp only [List.length_cons]; omega, by rw [h2]; congr 1; omega, by rw [List.getElem?_cons_succ]; exact h3⟩
theorem eb_swk_at {τ : Type} {P : Nat → Option τ → Prop} : ∀ {ts : List Nat} {os : List (Option τ)}, eb_swk P ts os → ts.length = os.length ∧ ∀ (j : Nat) (o : Option τ), os[j]? = some o → ∃ t, ts[j]? = some t ∧ P t o
  | [], [], _ => ⟨rfl, fun j o h => by simp at h⟩
  | t :: ts, o :: os, ⟨h1, h2⟩ => by
    obtain ⟨h3, h4⟩ := eb_swk_at h2
    refine ⟨by simp [h3], fun j o' h => ?_⟩
    cases j with
    | zero => rw [List.getElem?_cons_zero] at h; cases h; exact ⟨t, rfl, h1⟩
    | succ j => rw [List.getElem?_cons_succ] at h; obtain ⟨t', h5, h6⟩ := h4 j o' h; exact ⟨t', by rw [List.getElem?_cons_succ]; exact h5, h6⟩
  | [], _ :: _, h => h.elim
  | _ :: _, [], h => h.elim
section EBSW
variable {ρ : Type} {G : eb_G} {y : MethodName} {cc : ByteArray} {nL : Nat} {rt : Option FieldType} {fr mc ms : Nat} {ri : Instr} {enc : ρ → List Value} {pc : Nat} {L : List (Nat × Value)} {st : List Value} {σ : eb_S} {cn sn : Nat}
theorem eb_tswitch {dflt lo hi : Int} {offs : Array Int} {len : Nat} {x : Int32} {i0 : Nat} {tgs : List Nat} {td : Nat} {os : List (Option (ρ × eb_S))} {od : Option (ρ × eb_S)} (hd : decode cc pc = .ok (.tableswitch dflt lo hi offs, len)) (hlo : lo = (i0 : Int)) (hhi : hi + 1 = ((i0 + tgs.length : Nat) : Int)) (ho : offs.toList.map (fun f => (pc : Int) + f) = tgs.map (fun t : Nat => (t : Int))) (htd : (pc : Int) + dflt = (td : Int)) (hsz : i0 + tgs.length < 1000) (kt : eb_swk (fun t o => eb_go G y cc nL rt fr mc ms ri enc t L st σ cn sn o) tgs os) (kd : eb_go G y cc nL rt fr mc ms ri enc td L st σ cn sn od) : eb_go G y cc nL rt fr mc ms ri enc pc L (.int x :: st) σ cn sn (eb_sw x i0 os od) := by
  intro out hout p e s m args below meth c Q R hR X as ls cst H locs hl hs hW hS kr
  obtain ⟨c_x, rfl, hs1⟩ := eb_st_i hs
  obtain ⟨hlen, hat⟩ := eb_swk_at kt
  rcases eb_sw_spec os i0 (by omega) hout with ⟨h1, h2⟩ | ⟨j, h1, h2, h3⟩
  · exact lv_tableOut X.1 X.2.1 hd (by rw [hlo]; omega) htd (kd out h2 p e s m args below meth c Q R hR X as ls _ H locs hl hs1 hW hS kr)
  · obtain ⟨t, h4, h5⟩ := hat j _ h3
    have hof : ∃ off, offs.toList[j]? = some off ∧ (pc : Int) + off = (t : Int) := by
      have e1 : (offs.toList.map (fun f => (pc : Int) + f))[j]? = some (t : Int) := by rw [ho, List.getElem?_map, h4]; rfl
      rw [List.getElem?_map] at e1
      cases h6 : offs.toList[j]? with
      | none => rw [h6] at e1; cases e1
      | some off => rw [h6] at e1; exact ⟨off, rfl, Option.some.inj e1⟩
    obtain ⟨off, h6, h7⟩ := hof
    have h8 : (x.toInt - lo).toNat = j := by rw [hlo, h2]; omega
    exact lv_tableIn X.1 X.2.1 hd (by rw [hlo, h2]; omega) (by omega) (by rw [h8, ← Array.getElem?_toList]; exact h6) h7 (h5 out rfl p e s m args below meth c Q R hR X as ls _ H locs hl hs1 hW hS kr)
theorem eb_lswitch2 {dflt a0 a1 : Int} {len : Nat} {x k0 k1 : Int32} {t0 t1 td : Nat} {o0 o1 od : Option (ρ × eb_S)} (hd : decode cc pc = .ok (.lookupswitch dflt #[(k0.toInt, a0), (k1.toInt, a1)], len)) (hk : k0.toInt < k1.toInt) (h0 : (pc : Int) + a0 = (t0 : Int)) (h1 : (pc : Int) + a1 = (t1 : Int)) (htd : (pc : Int) + dflt = (td : Int)) (g0 : eb_go G y cc nL rt fr mc ms ri enc t0 L st σ cn sn o0) (g1 : eb_go G y cc nL rt fr mc ms ri enc t1 L st σ cn sn o1) (kd : eb_go G y cc nL rt fr mc ms ri enc td L st σ cn sn od) : eb_go G y cc nL rt fr mc ms ri enc pc L (.int x :: st) σ cn sn (eb_lw x [(k0, o0), (k1, o1)] od) := by
  intro out hout p e s m args below meth c Q R hR X as ls cst H locs hl hs hW hS kr
  obtain ⟨c_x, rfl, hs1⟩ := eb_st_i hs
  have hp : (((#[(k0.toInt, a0), (k1.toInt, a1)] : Array (Int × Int)).toList.zip ((#[(k0.toInt, a0), (k1.toInt, a1)] : Array (Int × Int)).toList.drop 1)).all (fun (a, next) => a.1 < next.1)) = true := by simp [hk]
  unfold eb_lw at hout
  by_cases e0 : x = k0
  · rw [if_pos e0] at hout
    refine lv_lookup X.1 X.2.1 hd hp ?_ h0 (g0 out hout p e s m args below meth c Q R hR X as ls _ H locs hl hs1 hW hS kr)
    rw [e0, Op.lookupswitch.offset_cons, if_pos rfl]
  · rw [if_neg e0] at hout
    unfold eb_lw at hout
    by_cases e1 : x = k1
    · rw [if_pos e1] at hout
      refine lv_lookup X.1 X.2.1 hd hp ?_ h1 (g1 out hout p e s m args below meth c Q R hR X as ls _ H locs hl hs1 hW hS kr)
      rw [lv_osw e0 rfl, e1, Op.lookupswitch.offset_cons, if_pos rfl]
    · rw [if_neg e1] at hout
      refine lv_lookup X.1 X.2.1 hd hp ?_ htd (kd out hout p e s m args below meth c Q R hR X as ls _ H locs hl hs1 hW hS kr)
      rw [lv_osw e0 rfl, lv_osw e1 rfl]
      first | rfl | simp [Op.lookupswitch.offset]
/-- a piece of code that several roads come to -/
def eb_jn {α τ : Type} (F : α) (B : α → Option τ) : Option τ := B F
theorem eb_join {α : Type} {F : α} {B : α → Option (ρ × eb_S)} (P : α → Prop) (hF : P F) (k : ∀ j, P j → eb_go G y cc nL rt fr mc ms ri enc pc L st σ cn sn (B j)) : eb_go G y cc nL rt fr mc ms ri enc pc L st σ cn sn (eb_jn F B) := k F hF
/-- three kinds of receiver -/
def eb_d3 {τ : Type} (σ : eb_S) (k a b c : Nat) (o0 o1 o2 : Option τ) : Option τ := if eb_T σ k = a then o0 else if eb_T σ k = b then o1 else if eb_T σ k = c then o2 else none
theorem eb_runs3 {ρ2 : Type} {rest : List Value} {mc1 ms1 k a b c : Nat} {enc2 : ρ2 → Option Value} {o0 o1 o2 : Option (ρ2 × eb_S)} (h0 : eb_runs G y cc nL rt fr mc ms pc st rest σ cn sn mc1 ms1 enc2 (eb_tg σ k a o0)) (h1 : eb_runs G y cc nL rt fr mc ms pc st rest σ cn sn mc1 ms1 enc2 (eb_tg σ k b o1)) (h2 : eb_runs G y cc nL rt fr mc ms pc st rest σ cn sn mc1 ms1 enc2 (eb_tg σ k c o2)) : eb_runs G y cc nL rt fr mc ms pc st rest σ cn sn mc1 ms1 enc2 (eb_d3 σ k a b c o0 o1 o2) := by
  intro out ho
  unfold eb_d3 at ho
  by_cases ha : eb_T σ k = a
  · rw [if_pos ha] at ho
    exact h0 out (by unfold eb_tg; rw [if_pos ha]; exact ho)
  · rw [if_neg ha] at ho
    by_cases hb : eb_T σ k = b
    · rw [if_pos hb] at ho
      exact h1 out (by unfold eb_tg; rw [if_pos hb]; exact ho)
    · rw [if_neg hb] at ho
      by_cases hc : eb_T σ k = c
      · rw [if_pos hc] at ho
        exact h2 out (by unfold eb_tg; rw [if_pos hc]; exact ho)
      · rw [if_neg hc] at ho; cases ho
def eb_ts {τ : Type} (σ : eb_S) (k : Nat) (cs : List Nat) (o : Option τ) : Option τ := if eb_T σ k ∈ cs then o else none
theorem eb_runs3s {ρ2 : Type} {rest : List Value} {mc1 ms1 k a b c : Nat} {enc2 : ρ2 → Option Value} {o0 : Option (ρ2 × eb_S)} (h0 : eb_runs G y cc nL rt fr mc ms pc st rest σ cn sn mc1 ms1 enc2 (eb_tg σ k a o0)) (h1 : eb_runs G y cc nL rt fr mc ms pc st rest σ cn sn mc1 ms1 enc2 (eb_tg σ k b o0)) (h2 : eb_runs G y cc nL rt fr mc ms pc st rest σ cn sn mc1 ms1 enc2 (eb_tg σ k c o0)) : eb_runs G y cc nL rt fr mc ms pc st rest σ cn sn mc1 ms1 enc2 (eb_ts σ k [a, b, c] o0) := by
  intro out ho
  refine eb_runs3 h0 h1 h2 out ?_
  unfold eb_ts at ho
  unfold eb_d3
  by_cases hc : eb_T σ k ∈ [a, b, c]
  · rw [if_pos hc] at ho
    rcases (by simpa using hc : eb_T σ k = a ∨ eb_T σ k = b ∨ eb_T σ k = c) with h | h | h <;> simp [h, ho]
  · rw [if_neg hc] at ho; cases ho
end EBSW
