section EBA
variable {ρ : Type} {G : eb_G} {y : MethodName} {cc : ByteArray} {nL : Nat} {rt : Option FieldType} {fr mc ms : Nat} {ri : Instr} {enc : ρ → List Value} {pc : Nat} {L : List (Nat × Value)} {st : List Value} {σ : eb_S} {cn sn : Nat} {o o1 o2 : Option (ρ × eb_S)}
theorem eb_in_vp {i : Int32} {n : Nat} (h : eb_in i n = true) : vp_in i n := of_decide_eq_true (p := ¬ (i < 0 ∨ n ≤ i.toNatClampNeg)) h
theorem eb_iaload {k : Nat} {i : Int32} {K : Int32 → Option (ρ × eb_S)} (hd : decode cc pc = .ok (.iaload, 1)) (kk : ∀ x, eb_go G y cc nL rt fr mc ms ri enc (pc + 1) L (.int x :: st) σ cn sn (K x)) : eb_go G y cc nL rt fr mc ms ri enc pc L (.int i :: .ref k :: st) σ cn sn (eb_ai σ k i K) := by
  intro out ho p e s m args below meth c Q R hR X as ls cst H locs hl hs hW hS kr
  obtain ⟨c0, rfl, hs0⟩ := eb_st_i hs
  obtain ⟨a, c1, rfl, ha, hs1⟩ := eb_st_r hs0
  unfold eb_ai at ho
  by_cases hc : eb_T σ k = 11 ∧ eb_in i (eb_L σ k) = true
  · rw [if_pos hc] at ho
    obtain ⟨ws, hP, hD, hl1, hl2, hC⟩ := id hW
    obtain ⟨h8, e1, he1, hC1⟩ := eb_W_at hC (by omega) ha
    rw [eb_C_arr hC1 (by omega) (by omega)] at he1
    rw [hc.1] at he1
    exact va_iald X.1 X.2.1 X.2.2.2.2.2.2.2.2.1 hP (k - 8) 1 he1 rfl (eb_in_vp hc.2) hd (kk _ out ho p e s m args below meth c Q R hR X as ls _ H locs hl ⟨rfl, hs1⟩ hW hS kr)
  · rw [if_neg hc] at ho; cases ho

theorem eb_caload {k : Nat} {i : Int32} {K : Int32 → Option (ρ × eb_S)} (hd : decode cc pc = .ok (.caload, 1)) (kk : ∀ x, eb_go G y cc nL rt fr mc ms ri enc (pc + 1) L (.int x :: st) σ cn sn (K x)) : eb_go G y cc nL rt fr mc ms ri enc pc L (.int i :: .ref k :: st) σ cn sn (eb_ac σ k i K) := by
  intro out ho p e s m args below meth c Q R hR X as ls cst H locs hl hs hW hS kr
  obtain ⟨c0, rfl, hs0⟩ := eb_st_i hs
  obtain ⟨a, c1, rfl, ha, hs1⟩ := eb_st_r hs0
  unfold eb_ac at ho
  by_cases hc : eb_T σ k = 10 ∧ eb_in i (eb_L σ k) = true
  · rw [if_pos hc] at ho
    obtain ⟨ws, hP, hD, hl1, hl2, hC⟩ := id hW
    obtain ⟨h8, e1, he1, hC1⟩ := eb_W_at hC (by omega) ha
    rw [eb_C_arr hC1 (by omega) (by omega)] at he1
    rw [hc.1] at he1
    exact va_cald X.1 X.2.1 X.2.2.2.2.2.2.2.2.1 hP (k - 8) 0 he1 rfl (eb_in_vp hc.2) hd (kk _ out ho p e s m args below meth c Q R hR X as ls _ H locs hl ⟨rfl, hs1⟩ hW hS kr)
  · rw [if_neg hc] at ho; cases ho

theorem eb_laload {k : Nat} {i : Int32} {K : Int64 → Option (ρ × eb_S)} (hd : decode cc pc = .ok (.laload, 1)) (kk : ∀ x, eb_go G y cc nL rt fr mc ms ri enc (pc + 1) L (.long x :: st) σ cn sn (K x)) : eb_go G y cc nL rt fr mc ms ri enc pc L (.int i :: .ref k :: st) σ cn sn (eb_al σ k i K) := by
  intro out ho p e s m args below meth c Q R hR X as ls cst H locs hl hs hW hS kr
  obtain ⟨c0, rfl, hs0⟩ := eb_st_i hs
  obtain ⟨a, c1, rfl, ha, hs1⟩ := eb_st_r hs0
  unfold eb_al at ho
  by_cases hc : eb_T σ k = 12 ∧ eb_in i (eb_L σ k) = true
  · rw [if_pos hc] at ho
    obtain ⟨ws, hP, hD, hl1, hl2, hC⟩ := id hW
    obtain ⟨h8, e1, he1, hC1⟩ := eb_W_at hC (by omega) ha
    rw [eb_C_lng hC1 hc.1] at he1
    skip
    exact va_lald X.1 X.2.1 X.2.2.2.2.2.2.2.2.1 hP (k - 8) 2 he1 rfl (eb_in_vp hc.2) hd (kk _ out ho p e s m args below meth c Q R hR X as ls _ H locs hl ⟨rfl, hs1⟩ hW hS kr)
  · rw [if_neg hc] at ho; cases ho

theorem eb_iastore {k : Nat} {i : Int32} {x : Int32} {K : eb_S → Option (ρ × eb_S)} (hd : decode cc pc = .ok (.iastore, 1)) (kk : ∀ σ', eb_go G y cc nL rt fr mc ms ri enc (pc + 1) L st σ' cn sn (K σ')) : eb_go G y cc nL rt fr mc ms ri enc pc L (.int x :: .int i :: .ref k :: st) σ cn sn (eb_wi σ k i x K) := by
  intro out ho p e s m args below meth c Q R hR X as ls cst H locs hl hs hW hS kr
  obtain ⟨c9, rfl, hs9⟩ := eb_st_i hs
  obtain ⟨c0, rfl, hs0⟩ := eb_st_i hs9
  obtain ⟨a, c1, rfl, ha, hs1⟩ := eb_st_r hs0
  unfold eb_wi at ho
  by_cases hc : eb_T σ k = 11 ∧ eb_in i (eb_L σ k) = true
  · rw [if_pos hc] at ho
    obtain ⟨ws, hP, hD, hl1, hl2, hC⟩ := id hW
    obtain ⟨h8, e1, he1, hC1⟩ := eb_W_at hC (by omega) ha
    have hka := (eb_T8 hW (by omega) ha).2
    rw [eb_C_arr hC1 (by omega) (by omega)] at he1
    rw [hc.1] at he1
    refine va_iast X.1 X.2.1 X.2.2.2.2.2.2.2.2.1 hP hD hS (k - 8) 1 he1 rfl (eb_in_vp hc.2) hd (fun H1 locs1 hP1 hD1 hS1 => kk _ out ho p e s m args below meth c Q R hR X as ls _ H1 locs1 hl hs1 (eb_W_set hC (by omega) hka hl1 hl2 hP1 hD1 rfl rfl ?_ (fun i hi => eb_up_n hi) (fun _ _ => rfl) (fun _ _ => rfl) rfl) hS1 kr)
    unfold eb_C
    show (if eb_T σ k < 10 then _ else if eb_T σ k < 12 then _ else _)
    rw [if_neg (by omega), if_pos (by omega)]
    show _ = Sum.inl (eb_gc G (eb_T σ k), eb_L σ k, Sum.inl (eb_up (eb_I σ) k _ k))
    rw [eb_up_s, hc.1]
  · rw [if_neg hc] at ho; cases ho

theorem eb_castore {k : Nat} {i : Int32} {x : Int32} {K : eb_S → Option (ρ × eb_S)} (hd : decode cc pc = .ok (.castore, 1)) (kk : ∀ σ', eb_go G y cc nL rt fr mc ms ri enc (pc + 1) L st σ' cn sn (K σ')) : eb_go G y cc nL rt fr mc ms ri enc pc L (.int x :: .int i :: .ref k :: st) σ cn sn (eb_wc σ k i x K) := by
  intro out ho p e s m args below meth c Q R hR X as ls cst H locs hl hs hW hS kr
  obtain ⟨c9, rfl, hs9⟩ := eb_st_i hs
  obtain ⟨c0, rfl, hs0⟩ := eb_st_i hs9
  obtain ⟨a, c1, rfl, ha, hs1⟩ := eb_st_r hs0
  unfold eb_wc at ho
  by_cases hc : eb_T σ k = 10 ∧ eb_in i (eb_L σ k) = true
  · rw [if_pos hc] at ho
    obtain ⟨ws, hP, hD, hl1, hl2, hC⟩ := id hW
    obtain ⟨h8, e1, he1, hC1⟩ := eb_W_at hC (by omega) ha
    have hka := (eb_T8 hW (by omega) ha).2
    rw [eb_C_arr hC1 (by omega) (by omega)] at he1
    rw [hc.1] at he1
    refine va_cast X.1 X.2.1 X.2.2.2.2.2.2.2.2.1 hP hD hS (k - 8) 0 he1 rfl (eb_in_vp hc.2) hd (fun H1 locs1 hP1 hD1 hS1 => kk _ out ho p e s m args below meth c Q R hR X as ls _ H1 locs1 hl hs1 (eb_W_set hC (by omega) hka hl1 hl2 hP1 hD1 rfl rfl ?_ (fun i hi => eb_up_n hi) (fun _ _ => rfl) (fun _ _ => rfl) rfl) hS1 kr)
    unfold eb_C
    show (if eb_T σ k < 10 then _ else if eb_T σ k < 12 then _ else _)
    rw [if_neg (by omega), if_pos (by omega)]
    show _ = Sum.inl (eb_gc G (eb_T σ k), eb_L σ k, Sum.inl (eb_up (eb_I σ) k _ k))
    rw [eb_up_s, hc.1]
  · rw [if_neg hc] at ho; cases ho

theorem eb_lastore {k : Nat} {i : Int32} {x : Int64} {K : eb_S → Option (ρ × eb_S)} (hd : decode cc pc = .ok (.lastore, 1)) (kk : ∀ σ', eb_go G y cc nL rt fr mc ms ri enc (pc + 1) L st σ' cn sn (K σ')) : eb_go G y cc nL rt fr mc ms ri enc pc L (.long x :: .int i :: .ref k :: st) σ cn sn (eb_wl σ k i x K) := by
  intro out ho p e s m args below meth c Q R hR X as ls cst H locs hl hs hW hS kr
  obtain ⟨c9, rfl, hs9⟩ := eb_st_l hs
  obtain ⟨c0, rfl, hs0⟩ := eb_st_i hs9
  obtain ⟨a, c1, rfl, ha, hs1⟩ := eb_st_r hs0
  unfold eb_wl at ho
  by_cases hc : eb_T σ k = 12 ∧ eb_in i (eb_L σ k) = true
  · rw [if_pos hc] at ho
    obtain ⟨ws, hP, hD, hl1, hl2, hC⟩ := id hW
    obtain ⟨h8, e1, he1, hC1⟩ := eb_W_at hC (by omega) ha
    have hka := (eb_T8 hW (by omega) ha).2
    rw [eb_C_lng hC1 hc.1] at he1
    skip
    refine va_last X.1 X.2.1 X.2.2.2.2.2.2.2.2.1 hP hD hS (k - 8) 2 he1 rfl (eb_in_vp hc.2) hd (fun H1 locs1 hP1 hD1 hS1 => kk _ out ho p e s m args below meth c Q R hR X as ls _ H1 locs1 hl hs1 (eb_W_set hC (by omega) hka hl1 hl2 hP1 hD1 rfl rfl ?_ (fun _ _ => rfl) (fun i hi => eb_up_n hi) (fun _ _ => rfl) rfl) hS1 kr)
    unfold eb_C
    show (if eb_T σ k < 10 then _ else if eb_T σ k < 12 then _ else if eb_T σ k = 12 then _ else _)
    rw [if_neg (by omega), if_neg (by omega), if_pos hc.1]
    show _ = Sum.inl (eb_gc G 12, eb_L σ k, Sum.inr (Sum.inl (eb_up (eb_J σ) k _ k)))
    rw [eb_up_s]
  · rw [if_neg hc] at ho; cases ho

theorem eb_aaload {k : Nat} {i : Int32} {K : Nat → Option (ρ × eb_S)} (hd : decode cc pc = .ok (.aaload, 1)) (kk : ∀ r, eb_go G y cc nL rt fr mc ms ri enc (pc + 1) L (.ref r :: st) σ cn sn (K r)) : eb_go G y cc nL rt fr mc ms ri enc pc L (.int i :: .ref k :: st) σ cn sn (eb_ar σ k i K) := by
  intro out ho p e s m args below meth c Q R hR X as ls cst H locs hl hs hW hS kr
  obtain ⟨c0, rfl, hs0⟩ := eb_st_i hs
  obtain ⟨a, c1, rfl, ha, hs1⟩ := eb_st_r hs0
  unfold eb_ar at ho
  by_cases hc : eb_T σ k = 13 ∧ eb_in i (eb_L σ k) = true ∧ eb_R σ k i.toNatClampNeg ≠ 0
  · rw [if_pos hc] at ho
    obtain ⟨ws, hP, hD, hl1, hl2, hC⟩ := id hW
    obtain ⟨h8, e1, he1, hC1⟩ := eb_W_at hC (by omega) ha
    obtain ⟨f, rfl, hf⟩ := eb_C_ref hC1 hc.1
    have hin := eb_in_vp hc.2.1
    have hin2 : i.toNatClampNeg < eb_L σ k := Nat.lt_of_not_le (fun h => hin (Or.inr h))
    obtain ⟨b, hb1, hb2⟩ := eb_rv_pos (hf _ hin2) hc.2.2
    refine va_aldq X.1 X.2.1 X.2.2.2.2.2.2.2.2.1 hP (k - 8) 3 he1 rfl hin hd ?_
    rw [hb2]
    exact kk _ out ho p e s m args below meth c Q R hR X as ls _ H locs hl ⟨⟨b, hb1, rfl⟩, hs1⟩ hW hS kr
  · rw [if_neg hc] at ho; cases ho

theorem eb_aastore {k r : Nat} {i : Int32} {K : eb_S → Option (ρ × eb_S)} (hd : decode cc pc = .ok (.aastore, 1)) (kk : ∀ σ', eb_go G y cc nL rt fr mc ms ri enc (pc + 1) L st σ' cn sn (K σ')) : eb_go G y cc nL rt fr mc ms ri enc pc L (.ref r :: .int i :: .ref k :: st) σ cn sn (eb_wr σ k i r K) := by
  intro out ho p e s m args below meth c Q R hR X as ls cst H locs hl hs hW hS kr
  obtain ⟨b, c9, rfl, hb, hs9⟩ := eb_st_r hs
  obtain ⟨c0, rfl, hs0⟩ := eb_st_i hs9
  obtain ⟨a, c1, rfl, ha, hs1⟩ := eb_st_r hs0
  unfold eb_wr at ho
  by_cases hc : eb_T σ k = 13 ∧ eb_in i (eb_L σ k) = true ∧ eb_T σ r = 6
  · rw [if_pos hc] at ho
    obtain ⟨ws, hP, hD, hl1, hl2, hC⟩ := id hW
    obtain ⟨h8, e1, he1, hC1⟩ := eb_W_at hC (k := k) (by omega) ha
    obtain ⟨h8r, e2, he2, hC2⟩ := eb_W_at hC (k := r) (by omega) hb
    have hka := (eb_T8 (k := k) hW (by omega) ha).2
    obtain ⟨f, rfl, hf⟩ := eb_C_ref hC1 hc.1
    have hv6 : vwCl[eb_T σ r]? = some (RX7, TX7, 3) := by rw [hc.2.2]; rfl
    obtain ⟨vs, rfl, -⟩ := eb_C_obj hC2 hv6
    have hin := eb_in_vp hc.2.1
    refine va_astq X.1 X.2.1 X.2.2.2.2.2.2.2.2.1 hP hD hS (k - 8) 3 (r - 8) (eb_T σ r) he1 rfl he2 hv6 hin hd (fun H1 locs1 hP1 hD1 hS1 => kk _ out ho p e s m args below meth c Q R hR X as ls _ H1 locs1 hl hs1 (eb_W_set hC (k := k) (by omega) hka hl1 hl2 hP1 hD1 rfl rfl ?_ (fun _ _ => rfl) (fun _ _ => rfl) (fun i hi => eb_up_n hi) rfl) hS1 kr)
    unfold eb_C
    show (if eb_T σ k < 10 then _ else if eb_T σ k < 12 then _ else if eb_T σ k = 12 then _ else _)
    rw [if_neg (by omega), if_neg (by omega), if_neg (by omega)]
    refine ⟨_, rfl, fun j hj => ?_⟩
    show eb_rv G as (eb_up (eb_R σ) k (eb_up (eb_R σ k) i.toNatClampNeg r) k j) _
    rw [eb_up_s]
    by_cases hji : j = i.toNatClampNeg
    · subst hji
      rw [eb_up_s]
      refine Or.inr ⟨b, hb, ?_⟩
      simp [va_up, va_rf]
    · rw [eb_up_n hji]
      have := hf j hj
      simp only [va_up, if_neg hji]
      exact this
  · rw [if_neg hc] at ho; cases ho

theorem eb_alen {k : Nat} {K : Int32 → Option (ρ × eb_S)} (hd : decode cc pc = .ok (.arraylength, 1)) (kk : ∀ x, eb_go G y cc nL rt fr mc ms ri enc (pc + 1) L (.int x :: st) σ cn sn (K x)) : eb_go G y cc nL rt fr mc ms ri enc pc L (.ref k :: st) σ cn sn (eb_ln σ k K) := by
  intro out ho p e s m args below meth c Q R hR X as ls cst H locs hl hs hW hS kr
  obtain ⟨a, c1, rfl, ha, hs1⟩ := eb_st_r hs
  unfold eb_ln at ho
  by_cases hc : 10 ≤ eb_T σ k ∧ eb_T σ k < 14
  · rw [if_pos hc] at ho
    obtain ⟨ws, hP, hD, hl1, hl2, hC⟩ := id hW
    obtain ⟨h8, e1, he1, hC1⟩ := eb_W_at hC (by omega) ha
    have hcase : eb_T σ k = 10 ∨ eb_T σ k = 11 ∨ eb_T σ k = 12 ∨ eb_T σ k = 13 := by omega
    have key : ∃ (t0 : Nat) (x : vp_A) (cA : ClassId) (ty : FieldType), e1 = .inl (cA, x) ∧ x.1 = eb_L σ k ∧ (eb_ty G)[t0]? = some (cA, ty) := by
      rcases hcase with h | h | h | h
      · exact ⟨0, _, _, _, eb_C_arr hC1 (by omega) (by omega), rfl, by rw [h]; rfl⟩
      · exact ⟨1, _, _, _, eb_C_arr hC1 (by omega) (by omega), rfl, by rw [h]; rfl⟩
      · exact ⟨2, _, _, _, eb_C_lng hC1 h, rfl, rfl⟩
      · obtain ⟨f, h2, -⟩ := eb_C_ref hC1 h
        exact ⟨3, _, _, _, h2, rfl, rfl⟩
    obtain ⟨t0, x, cA, ty, rfl, hx, ht⟩ := key
    exact va_alen X.1 X.2.1 X.2.2.2.2.2.2.2.2.1 hP (k - 8) t0 he1 ht (by rw [hx]) hd (kk _ out ho p e s m args below meth c Q R hR X as ls _ H locs hl ⟨rfl, hs1⟩ hW hS kr)
  · rw [if_neg hc] at ho; cases ho

theorem eb_new_T {t n k : Nat} (h : k ≠ eb_N σ + 8) : eb_T (eb_new σ t n) k = eb_T σ k := eb_up_n h
/-- a world with one cell more -/
theorem eb_W_new {as : List Nat} {ws : va_W} {H1 : Heap} {q t n : Nat} {e' : va_E} (h : ∀ k, eb_T σ k < 14 → 8 ≤ k ∧ ∃ a e, as[k - 8]? = some a ∧ ws[k - 8]? = some (a, e) ∧ eb_C G as σ k e) (hl1 : as.length = eb_N σ) (hl2 : ws.length = eb_N σ) (hP : va_P (eb_gD G) vwCl (ws ++ [(q, e')]) H1) (hD : va_D (eb_A G) (ws ++ [(q, e')])) (hC : eb_C G (as ++ [q]) (eb_new σ t n) (eb_N σ + 8) e') : eb_W G (as ++ [q]) (eb_new σ t n) H1 := by
  have hpre : as <+: as ++ [q] := List.prefix_append _ _
  refine ⟨_, hP, hD, by rw [List.length_append, hl1]; rfl, by rw [List.length_append, hl2]; rfl, fun k hk => ?_⟩
  by_cases hkn : k = eb_N σ + 8
  · subst hkn
    refine ⟨by omega, q, e', ?_, ?_, hC⟩
    · rw [List.getElem?_append_right (by omega)]
      simp [hl1]
    · rw [List.getElem?_append_right (by omega)]
      simp [hl2]
  · rw [eb_new_T hkn] at hk
    obtain ⟨h8, a, e, g1, g2, g3⟩ := h k hk
    have b1 : k - 8 < as.length := (List.getElem?_eq_some_iff.mp g1).1
    have b2 : k - 8 < ws.length := (List.getElem?_eq_some_iff.mp g2).1
    refine ⟨h8, a, e, by rw [List.getElem?_append_left b1]; exact g1, by rw [List.getElem?_append_left b2]; exact g2, ?_⟩
    have eI : eb_I (eb_new σ t n) k = eb_I σ k := eb_up_n hkn
    have eJ : eb_J (eb_new σ t n) k = eb_J σ k := eb_up_n hkn
    have eR : eb_R (eb_new σ t n) k = eb_R σ k := eb_up_n hkn
    have eL : eb_L (eb_new σ t n) k = eb_L σ k := eb_up_n hkn
    unfold eb_C eb_fv at g3 ⊢
    rw [eb_new_T hkn, eI, eJ, eR, eL]
    split at g3
    · rename_i hlt
      rw [if_pos hlt]
      obtain ⟨qq, fs, z1, z2, z3, z4⟩ := g3
      refine ⟨qq, fs, z1, z2, z3, fun j hj => ?_⟩
      obtain ⟨w, y1, y2⟩ := z4 j hj
      refine ⟨w, y1, ?_⟩
      split at y2
      · rename_i hr
        rw [if_pos hr]
        exact eb_rv_ext hpre y2
      · rename_i hr
        rw [if_neg hr]
        exact y2
    · rename_i hlt
      rw [if_neg hlt]
      split at g3
      · rename_i h2
        rw [if_pos h2]
        exact g3
      · rename_i h2
        rw [if_neg h2]
        split at g3
        · rename_i h3
          rw [if_pos h3]
          exact g3
        · rename_i h3
          rw [if_neg h3]
          obtain ⟨f, z1, z2⟩ := g3
          exact ⟨f, z1, fun j hj => eb_rv_ext hpre (z2 j hj)⟩
theorem eb_new_I {t n : Nat} : eb_I (eb_new σ t n) (eb_N σ + 8) = fun _ => 0 := eb_up_s
theorem eb_new_J {t n : Nat} : eb_J (eb_new σ t n) (eb_N σ + 8) = fun _ => 0 := eb_up_s
theorem eb_new_R {t n : Nat} : eb_R (eb_new σ t n) (eb_N σ + 8) = fun _ => 0 := eb_up_s
theorem eb_new_Ts {t n : Nat} : eb_T (eb_new σ t n) (eb_N σ + 8) = t := eb_up_s
theorem eb_new_L {t n : Nat} : eb_L (eb_new σ t n) (eb_N σ + 8) = n := eb_up_s
theorem eb_new_a {as : List Nat} {q : Nat} (hl1 : as.length = eb_N σ) : eb_a G (as ++ [q]) (eb_N σ + 8) = some q := by
  unfold eb_a
  rw [if_neg (by omega), if_neg (by omega), List.getElem?_append_right (by omega)]
  simp [hl1]

theorem eb_newi {i : Int32} {B : Nat} {K : Nat → eb_S → Option (ρ × eb_S)} (hw : Cond.arrayClass .int ∈ eb_tbl) (hd : decode cc pc = .ok (.newarray .int, 2)) (hB : B ≤ 100000) (h1 : cn + 1 ≤ mc) (h2 : sn + B ≤ ms) (kk : ∀ r σ', eb_go G y cc nL rt fr mc ms ri enc (pc + 2) L (.ref r :: st) σ' (cn + 1) (sn + B) (K r σ')) : eb_go G y cc nL rt fr mc ms ri enc pc L (.int i :: st) σ cn sn (eb_na σ 11 B i K) := by
  intro out ho p e s m args below meth c Q R hR X as ls cst H locs hl hs hW hS kr
  obtain ⟨c0, rfl, hs0⟩ := eb_st_i hs
  unfold eb_na at ho
  by_cases hc : ¬ i < 0 ∧ i.toNatClampNeg ≤ B
  · rw [if_pos hc] at ho
    obtain ⟨ws, hP, hD, hl1, hl2, hC⟩ := id hW
    refine va_newa (atype := .int) (ty := .int) (a0 := (i.toNatClampNeg, .inl (fun _ => 0))) (N' := i.toNatClampNeg) X.1 X.2.1 (X.2.2.2.2.2.2.2.1 _ hw) rfl X.2.2.2.2.2.2.2.2.1 hP hD hS (fun q hq => Nat.le_trans X.2.2.2.2.2.2.2.2.2.1 hq) (fun cA => rfl) hc.1 rfl (Nat.le_trans (Nat.mul_le_mul_right _ (Nat.le_trans hc.2 hB)) (by decide)) (by omega) (by omega) hd (fun q cA H1 hK1 hP1 hD1 hS1 => ?_)
    have hcA : cA = eb_gc G 11 := by
      have e1 := (hK1.2 4 (cA, .int) rfl).2
      have e2 := (X.2.2.2.2.2.2.2.2.1.2 1 (eb_gc G 11, .int) rfl).2
      exact Option.some.inj (e1.symm.trans e2)
    subst hcA
    refine W.widen (k := cn + 1) (n := sn + B) (Nat.le_refl _) (by omega) ?_
    refine kk _ _ out ho p e s m args below meth c Q R hR X (as ++ [q]) ls _ H1 locs (eb_lo_ext (List.prefix_append _ _) hl) ⟨⟨q, eb_new_a hl1, rfl⟩, eb_st_ext (List.prefix_append _ _) hs0⟩ (eb_W_new hC hl1 hl2 hP1 hD1 ?_) hS1 (fun as' ls' H' locs' pc' c' s' hp => kr as' ls' H' locs' pc' c' s' ((List.prefix_append _ _).trans hp))
    unfold eb_C
    rw [eb_new_Ts, if_neg (by decide), if_pos (by decide), eb_new_L, eb_new_I]
  · rw [if_neg hc] at ho; cases ho

theorem eb_newc {i : Int32} {B : Nat} {K : Nat → eb_S → Option (ρ × eb_S)} (hw : Cond.arrayClass .char ∈ eb_tbl) (hd : decode cc pc = .ok (.newarray .char, 2)) (hB : B ≤ 100000) (h1 : cn + 1 ≤ mc) (h2 : sn + B ≤ ms) (kk : ∀ r σ', eb_go G y cc nL rt fr mc ms ri enc (pc + 2) L (.ref r :: st) σ' (cn + 1) (sn + B) (K r σ')) : eb_go G y cc nL rt fr mc ms ri enc pc L (.int i :: st) σ cn sn (eb_na σ 10 B i K) := by
  intro out ho p e s m args below meth c Q R hR X as ls cst H locs hl hs hW hS kr
  obtain ⟨c0, rfl, hs0⟩ := eb_st_i hs
  unfold eb_na at ho
  by_cases hc : ¬ i < 0 ∧ i.toNatClampNeg ≤ B
  · rw [if_pos hc] at ho
    obtain ⟨ws, hP, hD, hl1, hl2, hC⟩ := id hW
    refine va_newa (atype := .char) (ty := .char) (a0 := (i.toNatClampNeg, .inl (fun _ => 0))) (N' := i.toNatClampNeg) X.1 X.2.1 (X.2.2.2.2.2.2.2.1 _ hw) rfl X.2.2.2.2.2.2.2.2.1 hP hD hS (fun q hq => Nat.le_trans X.2.2.2.2.2.2.2.2.2.1 hq) (fun cA => rfl) hc.1 rfl (Nat.le_trans (Nat.mul_le_mul_right _ (Nat.le_trans hc.2 hB)) (by decide)) (by omega) (by omega) hd (fun q cA H1 hK1 hP1 hD1 hS1 => ?_)
    have hcA : cA = eb_gc G 10 := by
      have e1 := (hK1.2 4 (cA, .char) rfl).2
      have e2 := (X.2.2.2.2.2.2.2.2.1.2 0 (eb_gc G 10, .char) rfl).2
      exact Option.some.inj (e1.symm.trans e2)
    subst hcA
    refine W.widen (k := cn + 1) (n := sn + B) (Nat.le_refl _) (by omega) ?_
    refine kk _ _ out ho p e s m args below meth c Q R hR X (as ++ [q]) ls _ H1 locs (eb_lo_ext (List.prefix_append _ _) hl) ⟨⟨q, eb_new_a hl1, rfl⟩, eb_st_ext (List.prefix_append _ _) hs0⟩ (eb_W_new hC hl1 hl2 hP1 hD1 ?_) hS1 (fun as' ls' H' locs' pc' c' s' hp => kr as' ls' H' locs' pc' c' s' ((List.prefix_append _ _).trans hp))
    unfold eb_C
    rw [eb_new_Ts, if_neg (by decide), if_pos (by decide), eb_new_L, eb_new_I]
  · rw [if_neg hc] at ho; cases ho

theorem eb_newl {i : Int32} {B : Nat} {K : Nat → eb_S → Option (ρ × eb_S)} (hw : Cond.arrayClass .long ∈ eb_tbl) (hd : decode cc pc = .ok (.newarray .long, 2)) (hB : B ≤ 100000) (h1 : cn + 1 ≤ mc) (h2 : sn + B ≤ ms) (kk : ∀ r σ', eb_go G y cc nL rt fr mc ms ri enc (pc + 2) L (.ref r :: st) σ' (cn + 1) (sn + B) (K r σ')) : eb_go G y cc nL rt fr mc ms ri enc pc L (.int i :: st) σ cn sn (eb_na σ 12 B i K) := by
  intro out ho p e s m args below meth c Q R hR X as ls cst H locs hl hs hW hS kr
  obtain ⟨c0, rfl, hs0⟩ := eb_st_i hs
  unfold eb_na at ho
  by_cases hc : ¬ i < 0 ∧ i.toNatClampNeg ≤ B
  · rw [if_pos hc] at ho
    obtain ⟨ws, hP, hD, hl1, hl2, hC⟩ := id hW
    refine va_newa (atype := .long) (ty := .long) (a0 := (i.toNatClampNeg, .inr (.inl (fun _ => 0)))) (N' := i.toNatClampNeg) X.1 X.2.1 (X.2.2.2.2.2.2.2.1 _ hw) rfl X.2.2.2.2.2.2.2.2.1 hP hD hS (fun q hq => Nat.le_trans X.2.2.2.2.2.2.2.2.2.1 hq) (fun cA => rfl) hc.1 rfl (Nat.le_trans (Nat.mul_le_mul_right _ (Nat.le_trans hc.2 hB)) (by decide)) (by omega) (by omega) hd (fun q cA H1 hK1 hP1 hD1 hS1 => ?_)
    have hcA : cA = eb_gc G 12 := by
      have e1 := (hK1.2 4 (cA, .long) rfl).2
      have e2 := (X.2.2.2.2.2.2.2.2.1.2 2 (eb_gc G 12, .long) rfl).2
      exact Option.some.inj (e1.symm.trans e2)
    subst hcA
    refine W.widen (k := cn + 1) (n := sn + B) (Nat.le_refl _) (by omega) ?_
    refine kk _ _ out ho p e s m args below meth c Q R hR X (as ++ [q]) ls _ H1 locs (eb_lo_ext (List.prefix_append _ _) hl) ⟨⟨q, eb_new_a hl1, rfl⟩, eb_st_ext (List.prefix_append _ _) hs0⟩ (eb_W_new hC hl1 hl2 hP1 hD1 ?_) hS1 (fun as' ls' H' locs' pc' c' s' hp => kr as' ls' H' locs' pc' c' s' ((List.prefix_append _ _).trans hp))
    unfold eb_C
    rw [eb_new_Ts, if_neg (by decide), if_neg (by decide), if_pos rfl, eb_new_L, eb_new_J]
  · rw [if_neg hc] at ho; cases ho

theorem eb_newq {idx : Nat} {i : Int32} {B : Nat} {K : Nat → eb_S → Option (ρ × eb_S)} (hcl : Cond.classLink y.cls idx RX7 ∈ eb_tbl) (hd : decode cc pc = .ok (.anewarray idx, 3)) (hB : B ≤ 100000) (h1 : cn + 1 ≤ mc) (h2 : sn + B ≤ ms) (kk : ∀ r σ', eb_go G y cc nL rt fr mc ms ri enc (pc + 3) L (.ref r :: st) σ' (cn + 1) (sn + B) (K r σ')) : eb_go G y cc nL rt fr mc ms ri enc pc L (.int i :: st) σ cn sn (eb_na σ 13 B i K) := by
  intro out ho p e s m args below meth c Q R hR X as ls cst H locs hl hs hW hS kr
  obtain ⟨c0, rfl, hs0⟩ := eb_st_i hs
  unfold eb_na at ho
  by_cases hc : ¬ i < 0 ∧ i.toNatClampNeg ≤ B
  · rw [if_pos hc] at ho
    obtain ⟨ws, hP, hD, hl1, hl2, hC⟩ := id hW
    have hov : va_AO RX7 s := X.2.2.2.2.2.2.2.2.2.2.2.2.2.1
    refine va_newq (N' := i.toNatClampNeg) X.1 X.2.1 X.2.2.2.2.2.1 (X.2.2.2.2.2.2.2.1 _ hcl) hov X.2.2.2.2.2.2.2.2.1 hP hD hS (fun q hq => Nat.le_trans X.2.2.2.2.2.2.2.2.2.1 hq) hc.1 rfl (Nat.le_trans (Nat.mul_le_mul_right _ (Nat.le_trans hc.2 hB)) (by decide)) (by omega) (by omega) hd (fun q cA H1 hK1 hP1 hD1 hS1 => ?_)
    have hcA : cA = eb_gc G 13 := by
      obtain ⟨k1, c1, -, -, -, e1⟩ := (hK1.2 4 (cA, .object RX7) rfl).2
      obtain ⟨k2, c2, -, -, -, e2⟩ := (X.2.2.2.2.2.2.2.2.1.2 3 (eb_gc G 13, .object RX7) rfl).2
      exact Option.some.inj (e1.symm.trans e2)
    subst hcA
    refine W.widen (k := cn + 1) (n := sn + B) (Nat.le_refl _) (by omega) ?_
    refine kk _ _ out ho p e s m args below meth c Q R hR X (as ++ [q]) ls _ H1 locs (eb_lo_ext (List.prefix_append _ _) hl) ⟨⟨q, eb_new_a hl1, rfl⟩, eb_st_ext (List.prefix_append _ _) hs0⟩ (eb_W_new hC hl1 hl2 hP1 hD1 ?_) hS1 (fun as' ls' H' locs' pc' c' s' hp => kr as' ls' H' locs' pc' c' s' ((List.prefix_append _ _).trans hp))
    unfold eb_C
    rw [eb_new_Ts, if_neg (by decide), if_neg (by decide), if_neg (by decide), eb_new_L, eb_new_R]
    exact ⟨_, rfl, fun j hj => Or.inl ⟨rfl, rfl⟩⟩
  · rw [if_neg hc] at ho; cases ho
def eb_df (ci : Nat) : Bool := match vwCl[ci]? with
  | none => false
  | some q => (List.range q.2.2).all fun a => decide (defaultValue ((parseFieldDescriptor (q.2.1 a).2.2.1).getD .int) = if eb_isR ci a = true then .null else .int 0)
theorem eb_df_ok : ∀ ci, ci < 10 → eb_df ci = true := by decide +kernel
theorem eb_newo {idx ci n : Nat} {q : vw_C} {K : Nat → eb_S → Option (ρ × eb_S)} (hq : vwCl[ci]? = some q) (hn : q.2.2 = n) (hin : ∀ w ∈ u_ws q.1 q.2.1 q.2.2, w ∈ eb_tbl) (hcl : Cond.classLink y.cls idx q.1 ∈ eb_tbl) (hit : Cond.instantiable q.1 q.2.2 ∈ eb_tbl) (hii : Cond.initialized q.1 ∈ eb_tbl) (hd : decode cc pc = .ok (.new idx, 3)) (h1 : cn + 1 ≤ mc) (h2 : sn + n ≤ ms) (kk : ∀ r σ', eb_go G y cc nL rt fr mc ms ri enc (pc + 3) L (.ref r :: st) σ' (cn + 1) (sn + n) (K r σ')) : eb_go G y cc nL rt fr mc ms ri enc pc L st σ cn sn (eb_no σ ci n K) := by
  intro out ho p e s m args below meth c Q R hR X as ls cst H locs hl hs hW hS kr
  unfold eb_no at ho
  subst hn
  obtain ⟨ws, hP, hD, hl1, hl2, hC⟩ := id hW
  have hdf := eb_df_ok ci (eb_vw_lt hq)
  rw [eb_df, hq] at hdf
  have hdf2 : ∀ a, a < q.2.2 → defaultValue ((parseFieldDescriptor (q.2.1 a).2.2.1).getD .int) = if eb_isR ci a = true then .null else .int 0 := fun a ha => of_decide_eq_true (List.all_eq_true.mp hdf a (List.mem_range.mpr ha))
  have hfv : ∀ j, j < q.2.2 → ((List.range q.2.2).map (fun a => if eb_isR ci a = true then Value.null else .int 0))[j]? = some (if eb_isR ci j = true then .null else .int 0) := fun j hj => by
    rw [List.getElem?_map, List.getElem?_range hj]; rfl
  refine va_new (ci := ci) (fs := (List.range q.2.2).map (fun a => if eb_isR ci a = true then Value.null else .int 0)) (C := q.1) (T := q.2.1) (N := q.2.2) X.1 X.2.1 X.2.2.2.2.2.2.2.1 hin _ (eb_tys hq) X.2.2.2.2.2.1 (X.2.2.2.2.2.2.2.1 _ hcl) (X.2.2.2.2.2.2.2.1 _ hit) (X.2.2.2.2.2.2.2.1 _ hii) X.2.2.2.2.2.2.2.2.1 hP hD hS (fun q hq => Nat.le_trans X.2.2.2.2.2.2.2.2.2.1 hq) hq (fun j hj => ?_) (by omega) (by omega) hd (fun q1 H1 hP1 hD1 hS1 => ?_)
  · rw [hdf2 j hj, vp_V, List.getD_eq_getElem?_getD, hfv j hj]; rfl
  · refine kk _ _ out ho p e s m args below meth c Q R hR X (as ++ [q1]) ls _ H1 locs (eb_lo_ext (List.prefix_append _ _) hl) ⟨⟨q1, eb_new_a hl1, rfl⟩, eb_st_ext (List.prefix_append _ _) hs⟩ (eb_W_new hC hl1 hl2 hP1 hD1 ?_) hS1 (fun as' ls' H' locs' pc' c' s' hp => kr as' ls' H' locs' pc' c' s' ((List.prefix_append _ _).trans hp))
    unfold eb_C
    rw [eb_new_Ts, if_pos (eb_vw_lt hq)]
    refine ⟨q, _, hq, rfl, by rw [List.length_map, List.length_range], fun j hj => ⟨_, hfv j hj, ?_⟩⟩
    unfold eb_fv
    rw [eb_new_R, eb_new_I]
    split
    · exact Or.inl ⟨rfl, rfl⟩
    · rfl

theorem eb_fix {s : State} {H : Heap} {locs : List Loc} (hE : eb_E G s) (hS : va_S (eb_A G) s.heap H locs) {r : Nat} (h0 : 0 < r) (h5 : r < 5) : ∃ cell : Cell, H[eb_ga G r]? = some cell ∧ s.isArrayOf cell .int ∧ cell.vm ≠ .unknown ∧ (eb_gn G r ≤ cell.slots.size ∧ cell.slots.size.toInt32 = Int32.ofNat (eb_gn G r)) ∧ (∀ j, j < eb_gn G r → cell.slots[j]? = some (.int (eb_gx G r j))) := by
  obtain ⟨cell, h1, h2, h3, h4, h6, h7⟩ := hE.2.2.1.1 r h0 h5
  refine ⟨cell, ?_, h2, h3, h4, h6⟩
  rw [hS.2.1 (eb_ga G r) (Array.getElem?_eq_some_iff.mp h1).1 (fun h => absurd h7 (Nat.not_lt.mpr h))]
  exact h1
theorem eb_a_fix {as : List Nat} {r : Nat} (h0 : 0 < r) (h8 : r < 8) : eb_a G as r = some (eb_ga G r) := by
  unfold eb_a
  rw [if_neg (by omega), if_pos h8]
theorem eb_ialoadx {r n : Nat} {f : Nat → Int32} {i : Int32} {K : Int32 → Option (ρ × eb_S)} (hr : 0 < r ∧ r < 5) (hn : eb_gn G r = n) (hf : eb_gx G r = f) (hd : decode cc pc = .ok (.iaload, 1)) (kk : ∀ x, eb_go G y cc nL rt fr mc ms ri enc (pc + 1) L (.int x :: st) σ cn sn (K x)) : eb_go G y cc nL rt fr mc ms ri enc pc L (.int i :: .ref r :: st) σ cn sn (eb_xi n f i K) := by
  intro out ho p e s m args below meth c Q R hR X as ls cst H locs hl hs hW hS kr
  obtain ⟨c0, rfl, hs0⟩ := eb_st_i hs
  obtain ⟨a, c1, rfl, ha, hs1⟩ := eb_st_r hs0
  rw [eb_a_fix hr.1 (by omega)] at ha
  cases ha
  unfold eb_xi at ho
  subst hn; subst hf
  by_cases hc : eb_in i (eb_gn G r) = true
  · rw [if_pos hc] at ho
    obtain ⟨cell, g1, g2, g3, g4, g5⟩ := eb_fix X.2.2.2.2.2.2.2.2 hS hr.1 hr.2
    have hin := eb_in_vp hc
    have hin2 : i.toNatClampNeg < eb_gn G r := Nat.lt_of_not_le (fun h => hin (Or.inr h))
    exact W.iald X.1 X.2.1 g1 g2 g3 (fun h => hin (h.elim Or.inl (fun h => Or.inr (Nat.le_trans g4.1 h)))) (g5 _ hin2) rfl rfl hd (kk _ out ho p e s m args below meth c Q R hR X as ls _ H locs hl ⟨rfl, hs1⟩ hW hS kr)
  · rw [if_neg hc] at ho; cases ho
theorem eb_alenx {r n : Nat} (hr : 0 < r ∧ r < 5) (hn : eb_gn G r = n) (hd : decode cc pc = .ok (.arraylength, 1)) (kk : eb_go G y cc nL rt fr mc ms ri enc (pc + 1) L (.int (Int32.ofNat n) :: st) σ cn sn o) : eb_go G y cc nL rt fr mc ms ri enc pc L (.ref r :: st) σ cn sn o := by
  intro out ho p e s m args below meth c Q R hR X as ls cst H locs hl hs hW hS kr
  obtain ⟨a, c1, rfl, ha, hs1⟩ := eb_st_r hs
  rw [eb_a_fix hr.1 (by omega)] at ha
  cases ha
  subst hn
  obtain ⟨cell, g1, g2, g3, g4, g5⟩ := eb_fix X.2.2.2.2.2.2.2.2 hS hr.1 hr.2
  exact W.alen X.1 X.2.1 g1 g2 g4.2 rfl rfl hd (kk out ho p e s m args below meth c Q R hR X as ls _ H locs hl ⟨rfl, hs1⟩ hW hS kr)
theorem eb_gets {idx r : Nat} {C n : String} (hq : (C, n, r) ∈ eb_stats) (hr : 0 < r ∧ r < 8) (hlk : Cond.fieldLink y.cls idx C n "[I" ∈ eb_tbl) (hd : decode cc pc = .ok (.getstatic idx, 3)) (kk : eb_go G y cc nL rt fr mc ms ri enc (pc + 3) L (.ref r :: st) σ cn sn o) : eb_go G y cc nL rt fr mc ms ri enc pc L st σ cn sn o := by
  intro out ho p e s m args below meth c Q R hR X as ls cst H locs hl hs hW hS kr
  exact va_gets X.1 X.2.1 (X.2.2.2.2.2.2.2.2.2.2.1.2 _ hq) hS X.2.2.2.2.2.1 (X.2.2.2.2.2.2.2.1 _ hlk) (fun _ h => h) hd (kk out ho p e s m args below meth c Q R hR X as ls _ H locs hl ⟨⟨_, eb_a_fix hr.1 hr.2, rfl⟩, hs⟩ hW hS kr)

theorem eb_mmax {idx : Nat} {a : Int32} {b : Int32} (hlk : Cond.methodLink y.cls idx Lib.Math.max.name ∈ eb_tbl) (hst : Cond.static Lib.Math.max.name ∈ eb_tbl) (hii : Cond.initialized "java/lang/Math" ∈ eb_tbl) (hcd : Cond.code Lib.Math.max.name Lib.Math.max.code 2 (some .int) ∈ eb_tbl) (hfr : 1 ≤ fr) (hsm : (st.map fun v => v.category).sum ≤ 8) (h1 : cn ≤ mc) (h2 : sn ≤ ms) (hd : decode cc pc = .ok (.invokestatic idx, 3)) (kk : eb_go G y cc nL rt fr mc ms ri enc (pc + 3) L (.int (if a < b then b else a) :: st) σ cn sn o) : eb_go G y cc nL rt fr mc ms ri enc pc L (.int b :: .int a :: st) σ cn sn o := by
  intro out ho p e s m args below meth c Q R hR X as ls cst H locs hl hs hW hS kr
  obtain ⟨cb, rfl, hsb⟩ := eb_st_i hs
  obtain ⟨ca, rfl, hsa⟩ := eb_st_i hsb
  exact va_mmax X.1 X.2.1 (by rw [X.2.2.2.2.1]; exact hl.1.symm) X.2.2.2.2.2.1 (X.2.2.2.2.2.2.2.1 _ hlk) (X.2.2.2.2.2.2.2.1 _ hst) (X.2.2.2.2.2.2.2.1 _ hii) (X.2.2.2.2.2.2.2.1 _ hcd) (by omega) (by rw [eb_st_cat hsa]; omega) (by omega) (by omega) hd (kk out ho p e s m args below meth c Q R hR X as ls _ H locs hl ⟨rfl, hsa⟩ hW hS kr)

theorem eb_mmin {idx : Nat} {a : Int32} {b : Int32} (hlk : Cond.methodLink y.cls idx Lib.Math.min.name ∈ eb_tbl) (hst : Cond.static Lib.Math.min.name ∈ eb_tbl) (hii : Cond.initialized "java/lang/Math" ∈ eb_tbl) (hcd : Cond.code Lib.Math.min.name Lib.Math.min.code 2 (some .int) ∈ eb_tbl) (hfr : 1 ≤ fr) (hsm : (st.map fun v => v.category).sum ≤ 8) (h1 : cn ≤ mc) (h2 : sn ≤ ms) (hd : decode cc pc = .ok (.invokestatic idx, 3)) (kk : eb_go G y cc nL rt fr mc ms ri enc (pc + 3) L (.int (if b < a then b else a) :: st) σ cn sn o) : eb_go G y cc nL rt fr mc ms ri enc pc L (.int b :: .int a :: st) σ cn sn o := by
  intro out ho p e s m args below meth c Q R hR X as ls cst H locs hl hs hW hS kr
  obtain ⟨cb, rfl, hsb⟩ := eb_st_i hs
  obtain ⟨ca, rfl, hsa⟩ := eb_st_i hsb
  exact va_mmin X.1 X.2.1 (by rw [X.2.2.2.2.1]; exact hl.1.symm) X.2.2.2.2.2.1 (X.2.2.2.2.2.2.2.1 _ hlk) (X.2.2.2.2.2.2.2.1 _ hst) (X.2.2.2.2.2.2.2.1 _ hii) (X.2.2.2.2.2.2.2.1 _ hcd) (by omega) (by rw [eb_st_cat hsa]; omega) (by omega) (by omega) hd (kk out ho p e s m args below meth c Q R hR X as ls _ H locs hl ⟨rfl, hsa⟩ hW hS kr)

theorem eb_mabs {idx : Nat} {a : Int32} (hlk : Cond.methodLink y.cls idx Lib.Math.abs.name ∈ eb_tbl) (hst : Cond.static Lib.Math.abs.name ∈ eb_tbl) (hii : Cond.initialized "java/lang/Math" ∈ eb_tbl) (hcd : Cond.code Lib.Math.abs.name Lib.Math.abs.code 1 (some .int) ∈ eb_tbl) (hfr : 1 ≤ fr) (hsm : (st.map fun v => v.category).sum ≤ 8) (h1 : cn ≤ mc) (h2 : sn ≤ ms) (hd : decode cc pc = .ok (.invokestatic idx, 3)) (kk : eb_go G y cc nL rt fr mc ms ri enc (pc + 3) L (.int (if 0 ≤ a then a else 0 - a) :: st) σ cn sn o) : eb_go G y cc nL rt fr mc ms ri enc pc L (.int a :: st) σ cn sn o := by
  intro out ho p e s m args below meth c Q R hR X as ls cst H locs hl hs hW hS kr
  obtain ⟨ca, rfl, hsa⟩ := eb_st_i hs
  exact va_mabs X.1 X.2.1 (by rw [X.2.2.2.2.1]; exact hl.1.symm) X.2.2.2.2.2.1 (X.2.2.2.2.2.2.2.1 _ hlk) (X.2.2.2.2.2.2.2.1 _ hst) (X.2.2.2.2.2.2.2.1 _ hii) (X.2.2.2.2.2.2.2.1 _ hcd) (by omega) (by rw [eb_st_cat hsa]; omega) (by omega) (by omega) hd (kk out ho p e s m args below meth c Q R hR X as ls _ H locs hl ⟨rfl, hsa⟩ hW hS kr)

theorem eb_copyi {idx : Nat} {k1 k2 : Nat} {sp dp n : Int32} {K : eb_S → Option (ρ × eb_S)} (hlk : Cond.methodLink y.cls idx arraycopyName ∈ eb_tbl) (hna : Cond.native arraycopyName ∈ eb_tbl) (hst : Cond.static arraycopyName ∈ eb_tbl) (hii : Cond.initialized "java/lang/System" ∈ eb_tbl) (hfr : 1 ≤ fr) (hsm : (st.map fun v => v.category).sum ≤ 8) (hd : decode cc pc = .ok (.invokestatic idx, 3)) (kk : ∀ σ', eb_go G y cc nL rt fr mc ms ri enc (pc + 3) L st σ' cn sn (K σ')) : eb_go G y cc nL rt fr mc ms ri enc pc L (.int n :: .int dp :: .ref k2 :: .int sp :: .ref k1 :: st) σ cn sn (eb_ci σ k1 sp k2 dp n K) := by
  intro out ho p e s m args below meth c Q R hR X as ls cst H locs hl hs hW hS kr
  obtain ⟨c1, rfl, hs1⟩ := eb_st_i hs
  obtain ⟨c2, rfl, hs2⟩ := eb_st_i hs1
  obtain ⟨a2, c3, rfl, ha2, hs3⟩ := eb_st_r hs2
  obtain ⟨c4, rfl, hs4⟩ := eb_st_i hs3
  obtain ⟨a1, c5, rfl, ha1, hs5⟩ := eb_st_r hs4
  unfold eb_ci at ho
  by_cases hc : eb_T σ k1 = 11 ∧ eb_T σ k2 = 11 ∧ ¬ sp < 0 ∧ ¬ dp < 0 ∧ ¬ n < 0 ∧ sp.toNatClampNeg + n.toNatClampNeg ≤ eb_L σ k1 ∧ dp.toNatClampNeg + n.toNatClampNeg ≤ eb_L σ k2
  · rw [if_pos hc] at ho
    obtain ⟨ws, hP, hD, hl1, hl2, hC⟩ := id hW
    obtain ⟨h8, e1, he1, hC1⟩ := eb_W_at hC (k := k1) (by omega) ha1
    obtain ⟨h82, e2, he2, hC2⟩ := eb_W_at hC (k := k2) (by omega) ha2
    have hka := (eb_T8 (k := k2) hW (by omega) ha2).2
    rw [eb_C_arr hC1 (by omega) (by omega), hc.1] at he1
    rw [eb_C_arr hC2 (by omega) (by omega), hc.2.1] at he2
    have hw9 : nativeFrameWords "java/lang/System" "arraycopy" 5 + 11 ≤ 32 := by decide +kernel
    refine va_copyi X.1 X.2.1 (by rw [X.2.2.2.2.1]; exact hl.1.symm) X.2.2.2.2.2.1 (X.2.2.2.2.2.2.2.1 _ hlk) (X.2.2.2.2.2.2.2.1 _ hna) (X.2.2.2.2.2.2.2.1 _ hst) (X.2.2.2.2.2.2.2.1 _ hii) X.2.2.2.2.2.2.2.2.1 hP hD hS (k1 - 8) (k2 - 8) 1 1 he1 he2 rfl rfl rfl hc.2.2.1 hc.2.2.2.1 hc.2.2.2.2.1 hc.2.2.2.2.2.1 hc.2.2.2.2.2.2 (fun _ _ => rfl) (by omega) (by rw [eb_st_cat hs5]; omega) hd (fun H1 locs1 hP1 hD1 hS1 => kk _ out ho p e s m args below meth c Q R hR X as ls _ H1 locs1 hl hs5 (eb_W_set hC (k := k2) (by omega) hka hl1 hl2 hP1 hD1 rfl rfl ?_ (fun i hi => eb_up_n hi) (fun _ _ => rfl) (fun _ _ => rfl) rfl) hS1 kr)
    unfold eb_C
    show (if eb_T σ k2 < 10 then _ else if eb_T σ k2 < 12 then _ else _)
    rw [if_neg (by omega), if_pos (by omega)]
    show _ = Sum.inl (eb_gc G (eb_T σ k2), eb_L σ k2, Sum.inl (eb_up (eb_I σ) k2 _ k2))
    rw [eb_up_s, hc.2.1]
  · rw [if_neg hc] at ho; cases ho

theorem eb_copyj {idx : Nat} {k1 k2 : Nat} {sp dp n : Int32} {K : eb_S → Option (ρ × eb_S)} (hlk : Cond.methodLink y.cls idx arraycopyName ∈ eb_tbl) (hna : Cond.native arraycopyName ∈ eb_tbl) (hst : Cond.static arraycopyName ∈ eb_tbl) (hii : Cond.initialized "java/lang/System" ∈ eb_tbl) (hfr : 1 ≤ fr) (hsm : (st.map fun v => v.category).sum ≤ 8) (hd : decode cc pc = .ok (.invokestatic idx, 3)) (kk : ∀ σ', eb_go G y cc nL rt fr mc ms ri enc (pc + 3) L st σ' cn sn (K σ')) : eb_go G y cc nL rt fr mc ms ri enc pc L (.int n :: .int dp :: .ref k2 :: .int sp :: .ref k1 :: st) σ cn sn (eb_cj σ k1 sp k2 dp n K) := by
  intro out ho p e s m args below meth c Q R hR X as ls cst H locs hl hs hW hS kr
  obtain ⟨c1, rfl, hs1⟩ := eb_st_i hs
  obtain ⟨c2, rfl, hs2⟩ := eb_st_i hs1
  obtain ⟨a2, c3, rfl, ha2, hs3⟩ := eb_st_r hs2
  obtain ⟨c4, rfl, hs4⟩ := eb_st_i hs3
  obtain ⟨a1, c5, rfl, ha1, hs5⟩ := eb_st_r hs4
  unfold eb_cj at ho
  by_cases hc : eb_T σ k1 = 12 ∧ eb_T σ k2 = 12 ∧ ¬ sp < 0 ∧ ¬ dp < 0 ∧ ¬ n < 0 ∧ sp.toNatClampNeg + n.toNatClampNeg ≤ eb_L σ k1 ∧ dp.toNatClampNeg + n.toNatClampNeg ≤ eb_L σ k2
  · rw [if_pos hc] at ho
    obtain ⟨ws, hP, hD, hl1, hl2, hC⟩ := id hW
    obtain ⟨h8, e1, he1, hC1⟩ := eb_W_at hC (k := k1) (by omega) ha1
    obtain ⟨h82, e2, he2, hC2⟩ := eb_W_at hC (k := k2) (by omega) ha2
    have hka := (eb_T8 (k := k2) hW (by omega) ha2).2
    rw [eb_C_lng hC1 hc.1] at he1
    rw [eb_C_lng hC2 hc.2.1] at he2
    have hw9 : nativeFrameWords "java/lang/System" "arraycopy" 5 + 11 ≤ 32 := by decide +kernel
    refine va_copyl X.1 X.2.1 (by rw [X.2.2.2.2.1]; exact hl.1.symm) X.2.2.2.2.2.1 (X.2.2.2.2.2.2.2.1 _ hlk) (X.2.2.2.2.2.2.2.1 _ hna) (X.2.2.2.2.2.2.2.1 _ hst) (X.2.2.2.2.2.2.2.1 _ hii) X.2.2.2.2.2.2.2.2.1 hP hD hS (k1 - 8) (k2 - 8) 2 2 he1 he2 rfl rfl rfl hc.2.2.1 hc.2.2.2.1 hc.2.2.2.2.1 hc.2.2.2.2.2.1 hc.2.2.2.2.2.2 (fun _ _ => rfl) (by omega) (by rw [eb_st_cat hs5]; omega) hd (fun H1 locs1 hP1 hD1 hS1 => kk _ out ho p e s m args below meth c Q R hR X as ls _ H1 locs1 hl hs5 (eb_W_set hC (k := k2) (by omega) hka hl1 hl2 hP1 hD1 rfl rfl ?_ (fun _ _ => rfl) (fun i hi => eb_up_n hi) (fun _ _ => rfl) rfl) hS1 kr)
    unfold eb_C
    show (if eb_T σ k2 < 10 then _ else if eb_T σ k2 < 12 then _ else if eb_T σ k2 = 12 then _ else _)
    rw [if_neg (by omega), if_neg (by omega), if_pos hc.2.1]
    show _ = Sum.inl (eb_gc G 12, eb_L σ k2, Sum.inr (Sum.inl (eb_up (eb_J σ) k2 _ k2)))
    rw [eb_up_s]
  · rw [if_neg hc] at ho; cases ho

theorem eb_obj {idx k : Nat} (hlk : Cond.methodLink y.cls idx Lib.objectInit ∈ eb_tbl) (hin : Cond.instanceMethod Lib.objectInit ∈ eb_tbl) (hcd : Cond.code Lib.objectInit ⟨#[0xb1]⟩ 1 none ∈ eb_tbl) (hfr : 1 ≤ fr) (hsm : (st.map fun v => v.category).sum ≤ 8) (hd : decode cc pc = .ok (.invokespecial idx, 3)) (kk : eb_go G y cc nL rt fr mc ms ri enc (pc + 3) L st σ cn sn o) : eb_go G y cc nL rt fr mc ms ri enc pc L (.ref k :: st) σ cn sn o := by
  intro out ho p e s m args below meth c Q R hR X as ls cst H locs hl hs hW hS kr
  obtain ⟨a, c1, rfl, ha, hs1⟩ := eb_st_r hs
  refine W.objInit X.1 X.2.1 X.2.2.2.2.2.1 (X.2.2.2.2.2.2.2.1 _ hlk) (X.2.2.2.2.2.2.2.1 _ hin) (X.2.2.2.2.2.2.2.1 _ hcd) rfl (by rw [X.2.2.2.2.1]; exact hl.1) rfl hd (by omega) ?_ ?_
  · have := lv_room (m := m) (pc := pc) (ls := ls) (rest := .ref a :: c1) (st := c1) (by rw [eb_st_cat hs1]; exact hsm)
    omega
  · exact W.eq (g2 := F0 m (pc + 3) ls c1) rfl (kk out ho p e s m args below meth c Q R hR X as ls _ H locs hl hs1 hW hS kr)

end EBA
