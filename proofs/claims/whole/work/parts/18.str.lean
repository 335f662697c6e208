/-! ===== the one text of the class: its rows ===== -/
def eb_k6 : Nat → Int32 := fun j => ([112, 105, 115, 102] : List Int32).getD j 0
section EBT
variable {ρ ρ2 : Type} {G : eb_G} {y : MethodName} {cc : ByteArray} {nL : Nat} {rt : Option FieldType} {fr mc ms : Nat} {ri : Instr} {enc : ρ → List Value} {pc : Nat} {L : List (Nat × Value)} {st rest : List Value} {σ : eb_S} {cn sn : Nat} {o : Option (ρ × eb_S)} {y2 : MethodName} {cc2 : ByteArray} {nL2 : Nat} {rt2 : Option FieldType} {fr2 mc1 ms1 : Nat} {enc2 : ρ2 → Option Value} {o2 : Option (ρ2 × eb_S)} {As : List Value} {n idx : Nat}
theorem eb_X_sg {p : Program} {s : State} {m : MethodId} {args : Array Value} {meth : Method} {c : Code} (X : eb_X G y cc nL rt p s m args meth c) : eb_Sg G s s.heap := X.2.2.2.2.2.2.2.2.2.2.2.2.2.2
theorem eb_ldcs (hd : decode cc pc = .ok (.ldc eb_sk, 2)) (hy : y.cls = RX8) (kk : eb_go G y cc nL rt fr mc ms ri enc (pc + 2) L (.ref 5 :: st) σ cn sn o) : eb_go G y cc nL rt fr mc ms ri enc pc L st σ cn sn o := by
  intro out ho p e s m args below meth c Q R hR X as ls cst H locs hl hs hW hS kr
  exact va_ldcS X.1 X.2.1 X.2.2.2.2.2.1 (by rw [hy]; exact (eb_X_sg X).1) hd (kk out ho p e s m args below meth c Q R hR X as ls _ H locs hl ⟨⟨_, eb_a_fix (by decide) (by decide), rfl⟩, hs⟩ hW hS kr)
theorem eb_getc (hlk : Cond.fieldLink y.cls idx "java/lang/String" "coder" "B" ∈ eb_tbl) (hd : decode cc pc = .ok (.getfield idx, 3)) (kk : eb_go G y cc nL rt fr mc ms ri enc (pc + 3) L (.int 0 :: st) σ cn sn o) : eb_go G y cc nL rt fr mc ms ri enc pc L (.ref 5 :: st) σ cn sn o := by
  intro out ho p e s m args below meth c Q R hR X as ls cst H locs hl hs hW hS kr
  obtain ⟨a, c1, rfl, ha, hs1⟩ := eb_st_r hs
  rw [eb_a_fix (by decide) (by decide)] at ha
  cases ha
  exact vk_getf X.1 X.2.1 ((eb_X_sg X).2.1.1 0 (by decide)).2.1 hS X.2.2.2.2.2.1 (X.2.2.2.2.2.2.2.1 _ hlk) (fun _ h => h) hd (kk out ho p e s m args below meth c Q R hR X as ls _ H locs hl ⟨rfl, hs1⟩ hW hS kr)
theorem eb_getv (hlk : Cond.fieldLink y.cls idx "java/lang/String" "value" "[B" ∈ eb_tbl) (hd : decode cc pc = .ok (.getfield idx, 3)) (kk : eb_go G y cc nL rt fr mc ms ri enc (pc + 3) L (.ref 6 :: st) σ cn sn o) : eb_go G y cc nL rt fr mc ms ri enc pc L (.ref 5 :: st) σ cn sn o := by
  intro out ho p e s m args below meth c Q R hR X as ls cst H locs hl hs hW hS kr
  obtain ⟨a, c1, rfl, ha, hs1⟩ := eb_st_r hs
  rw [eb_a_fix (by decide) (by decide)] at ha
  cases ha
  exact vk_getf X.1 X.2.1 ((eb_X_sg X).2.1.1 0 (by decide)).2.2.1 hS X.2.2.2.2.2.1 (X.2.2.2.2.2.2.2.1 _ hlk) (fun _ h => h) hd (kk out ho p e s m args below meth c Q R hR X as ls _ H locs hl ⟨⟨_, eb_a_fix (by decide) (by decide), rfl⟩, hs1⟩ hW hS kr)
theorem eb_getz (hlk : Cond.fieldLink y.cls idx "java/lang/String" "COMPACT_STRINGS" "Z" ∈ eb_tbl) (hd : decode cc pc = .ok (.getstatic idx, 3)) (kk : eb_go G y cc nL rt fr mc ms ri enc (pc + 3) L (.int 1 :: st) σ cn sn o) : eb_go G y cc nL rt fr mc ms ri enc pc L st σ cn sn o := by
  intro out ho p e s m args below meth c Q R hR X as ls cst H locs hl hs hW hS kr
  exact va_gets X.1 X.2.1 (eb_X_sg X).2.2 hS X.2.2.2.2.2.1 (X.2.2.2.2.2.2.2.1 _ hlk) (fun _ h => h) hd (kk out ho p e s m args below meth c Q R hR X as ls _ H locs hl ⟨rfl, hs⟩ hW hS kr)
theorem eb_baloadx {i : Int32} {K : Int32 → Option (ρ × eb_S)} (hd : decode cc pc = .ok (.baload, 1)) (kk : ∀ x, eb_go G y cc nL rt fr mc ms ri enc (pc + 1) L (.int x :: st) σ cn sn (K x)) : eb_go G y cc nL rt fr mc ms ri enc pc L (.int i :: .ref 6 :: st) σ cn sn (eb_xi 4 eb_k6 i K) := by
  intro out ho p e s m args below meth c Q R hR X as ls cst H locs hl hs hW hS kr
  obtain ⟨c0, rfl, hs0⟩ := eb_st_i hs
  obtain ⟨a, c1, rfl, ha, hs1⟩ := eb_st_r hs0
  rw [eb_a_fix (by decide) (by decide)] at ha
  cases ha
  unfold eb_xi at ho
  by_cases hc : eb_in i 4 = true
  · rw [if_pos hc] at ho
    exact va_tb X.1 X.2.1 ((eb_X_sg X).2.1.1 0 (by decide)).2.2.2 hS (eb_in_vp hc) rfl hd (kk _ out ho p e s m args below meth c Q R hR X as ls _ H locs hl ⟨rfl, hs1⟩ hW hS kr)
  · rw [if_neg hc] at ho; cases ho
theorem eb_alen6 (hd : decode cc pc = .ok (.arraylength, 1)) (kk : eb_go G y cc nL rt fr mc ms ri enc (pc + 1) L (.int 4 :: st) σ cn sn o) : eb_go G y cc nL rt fr mc ms ri enc pc L (.ref 6 :: st) σ cn sn o := by
  intro out ho p e s m args below meth c Q R hR X as ls cst H locs hl hs hW hS kr
  obtain ⟨a, c1, rfl, ha, hs1⟩ := eb_st_r hs
  rw [eb_a_fix (by decide) (by decide)] at ha
  cases ha
  exact va_tlen X.1 X.2.1 ((eb_X_sg X).2.1.1 0 (by decide)).2.2.2 hS (by decide) hd (kk out ho p e s m args below meth c Q R hR X as ls _ H locs hl ⟨rfl, hs1⟩ hW hS kr)
/-- a method of the text itself -/
theorem eb_runF (hlk : Cond.methodLink y.cls idx y2 ∈ eb_tbl) (hin : Cond.instanceMethod y2 ∈ eb_tbl) (hse : Cond.selects "java/lang/String" y2 y2 ∈ eb_tbl) (hii : Cond.initialized "java/lang/String" ∈ eb_tbl) (hyc : y2.cls = "java/lang/String") (hdd : y2.cls ≠ "java/lang/invoke/MethodHandle" ∧ y2.cls ≠ "java/lang/invoke/VarHandle" ∧ (parseMethodDescriptor y2.desc).map (fun d => d.parameters.length) = some n) (hct : eb_ct G y2 cc2 nL2 rt2 fr2 mc1 ms1 enc2 (.ref 5 :: As) σ o2) (hcd : Cond.code y2 cc2 nL2 rt2 ∈ eb_tbl) (hfr : fr2 + 1 ≤ fr ∧ nL2 ≤ 21) (hc1 : cn + mc1 ≤ mc) (hs1 : sn + ms1 ≤ ms) (hsm : (rest.map fun v => v.category).sum ≤ 8) (hn : As.length = n) (hd : decode cc pc = .ok (.invokevirtual idx, 3)) : eb_runs G y cc nL rt fr mc ms pc (As.reverse ++ .ref 5 :: rest) rest σ cn sn mc1 ms1 enc2 o2 := by
  intro out ho p e s m args below meth c R hR X as ls cst H locs hl hs hW hS
  obtain ⟨cu, cv, rfl, hu, hv⟩ := eb_st_app hs
  obtain ⟨a, cr, rfl, ha, hr⟩ := eb_st_r hv
  have hu2 : eb_st G as As cu.reverse := by have := eb_st_rev hu; rwa [List.reverse_reverse] at this
  have hM := hct out ho as (.ref a :: cu.reverse) ⟨⟨a, ha, rfl⟩, hu2⟩
  rw [eb_a_fix (by decide) (by decide)] at ha
  cases ha
  refine ⟨cr, _, hr, va_runV (As := cu.reverse) (rest := cr) (C := "java/lang/String") ⟨X.1, X.2.1, X.2.2.2.2.1, X.2.2.2.2.2.1, X.2.2.2.2.2.2.2.1⟩ hM (cwV (Ts := eb_tbl) (ws' := eb_tbl) n X.2.2.2.2.2.2.2.1 (eb_gcons hlk (eb_gcons hin (eb_gcons hse (eb_gcons hii (eb_good hcd))))) rfl rfl rfl ⟨hyc, hdd⟩ ⟨by show fr2 + 1 ≤ R.frames; omega, by show 8 + (nL2 + 11) + 40 * fr2 ≤ R.locals; omega⟩) ⟨eb_blind, vk_recv (eb_X_sg X).2.1 (i := 0) (by decide) hS, eb_pre X.2.2.2.2.2.2.2.2 hW hS⟩ rfl (by rw [eb_st_len hu2]; exact hn) hl (by rw [List.reverse_reverse]) (lv_room (by rw [eb_st_cat hr]; exact hsm)) hd ⟨by omega, by omega⟩⟩
theorem eb_runS2 (hlk : Cond.methodLink y.cls idx y2 ∈ eb_tbl) (hst : Cond.static y2 ∈ eb_tbl) (hii : Cond.initialized y2.cls ∈ eb_tbl) (hdd : y2.cls ≠ "java/lang/invoke/MethodHandle" ∧ y2.cls ≠ "java/lang/invoke/VarHandle" ∧ (parseMethodDescriptor y2.desc).map (fun d => d.parameters.length) = some n) (hct : eb_ct G y2 cc2 nL2 rt2 fr2 mc1 ms1 enc2 As σ o2) (hcd : Cond.code y2 cc2 nL2 rt2 ∈ eb_tbl) (hfr : fr2 + 1 ≤ fr ∧ nL2 ≤ 21) (hc1 : cn + mc1 ≤ mc) (hs1 : sn + ms1 ≤ ms) (hsm : (rest.map fun v => v.category).sum ≤ 8) (hn : As.length = n) (hd : decode cc pc = .ok (.invokestatic idx, 3)) : eb_runs G y cc nL rt fr mc ms pc (As.reverse ++ rest) rest σ cn sn mc1 ms1 enc2 o2 := by
  intro out ho p e s m args below meth c R hR X as ls cst H locs hl hs hW hS
  obtain ⟨cu, cr, rfl, hu, hr⟩ := eb_st_app hs
  have hu2 : eb_st G as As cu.reverse := by have := eb_st_rev hu; rwa [List.reverse_reverse] at this
  have hM := hct out ho as cu.reverse hu2
  refine ⟨cr, _, hr, va_runS (As := cu.reverse) (rest := cr) ⟨X.1, X.2.1, X.2.2.2.2.1, X.2.2.2.2.2.1, X.2.2.2.2.2.2.2.1⟩ hM (va_cwS (Ts := eb_tbl) (ws' := eb_tbl) n X.2.2.2.2.2.2.2.1 (eb_gcons hlk (eb_gcons hst (eb_gcons hii (eb_good hcd)))) rfl rfl rfl hdd ⟨by show fr2 + 1 ≤ R.frames; omega, by show 8 + (nL2 + 11) + 40 * fr2 ≤ R.locals; omega⟩) ⟨eb_blind, eb_pre X.2.2.2.2.2.2.2.2 hW hS⟩ rfl (by rw [eb_st_len hu2]; exact hn) hl (by rw [List.reverse_reverse]) (lv_room (by rw [eb_st_cat hr]; exact hsm)) hd ⟨by omega, by omega⟩⟩
/-- a byte's end -/
theorem eb_ct_y {av : List Value} {o : Option (Int32 × eb_S)} (hz : ∀ out, o = some out → narrow .byte (.int out.1) = .int out.1) (hy : plainName y.cls = true) (hlen : (lg_sl av).length ≤ nL) (kk : eb_go G y cc nL (some .byte) fr mc ms .ireturn (fun r : Int32 => [.int r]) 0 (lv_args 0 av) [] σ 0 0 o) : eb_ct G y cc nL (some .byte) fr mc ms eb_ei av σ o := by
  intro out ho as cav hav
  refine Met.ofW (cc := cc) (maxL := nL) (ret := some .byte) hy rfl ?_
  intro p e s m args below meth c s₁ B hml hv
  obtain ⟨rfl, hE, hW⟩ := hv
  have hts := atoms_spec (ws := eb_ws y cc nL (some .byte)) B.pre
  have X : eb_X G y cc nL (some .byte) p s m cav.toArray meth c := ⟨B.exec, B.bytes, B.returns, B.notSynchronized, hml, findClass_of_methodNamed B.named, fun h => (name_of_methodNamed B.named B.method).1.trans h, fun w hw => hts w (List.mem_cons_of_mem _ hw), hE⟩
  have hsl : (lg_sl cav).length = (lg_sl av).length := eb_sl_len hav
  have hl := lv_entry cav (n := nL) (by rw [hsl]; exact hlen)
  rw [lg_entry_eq]
  refine kk out ho p e s m _ below meth c _ _ ⟨Nat.le_refl _, Nat.le_refl _, Nat.le_refl _, Nat.le_refl _⟩ X as _ [] s.heap [] ⟨hl.1, hl.2.1, eb_args_lo hav hl.2.2⟩ trivial hW va_S.rf ?_
  intro as' ls' H' locs' pc' c' s' hp hW1 hS1 hc1 hs1 hdr
  refine W.widen (k := mc) (n := ms) hc1 hs1 ?_
  exact W.zret X.1 X.2.1 X.2.2.1 (hz out ho) (fun t ht hV => ⟨⟨as', rfl, hp, by rw [ht]; exact hW1⟩, hS1.F ht⟩) hS1.2.2 hdr X.2.2.2.1
end EBT
