/-! ===== contracts over the typed store, and calls ===== -/
def eb_b (b : Bool) : Int32 := if b = true then 1 else 0
abbrev eb_ei : Int32 → Option Value := fun r => some (.int r)
abbrev eb_eb : Bool → Option Value := fun b => some (.int (eb_b b))
abbrev eb_el : Int64 → Option Value := fun r => some (.long r)
abbrev eb_ev : Unit → Option Value := fun _ => none
def eb_ws (y : MethodName) (cc : ByteArray) (nL : Nat) (rt : Option FieldType) : List Cond := Cond.code y cc nL rt :: eb_tbl
def eb_rm (fr mc ms : Nat) : Room := { frames := fr, cells := mc, slots := ms, locals := 40 * fr }
def eb_Pc (G : eb_G) (as : List Nat) (σ : eb_S) (cav : List Value) : Array Value → State → Prop := va_Pc cav (fun U => eb_E G U ∧ eb_W G as σ U.heap)
def eb_Qc (G : eb_G) (as : List Nat) (v : Option Value) (σ' : eb_S) : Array Value → State → Outcome → State → Prop := fun _ st oc t => (∃ as' : List Nat, oc = .returned v ∧ as <+: as' ∧ eb_W G as' σ' t.heap) ∧ va_F (eb_A G) st t
/-- the method's contract at these arguments and this store: if 'o' is an answer, that is what it comes to -/
def eb_ct {ρ : Type} (G : eb_G) (y : MethodName) (cc : ByteArray) (nL : Nat) (rt : Option FieldType) (fr mc ms : Nat) (enc : ρ → Option Value) (av : List Value) (σ : eb_S) (o : Option (ρ × eb_S)) : Prop :=
  ∀ out, o = some out → ∀ (as : List Nat) (cav : List Value), eb_st G as av cav → Met (eb_gl G) y (eb_ws y cc nL rt) (eb_rm fr mc ms) (eb_Pc G as σ cav) (eb_Qc G as (enc out.1) out.2) mc ms (eb_A G)
theorem eb_E_moved {G : eb_G} {u U : State} (hV : u.WarmedH U.vm) (hz : u.heap.size ≤ U.heap.size) (hk : ∀ q, q < u.heap.size → ¬ eb_A G q → U.heap[q]? = u.heap[q]?) (h : eb_E G u) : eb_E G U := by
  have hvm := hV.alike
  obtain ⟨h1, h2, ⟨h3, h4⟩, h5, h6, h7, h8, h9, h10⟩ := h
  refine ⟨va_K.moved hvm h1, Nat.le_trans h2 hz, ⟨fun r h0 h5 => ?_, fun q hq => ?_⟩, fun x hx => va_Nw.warmD hV (h5 x hx), fun q hq => va_Nw.warmM hV (h6 q hq), va_AO.moved hvm h7, vk_R.warm hV h8, (vk_S.moved hvm h9).kept hk, (va_Z.moved hvm h10).kept hk⟩
  · obtain ⟨cell, g1, g2, g3, g4, g5, g6⟩ := h3 r h0 h5
    refine ⟨cell, ?_, State.isArrayOf_alike hvm g2, g3, g4, g5, g6⟩
    rw [hk _ (Array.getElem?_eq_some_iff.mp g1).1 (fun h => absurd g6 (Nat.not_lt.mpr h))]
    exact g1
  · exact (va_Z.moved hvm (h4 q hq)).kept hk
theorem eb_blind {G : eb_G} {as : List Nat} {σ : eb_S} {cav : List Value} : FrameBlind (eb_Pc G as σ cav) := by
  intro a U g mk h
  obtain ⟨h1, h2, h3⟩ := h
  exact ⟨h1, eb_E_moved (U := U.calling g mk a) (State.WarmedH.refl U) (Nat.le_refl _) (fun _ _ _ => rfl) h2, h3⟩
theorem eb_pre {G : eb_G} {as : List Nat} {σ : eb_S} {cav : List Value} {s : State} {H : Heap} {locs : List Loc} (hE : eb_E G s) (hW : eb_W G as σ H) (hS : va_S (eb_A G) s.heap H locs) : ∀ U : State, U.heap = H → s.WarmedH U.vm → eb_Pc G as σ cav cav.toArray U := by
  intro U hU hV
  subst hU
  exact ⟨rfl, eb_E_moved hV hS.1 hS.2.1 hE, hW⟩
theorem eb_good {y : MethodName} {cc : ByteArray} {nL : Nat} {rt : Option FieldType} (h : Cond.code y cc nL rt ∈ eb_tbl) : GoodIn eb_tbl (eb_ws y cc nL rt) := fun w hw => (List.mem_cons.mp hw).elim (fun e => e ▸ eb_tbl_good _ h) (fun h => eb_tbl_good _ h)
theorem eb_gcons {w : Cond} {l : List Cond} (h : w ∈ eb_tbl) (hl : GoodIn eb_tbl l) : GoodIn eb_tbl (w :: l) := fun x hx => (List.mem_cons.mp hx).elim (fun e => e ▸ eb_tbl_good _ h) (fun h => hl x h)
/-- behind a call -/
theorem eb_callW {G : eb_G} {p : Program} {e : Env} {R : Room} {s : State} {m : MethodId} {args : Array Value} {below : List Frame} {meth : Method} {c : Code} {H : Heap} {locs : List Loc} {cells slots mc ms pc : Nat} {Q : State → Prop} {ls : Array Slot} {st0 rest : List Value} {a : Array Value} {as : List Nat} {v : Option Value} {σ' : eb_S}
    (hr : va_Run p (eb_gl G) e R s m args below meth c H locs cells slots mc ms (F0 m pc ls st0) rest (eb_Qc G as v σ' a) (eb_A G)) (hS : va_S (eb_A G) s.heap H locs)
    (kk : ∀ (as' : List Nat) (H1 : Heap) (locs1 : List Loc), as <+: as' → eb_W G as' σ' H1 → va_S (eb_A G) s.heap H1 locs1 → W p (eb_gl G) e R s m args below meth c H1 locs1 (cells + mc) (slots + ms) Q (F0 m (pc + 3) ls (v.toList ++ rest))) : W p (eb_gl G) e R s m args below meth c H locs cells slots Q (F0 m pc ls st0) := by
  intro T hT X
  obtain ⟨v', st₀, t, T', L, h0, X', hL, e1, e2, ⟨⟨as', hv, hp, hb⟩, hz, hk⟩, st⟩ := hr T hT X
  cases hv
  rw [h0] at hz hk
  obtain ⟨t2, a1, b1⟩ := kk as' T'.heap (locs ++ L) hp (by rw [e1]; exact hb)
    ⟨Nat.le_trans hS.1 (by rw [e1]; exact hz), fun q h1 h2 => by rw [e1, hk q (Nat.lt_of_lt_of_le h1 hS.1) h2]; exact hS.2.1 q h1 h2, fun q hq => by
      rcases List.mem_append.mp hq with h | h
      · exact hS.2.2 q h
      · exact hL q h⟩ T' rfl X'
  exact ⟨t2, st t2 a1, b1⟩
/-- a call instruction at pc, its arguments on the stack above 'rest', runs the callee -/
def eb_runs {ρ : Type} (G : eb_G) (y : MethodName) (cc : ByteArray) (nL : Nat) (rt : Option FieldType) (fr mc ms pc : Nat) (st rest : List Value) (σ : eb_S) (cn sn mc1 ms1 : Nat) (enc : ρ → Option Value) (o : Option (ρ × eb_S)) : Prop :=
  ∀ out, o = some out → ∀ (p : Program) (e : Env) (s : State) (m : MethodId) (args : Array Value) (below : List Frame) (meth : Method) (c : Code) (R : Room), fr ≤ R.frames ∧ 40 * fr ≤ R.locals ∧ mc ≤ R.cells ∧ ms ≤ R.slots → eb_X G y cc nL rt p s m args meth c →
    ∀ (as : List Nat) (ls : Array Slot) (cst : List Value) (H : Heap) (locs : List Loc), ls.size = nL → eb_st G as st cst → eb_W G as σ H → va_S (eb_A G) s.heap H locs →
    ∃ (cr : List Value) (a : Array Value), eb_st G as rest cr ∧ va_Run p (eb_gl G) e R s m args below meth c H locs cn sn mc1 ms1 (F0 m pc ls cst) cr (eb_Qc G as (enc out.1) out.2 a) (eb_A G)
/-- the cell k is of the kind ci, or there is no answer -/
def eb_tg {τ : Type} (σ : eb_S) (k ci : Nat) (o : Option τ) : Option τ := if eb_T σ k = ci then o else none
theorem eb_tg_some {τ : Type} {σ : eb_S} {k ci : Nat} {o : Option τ} {out : τ} (h : eb_tg σ k ci o = some out) : eb_T σ k = ci ∧ o = some out := by
  unfold eb_tg at h
  by_cases hc : eb_T σ k = ci
  · rw [if_pos hc] at h; exact ⟨hc, h⟩
  · rw [if_neg hc] at h; cases h

section EBC
variable {ρ ρ2 : Type} {G : eb_G} {y : MethodName} {cc : ByteArray} {nL : Nat} {rt : Option FieldType} {fr mc ms : Nat} {ri : Instr} {enc : ρ → List Value} {pc : Nat} {L : List (Nat × Value)} {st rest : List Value} {σ : eb_S} {cn sn : Nat} {y2 : MethodName} {cc2 : ByteArray} {nL2 : Nat} {rt2 : Option FieldType} {fr2 mc1 ms1 : Nat} {enc2 : ρ2 → Option Value} {o2 : Option (ρ2 × eb_S)} {As : List Value} {k ci n idx : Nat}
theorem eb_runV (hlk : Cond.methodLink y.cls idx y2 ∈ eb_tbl) (hin : Cond.instanceMethod y2 ∈ eb_tbl) (hse : Cond.selects y2.cls y2 y2 ∈ eb_tbl) (hii : Cond.initialized y2.cls ∈ eb_tbl) {q0 : vw_C} (hq0 : vwCl[ci]? = some q0) (hyc : y2.cls = q0.1) (hdd : y2.cls ≠ "java/lang/invoke/MethodHandle" ∧ y2.cls ≠ "java/lang/invoke/VarHandle" ∧ (parseMethodDescriptor y2.desc).map (fun d => d.parameters.length) = some n) (hct : eb_ct G y2 cc2 nL2 rt2 fr2 mc1 ms1 enc2 (.ref k :: As) σ o2) {q : vw_C} (hq : vwCl[ci]? = some q) (hcd : Cond.code y2 cc2 nL2 rt2 ∈ eb_tbl) (hfr : fr2 + 1 ≤ fr ∧ nL2 ≤ 21) (hc1 : cn + mc1 ≤ mc) (hs1 : sn + ms1 ≤ ms) (hsm : (rest.map fun v => v.category).sum ≤ 8) (hn : As.length = n) (hd : decode cc pc = .ok (.invokevirtual idx, 3)) : eb_runs G y cc nL rt fr mc ms pc (As.reverse ++ .ref k :: rest) rest σ cn sn mc1 ms1 enc2 (eb_tg σ k ci o2) := by
  intro out ho p e s m args below meth c R hR X as ls cst H locs hl hs hW hS
  obtain ⟨ht, ho2⟩ := eb_tg_some ho
  obtain ⟨cu, cv, rfl, hu, hv⟩ := eb_st_app hs
  obtain ⟨a, cr, rfl, ha, hr⟩ := eb_st_r hv
  have hu2 : eb_st G as As cu.reverse := by have := eb_st_rev hu; rwa [List.reverse_reverse] at this
  have hM := hct out ho2 as (.ref a :: cu.reverse) ⟨⟨a, ha, rfl⟩, hu2⟩
  obtain ⟨ws, hP, hD, hl1, hl2, hC⟩ := id hW
  have ht10 := eb_vw_lt hq
  obtain ⟨h8, e1, he1, hC1⟩ := eb_W_at hC (by omega) ha
  obtain ⟨fs, rfl, -⟩ := eb_C_obj hC1 (ht ▸ hq)
  have hqc : y2.cls = q.1 := by rw [hyc]; cases hq.symm.trans hq0; rfl
  refine ⟨cr, _, hr, va_runV (As := cu.reverse) (rest := cr) (C := q.1) ⟨X.1, X.2.1, X.2.2.2.2.1, X.2.2.2.2.2.1, X.2.2.2.2.2.2.2.1⟩ hM (cwV (Ts := eb_tbl) (ws' := eb_tbl) n X.2.2.2.2.2.2.2.1 (eb_gcons hlk (eb_gcons hin (eb_gcons (hqc ▸ hse) (eb_gcons (hqc ▸ hii) (eb_good hcd))))) rfl rfl rfl ⟨hqc, hdd⟩ ⟨by show fr2 + 1 ≤ R.frames; omega, by show 8 + (nL2 + 11) + 40 * fr2 ≤ R.locals; omega⟩) ⟨eb_blind, va_recv X.2.2.2.2.2.2.2.2.1 hP (ht ▸ hq) he1, eb_pre X.2.2.2.2.2.2.2.2 hW hS⟩ rfl (by rw [eb_st_len hu2]; exact hn) hl (by rw [List.reverse_reverse]) (lv_room (by rw [eb_st_cat hr]; exact hsm)) hd ⟨by omega, by omega⟩⟩

theorem eb_runU {x2 : MethodName} {owner : String} (hlk : Cond.methodLink y.cls idx x2 ∈ eb_tbl) (hsm2 : Cond.sameMethod x2.cls owner x2.name x2.desc ∈ eb_tbl) (hse : ∀ q : vw_C, vwCl[ci]? = some q → Cond.selects q.1 x2 y2 ∈ eb_tbl) (hin : Cond.instanceMethod y2 ∈ eb_tbl) (hii : Cond.initialized y2.cls ∈ eb_tbl) (hyx : y2 = ⟨owner, x2.name, x2.desc⟩) (hdd : owner ≠ "java/lang/invoke/MethodHandle" ∧ owner ≠ "java/lang/invoke/VarHandle" ∧ (parseMethodDescriptor x2.desc).map (fun d => d.parameters.length) = some n) (hct : eb_ct G y2 cc2 nL2 rt2 fr2 mc1 ms1 enc2 (.ref k :: As) σ o2) {q : vw_C} (hq : vwCl[ci]? = some q) (hcd : Cond.code y2 cc2 nL2 rt2 ∈ eb_tbl) (hfr : fr2 + 1 ≤ fr ∧ nL2 ≤ 21) (hc1 : cn + mc1 ≤ mc) (hs1 : sn + ms1 ≤ ms) (hsm : (rest.map fun v => v.category).sum ≤ 8) (hn : As.length = n) (hd : decode cc pc = .ok (.invokevirtual idx, 3)) : eb_runs G y cc nL rt fr mc ms pc (As.reverse ++ .ref k :: rest) rest σ cn sn mc1 ms1 enc2 (eb_tg σ k ci o2) := by
  intro out ho p e s m args below meth c R hR X as ls cst H locs hl hs hW hS
  obtain ⟨ht, ho2⟩ := eb_tg_some ho
  obtain ⟨cu, cv, rfl, hu, hv⟩ := eb_st_app hs
  obtain ⟨a, cr, rfl, ha, hr⟩ := eb_st_r hv
  have hu2 : eb_st G as As cu.reverse := by have := eb_st_rev hu; rwa [List.reverse_reverse] at this
  have hM := hct out ho2 as (.ref a :: cu.reverse) ⟨⟨a, ha, rfl⟩, hu2⟩
  obtain ⟨ws, hP, hD, hl1, hl2, hC⟩ := id hW
  have ht10 := eb_vw_lt hq
  obtain ⟨h8, e1, he1, hC1⟩ := eb_W_at hC (by omega) ha
  obtain ⟨fs, rfl, -⟩ := eb_C_obj hC1 (ht ▸ hq)
  refine ⟨cr, _, hr, va_runU (As := cu.reverse) (rest := cr) (C := q.1) ⟨X.1, X.2.1, X.2.2.2.2.1, X.2.2.2.2.2.1, X.2.2.2.2.2.2.2.1⟩ hM (va_cwU (Ts := eb_tbl) (ws' := eb_tbl) n X.2.2.2.2.2.2.2.1 (eb_gcons hlk (eb_gcons hsm2 (eb_gcons (hse q hq) (eb_gcons hin (eb_gcons hii (eb_good hcd)))))) rfl rfl rfl hyx hdd ⟨by show fr2 + 1 ≤ R.frames; omega, by show 8 + (nL2 + 11) + 40 * fr2 ≤ R.locals; omega⟩) ⟨eb_blind, va_recv X.2.2.2.2.2.2.2.2.1 hP (ht ▸ hq) he1, eb_pre X.2.2.2.2.2.2.2.2 hW hS⟩ rfl (by rw [eb_st_len hu2]; exact hn) hl (by rw [List.reverse_reverse]) (lv_room (by rw [eb_st_cat hr]; exact hsm)) hd ⟨by omega, by omega⟩⟩

theorem eb_runO {x2 : MethodName} {owner : String} (h0 : (⟨owner, x2.name, x2.desc⟩ : MethodName) ∈ eb_nwD) (hlk : Cond.methodLink y.cls idx x2 ∈ eb_tbl) (hsm2 : Cond.sameMethod x2.cls owner x2.name x2.desc ∈ eb_tbl) (hse : ∀ q : vw_C, vwCl[ci]? = some q → Cond.selects q.1 x2 y2 ∈ eb_tbl) (hin : Cond.instanceMethod y2 ∈ eb_tbl) (hii : Cond.initialized y2.cls ∈ eb_tbl) (hdd : owner ≠ "java/lang/invoke/MethodHandle" ∧ owner ≠ "java/lang/invoke/VarHandle" ∧ (parseMethodDescriptor x2.desc).map (fun d => d.parameters.length) = some n) (hct : eb_ct G y2 cc2 nL2 rt2 fr2 mc1 ms1 enc2 (.ref k :: As) σ o2) {q : vw_C} (hq : vwCl[ci]? = some q) (hcd : Cond.code y2 cc2 nL2 rt2 ∈ eb_tbl) (hfr : fr2 + 1 ≤ fr ∧ nL2 ≤ 21) (hc1 : cn + mc1 ≤ mc) (hs1 : sn + ms1 ≤ ms) (hsm : (rest.map fun v => v.category).sum ≤ 8) (hn : As.length = n) (hd : decode cc pc = .ok (.invokevirtual idx, 3)) : eb_runs G y cc nL rt fr mc ms pc (As.reverse ++ .ref k :: rest) rest σ cn sn mc1 ms1 enc2 (eb_tg σ k ci o2) := by
  intro out ho p e s m args below meth c R hR X as ls cst H locs hl hs hW hS
  obtain ⟨ht, ho2⟩ := eb_tg_some ho
  obtain ⟨cu, cv, rfl, hu, hv⟩ := eb_st_app hs
  obtain ⟨a, cr, rfl, ha, hr⟩ := eb_st_r hv
  have hu2 : eb_st G as As cu.reverse := by have := eb_st_rev hu; rwa [List.reverse_reverse] at this
  have hM := hct out ho2 as (.ref a :: cu.reverse) ⟨⟨a, ha, rfl⟩, hu2⟩
  obtain ⟨ws, hP, hD, hl1, hl2, hC⟩ := id hW
  have ht10 := eb_vw_lt hq
  obtain ⟨h8, e1, he1, hC1⟩ := eb_W_at hC (by omega) ha
  obtain ⟨fs, rfl, -⟩ := eb_C_obj hC1 (ht ▸ hq)
  refine ⟨cr, _, hr, va_runU (As := cu.reverse) (rest := cr) (C := q.1) ⟨X.1, X.2.1, X.2.2.2.2.1, X.2.2.2.2.2.1, X.2.2.2.2.2.2.2.1⟩ hM (va_cwA (Ts := eb_tbl) (ws' := eb_tbl) n X.2.2.2.2.2.2.2.1 (eb_gcons hlk (eb_gcons hsm2 (eb_gcons (hse q hq) (eb_gcons hin (eb_gcons hii (eb_good hcd)))))) rfl rfl rfl (X.2.2.2.2.2.2.2.2.2.2.2.1 _ h0) hdd ⟨by show fr2 + 1 ≤ R.frames; omega, by show 8 + (nL2 + 11) + 40 * fr2 ≤ R.locals; omega⟩) ⟨eb_blind, va_recv X.2.2.2.2.2.2.2.2.1 hP (ht ▸ hq) he1, eb_pre X.2.2.2.2.2.2.2.2 hW hS⟩ rfl (by rw [eb_st_len hu2]; exact hn) hl (by rw [List.reverse_reverse]) (lv_room (by rw [eb_st_cat hr]; exact hsm)) hd ⟨by omega, by omega⟩⟩

theorem eb_runVN {host : String} (hlk : (y.cls, idx, y2, host) ∈ eb_nwM) (hin : Cond.instanceMethod y2 ∈ eb_tbl) (hse : ∀ q : vw_C, vwCl[ci]? = some q → Cond.selects q.1 y2 y2 ∈ eb_tbl) (hii : Cond.initialized y2.cls ∈ eb_tbl) (hdd : y2.cls ≠ "java/lang/invoke/MethodHandle" ∧ y2.cls ≠ "java/lang/invoke/VarHandle" ∧ (parseMethodDescriptor y2.desc).map (fun d => d.parameters.length) = some n) (hct : eb_ct G y2 cc2 nL2 rt2 fr2 mc1 ms1 enc2 (.ref k :: As) σ o2) {q : vw_C} (hq : vwCl[ci]? = some q) (hcd : Cond.code y2 cc2 nL2 rt2 ∈ eb_tbl) (hfr : fr2 + 1 ≤ fr ∧ nL2 ≤ 21) (hc1 : cn + mc1 ≤ mc) (hs1 : sn + ms1 ≤ ms) (hsm : (rest.map fun v => v.category).sum ≤ 8) (hn : As.length = n) (hd : decode cc pc = .ok (.invokevirtual idx, 3)) : eb_runs G y cc nL rt fr mc ms pc (As.reverse ++ .ref k :: rest) rest σ cn sn mc1 ms1 enc2 (eb_tg σ k ci o2) := by
  intro out ho p e s m args below meth c R hR X as ls cst H locs hl hs hW hS
  obtain ⟨ht, ho2⟩ := eb_tg_some ho
  obtain ⟨cu, cv, rfl, hu, hv⟩ := eb_st_app hs
  obtain ⟨a, cr, rfl, ha, hr⟩ := eb_st_r hv
  have hu2 : eb_st G as As cu.reverse := by have := eb_st_rev hu; rwa [List.reverse_reverse] at this
  have hM := hct out ho2 as (.ref a :: cu.reverse) ⟨⟨a, ha, rfl⟩, hu2⟩
  obtain ⟨ws, hP, hD, hl1, hl2, hC⟩ := id hW
  have ht10 := eb_vw_lt hq
  obtain ⟨h8, e1, he1, hC1⟩ := eb_W_at hC (by omega) ha
  obtain ⟨fs, rfl, -⟩ := eb_C_obj hC1 (ht ▸ hq)
  refine ⟨cr, _, hr, va_runVN (As := cu.reverse) (rest := cr) (C := q.1) ⟨X.1, X.2.1, X.2.2.2.2.1, X.2.2.2.2.2.1, X.2.2.2.2.2.2.2.1⟩ hM ⟨va_cnB (Ts := eb_tbl) (ws' := eb_tbl) (host := host) n X.2.2.2.2.2.2.2.1 (eb_good hcd) rfl rfl rfl (X.2.2.2.2.2.2.2.2.2.2.2.2.1 _ hlk) (X.2.2.2.2.2.2.2.1 _ hii) hdd ⟨by show fr2 + 1 ≤ R.frames; omega, by show 8 + (nL2 + 11) + 40 * fr2 ≤ R.locals; omega⟩, X.2.2.2.2.2.2.2.1 _ hin, X.2.2.2.2.2.2.2.1 _ (hse q hq)⟩ ⟨eb_blind, va_recv X.2.2.2.2.2.2.2.2.1 hP (ht ▸ hq) he1, eb_pre X.2.2.2.2.2.2.2.2 hW hS⟩ rfl (by rw [eb_st_len hu2]; exact hn) hl (by rw [List.reverse_reverse]) (lv_room (by rw [eb_st_cat hr]; exact hsm)) hd ⟨by omega, by omega⟩⟩

theorem eb_runS (hlk : Cond.methodLink y.cls idx y2 ∈ eb_tbl) (hst : Cond.static y2 ∈ eb_tbl) (hii : Cond.initialized y.cls ∈ eb_tbl) (hyc : y2.cls = y.cls) (hdd : y2.cls ≠ "java/lang/invoke/MethodHandle" ∧ y2.cls ≠ "java/lang/invoke/VarHandle" ∧ (parseMethodDescriptor y2.desc).map (fun d => d.parameters.length) = some n) (hct : eb_ct G y2 cc2 nL2 rt2 fr2 mc1 ms1 enc2 As σ o2) (hcd : Cond.code y2 cc2 nL2 rt2 ∈ eb_tbl) (hfr : fr2 + 1 ≤ fr ∧ nL2 ≤ 21) (hc1 : cn + mc1 ≤ mc) (hs1 : sn + ms1 ≤ ms) (hsm : (rest.map fun v => v.category).sum ≤ 8) (hn : As.length = n) (hd : decode cc pc = .ok (.invokestatic idx, 3)) : eb_runs G y cc nL rt fr mc ms pc (As.reverse ++ rest) rest σ cn sn mc1 ms1 enc2 o2 := by
  intro out ho p e s m args below meth c R hR X as ls cst H locs hl hs hW hS
  obtain ⟨cu, cr, rfl, hu, hr⟩ := eb_st_app hs
  have hu2 : eb_st G as As cu.reverse := by have := eb_st_rev hu; rwa [List.reverse_reverse] at this
  have hM := hct out ho as cu.reverse hu2
  refine ⟨cr, _, hr, va_runS (As := cu.reverse) (rest := cr) ⟨X.1, X.2.1, X.2.2.2.2.1, X.2.2.2.2.2.1, X.2.2.2.2.2.2.2.1⟩ hM (cwS (Ts := eb_tbl) (ws' := eb_tbl) n X.2.2.2.2.2.2.2.1 (eb_gcons hlk (eb_gcons hst (eb_gcons hii (eb_good hcd)))) rfl rfl rfl ⟨hyc, hdd⟩ ⟨by show fr2 + 1 ≤ R.frames; omega, by show 8 + (nL2 + 11) + 40 * fr2 ≤ R.locals; omega⟩) ⟨eb_blind, eb_pre X.2.2.2.2.2.2.2.2 hW hS⟩ rfl (by rw [eb_st_len hu2]; exact hn) hl (by rw [List.reverse_reverse]) (lv_room (by rw [eb_st_cat hr]; exact hsm)) hd ⟨by omega, by omega⟩⟩
theorem eb_runI (hlk : Cond.methodLink y.cls idx y2 ∈ eb_tbl) (hin : Cond.instanceMethod y2 ∈ eb_tbl) (hii : Cond.initialized y2.cls ∈ eb_tbl) (hyn : y2.name = "<init>") (hdd : y2.cls ≠ "java/lang/invoke/MethodHandle" ∧ y2.cls ≠ "java/lang/invoke/VarHandle" ∧ (parseMethodDescriptor y2.desc).map (fun d => d.parameters.length) = some n) (hct : eb_ct G y2 cc2 nL2 none fr2 mc1 ms1 enc2 (.ref k :: As) σ o2) (hcd : Cond.code y2 cc2 nL2 none ∈ eb_tbl) (hfr : fr2 + 1 ≤ fr ∧ nL2 ≤ 21) (hc1 : cn + mc1 ≤ mc) (hs1 : sn + ms1 ≤ ms) (hsm : (rest.map fun v => v.category).sum ≤ 8) (hn : As.length = n) (hd : decode cc pc = .ok (.invokespecial idx, 3)) : eb_runs G y cc nL rt fr mc ms pc (As.reverse ++ .ref k :: rest) rest σ cn sn mc1 ms1 enc2 o2 := by
  intro out ho p e s m args below meth c R hR X as ls cst H locs hl hs hW hS
  obtain ⟨cu, cv, rfl, hu, hv⟩ := eb_st_app hs
  obtain ⟨a, cr, rfl, ha, hr⟩ := eb_st_r hv
  have hu2 : eb_st G as As cu.reverse := by have := eb_st_rev hu; rwa [List.reverse_reverse] at this
  have hM := hct out ho as (.ref a :: cu.reverse) ⟨⟨a, ha, rfl⟩, hu2⟩
  refine ⟨cr, _, hr, va_runI (As := cu.reverse) (rest := cr) ⟨X.1, X.2.1, X.2.2.2.2.1, X.2.2.2.2.2.1, X.2.2.2.2.2.2.2.1⟩ hM (cwI (Ts := eb_tbl) (ws' := eb_tbl) n X.2.2.2.2.2.2.2.1 (eb_good hcd) rfl rfl rfl (X.2.2.2.2.2.2.2.1 _ hii) (X.2.2.2.2.2.2.2.1 _ hlk) (X.2.2.2.2.2.2.2.1 _ hin) hyn hdd ⟨by show fr2 + 1 ≤ R.frames; omega, by show 8 + (nL2 + 11) + 40 * fr2 ≤ R.locals; omega⟩) ⟨eb_blind, eb_pre X.2.2.2.2.2.2.2.2 hW hS⟩ rfl (by rw [eb_st_len hu2]; exact hn) hl (by rw [List.reverse_reverse]) (lv_room (by rw [eb_st_cat hr]; exact hsm)) hd ⟨by omega, by omega⟩⟩
theorem eb_runIN {host : String} (hlk : (y.cls, idx, y2, host) ∈ eb_nwM) (hin : Cond.instanceMethod y2 ∈ eb_tbl) (hii : Cond.initialized y2.cls ∈ eb_tbl) (hyn : y2.name = "<init>") (hdd : y2.cls ≠ "java/lang/invoke/MethodHandle" ∧ y2.cls ≠ "java/lang/invoke/VarHandle" ∧ (parseMethodDescriptor y2.desc).map (fun d => d.parameters.length) = some n) (hct : eb_ct G y2 cc2 nL2 none fr2 mc1 ms1 enc2 (.ref k :: As) σ o2) (hcd : Cond.code y2 cc2 nL2 none ∈ eb_tbl) (hfr : fr2 + 1 ≤ fr ∧ nL2 ≤ 21) (hc1 : cn + mc1 ≤ mc) (hs1 : sn + ms1 ≤ ms) (hsm : (rest.map fun v => v.category).sum ≤ 8) (hn : As.length = n) (hd : decode cc pc = .ok (.invokespecial idx, 3)) : eb_runs G y cc nL rt fr mc ms pc (As.reverse ++ .ref k :: rest) rest σ cn sn mc1 ms1 enc2 o2 := by
  intro out ho p e s m args below meth c R hR X as ls cst H locs hl hs hW hS
  obtain ⟨cu, cv, rfl, hu, hv⟩ := eb_st_app hs
  obtain ⟨a, cr, rfl, ha, hr⟩ := eb_st_r hv
  have hu2 : eb_st G as As cu.reverse := by have := eb_st_rev hu; rwa [List.reverse_reverse] at this
  have hM := hct out ho as (.ref a :: cu.reverse) ⟨⟨a, ha, rfl⟩, hu2⟩
  refine ⟨cr, _, hr, va_runIN (As := cu.reverse) (rest := cr) ⟨X.1, X.2.1, X.2.2.2.2.1, X.2.2.2.2.2.1, X.2.2.2.2.2.2.2.1⟩ hM ⟨va_cnB (Ts := eb_tbl) (ws' := eb_tbl) (host := host) n X.2.2.2.2.2.2.2.1 (eb_good hcd) rfl rfl rfl (X.2.2.2.2.2.2.2.2.2.2.2.2.1 _ hlk) (X.2.2.2.2.2.2.2.1 _ hii) hdd ⟨by show fr2 + 1 ≤ R.frames; omega, by show 8 + (nL2 + 11) + 40 * fr2 ≤ R.locals; omega⟩, hyn, X.2.2.2.2.2.2.2.1 _ hin⟩ ⟨eb_blind, eb_pre X.2.2.2.2.2.2.2.2 hW hS⟩ rfl (by rw [eb_st_len hu2]; exact hn) hl (by rw [List.reverse_reverse]) (lv_room (by rw [eb_st_cat hr]; exact hsm)) hd ⟨by omega, by omega⟩⟩

theorem eb_calli {o2 : Option (Int32 × eb_S)} {K : Int32 → eb_S → Option (ρ × eb_S)} (hrun : eb_runs G y cc nL rt fr mc ms pc st rest σ cn sn mc1 ms1 eb_ei o2) (kk : ∀ r σ', eb_go G y cc nL rt fr mc ms ri enc (pc + 3) L (.int r :: rest) σ' (cn + mc1) (sn + ms1) (K r σ')) : eb_go G y cc nL rt fr mc ms ri enc pc L st σ cn sn (eb_cl o2 K) := by
  intro out ho p e s m args below meth c Q R hR X as ls cst H locs hl hs hW hS kr
  cases ho2 : o2 with
  | none => rw [ho2] at ho; cases ho
  | some q =>
    rw [ho2] at ho
    obtain ⟨cr, a, hr, hrn⟩ := hrun q ho2 p e s m args below meth c R hR X as ls cst H locs hl.1 hs hW hS
    refine eb_callW hrn hS (fun as' H1 locs1 hp hW1 hS1 => ?_)
    exact kk q.1 q.2 out ho p e s m args below meth c Q R hR X as' ls _ H1 locs1 (eb_lo_ext hp hl) ⟨rfl, eb_st_ext hp hr⟩ hW1 hS1 (fun as2 ls' H' locs' pc' c' s' hp2 => kr as2 ls' H' locs' pc' c' s' (hp.trans hp2))

theorem eb_callb {o2 : Option (Bool × eb_S)} {K : Bool → eb_S → Option (ρ × eb_S)} (hrun : eb_runs G y cc nL rt fr mc ms pc st rest σ cn sn mc1 ms1 eb_eb o2) (kk : ∀ r σ', eb_go G y cc nL rt fr mc ms ri enc (pc + 3) L (.int (eb_b r) :: rest) σ' (cn + mc1) (sn + ms1) (K r σ')) : eb_go G y cc nL rt fr mc ms ri enc pc L st σ cn sn (eb_cl o2 K) := by
  intro out ho p e s m args below meth c Q R hR X as ls cst H locs hl hs hW hS kr
  cases ho2 : o2 with
  | none => rw [ho2] at ho; cases ho
  | some q =>
    rw [ho2] at ho
    obtain ⟨cr, a, hr, hrn⟩ := hrun q ho2 p e s m args below meth c R hR X as ls cst H locs hl.1 hs hW hS
    refine eb_callW hrn hS (fun as' H1 locs1 hp hW1 hS1 => ?_)
    exact kk q.1 q.2 out ho p e s m args below meth c Q R hR X as' ls _ H1 locs1 (eb_lo_ext hp hl) ⟨rfl, eb_st_ext hp hr⟩ hW1 hS1 (fun as2 ls' H' locs' pc' c' s' hp2 => kr as2 ls' H' locs' pc' c' s' (hp.trans hp2))

theorem eb_calll {o2 : Option (Int64 × eb_S)} {K : Int64 → eb_S → Option (ρ × eb_S)} (hrun : eb_runs G y cc nL rt fr mc ms pc st rest σ cn sn mc1 ms1 eb_el o2) (kk : ∀ r σ', eb_go G y cc nL rt fr mc ms ri enc (pc + 3) L (.long r :: rest) σ' (cn + mc1) (sn + ms1) (K r σ')) : eb_go G y cc nL rt fr mc ms ri enc pc L st σ cn sn (eb_cl o2 K) := by
  intro out ho p e s m args below meth c Q R hR X as ls cst H locs hl hs hW hS kr
  cases ho2 : o2 with
  | none => rw [ho2] at ho; cases ho
  | some q =>
    rw [ho2] at ho
    obtain ⟨cr, a, hr, hrn⟩ := hrun q ho2 p e s m args below meth c R hR X as ls cst H locs hl.1 hs hW hS
    refine eb_callW hrn hS (fun as' H1 locs1 hp hW1 hS1 => ?_)
    exact kk q.1 q.2 out ho p e s m args below meth c Q R hR X as' ls _ H1 locs1 (eb_lo_ext hp hl) ⟨rfl, eb_st_ext hp hr⟩ hW1 hS1 (fun as2 ls' H' locs' pc' c' s' hp2 => kr as2 ls' H' locs' pc' c' s' (hp.trans hp2))

theorem eb_callv {o2 : Option (Unit × eb_S)} {K : Unit → eb_S → Option (ρ × eb_S)} (hrun : eb_runs G y cc nL rt fr mc ms pc st rest σ cn sn mc1 ms1 eb_ev o2) (kk : ∀ r σ', eb_go G y cc nL rt fr mc ms ri enc (pc + 3) L (rest) σ' (cn + mc1) (sn + ms1) (K r σ')) : eb_go G y cc nL rt fr mc ms ri enc pc L st σ cn sn (eb_cl o2 K) := by
  intro out ho p e s m args below meth c Q R hR X as ls cst H locs hl hs hW hS kr
  cases ho2 : o2 with
  | none => rw [ho2] at ho; cases ho
  | some q =>
    rw [ho2] at ho
    obtain ⟨cr, a, hr, hrn⟩ := hrun q ho2 p e s m args below meth c R hR X as ls cst H locs hl.1 hs hW hS
    refine eb_callW hrn hS (fun as' H1 locs1 hp hW1 hS1 => ?_)
    exact kk q.1 q.2 out ho p e s m args below meth c Q R hR X as' ls _ H1 locs1 (eb_lo_ext hp hl) (eb_st_ext hp hr) hW1 hS1 (fun as2 ls' H' locs' pc' c' s' hp2 => kr as2 ls' H' locs' pc' c' s' (hp.trans hp2))

theorem eb_sl_len {as : List Nat} : ∀ {vs ws : List Value}, eb_st G as vs ws → (lg_sl ws).length = (lg_sl vs).length
  | [], [], _ => rfl
  | v :: vs, w :: ws, ⟨h1, h2⟩ => by
    have ih := eb_sl_len h2
    unfold lg_sl at ih ⊢
    rw [List.flatMap_cons, List.flatMap_cons, List.length_append, List.length_append, ih, eb_v_cat h1]
    by_cases hc : v.category = 2
    · rw [if_pos hc, if_pos hc]; rfl
    · rw [if_neg hc, if_neg hc]; rfl
  | [], _ :: _, h1 => h1.elim
  | _ :: _, [], h1 => h1.elim
theorem eb_args_lo {as : List Nat} {ls : Array Slot} : ∀ {i : Nat} {vs ws : List Value}, eb_st G as vs ws → (∀ q ∈ lv_args i ws, ls[q.1]? = some (.val q.2)) → ∀ q ∈ lv_args i vs, ∃ w, eb_v G as q.2 w ∧ ls[q.1]? = some (.val w)
  | _, [], [], _, _ => fun q hq => by cases hq
  | i, v :: vs, w :: ws, ⟨h1, h2⟩, h => fun q hq => by
    unfold lv_args at hq h
    rcases List.mem_cons.mp hq with rfl | hq
    · exact ⟨w, h1, h (i, w) List.mem_cons_self⟩
    · refine eb_args_lo (i := if v.category = 2 then i + 2 else i + 1) h2 (fun q' hq' => h q' (List.mem_cons_of_mem _ ?_)) q hq
      rw [eb_v_cat h1]
      exact hq'
  | _, [], _ :: _, h1, _ => h1.elim
  | _, _ :: _, [], h1, _ => h1.elim

theorem eb_ct_i {av : List Value} {o : Option (Int32 × eb_S)} (hy : plainName y.cls = true) (hlen : (lg_sl av).length ≤ nL) (hac : ∀ v ∈ av, v.category = 1 ∨ v.category = 2) (kk : eb_go G y cc nL (some .int) fr mc ms .ireturn (fun r : Int32 => [.int r]) 0 (lv_args 0 av) [] σ 0 0 o) : eb_ct G y cc nL (some .int) fr mc ms eb_ei av σ o := by
  intro out ho as cav hav
  refine Met.ofW (cc := cc) (maxL := nL) (ret := (some .int)) hy rfl ?_
  intro p e s m args below meth c s₁ B hml hv
  obtain ⟨rfl, hE, hW⟩ := hv
  have hts := atoms_spec (ws := eb_ws y cc nL (some .int)) B.pre
  have X : eb_X G y cc nL (some .int) p s m cav.toArray meth c := ⟨B.exec, B.bytes, B.returns, B.notSynchronized, hml, findClass_of_methodNamed B.named, fun h => (name_of_methodNamed B.named B.method).1.trans h, fun w hw => hts w (List.mem_cons_of_mem _ hw), hE⟩
  have hsl : (lg_sl cav).length = (lg_sl av).length := eb_sl_len hav
  have hl := lv_entry cav (n := nL) (by rw [hsl]; exact hlen)
  rw [lg_entry_eq]
  refine kk out ho p e s m _ below meth c _ _ ⟨Nat.le_refl _, Nat.le_refl _, Nat.le_refl _, Nat.le_refl _⟩ X as _ [] s.heap [] ⟨hl.1, hl.2.1, eb_args_lo hav hl.2.2⟩ trivial hW va_S.rf ?_
  intro as' ls' H' locs' pc' c' s' hp hW1 hS1 hc1 hs1 hdr
  refine W.widen (k := mc) (n := ms) hc1 hs1 ?_
  exact W.iret X.1 X.2.1 X.2.2.1 (fun t ht hV => ⟨⟨as', rfl, hp, by rw [ht]; exact hW1⟩, hS1.F ht⟩) hS1.2.2 hdr X.2.2.2.1

theorem eb_ct_b {av : List Value} {o : Option (Bool × eb_S)} (hy : plainName y.cls = true) (hlen : (lg_sl av).length ≤ nL) (hac : ∀ v ∈ av, v.category = 1 ∨ v.category = 2) (kk : eb_go G y cc nL (some .boolean) fr mc ms .ireturn (fun r : Bool => [.int (eb_b r)]) 0 (lv_args 0 av) [] σ 0 0 o) : eb_ct G y cc nL (some .boolean) fr mc ms eb_eb av σ o := by
  intro out ho as cav hav
  refine Met.ofW (cc := cc) (maxL := nL) (ret := (some .boolean)) hy rfl ?_
  intro p e s m args below meth c s₁ B hml hv
  obtain ⟨rfl, hE, hW⟩ := hv
  have hts := atoms_spec (ws := eb_ws y cc nL (some .boolean)) B.pre
  have X : eb_X G y cc nL (some .boolean) p s m cav.toArray meth c := ⟨B.exec, B.bytes, B.returns, B.notSynchronized, hml, findClass_of_methodNamed B.named, fun h => (name_of_methodNamed B.named B.method).1.trans h, fun w hw => hts w (List.mem_cons_of_mem _ hw), hE⟩
  have hsl : (lg_sl cav).length = (lg_sl av).length := eb_sl_len hav
  have hl := lv_entry cav (n := nL) (by rw [hsl]; exact hlen)
  rw [lg_entry_eq]
  refine kk out ho p e s m _ below meth c _ _ ⟨Nat.le_refl _, Nat.le_refl _, Nat.le_refl _, Nat.le_refl _⟩ X as _ [] s.heap [] ⟨hl.1, hl.2.1, eb_args_lo hav hl.2.2⟩ trivial hW va_S.rf ?_
  intro as' ls' H' locs' pc' c' s' hp hW1 hS1 hc1 hs1 hdr
  refine W.widen (k := mc) (n := ms) hc1 hs1 ?_
  exact W.zret X.1 X.2.1 X.2.2.1 (by cases out.1 <;> decide +kernel) (fun t ht hV => ⟨⟨as', rfl, hp, by rw [ht]; exact hW1⟩, hS1.F ht⟩) hS1.2.2 hdr X.2.2.2.1

theorem eb_ct_l {av : List Value} {o : Option (Int64 × eb_S)} (hy : plainName y.cls = true) (hlen : (lg_sl av).length ≤ nL) (hac : ∀ v ∈ av, v.category = 1 ∨ v.category = 2) (kk : eb_go G y cc nL (some .long) fr mc ms .lreturn (fun r : Int64 => [.long r]) 0 (lv_args 0 av) [] σ 0 0 o) : eb_ct G y cc nL (some .long) fr mc ms eb_el av σ o := by
  intro out ho as cav hav
  refine Met.ofW (cc := cc) (maxL := nL) (ret := (some .long)) hy rfl ?_
  intro p e s m args below meth c s₁ B hml hv
  obtain ⟨rfl, hE, hW⟩ := hv
  have hts := atoms_spec (ws := eb_ws y cc nL (some .long)) B.pre
  have X : eb_X G y cc nL (some .long) p s m cav.toArray meth c := ⟨B.exec, B.bytes, B.returns, B.notSynchronized, hml, findClass_of_methodNamed B.named, fun h => (name_of_methodNamed B.named B.method).1.trans h, fun w hw => hts w (List.mem_cons_of_mem _ hw), hE⟩
  have hsl : (lg_sl cav).length = (lg_sl av).length := eb_sl_len hav
  have hl := lv_entry cav (n := nL) (by rw [hsl]; exact hlen)
  rw [lg_entry_eq]
  refine kk out ho p e s m _ below meth c _ _ ⟨Nat.le_refl _, Nat.le_refl _, Nat.le_refl _, Nat.le_refl _⟩ X as _ [] s.heap [] ⟨hl.1, hl.2.1, eb_args_lo hav hl.2.2⟩ trivial hW va_S.rf ?_
  intro as' ls' H' locs' pc' c' s' hp hW1 hS1 hc1 hs1 hdr
  refine W.widen (k := mc) (n := ms) hc1 hs1 ?_
  exact W.lret X.1 X.2.1 X.2.2.1 (fun t ht hV => ⟨⟨as', rfl, hp, by rw [ht]; exact hW1⟩, hS1.F ht⟩) hS1.2.2 hdr X.2.2.2.1

theorem eb_ct_v {av : List Value} {o : Option (Unit × eb_S)} (hy : plainName y.cls = true) (hlen : (lg_sl av).length ≤ nL) (hac : ∀ v ∈ av, v.category = 1 ∨ v.category = 2) (kk : eb_go G y cc nL none fr mc ms .return_ (fun r : Unit => []) 0 (lv_args 0 av) [] σ 0 0 o) : eb_ct G y cc nL none fr mc ms eb_ev av σ o := by
  intro out ho as cav hav
  refine Met.ofW (cc := cc) (maxL := nL) (ret := none) hy rfl ?_
  intro p e s m args below meth c s₁ B hml hv
  obtain ⟨rfl, hE, hW⟩ := hv
  have hts := atoms_spec (ws := eb_ws y cc nL none) B.pre
  have X : eb_X G y cc nL none p s m cav.toArray meth c := ⟨B.exec, B.bytes, B.returns, B.notSynchronized, hml, findClass_of_methodNamed B.named, fun h => (name_of_methodNamed B.named B.method).1.trans h, fun w hw => hts w (List.mem_cons_of_mem _ hw), hE⟩
  have hsl : (lg_sl cav).length = (lg_sl av).length := eb_sl_len hav
  have hl := lv_entry cav (n := nL) (by rw [hsl]; exact hlen)
  rw [lg_entry_eq]
  refine kk out ho p e s m _ below meth c _ _ ⟨Nat.le_refl _, Nat.le_refl _, Nat.le_refl _, Nat.le_refl _⟩ X as _ [] s.heap [] ⟨hl.1, hl.2.1, eb_args_lo hav hl.2.2⟩ trivial hW va_S.rf ?_
  intro as' ls' H' locs' pc' c' s' hp hW1 hS1 hc1 hs1 hdr
  refine W.widen (k := mc) (n := ms) hc1 hs1 ?_
  exact W.vret X.1 X.2.1 X.2.2.1 (fun t ht hV => ⟨⟨as', rfl, hp, by rw [ht]; exact hW1⟩, hS1.F ht⟩) hS1.2.2 hdr X.2.2.2.1

/-- a truth's end -/
def eb_zb {τ : Type} (x : Int32) (K : Bool → Option τ) : Option τ := if x = 0 then K false else if x = 1 then K true else none
theorem eb_zret {x : Int32} (hd : decode cc pc = .ok (.ireturn, 1)) (hc : cn ≤ mc) (hs : sn ≤ ms) : eb_go G y cc nL rt fr mc ms .ireturn (fun r : Bool => [.int (eb_b r)]) pc L [.int x] σ cn sn (eb_zb x (fun b => some (b, σ))) := by
  intro out ho p e s m args below meth c Q R hR X as ls cst H locs hl hst hW hS kr
  obtain ⟨c_x, rfl, hst1⟩ := eb_st_i hst
  cases eb_st_nil hst1
  unfold eb_zb at ho
  by_cases h0 : x = 0
  · rw [if_pos h0] at ho
    subst h0
    cases ho
    exact kr as ls H locs pc cn sn (List.prefix_refl as) hW hS hc hs hd
  · rw [if_neg h0] at ho
    by_cases h1 : x = 1
    · rw [if_pos h1] at ho
      subst h1
      cases ho
      exact kr as ls H locs pc cn sn (List.prefix_refl as) hW hS hc hs hd
    · rw [if_neg h1] at ho; cases ho
theorem eb_bret {b : Bool} (hd : decode cc pc = .ok (.ireturn, 1)) (hc : cn ≤ mc) (hs : sn ≤ ms) : eb_go G y cc nL rt fr mc ms .ireturn (fun r : Bool => [.int (eb_b r)]) pc L [.int (eb_b b)] σ cn sn (some (b, σ)) := by
  intro out ho p e s m args below meth c Q R hR X as ls cst H locs hl hst hW hS kr
  obtain ⟨c_x, rfl, hst1⟩ := eb_st_i hst
  cases eb_st_nil hst1
  cases ho
  exact kr as ls H locs pc cn sn (List.prefix_refl as) hW hS hc hs hd

end EBC
