def R_law : String := "EvenBagsLaw"
def lw_P (b : Addr) (xs : List Int32) (args : Array Value) (s : State) : Prop := args = #[.ref b] ∧ s.IntsAt b xs ∧ xs.length ≤ 384 ∧ (Jvm.Cond.and given_1 narrow_1).before args s = true
def lw_Q (_ : Array Value) (s : State) (o : Outcome) (t : State) : Prop := o = .returned (some (.int 1)) ∧ Framed s o t [] 600000 7302250
def lw_Z (below : List Frame) (a : Array Value) (s : State) : State → Prop := fun t => ∃ o, t.status = .running ∧ Ended t below o ∧ lw_Q a s o t
/-- the law's own end, with 1 on the stack, nothing written that was there before, its room as the claim has it -/
theorem lw_ret {p : Program} {l : Launch} {e : Env} {s : State} {m : MethodId} {below : List Frame} {meth : Method} {c : Code} {b : Nat} (hx : p.tables.exec = Jvm.exec) (hb : c.code = code) (hr : meth.sig.returnType = ret) (hlocks : meth.locks = false) {pc : Nat} {H : Heap} {ls : Array Slot} (hdg : decode code pc = .ok (.ireturn, 1)) : W p l e room_1 s m #[Value.ref b] below meth c H [] 600000 7302250 (lw_Z below #[Value.ref b] s) (F0 m pc ls [.int 1]) := by
  intro T hT X
  obtain ⟨fs, hret, hrun, hended, hW, hframe⟩ := X.leave (v := some (.int 1)) (hlocks := hlocks) (fun h => by rw [hr] at h; cases h)
  have hmeth' : T.vm.method? m = some meth := X.method'
  refine ⟨T.setFrames fs, ?_, .returned (some (.int 1)), hrun, hended, rfl, ⟨_, rfl⟩, hW, hframe⟩
  jvm_step X.here [X.here.top, hx, hb, hdg, hmeth', hr, ret, narrow_b1]
  (try refine ⟨rfl, ?_⟩); (try refine ⟨rfl, ?_⟩)
  first | (intro acts; rw [hret _ acts rfl rfl rfl]) | rw [hret _ _ rfl rfl rfl]
  exact Steps.refl _
/-- what holds at the law's entry: the machine, the code, the tables' words (any of lw_tbl by 'hts w (by decide +kernel)'), the script of L ints xs at the cell b, what the Statement gives of the start (any of its parts by flat_of_before) -/
def lw_At (p : Program) (s : State) (m : MethodId) (meth : Method) (c : Code) (b L : Nat) (xs : Nat → Int32) : Prop :=
  p.tables.exec = Jvm.exec ∧ c.code = code ∧ meth.sig.returnType = ret ∧ c.maxLocals = 4 ∧ s.vm.findClass R_law = some m.cls ∧ (∀ w ∈ lw_tbl, w.before #[Value.ref b] s = true) ∧ va_X b L xs s s.heap ∧ b < s.heap.size ∧ meth.locks = false ∧ (Jvm.Cond.and given_1 narrow_1).before #[Value.ref b] s = true

theorem eb_eqt {args : Array Value} {s : State} {t : Term} {z : Int32} (h : (Cond.eq t (.int z)).before args s = true) : t.eval args s none [] s = some (.int z) := by
  cases hv : t.eval args s none [] s with
  | none => simp [Cond.before, Cond.holds, Cond.value, hv] at h
  | some w =>
    have hz : (Term.int z).eval args s none [] s = some (.int z) := rfl
    simp only [Cond.before, Cond.holds, Cond.value, hv, hz] at h
    cases w <;> simp_all
theorem eb_selp {C : String} {x0 y y0 : MethodName} {s : State} {args : Array Value} {n : Nat} (hy : y.cls ≠ "java/lang/invoke/MethodHandle" ∧ y.cls ≠ "java/lang/invoke/VarHandle") (hins : (Cond.instantiable C n).before args s = true) (hpriv : (Cond.privateMethod y).before args s = true) (hinst : (Cond.instanceMethod y).before args s = true) (hsel0 : (Cond.selects C x0 y0).before args s = true) (hc0 : y0.cls = y.cls) : (Cond.selects C y y).before args s = true := by
  obtain ⟨c, k, hc, hk, -, -, -, -⟩ := Cond.instantiable_spec hins
  obtain ⟨mk, methM, hnamed, hmethM, -, -⟩ := Cond.instanceMethod_spec hinst
  have hfound : s.methodFound? y.cls y.name y.desc = some mk := State.methodFound?_of_named hnamed hy
  have hsel : selectMethod {} s.vm c mk = .method mk := selectMethod_private hmethM (Cond.privateMethod_at hpriv mk methM hnamed hmethM)
  obtain ⟨c2, r2, m2, q1, q2, q3, q4, kP, hkP, hkPi⟩ := Cond.selects_spec hsel0
  have e1 := findClass_of_methodNamed q3
  have e2 := findClass_of_methodNamed hnamed
  rw [hc0] at e1
  have hcls : m2.cls = mk.cls := Option.some.inj (e1.symm.trans e2)
  rw [hcls] at hkP
  simp only [Cond.before, Cond.holds, Cond.value, hc, hfound, hnamed, hsel, hkP]
  simp; exact hkPi

theorem eb_hx {args : Array Value} {s : State} (hts : ∀ w ∈ lw_tbl, w.before args s = true) : ∀ w ∈ eb_x, w.before args s = true := by
  intro w hw
  simp only [eb_x, List.mem_cons, List.not_mem_nil, or_false] at hw
  rcases hw with rfl | rfl | rfl | rfl | rfl | rfl | rfl | rfl | rfl | rfl | rfl | rfl | rfl | rfl | rfl
  · exact eb_selp (C := RX0) (x0 := ⟨RX0, "solve", "()V"⟩) (y0 := ⟨RX6, "solve", "()V"⟩) (n := 11) (by decide +kernel) (hts _ (List.mem_append_right _ (List.mem_append_left _ (List.mem_of_getElem? (i := 147) (by decide +kernel))))) (hts _ (List.mem_append_right _ (List.mem_append_right _ (List.mem_append_right _ (List.mem_append_left _ (List.mem_of_getElem? (i := 205) (by decide +kernel))))))) (hts _ (List.mem_append_right _ (List.mem_append_right _ (List.mem_append_right _ (List.mem_append_left _ (List.mem_of_getElem? (i := 206) (by decide +kernel))))))) (hts _ (List.mem_append_right _ (List.mem_append_right _ (List.mem_append_right _ (List.mem_append_left _ (List.mem_of_getElem? (i := 201) (by decide +kernel))))))) rfl
  · exact eb_selp (C := RX4) (x0 := ⟨RX4, "solve", "()V"⟩) (y0 := ⟨RX6, "solve", "()V"⟩) (n := 11) (by decide +kernel) (hts _ (List.mem_append_right _ (List.mem_append_left _ (List.mem_of_getElem? (i := 209) (by decide +kernel))))) (hts _ (List.mem_append_right _ (List.mem_append_right _ (List.mem_append_right _ (List.mem_append_left _ (List.mem_of_getElem? (i := 205) (by decide +kernel))))))) (hts _ (List.mem_append_right _ (List.mem_append_right _ (List.mem_append_right _ (List.mem_append_left _ (List.mem_of_getElem? (i := 206) (by decide +kernel))))))) (hts _ (List.mem_append_right _ (List.mem_append_right _ (List.mem_append_right _ (List.mem_append_right _ (List.mem_append_left _ (List.mem_of_getElem? (i := 115) (by decide +kernel)))))))) rfl
  · exact eb_selp (C := RX5) (x0 := ⟨RX5, "solve", "()V"⟩) (y0 := ⟨RX6, "solve", "()V"⟩) (n := 9) (by decide +kernel) (hts _ (List.mem_append_right _ (List.mem_append_left _ (List.mem_of_getElem? (i := 239) (by decide +kernel))))) (hts _ (List.mem_append_right _ (List.mem_append_right _ (List.mem_append_right _ (List.mem_append_left _ (List.mem_of_getElem? (i := 205) (by decide +kernel))))))) (hts _ (List.mem_append_right _ (List.mem_append_right _ (List.mem_append_right _ (List.mem_append_left _ (List.mem_of_getElem? (i := 206) (by decide +kernel))))))) (hts _ (List.mem_append_right _ (List.mem_append_right _ (List.mem_append_right _ (List.mem_append_right _ (List.mem_append_right _ (List.mem_append_left _ (List.mem_of_getElem? (i := 32) (by decide +kernel))))))))) rfl
  · exact eb_selp (C := RX0) (x0 := ⟨RX0, "solve", "()V"⟩) (y0 := ⟨RX6, "solve", "()V"⟩) (n := 11) (by decide +kernel) (hts _ (List.mem_append_right _ (List.mem_append_left _ (List.mem_of_getElem? (i := 147) (by decide +kernel))))) (hts _ (List.mem_append_right _ (List.mem_append_right _ (List.mem_append_right _ (List.mem_append_left _ (List.mem_of_getElem? (i := 209) (by decide +kernel))))))) (hts _ (List.mem_append_right _ (List.mem_append_right _ (List.mem_append_right _ (List.mem_append_left _ (List.mem_of_getElem? (i := 210) (by decide +kernel))))))) (hts _ (List.mem_append_right _ (List.mem_append_right _ (List.mem_append_right _ (List.mem_append_left _ (List.mem_of_getElem? (i := 201) (by decide +kernel))))))) rfl
  · exact eb_selp (C := RX4) (x0 := ⟨RX4, "solve", "()V"⟩) (y0 := ⟨RX6, "solve", "()V"⟩) (n := 11) (by decide +kernel) (hts _ (List.mem_append_right _ (List.mem_append_left _ (List.mem_of_getElem? (i := 209) (by decide +kernel))))) (hts _ (List.mem_append_right _ (List.mem_append_right _ (List.mem_append_right _ (List.mem_append_left _ (List.mem_of_getElem? (i := 209) (by decide +kernel))))))) (hts _ (List.mem_append_right _ (List.mem_append_right _ (List.mem_append_right _ (List.mem_append_left _ (List.mem_of_getElem? (i := 210) (by decide +kernel))))))) (hts _ (List.mem_append_right _ (List.mem_append_right _ (List.mem_append_right _ (List.mem_append_right _ (List.mem_append_left _ (List.mem_of_getElem? (i := 115) (by decide +kernel)))))))) rfl
  · exact eb_selp (C := RX5) (x0 := ⟨RX5, "solve", "()V"⟩) (y0 := ⟨RX6, "solve", "()V"⟩) (n := 9) (by decide +kernel) (hts _ (List.mem_append_right _ (List.mem_append_left _ (List.mem_of_getElem? (i := 239) (by decide +kernel))))) (hts _ (List.mem_append_right _ (List.mem_append_right _ (List.mem_append_right _ (List.mem_append_left _ (List.mem_of_getElem? (i := 209) (by decide +kernel))))))) (hts _ (List.mem_append_right _ (List.mem_append_right _ (List.mem_append_right _ (List.mem_append_left _ (List.mem_of_getElem? (i := 210) (by decide +kernel))))))) (hts _ (List.mem_append_right _ (List.mem_append_right _ (List.mem_append_right _ (List.mem_append_right _ (List.mem_append_right _ (List.mem_append_left _ (List.mem_of_getElem? (i := 32) (by decide +kernel))))))))) rfl
  · exact eb_selp (C := RX0) (x0 := ⟨RX0, "solve", "()V"⟩) (y0 := ⟨RX6, "solve", "()V"⟩) (n := 11) (by decide +kernel) (hts _ (List.mem_append_right _ (List.mem_append_left _ (List.mem_of_getElem? (i := 147) (by decide +kernel))))) (hts _ (List.mem_append_right _ (List.mem_append_right _ (List.mem_append_right _ (List.mem_append_left _ (List.mem_of_getElem? (i := 226) (by decide +kernel))))))) (hts _ (List.mem_append_right _ (List.mem_append_right _ (List.mem_append_right _ (List.mem_append_left _ (List.mem_of_getElem? (i := 227) (by decide +kernel))))))) (hts _ (List.mem_append_right _ (List.mem_append_right _ (List.mem_append_right _ (List.mem_append_left _ (List.mem_of_getElem? (i := 201) (by decide +kernel))))))) rfl
  · exact eb_selp (C := RX4) (x0 := ⟨RX4, "solve", "()V"⟩) (y0 := ⟨RX6, "solve", "()V"⟩) (n := 11) (by decide +kernel) (hts _ (List.mem_append_right _ (List.mem_append_left _ (List.mem_of_getElem? (i := 209) (by decide +kernel))))) (hts _ (List.mem_append_right _ (List.mem_append_right _ (List.mem_append_right _ (List.mem_append_left _ (List.mem_of_getElem? (i := 226) (by decide +kernel))))))) (hts _ (List.mem_append_right _ (List.mem_append_right _ (List.mem_append_right _ (List.mem_append_left _ (List.mem_of_getElem? (i := 227) (by decide +kernel))))))) (hts _ (List.mem_append_right _ (List.mem_append_right _ (List.mem_append_right _ (List.mem_append_right _ (List.mem_append_left _ (List.mem_of_getElem? (i := 115) (by decide +kernel)))))))) rfl
  · exact eb_selp (C := RX5) (x0 := ⟨RX5, "solve", "()V"⟩) (y0 := ⟨RX6, "solve", "()V"⟩) (n := 9) (by decide +kernel) (hts _ (List.mem_append_right _ (List.mem_append_left _ (List.mem_of_getElem? (i := 239) (by decide +kernel))))) (hts _ (List.mem_append_right _ (List.mem_append_right _ (List.mem_append_right _ (List.mem_append_left _ (List.mem_of_getElem? (i := 226) (by decide +kernel))))))) (hts _ (List.mem_append_right _ (List.mem_append_right _ (List.mem_append_right _ (List.mem_append_left _ (List.mem_of_getElem? (i := 227) (by decide +kernel))))))) (hts _ (List.mem_append_right _ (List.mem_append_right _ (List.mem_append_right _ (List.mem_append_right _ (List.mem_append_right _ (List.mem_append_left _ (List.mem_of_getElem? (i := 32) (by decide +kernel))))))))) rfl
  · exact eb_selp (C := RX0) (x0 := ⟨RX0, "solve", "()V"⟩) (y0 := ⟨RX6, "solve", "()V"⟩) (n := 11) (by decide +kernel) (hts _ (List.mem_append_right _ (List.mem_append_left _ (List.mem_of_getElem? (i := 147) (by decide +kernel))))) (hts _ (List.mem_append_right _ (List.mem_append_right _ (List.mem_append_right _ (List.mem_append_right _ (List.mem_append_left _ (List.mem_of_getElem? (i := 64) (by decide +kernel)))))))) (hts _ (List.mem_append_right _ (List.mem_append_right _ (List.mem_append_right _ (List.mem_append_right _ (List.mem_append_left _ (List.mem_of_getElem? (i := 65) (by decide +kernel)))))))) (hts _ (List.mem_append_right _ (List.mem_append_right _ (List.mem_append_right _ (List.mem_append_left _ (List.mem_of_getElem? (i := 201) (by decide +kernel))))))) rfl
  · exact eb_selp (C := RX4) (x0 := ⟨RX4, "solve", "()V"⟩) (y0 := ⟨RX6, "solve", "()V"⟩) (n := 11) (by decide +kernel) (hts _ (List.mem_append_right _ (List.mem_append_left _ (List.mem_of_getElem? (i := 209) (by decide +kernel))))) (hts _ (List.mem_append_right _ (List.mem_append_right _ (List.mem_append_right _ (List.mem_append_right _ (List.mem_append_left _ (List.mem_of_getElem? (i := 64) (by decide +kernel)))))))) (hts _ (List.mem_append_right _ (List.mem_append_right _ (List.mem_append_right _ (List.mem_append_right _ (List.mem_append_left _ (List.mem_of_getElem? (i := 65) (by decide +kernel)))))))) (hts _ (List.mem_append_right _ (List.mem_append_right _ (List.mem_append_right _ (List.mem_append_right _ (List.mem_append_left _ (List.mem_of_getElem? (i := 115) (by decide +kernel)))))))) rfl
  · exact eb_selp (C := RX5) (x0 := ⟨RX5, "solve", "()V"⟩) (y0 := ⟨RX6, "solve", "()V"⟩) (n := 9) (by decide +kernel) (hts _ (List.mem_append_right _ (List.mem_append_left _ (List.mem_of_getElem? (i := 239) (by decide +kernel))))) (hts _ (List.mem_append_right _ (List.mem_append_right _ (List.mem_append_right _ (List.mem_append_right _ (List.mem_append_left _ (List.mem_of_getElem? (i := 64) (by decide +kernel)))))))) (hts _ (List.mem_append_right _ (List.mem_append_right _ (List.mem_append_right _ (List.mem_append_right _ (List.mem_append_left _ (List.mem_of_getElem? (i := 65) (by decide +kernel)))))))) (hts _ (List.mem_append_right _ (List.mem_append_right _ (List.mem_append_right _ (List.mem_append_right _ (List.mem_append_right _ (List.mem_append_left _ (List.mem_of_getElem? (i := 32) (by decide +kernel))))))))) rfl
  · exact eb_selp (C := RX0) (x0 := ⟨RX0, "solve", "()V"⟩) (y0 := ⟨RX6, "solve", "()V"⟩) (n := 11) (by decide +kernel) (hts _ (List.mem_append_right _ (List.mem_append_left _ (List.mem_of_getElem? (i := 147) (by decide +kernel))))) (hts _ (List.mem_append_right _ (List.mem_append_right _ (List.mem_append_right _ (List.mem_append_right _ (List.mem_append_left _ (List.mem_of_getElem? (i := 68) (by decide +kernel)))))))) (hts _ (List.mem_append_right _ (List.mem_append_right _ (List.mem_append_right _ (List.mem_append_right _ (List.mem_append_left _ (List.mem_of_getElem? (i := 69) (by decide +kernel)))))))) (hts _ (List.mem_append_right _ (List.mem_append_right _ (List.mem_append_right _ (List.mem_append_left _ (List.mem_of_getElem? (i := 201) (by decide +kernel))))))) rfl
  · exact eb_selp (C := RX4) (x0 := ⟨RX4, "solve", "()V"⟩) (y0 := ⟨RX6, "solve", "()V"⟩) (n := 11) (by decide +kernel) (hts _ (List.mem_append_right _ (List.mem_append_left _ (List.mem_of_getElem? (i := 209) (by decide +kernel))))) (hts _ (List.mem_append_right _ (List.mem_append_right _ (List.mem_append_right _ (List.mem_append_right _ (List.mem_append_left _ (List.mem_of_getElem? (i := 68) (by decide +kernel)))))))) (hts _ (List.mem_append_right _ (List.mem_append_right _ (List.mem_append_right _ (List.mem_append_right _ (List.mem_append_left _ (List.mem_of_getElem? (i := 69) (by decide +kernel)))))))) (hts _ (List.mem_append_right _ (List.mem_append_right _ (List.mem_append_right _ (List.mem_append_right _ (List.mem_append_left _ (List.mem_of_getElem? (i := 115) (by decide +kernel)))))))) rfl
  · exact eb_selp (C := RX5) (x0 := ⟨RX5, "solve", "()V"⟩) (y0 := ⟨RX6, "solve", "()V"⟩) (n := 9) (by decide +kernel) (hts _ (List.mem_append_right _ (List.mem_append_left _ (List.mem_of_getElem? (i := 239) (by decide +kernel))))) (hts _ (List.mem_append_right _ (List.mem_append_right _ (List.mem_append_right _ (List.mem_append_right _ (List.mem_append_left _ (List.mem_of_getElem? (i := 68) (by decide +kernel)))))))) (hts _ (List.mem_append_right _ (List.mem_append_right _ (List.mem_append_right _ (List.mem_append_right _ (List.mem_append_left _ (List.mem_of_getElem? (i := 69) (by decide +kernel)))))))) (hts _ (List.mem_append_right _ (List.mem_append_right _ (List.mem_append_right _ (List.mem_append_right _ (List.mem_append_right _ (List.mem_append_left _ (List.mem_of_getElem? (i := 32) (by decide +kernel))))))))) rfl

theorem eb_hts {args : Array Value} {s : State} (hts : ∀ w ∈ lw_tbl, w.before args s = true) : ∀ w ∈ eb_tbl, w.before args s = true := by
  intro w hw
  rcases List.mem_append.mp (List.mem_filter.mp hw).1 with h | h
  · exact eb_hx hts w h
  · exact hts w h

theorem eb_known {args : Array Value} {s : State} (hts : ∀ w ∈ lw_tbl, w.before args s = true) : ∀ (k : Nat), ∃ (cC : ClassId) (iS : Nat → Nat), ∀ q : vw_C, vwCl[k]? = some q → u_Kn s q.1 q.2.1 q.2.2 cC iS := by
  intro k
  match k with
  | 0 =>
    obtain ⟨c, iS, h⟩ := u_known (C := RX0) (T := TX0) (N := 11) (n := 11) hts (by decide +kernel) (hts _ (List.mem_append_right _ (List.mem_append_left _ (List.mem_of_getElem? (i := 147) (by decide +kernel)))))
    exact ⟨c, iS, fun q hq => by cases hq; exact h⟩
  | 1 =>
    obtain ⟨c, iS, h⟩ := u_known (C := RX1) (T := TX1) (N := 5) (n := 5) hts (by decide +kernel) (hts _ (List.mem_append_right _ (List.mem_append_right _ (List.mem_append_left _ (List.mem_of_getElem? (i := 24) (by decide +kernel))))))
    exact ⟨c, iS, fun q hq => by cases hq; exact h⟩
  | 2 =>
    obtain ⟨c, iS, h⟩ := u_known (C := RX2) (T := TX2) (N := 4) (n := 4) hts (by decide +kernel) (hts _ (List.mem_append_right _ (List.mem_append_right _ (List.mem_append_left _ (List.mem_of_getElem? (i := 48) (by decide +kernel))))))
    exact ⟨c, iS, fun q hq => by cases hq; exact h⟩
  | 3 =>
    obtain ⟨c, iS, h⟩ := u_known (C := RX3) (T := TX3) (N := 20) (n := 20) hts (by decide +kernel) (hts _ (List.mem_append_right _ (List.mem_append_left _ (List.mem_of_getElem? (i := 28) (by decide +kernel)))))
    exact ⟨c, iS, fun q hq => by cases hq; exact h⟩
  | 4 =>
    obtain ⟨c, iS, h⟩ := u_known (C := RX4) (T := TX4) (N := 11) (n := 11) hts (by decide +kernel) (hts _ (List.mem_append_right _ (List.mem_append_left _ (List.mem_of_getElem? (i := 209) (by decide +kernel)))))
    exact ⟨c, iS, fun q hq => by cases hq; exact h⟩
  | 5 =>
    obtain ⟨c, iS, h⟩ := u_known (C := RX5) (T := TX5) (N := 9) (n := 9) hts (by decide +kernel) (hts _ (List.mem_append_right _ (List.mem_append_left _ (List.mem_of_getElem? (i := 239) (by decide +kernel)))))
    exact ⟨c, iS, fun q hq => by cases hq; exact h⟩
  | 6 =>
    obtain ⟨c, iS, h⟩ := u_known (C := RX7) (T := TX7) (N := 3) (n := 3) hts (by decide +kernel) (hts _ (List.mem_append_right _ (List.mem_append_right _ (List.mem_append_left _ (List.mem_of_getElem? (i := 69) (by decide +kernel))))))
    exact ⟨c, iS, fun q hq => by cases hq; exact h⟩
  | 7 =>
    obtain ⟨c, iS, h⟩ := u_known (C := RX8) (T := TX8) (N := 3) (n := 3) hts (by decide +kernel) (hts _ (List.mem_append_right _ (List.mem_append_left _ (List.mem_of_getElem? (i := 129) (by decide +kernel)))))
    exact ⟨c, iS, fun q hq => by cases hq; exact h⟩
  | 8 =>
    obtain ⟨c, iS, h⟩ := u_known (C := RX9) (T := TX9) (N := 12) (n := 12) hts (by decide +kernel) (hts _ (List.mem_append_right _ (List.mem_append_left _ (List.mem_of_getElem? (i := 20) (by decide +kernel)))))
    exact ⟨c, iS, fun q hq => by cases hq; exact h⟩
  | 9 =>
    obtain ⟨c, iS, h⟩ := u_known (C := RX10) (T := TX10) (N := 43) (n := 43) hts (by decide +kernel) (hts _ (List.mem_append_right _ (List.mem_append_right _ (List.mem_append_right _ (List.mem_append_right _ (List.mem_append_right _ (List.mem_append_left _ (List.mem_of_getElem? (i := 80) (by decide +kernel)))))))))
    exact ⟨c, iS, fun q hq => by cases hq; exact h⟩
  | k + 10 => exact ⟨0, fun _ => 0, fun q hq => by simp [vwCl] at hq⟩

theorem eb_arrc {args : Array Value} {s : State} {ty : FieldType} (h : (Cond.arrayClass ty).before args s = true) (hty : ∀ c, va_RA s c ty ↔ s.vm.findClass ("[" ++ ty.toString) = some c) : ∃ c : ClassId, ArrOfT s c ty ∧ va_RA s c ty := by
  obtain ⟨c, k, comp, h1, h2, h3⟩ := Cond.arrayClass_spec h
  exact ⟨c, fun n z => ⟨fun k h => (by cases h), k, h2, comp, h3⟩, (hty c).mpr h1⟩
theorem eb_arro {args : Array Value} {s : State} {C : String} (h : (Cond.arrayOver (.object C)).before args s = true) : ∃ c : ClassId, ArrOfT s c (.object C) ∧ va_RA s c (.object C) := by
  obtain ⟨comp, c, k, h1, h2, h3, h4, h5⟩ := Cond.arrayOver_spec h
  exact ⟨c, fun n z => ⟨fun k h => (by cases h), k, h3, comp, h4⟩, k, comp, h3, h4, h1, h5⟩
theorem eb_fixrow {args : Array Value} {s : State} {A : Nat → Prop} {C n : String} {N : Nat} {f : Nat → Int32} (hN : N < 2 ^ 31) (hA : ∀ a : Nat, a < s.heap.size → ¬ A a) (hl : (Cond.laysStatic C n "[I").before args s = true) (hini : (Cond.initialized C).before args s = true) (harr : (Cond.arrayOf (.static C n "[I") .int).before args s = true) (hlen : (Cond.eq (.length (.static C n "[I")) (.int (Int32.ofNat N))).before args s = true) (hel : ∀ j, j < N → (Cond.eq (.elem (.static C n "[I") (.int (Int32.ofNat j))) (.int (f j))).before args s = true) : ∃ t : Nat, va_Z C n "[I" (.ref t) A s s.heap ∧ va_T .int t N (fun j => .int (f j)) A s s.heap := by
  obtain ⟨t, h1, h2⟩ := va_Tof (f := fun j => .int (f j)) hN harr (eb_eqt hlen) (fun j hj => eb_eqt (hel j hj)) hA
  exact ⟨t, va_Zof hl hini h1 hA, h2⟩

set_option maxRecDepth 100000 in
set_option maxHeartbeats 4000000 in
theorem eb_env {s : State} {b L : Nat} {xs : Nat → Int32} (l : Launch) (hts : ∀ w ∈ lw_tbl, w.before #[Value.ref b] s = true) (hX : va_X b L xs s s.heap) (hbl : b < s.heap.size) (hgv : (Jvm.Cond.and given_1 narrow_1).before #[Value.ref b] s = true) : ∃ G : eb_G, eb_gl G = l ∧ eb_gz G = s.heap.size ∧ eb_ok G ∧ eb_gn G 4 = L ∧ eb_gx G 4 = xs ∧ eb_ga G 4 = b ∧ eb_E G s := by
  have hs := flat_of_before _ hgv
  have hA : ∀ a : Nat, a < s.heap.size → ¬ (fun q : Nat => s.heap.size ≤ q) a := fun a h h2 => absurd h (Nat.not_lt.mpr h2)
  obtain ⟨t1, hZ1, hT1⟩ := eb_fixrow (A := fun q : Nat => s.heap.size ≤ q) (C := RX3) (n := "MELTS") (N := 4) (f := eb_k1) (by decide) hA (hts _ (List.mem_append_right _ (List.mem_append_right _ (List.mem_append_right _ (List.mem_append_left _ (List.mem_of_getElem? (i := 134) (by decide +kernel))))))) (hts _ (List.mem_append_right _ (List.mem_append_left _ (List.mem_of_getElem? (i := 2) (by decide +kernel))))) (hs _ (by decide +kernel)) (hs _ (by decide +kernel)) (fun j hj => by
      match j, hj with
      | 0, _ => exact hs _ (by decide +kernel)
      | 1, _ => exact hs _ (by decide +kernel)
      | 2, _ => exact hs _ (by decide +kernel)
      | 3, _ => exact hs _ (by decide +kernel)
      | j + 4, hj => exact absurd hj (by omega))
  obtain ⟨t2, hZ2, hT2⟩ := eb_fixrow (A := fun q : Nat => s.heap.size ≤ q) (C := RX2) (n := "X") (N := 8) (f := eb_k2) (by decide) hA (hts _ (List.mem_append_right _ (List.mem_append_right _ (List.mem_append_right _ (List.mem_append_right _ (List.mem_append_right _ (List.mem_append_left _ (List.mem_of_getElem? (i := 2) (by decide +kernel))))))))) (hts _ (List.mem_append_right _ (List.mem_append_left _ (List.mem_of_getElem? (i := 9) (by decide +kernel))))) (hs _ (by decide +kernel)) (hs _ (by decide +kernel)) (fun j hj => by
      match j, hj with
      | 0, _ => exact hs _ (by decide +kernel)
      | 1, _ => exact hs _ (by decide +kernel)
      | 2, _ => exact hs _ (by decide +kernel)
      | 3, _ => exact hs _ (by decide +kernel)
      | 4, _ => exact hs _ (by decide +kernel)
      | 5, _ => exact hs _ (by decide +kernel)
      | 6, _ => exact hs _ (by decide +kernel)
      | 7, _ => exact hs _ (by decide +kernel)
      | j + 8, hj => exact absurd hj (by omega))
  obtain ⟨t3, hZ3, hT3⟩ := eb_fixrow (A := fun q : Nat => s.heap.size ≤ q) (C := RX2) (n := "Y") (N := 8) (f := eb_k3) (by decide) hA (hts _ (List.mem_append_right _ (List.mem_append_right _ (List.mem_append_right _ (List.mem_append_right _ (List.mem_append_right _ (List.mem_append_left _ (List.mem_of_getElem? (i := 4) (by decide +kernel))))))))) (hts _ (List.mem_append_right _ (List.mem_append_left _ (List.mem_of_getElem? (i := 9) (by decide +kernel))))) (hs _ (by decide +kernel)) (hs _ (by decide +kernel)) (fun j hj => by
      match j, hj with
      | 0, _ => exact hs _ (by decide +kernel)
      | 1, _ => exact hs _ (by decide +kernel)
      | 2, _ => exact hs _ (by decide +kernel)
      | 3, _ => exact hs _ (by decide +kernel)
      | 4, _ => exact hs _ (by decide +kernel)
      | 5, _ => exact hs _ (by decide +kernel)
      | 6, _ => exact hs _ (by decide +kernel)
      | 7, _ => exact hs _ (by decide +kernel)
      | j + 8, hj => exact absurd hj (by omega))
  obtain ⟨adK, adV, hSt, hSe⟩ := vk_Sof (args := #[Value.ref b]) (s := s) (N := 1) (tm := fun _ => .string RX8 eb_sk) (len := [4]) (byt := [[112, 105, 115, 102]]) (A := fun q : Nat => s.heap.size ≤ q) (fun i hi => by rw [show i = 0 by omega]; decide) (fun i hi => hs _ (by decide +kernel)) (fun i hi => hs _ (by decide +kernel)) (fun i hi => hs _ (by decide +kernel)) (fun i hi => by rw [show i = 0 by omega]; exact hs _ (by decide +kernel)) (fun i hi j hj => by
      rw [show i = 0 by omega] at hj ⊢
      match j, hj with
      | 0, _ => exact hs _ (by decide +kernel)
      | 1, _ => exact hs _ (by decide +kernel)
      | 2, _ => exact hs _ (by decide +kernel)
      | 3, _ => exact hs _ (by decide +kernel)
      | j + 4, hj => exact absurd hj (by simp)) (fun i j hi hj hij => absurd (show i = j by omega) hij) hA
  have hCS : va_Z "java/lang/String" "COMPACT_STRINGS" "Z" (.int 1) (fun q : Nat => s.heap.size ≤ q) s s.heap := va_Zof (hts _ (List.mem_append_right _ (List.mem_append_right _ (List.mem_append_right _ (List.mem_append_left _ (List.mem_of_getElem? (i := 5) (by decide +kernel))))))) (hts _ (List.mem_append_right _ (List.mem_append_left _ (List.mem_of_getElem? (i := 12) (by decide +kernel))))) (eb_eqt (hs _ (by decide +kernel))) hA
  obtain ⟨cC, hcC1, hcC2⟩ := eb_arrc (ty := .char) (hts _ (List.mem_append_right _ (List.mem_append_left _ (List.mem_of_getElem? (i := 145) (by decide +kernel))))) (fun _ => Iff.rfl)
  obtain ⟨cI, hcI1, hcI2⟩ := eb_arrc (ty := .int) (hts _ (List.mem_append_right _ (List.mem_append_left _ (List.mem_of_getElem? (i := 127) (by decide +kernel))))) (fun _ => Iff.rfl)
  obtain ⟨cJ, hcJ1, hcJ2⟩ := eb_arrc (ty := .long) (hts _ (List.mem_append_right _ (List.mem_append_right _ (List.mem_append_left _ (List.mem_of_getElem? (i := 22) (by decide +kernel)))))) (fun _ => Iff.rfl)
  obtain ⟨cS, hcS1, hcS2⟩ := eb_arro (hts (.arrayOver (.object RX7)) (List.mem_append_right _ (List.mem_append_right _ (List.mem_append_left _ (List.mem_of_getElem? (i := 68) (by decide +kernel))))))
  refine ⟨(l, (fun k => Classical.choose (eb_known hts k), fun k => Classical.choose (Classical.choose_spec (eb_known hts k))), (fun k => if k = 10 then cC else if k = 11 then cI else if k = 12 then cJ else cS), s.heap.size, (fun r => if r = 1 then t1 else if r = 2 then t2 else if r = 3 then t3 else if r = 4 then b else if r = 5 then adK 0 else adV 0), (fun r => if r = 1 then 4 else if r = 4 then L else 8), (fun r => if r = 1 then eb_k1 else if r = 2 then eb_k2 else if r = 3 then eb_k3 else xs)), rfl, rfl, ⟨⟨rfl, rfl⟩, ⟨rfl, rfl⟩, ⟨rfl, rfl⟩⟩, rfl, rfl, rfl, ?_⟩
  refine ⟨⟨fun c q hq => Classical.choose_spec (Classical.choose_spec (eb_known hts c)) q hq, fun k q hq => ?_⟩, Nat.le_refl _, ⟨fun r h0 h5 => ?_, fun q hq => ?_⟩, fun x hx => ?_, fun q hq => ?_, va_AO.of (hts (.arrayOver (.object RX7)) (List.mem_append_right _ (List.mem_append_right _ (List.mem_append_left _ (List.mem_of_getElem? (i := 68) (by decide +kernel)))))), ?_, ?_, hCS⟩
  · match k, hq with
    | 0, hq => cases hq; exact ⟨hcC1, hcC2⟩
    | 1, hq => cases hq; exact ⟨hcI1, hcI2⟩
    | 2, hq => cases hq; exact ⟨hcJ1, hcJ2⟩
    | 3, hq => cases hq; exact ⟨hcS1, hcS2⟩
    | k + 4, hq => simp [eb_ty] at hq
  · match r, h0, h5 with
    | 1, _, _ =>
      obtain ⟨cell, g1, g2, g3, g4, g5, g6, g7⟩ := hT1
      exact ⟨cell, g1, g2, g3, ⟨g4, g5⟩, g6, Nat.lt_of_not_le g7⟩
    | 2, _, _ =>
      obtain ⟨cell, g1, g2, g3, g4, g5, g6, g7⟩ := hT2
      exact ⟨cell, g1, g2, g3, ⟨g4, g5⟩, g6, Nat.lt_of_not_le g7⟩
    | 3, _, _ =>
      obtain ⟨cell, g1, g2, g3, g4, g5, g6, g7⟩ := hT3
      exact ⟨cell, g1, g2, g3, ⟨g4, g5⟩, g6, Nat.lt_of_not_le g7⟩
    | 4, _, _ =>
      obtain ⟨cell, g1, g2, g3, g4, g5⟩ := hX
      exact ⟨cell, g1, g2, g3, ⟨Nat.le_of_eq g4.symm, by rw [g4]; rfl⟩, g5, hbl⟩
    | r + 5, _, h5 => exact absurd h5 (by omega)
  · rcases (by simpa [eb_stats] using hq : q = (RX3, "MELTS", 1) ∨ q = (RX2, "X", 2) ∨ q = (RX2, "Y", 3)) with rfl | rfl | rfl
    · exact hZ1
    · exact hZ2
    · exact hZ3
  · simp only [eb_nwD, List.mem_cons, List.not_mem_nil, or_false] at hx
    rcases hx with rfl | rfl | rfl
    · exact va_Nw.of rfl (hts _ (List.mem_append_right _ (List.mem_append_right _ (List.mem_append_right _ (List.mem_append_left _ (List.mem_of_getElem? (i := 214) (by decide +kernel)))))))
    · exact va_Nw.of rfl (hts _ (List.mem_append_right _ (List.mem_append_right _ (List.mem_append_right _ (List.mem_append_left _ (List.mem_of_getElem? (i := 230) (by decide +kernel)))))))
    · exact va_Nw.of rfl (hts _ (List.mem_append_right _ (List.mem_append_right _ (List.mem_append_right _ (List.mem_append_right _ (List.mem_append_left _ (List.mem_of_getElem? (i := 37) (by decide +kernel))))))))
  · simp only [eb_nwM, List.mem_cons, List.not_mem_nil, or_false] at hq
    rcases hq with rfl | rfl | rfl
    · exact va_Nw.of rfl (hts _ (List.mem_append_right _ (List.mem_append_left _ (List.mem_of_getElem? (i := 29) (by decide +kernel)))))
    · exact va_Nw.of rfl (hts _ (List.mem_append_right _ (List.mem_append_left _ (List.mem_of_getElem? (i := 130) (by decide +kernel)))))
    · exact va_Nw.of rfl (hts _ (List.mem_append_right _ (List.mem_append_right _ (List.mem_append_left _ (List.mem_of_getElem? (i := 70) (by decide +kernel))))))
  · exact vk_R.of (hts _ (List.mem_append_right _ (List.mem_append_right _ (List.mem_append_left _ (List.mem_of_getElem? (i := 231) (by decide +kernel)))))) (hSe 0 (by decide))
  · exact ⟨fun i hi => by rw [show i = 0 by omega]; exact hSt.1 0 (by decide), fun i j hi hj _ => by omega⟩
/-- the empty store -/
def eb_s0 : eb_S := (fun _ _ => 0, fun _ _ => 0, fun _ _ => 0, fun _ => 99, fun _ => 0, 0)
theorem eb_W0 {G : eb_G} {H : Heap} : eb_W G [] eb_s0 H := ⟨[], fun k q h => by simp at h, ⟨fun i j p q h => by simp at h, fun k q h => by simp at h⟩, rfl, rfl, fun k hk => absurd hk (by show ¬ (99 < 14); decide)⟩
set_option maxHeartbeats 4000000 in
/-- the law's walk, out of what its function answers -/
theorem whole_of (hp : ∀ (L : Nat) (xs : Nat → Int32), L ≤ 384 → ∃ (n : Nat) (σ : eb_S), f_L_law n L xs eb_s0 = some (true, σ)) {p : Program} {e : Env} {s : State} {m : MethodId} {below : List Frame} {meth : Method} {c : Code} (l : Launch) {b L : Nat} {xs : Nat → Int32} (hL : L ≤ 384) (C0 : lw_At p s m meth c b L xs) : W p l e room_1 s m #[Value.ref b] below meth c s.heap [] 0 0 (lw_Z below #[Value.ref b] s) (entryFrame m ([Value.ref b] : List Value).toArray 4) := by
  obtain ⟨hx, hb, hr, hml, hown, hts, hX, hbl, hlocks, hgv⟩ := id C0
  obtain ⟨n, σ, hf⟩ := hp L xs hL
  obtain ⟨G, g1, g2, g3, g4, g5, g6, g7⟩ := eb_env l hts hX hbl hgv
  subst g1
  have hl := lv_entry ([.ref b]) (n := 4) (Nat.le_of_ble_eq_true rfl)
  rw [lg_entry_eq]
  refine go_L_law (G := G) g3 n g4 g5 eb_s0 (true, σ) hf p e s m #[Value.ref b] below meth c (lw_Z below #[Value.ref b] s) room_1 (by decide) ⟨hx, hb, hr, hlocks, hml, hown, fun h => absurd h (by decide), eb_hts hts, g7⟩ [] _ [] s.heap [] ⟨hl.1, hl.2.1, fun q hq => ?_⟩ trivial eb_W0 va_S.rf ?_
  · rcases List.mem_singleton.mp hq with rfl
    exact ⟨.ref b, ⟨b, by rw [← g6]; exact eb_a_fix (by decide) (by decide), rfl⟩, hl.2.2 (0, .ref b) List.mem_cons_self⟩
  · intro as' ls' H' locs' pc' c' s' hpre hW1 hS1 hc1 hs1 hdr
    refine va_forget (fun q hq => by have := hS1.2.2 q hq; rw [eb_A, g2] at this; exact this) ?_
    refine W.widen (k := 600000) (n := 7302250) (Nat.le_trans hc1 (by decide)) (Nat.le_trans hs1 (by decide)) ?_
    exact lw_ret hx hb hr hlocks hdr
