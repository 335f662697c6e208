/-! ===== the typed store, its worlds, and what a walk over it says ===== -/
/-- the words that every method carries: those of the tables that outlast a call -/
def eb_tbl : List Cond := (eb_x ++ lw_tbl).filter goodWord
theorem eb_tbl_good : GoodIn eb_tbl eb_tbl := fun w h => ⟨h, good_of_word (List.mem_filter.mp h).2⟩
theorem eb_tbl_in {w : Cond} (h : w ∈ lw_tbl) (hg : goodWord w = true) : w ∈ eb_tbl := List.mem_filter.mpr ⟨List.mem_append_right _ h, hg⟩
theorem eb_tbl_x {w : Cond} (h : w ∈ eb_x) (hg : goodWord w = true) : w ∈ eb_tbl := List.mem_filter.mpr ⟨List.mem_append_left _ h, hg⟩
/-- ints, longs, references (0: none), kinds, lengths, how many cells -/
abbrev eb_S : Type := (Nat → Nat → Int32) × (Nat → Nat → Int64) × (Nat → Nat → Nat) × (Nat → Nat) × (Nat → Nat) × Nat
def eb_I (σ : eb_S) : Nat → Nat → Int32 := σ.1
def eb_J (σ : eb_S) : Nat → Nat → Int64 := σ.2.1
def eb_R (σ : eb_S) : Nat → Nat → Nat := σ.2.2.1
def eb_T (σ : eb_S) : Nat → Nat := σ.2.2.2.1
def eb_L (σ : eb_S) : Nat → Nat := σ.2.2.2.2.1
def eb_N (σ : eb_S) : Nat := σ.2.2.2.2.2
/-- a row of rows with one row changed -/
def eb_up {α : Type} (f : Nat → α) (k : Nat) (x : α) : Nat → α := fun j => if j = k then x else f j
def eb_sI (σ : eb_S) (k j : Nat) (x : Int32) : eb_S := (eb_up (eb_I σ) k (upd (eb_I σ k) j x), eb_J σ, eb_R σ, eb_T σ, eb_L σ, eb_N σ)
def eb_sJ (σ : eb_S) (k j : Nat) (x : Int64) : eb_S := (eb_I σ, eb_up (eb_J σ) k (vp_updL (eb_J σ k) j x), eb_R σ, eb_T σ, eb_L σ, eb_N σ)
def eb_sR (σ : eb_S) (k j : Nat) (r : Nat) : eb_S := (eb_I σ, eb_J σ, eb_up (eb_R σ) k (eb_up (eb_R σ k) j r), eb_T σ, eb_L σ, eb_N σ)
def eb_rI (σ : eb_S) (k : Nat) (f : Nat → Int32) : eb_S := (eb_up (eb_I σ) k f, eb_J σ, eb_R σ, eb_T σ, eb_L σ, eb_N σ)
def eb_rJ (σ : eb_S) (k : Nat) (f : Nat → Int64) : eb_S := (eb_I σ, eb_up (eb_J σ) k f, eb_R σ, eb_T σ, eb_L σ, eb_N σ)
/-- a new cell: its number is eb_N σ + 8 -/
def eb_new (σ : eb_S) (t n : Nat) : eb_S := (eb_up (eb_I σ) (eb_N σ + 8) (fun _ => 0), eb_up (eb_J σ) (eb_N σ + 8) (fun _ => 0), eb_up (eb_R σ) (eb_N σ + 8) (fun _ => 0), eb_up (eb_T σ) (eb_N σ + 8) t, eb_up (eb_L σ) (eb_N σ + 8) n, eb_N σ + 1)
/-- launch, the numbers of the classes, array classes by kind, where new cells begin, the fixed cells 1 .. 7: addresses, lengths, contents -/
abbrev eb_G : Type := Launch × va_G × (Nat → ClassId) × Nat × (Nat → Nat) × (Nat → Nat) × (Nat → Nat → Int32)
def eb_gl (G : eb_G) : Launch := G.1
def eb_gD (G : eb_G) : va_G := G.2.1
def eb_gc (G : eb_G) : Nat → ClassId := G.2.2.1
def eb_gz (G : eb_G) : Nat := G.2.2.2.1
def eb_ga (G : eb_G) : Nat → Nat := G.2.2.2.2.1
def eb_gn (G : eb_G) : Nat → Nat := G.2.2.2.2.2.1
def eb_gx (G : eb_G) : Nat → Nat → Int32 := G.2.2.2.2.2.2
def eb_A (G : eb_G) : Nat → Prop := fun q => eb_gz G ≤ q
def eb_ty (G : eb_G) : List (ClassId × FieldType) := [(eb_gc G 10, .char), (eb_gc G 11, .int), (eb_gc G 12, .long), (eb_gc G 13, .object RX7)]
/-- the address of a cell by its number -/
def eb_a (G : eb_G) (as : List Nat) (r : Nat) : Option Nat := if r = 0 then none else if r < 8 then some (eb_ga G r) else as[r - 8]?
def eb_v (G : eb_G) (as : List Nat) (v w : Value) : Prop := match v with
  | .ref r => ∃ a, eb_a G as r = some a ∧ w = .ref a
  | .int x => w = .int x
  | .long x => w = .long x
  | _ => False
def eb_st (G : eb_G) (as : List Nat) : List Value → List Value → Prop
  | [], [] => True
  | v :: vs, w :: ws => eb_v G as v w ∧ eb_st G as vs ws
  | _, _ => False
/-- the field k of a class is a reference -/
def eb_isR (ci j : Nat) : Bool := match vwCl[ci]? with
  | none => false
  | some q => match parseFieldDescriptor (q.2.1 j).2.2.1 with
    | some (.object _) => true
    | some (.array _) => true
    | _ => false
def eb_rv (G : eb_G) (as : List Nat) (r : Nat) (w : Value) : Prop := (r = 0 ∧ w = .null) ∨ ∃ a, eb_a G as r = some a ∧ w = .ref a
def eb_fv (G : eb_G) (as : List Nat) (σ : eb_S) (ci k j : Nat) (w : Value) : Prop := if eb_isR ci j = true then eb_rv G as (eb_R σ k j) w else w = .int (eb_I σ k j)
/-- what the cell k is -/
def eb_C (G : eb_G) (as : List Nat) (σ : eb_S) (k : Nat) (e : va_E) : Prop :=
  if eb_T σ k < 10 then ∃ (q : vw_C) (fs : List Value), vwCl[eb_T σ k]? = some q ∧ e = .inr (eb_T σ k, fs) ∧ fs.length = q.2.2 ∧ ∀ j, j < q.2.2 → ∃ w, fs[j]? = some w ∧ eb_fv G as σ (eb_T σ k) k j w
  else if eb_T σ k < 12 then e = .inl (eb_gc G (eb_T σ k), eb_L σ k, .inl (eb_I σ k))
  else if eb_T σ k = 12 then e = .inl (eb_gc G 12, eb_L σ k, .inr (.inl (eb_J σ k)))
  else ∃ f : Nat → Option Nat, e = .inl (eb_gc G 13, eb_L σ k, .inr (.inr (.inr (.inr f)))) ∧ ∀ j, j < eb_L σ k → eb_rv G as (eb_R σ k j) (va_rf (f j))
def eb_W (G : eb_G) (as : List Nat) (σ : eb_S) (H : Heap) : Prop :=
  ∃ ws : va_W, va_P (eb_gD G) vwCl ws H ∧ va_D (eb_A G) ws ∧ as.length = eb_N σ ∧ ws.length = eb_N σ ∧ ∀ k, eb_T σ k < 14 → 8 ≤ k ∧ ∃ a e, as[k - 8]? = some a ∧ ws[k - 8]? = some (a, e) ∧ eb_C G as σ k e
/-- the statics that hold fixed rows -/
def eb_stats : List (String × String × Nat) := [(RX3, "MELTS", 1), (RX2, "X", 2), (RX2, "Y", 3)]
def eb_St (G : eb_G) (U : State) (H : Heap) : Prop :=
  (∀ r, 0 < r → r < 5 → ∃ cell : Cell, H[eb_ga G r]? = some cell ∧ U.isArrayOf cell .int ∧ cell.vm ≠ .unknown ∧ (eb_gn G r ≤ cell.slots.size ∧ cell.slots.size.toInt32 = Int32.ofNat (eb_gn G r)) ∧ (∀ j, j < eb_gn G r → cell.slots[j]? = some (.int (eb_gx G r j))) ∧ eb_ga G r < eb_gz G) ∧
  (∀ q ∈ eb_stats, va_Z q.1 q.2.1 "[I" (.ref (eb_ga G q.2.2)) (eb_A G) U H)
/-- what holds at the entry of a method, apart from the world -/
def eb_sk : Nat := 50
def eb_Sg (G : eb_G) (U : State) (H : Heap) : Prop := vk_R RX8 eb_sk "pisf" (eb_ga G 5) U ∧ vk_S 1 [4] [[112, 105, 115, 102]] (fun _ => eb_ga G 5) (fun _ => eb_ga G 6) (eb_A G) U H ∧ va_Z "java/lang/String" "COMPACT_STRINGS" "Z" (.int 1) (eb_A G) U H
def eb_E (G : eb_G) (U : State) : Prop := va_K (eb_gD G) vwCl (eb_ty G) U ∧ eb_gz G ≤ U.heap.size ∧ eb_St G U U.heap ∧ (∀ x ∈ eb_nwD, va_Nw (.declares x) U) ∧ (∀ q ∈ eb_nwM, va_Nw (.methodLinkNest q.1 q.2.1 q.2.2.1 q.2.2.2) U) ∧ va_AO RX7 U ∧ eb_Sg G U U.heap
def eb_X (G : eb_G) (y : MethodName) (cc : ByteArray) (nL : Nat) (rt : Option FieldType) (p : Program) (s : State) (m : MethodId) (args : Array Value) (meth : Method) (c : Code) : Prop :=
  p.tables.exec = Jvm.exec ∧ c.code = cc ∧ meth.sig.returnType = rt ∧ meth.locks = false ∧ c.maxLocals = nL ∧ s.vm.findClass y.cls = some m.cls ∧ (y.name = "<init>" → meth.name = "<init>") ∧ (∀ w ∈ eb_tbl, w.before args s = true) ∧ eb_E G s
def eb_lo (G : eb_G) (as : List Nat) (L : List (Nat × Value)) (ls : Array Slot) (nL : Nat) : Prop := ls.size = nL ∧ lv_wf ls ∧ ∀ q ∈ L, ∃ w, eb_v G as q.2 w ∧ ls[q.1]? = some (.val w)
/-- the machine at pc, with these locals, stack and store, comes to a return with 'o', if that is an answer -/
def eb_go {ρ : Type} (G : eb_G) (y : MethodName) (cc : ByteArray) (nL : Nat) (rt : Option FieldType) (fr mc ms : Nat) (ri : Instr) (enc : ρ → List Value) (pc : Nat) (L : List (Nat × Value)) (st : List Value) (σ : eb_S) (cn sn : Nat) (o : Option (ρ × eb_S)) : Prop :=
  ∀ out, o = some out → ∀ (p : Program) (e : Env) (s : State) (m : MethodId) (args : Array Value) (below : List Frame) (meth : Method) (c : Code) (Q : State → Prop) (R : Room),
    fr ≤ R.frames ∧ 40 * fr ≤ R.locals ∧ mc ≤ R.cells ∧ ms ≤ R.slots → eb_X G y cc nL rt p s m args meth c →
    ∀ (as : List Nat) (ls : Array Slot) (cst : List Value) (H : Heap) (locs : List Loc), eb_lo G as L ls nL → eb_st G as st cst → eb_W G as σ H → va_S (eb_A G) s.heap H locs →
    (∀ (as' : List Nat) (ls' : Array Slot) (H' : Heap) (locs' : List Loc) (pc' c' s' : Nat), as <+: as' → eb_W G as' out.2 H' → va_S (eb_A G) s.heap H' locs' → c' ≤ mc → s' ≤ ms → decode cc pc' = .ok (ri, 1) → W p (eb_gl G) e R s m args below meth c H' locs' c' s' Q (F0 m pc' ls' (enc out.1))) →
    W p (eb_gl G) e R s m args below meth c H locs cn sn Q (F0 m pc ls cst)
-- addresses only come, they do not go
theorem eb_a_ext {G : eb_G} {as as' : List Nat} (h : as <+: as') {r a : Nat} (ha : eb_a G as r = some a) : eb_a G as' r = some a := by
  unfold eb_a at ha ⊢
  by_cases h0 : r = 0
  · rw [if_pos h0] at ha; cases ha
  · rw [if_neg h0] at ha ⊢
    by_cases h8 : r < 8
    · rw [if_pos h8] at ha ⊢; exact ha
    · rw [if_neg h8] at ha ⊢
      obtain ⟨t, rfl⟩ := h
      have hl : r - 8 < as.length := (List.getElem?_eq_some_iff.mp ha).1
      rw [List.getElem?_append_left hl]
      exact ha
theorem eb_v_ext {G : eb_G} {as as' : List Nat} (h : as <+: as') {v w : Value} (hv : eb_v G as v w) : eb_v G as' v w := by
  unfold eb_v at hv ⊢
  split at hv
  · obtain ⟨a, h1, h2⟩ := hv
    exact ⟨a, eb_a_ext h h1, h2⟩
  · exact hv
  · exact hv
  · exact hv
theorem eb_st_ext {G : eb_G} {as as' : List Nat} (h : as <+: as') : ∀ {vs ws : List Value}, eb_st G as vs ws → eb_st G as' vs ws
  | [], [], _ => trivial
  | _ :: _, _ :: _, ⟨h1, h2⟩ => ⟨eb_v_ext h h1, eb_st_ext h h2⟩
  | [], _ :: _, h1 => h1.elim
  | _ :: _, [], h1 => h1.elim
theorem eb_rv_ext {G : eb_G} {as as' : List Nat} (h : as <+: as') {r : Nat} {w : Value} (hv : eb_rv G as r w) : eb_rv G as' r w := by
  rcases hv with hv | ⟨a, h1, h2⟩
  · exact Or.inl hv
  · exact Or.inr ⟨a, eb_a_ext h h1, h2⟩
theorem eb_lo_ext {G : eb_G} {as as' : List Nat} (h : as <+: as') {L : List (Nat × Value)} {ls : Array Slot} {nL : Nat} (hl : eb_lo G as L ls nL) : eb_lo G as' L ls nL :=
  ⟨hl.1, hl.2.1, fun q hq => by obtain ⟨w, h1, h2⟩ := hl.2.2 q hq; exact ⟨w, eb_v_ext h h1, h2⟩⟩
theorem eb_st_cons {G : eb_G} {as : List Nat} {v : Value} {vs ws : List Value} (h : eb_st G as (v :: vs) ws) : ∃ w ws', ws = w :: ws' ∧ eb_v G as v w ∧ eb_st G as vs ws' := by
  cases ws with
  | nil => exact h.elim
  | cons w ws' => exact ⟨w, ws', rfl, h.1, h.2⟩
theorem eb_st_i {G : eb_G} {as : List Nat} {x : Int32} {vs ws : List Value} (h : eb_st G as (.int x :: vs) ws) : ∃ ws', ws = .int x :: ws' ∧ eb_st G as vs ws' := by
  obtain ⟨w, ws', rfl, h1, h2⟩ := eb_st_cons h
  cases h1
  exact ⟨ws', rfl, h2⟩
theorem eb_st_l {G : eb_G} {as : List Nat} {x : Int64} {vs ws : List Value} (h : eb_st G as (.long x :: vs) ws) : ∃ ws', ws = .long x :: ws' ∧ eb_st G as vs ws' := by
  obtain ⟨w, ws', rfl, h1, h2⟩ := eb_st_cons h
  cases h1
  exact ⟨ws', rfl, h2⟩
theorem eb_st_r {G : eb_G} {as : List Nat} {r : Nat} {vs ws : List Value} (h : eb_st G as (.ref r :: vs) ws) : ∃ a ws', ws = .ref a :: ws' ∧ eb_a G as r = some a ∧ eb_st G as vs ws' := by
  obtain ⟨w, ws', rfl, h1, h2⟩ := eb_st_cons h
  obtain ⟨a, h3, rfl⟩ := h1
  exact ⟨a, ws', rfl, h3, h2⟩
theorem eb_st_nil {G : eb_G} {as : List Nat} {ws : List Value} (h : eb_st G as [] ws) : ws = [] := by
  cases ws with
  | nil => rfl
  | cons w ws' => exact h.elim
theorem eb_v_cat {G : eb_G} {as : List Nat} {v w : Value} (h : eb_v G as v w) : w.category = v.category := by
  cases v with
  | ref r => obtain ⟨a, -, rfl⟩ := h; rfl
  | int x => cases h; rfl
  | long x => cases h; rfl
  | _ => exact h.elim
theorem eb_st_cat {G : eb_G} {as : List Nat} : ∀ {vs ws : List Value}, eb_st G as vs ws → (ws.map fun v => v.category) = vs.map fun v => v.category
  | [], [], _ => rfl
  | _ :: _, _ :: _, ⟨h1, h2⟩ => by rw [List.map_cons, List.map_cons, eb_v_cat h1, eb_st_cat h2]
  | [], _ :: _, h1 => h1.elim
  | _ :: _, [], h1 => h1.elim
theorem eb_st_app {G : eb_G} {as : List Nat} : ∀ {us vs cst : List Value}, eb_st G as (us ++ vs) cst → ∃ cu cv, cst = cu ++ cv ∧ eb_st G as us cu ∧ eb_st G as vs cv
  | [], _, cst, h => ⟨[], cst, rfl, trivial, h⟩
  | u :: us, vs, cst, h => by
    obtain ⟨w, ws', rfl, h1, h2⟩ := eb_st_cons (v := u) (vs := us ++ vs) h
    obtain ⟨cu, cv, rfl, h3, h4⟩ := eb_st_app h2
    exact ⟨w :: cu, cv, rfl, ⟨h1, h3⟩, h4⟩
theorem eb_st_append {G : eb_G} {as : List Nat} : ∀ {us vs cu cv : List Value}, eb_st G as us cu → eb_st G as vs cv → eb_st G as (us ++ vs) (cu ++ cv)
  | [], _, [], _, _, h => h
  | _ :: _, _, _ :: _, _, ⟨h1, h2⟩, h => ⟨h1, eb_st_append h2 h⟩
  | [], _, _ :: _, _, h1, _ => h1.elim
  | _ :: _, _, [], _, h1, _ => h1.elim
theorem eb_st_rev {G : eb_G} {as : List Nat} : ∀ {vs ws : List Value}, eb_st G as vs ws → eb_st G as vs.reverse ws.reverse
  | [], [], _ => trivial
  | v :: vs, w :: ws, ⟨h1, h2⟩ => by
    rw [List.reverse_cons, List.reverse_cons]
    exact eb_st_append (eb_st_rev h2) ⟨h1, trivial⟩
  | [], _ :: _, h1 => h1.elim
  | _ :: _, [], h1 => h1.elim
theorem eb_st_len {G : eb_G} {as : List Nat} : ∀ {vs ws : List Value}, eb_st G as vs ws → ws.length = vs.length
  | [], [], _ => rfl
  | _ :: _, _ :: _, ⟨_, h2⟩ => by rw [List.length_cons, List.length_cons, eb_st_len h2]
  | [], _ :: _, h1 => h1.elim
  | _ :: _, [], h1 => h1.elim
-- locals
theorem eb_lo_at {G : eb_G} {as : List Nat} {L : List (Nat × Value)} {ls : Array Slot} {nL : Nat} (h : eb_lo G as L ls nL) {k i : Nat} {v : Value} (hk : L[k]? = some (i, v)) : ∃ w, eb_v G as v w ∧ ls[i]? = some (.val w) := h.2.2 (i, v) (List.mem_of_getElem? hk)
/-- the concrete list beside the listed values -/
theorem eb_lo_list {G : eb_G} {as : List Nat} {ls : Array Slot} {nL : Nat} : ∀ {L : List (Nat × Value)}, eb_lo G as L ls nL → ∃ lv : List (Nat × Value), lv_has ls nL lv ∧ ∀ (P : Nat → Nat → Bool), ∀ q ∈ L.filter (fun q => P q.1 q.2.category), ∃ w, eb_v G as q.2 w ∧ (q.1, w) ∈ lv.filter (fun q => P q.1 q.2.category)
  | [], h => ⟨[], ⟨h.1, h.2.1, fun _ hq => by cases hq⟩, fun _ q hq => by simp at hq⟩
  | (i, v) :: L, h => by
    obtain ⟨lv, h1, h2⟩ := eb_lo_list (L := L) ⟨h.1, h.2.1, fun q hq => h.2.2 q (List.mem_cons_of_mem _ hq)⟩
    obtain ⟨w, h3, h4⟩ := h.2.2 (i, v) List.mem_cons_self
    refine ⟨(i, w) :: lv, ⟨h1.1, h1.2.1, fun q hq => ?_⟩, fun P q hq => ?_⟩
    · rcases List.mem_cons.mp hq with rfl | hq
      · exact h4
      · exact h1.2.2 q hq
    · obtain ⟨hq1, hq2⟩ := List.mem_filter.mp hq
      rcases List.mem_cons.mp hq1 with rfl | hq1
      · refine ⟨w, h3, List.mem_filter.mpr ⟨List.mem_cons_self, ?_⟩⟩
        show P i w.category = true
        rw [eb_v_cat h3]
        exact hq2
      · obtain ⟨w', h5, h6⟩ := h2 P q (List.mem_filter.mpr ⟨hq1, hq2⟩)
        obtain ⟨h7, h8⟩ := List.mem_filter.mp h6
        exact ⟨w', h5, List.mem_filter.mpr ⟨List.mem_cons_of_mem _ h7, h8⟩⟩
abbrev eb_f1 (i : Nat) (L : List (Nat × Value)) : List (Nat × Value) := L.filter (fun q => !(q.1 == i) && !(q.1 + 1 == i && q.2.category == 2))
abbrev eb_f2 (i : Nat) (L : List (Nat × Value)) : List (Nat × Value) := L.filter (fun q => !(q.1 == i) && (!(q.1 == i + 1) && !(q.1 + 1 == i && q.2.category == 2)))
theorem eb_lo_f1 {G : eb_G} {as : List Nat} {ls : Array Slot} {nL : Nat} {L : List (Nat × Value)} (h : eb_lo G as L ls nL) : ∃ lv : List (Nat × Value), lv_has ls nL lv ∧ ∀ (i : Nat) (v w : Value) (ls' : Array Slot), eb_v G as v w → lv_has ls' nL ((i, w) :: eb_f1 i lv) → eb_lo G as ((i, v) :: eb_f1 i L) ls' nL := by
  obtain ⟨lv, h1, h2⟩ := eb_lo_list h
  refine ⟨lv, h1, fun i v w ls' hv hl => ⟨hl.1, hl.2.1, fun q hq => ?_⟩⟩
  rcases List.mem_cons.mp hq with rfl | hq
  · exact ⟨w, hv, hl.2.2 (i, w) List.mem_cons_self⟩
  · obtain ⟨w', h3, h4⟩ := h2 (fun a b => !(a == i) && !(a + 1 == i && b == 2)) q hq
    exact ⟨w', h3, hl.2.2 (q.1, w') (List.mem_cons_of_mem _ h4)⟩
theorem eb_lo_f2 {G : eb_G} {as : List Nat} {ls : Array Slot} {nL : Nat} {L : List (Nat × Value)} (h : eb_lo G as L ls nL) : ∃ lv : List (Nat × Value), lv_has ls nL lv ∧ ∀ (i : Nat) (v w : Value) (ls' : Array Slot), eb_v G as v w → lv_has ls' nL ((i, w) :: eb_f2 i lv) → eb_lo G as ((i, v) :: eb_f2 i L) ls' nL := by
  obtain ⟨lv, h1, h2⟩ := eb_lo_list h
  refine ⟨lv, h1, fun i v w ls' hv hl => ⟨hl.1, hl.2.1, fun q hq => ?_⟩⟩
  rcases List.mem_cons.mp hq with rfl | hq
  · exact ⟨w, hv, hl.2.2 (i, w) List.mem_cons_self⟩
  · obtain ⟨w', h3, h4⟩ := h2 (fun a b => !(a == i) && (!(a == i + 1) && !(a + 1 == i && b == 2))) q hq
    exact ⟨w', h3, hl.2.2 (q.1, w') (List.mem_cons_of_mem _ h4)⟩
theorem eb_lo_sub {G : eb_G} {as : List Nat} {ls : Array Slot} {nL : Nat} {L L' : List (Nat × Value)} (h : eb_lo G as L ls nL) (ks : List Nat) (hl : lv_pick L ks = L') : eb_lo G as L' ls nL := by
  refine ⟨h.1, h.2.1, fun q hq => ?_⟩
  rw [← hl] at hq
  obtain ⟨k, -, hk⟩ := List.mem_filterMap.mp hq
  exact h.2.2 q (List.mem_of_getElem? hk)
