/-! ===== the store's own operations, in continuation form, and their rows ===== -/
def eb_in (i : Int32) (n : Nat) : Bool := decide (¬ (i < 0 ∨ n ≤ i.toNatClampNeg))
def eb_gI {τ : Type} (σ : eb_S) (cs : List Nat) (k j : Nat) (K : Int32 → Option τ) : Option τ := if eb_T σ k ∈ cs then K (eb_I σ k j) else none
def eb_gR {τ : Type} (σ : eb_S) (cs : List Nat) (k j : Nat) (K : Nat → Option τ) : Option τ := if eb_T σ k ∈ cs ∧ eb_R σ k j ≠ 0 then K (eb_R σ k j) else none
def eb_pI {τ : Type} (σ : eb_S) (cs : List Nat) (k j : Nat) (x : Int32) (K : eb_S → Option τ) : Option τ := if eb_T σ k ∈ cs then K (eb_sI σ k j x) else none
def eb_pZ {τ : Type} (σ : eb_S) (cs : List Nat) (k j : Nat) (x : Int32) (K : eb_S → Option τ) : Option τ := if eb_T σ k ∈ cs ∧ (x = 0 ∨ x = 1) then K (eb_sI σ k j x) else none
def eb_pR {τ : Type} (σ : eb_S) (cs : List Nat) (k j r : Nat) (K : eb_S → Option τ) : Option τ := if eb_T σ k ∈ cs then K (eb_sR σ k j r) else none
def eb_ai {τ : Type} (σ : eb_S) (k : Nat) (i : Int32) (K : Int32 → Option τ) : Option τ := if eb_T σ k = 11 ∧ eb_in i (eb_L σ k) = true then K (eb_I σ k i.toNatClampNeg) else none
def eb_ac {τ : Type} (σ : eb_S) (k : Nat) (i : Int32) (K : Int32 → Option τ) : Option τ := if eb_T σ k = 10 ∧ eb_in i (eb_L σ k) = true then K (eb_I σ k i.toNatClampNeg) else none
def eb_al {τ : Type} (σ : eb_S) (k : Nat) (i : Int32) (K : Int64 → Option τ) : Option τ := if eb_T σ k = 12 ∧ eb_in i (eb_L σ k) = true then K (eb_J σ k i.toNatClampNeg) else none
def eb_ar {τ : Type} (σ : eb_S) (k : Nat) (i : Int32) (K : Nat → Option τ) : Option τ := if eb_T σ k = 13 ∧ eb_in i (eb_L σ k) = true ∧ eb_R σ k i.toNatClampNeg ≠ 0 then K (eb_R σ k i.toNatClampNeg) else none
def eb_wi {τ : Type} (σ : eb_S) (k : Nat) (i x : Int32) (K : eb_S → Option τ) : Option τ := if eb_T σ k = 11 ∧ eb_in i (eb_L σ k) = true then K (eb_sI σ k i.toNatClampNeg x) else none
def eb_wc {τ : Type} (σ : eb_S) (k : Nat) (i x : Int32) (K : eb_S → Option τ) : Option τ := if eb_T σ k = 10 ∧ eb_in i (eb_L σ k) = true then K (eb_sI σ k i.toNatClampNeg (vp_nar .char x)) else none
def eb_wl {τ : Type} (σ : eb_S) (k : Nat) (i : Int32) (x : Int64) (K : eb_S → Option τ) : Option τ := if eb_T σ k = 12 ∧ eb_in i (eb_L σ k) = true then K (eb_sJ σ k i.toNatClampNeg x) else none
def eb_wr {τ : Type} (σ : eb_S) (k : Nat) (i : Int32) (r : Nat) (K : eb_S → Option τ) : Option τ := if eb_T σ k = 13 ∧ eb_in i (eb_L σ k) = true ∧ eb_T σ r = 6 then K (eb_sR σ k i.toNatClampNeg r) else none
def eb_ln {τ : Type} (σ : eb_S) (k : Nat) (K : Int32 → Option τ) : Option τ := if 10 ≤ eb_T σ k ∧ eb_T σ k < 14 then K (Int32.ofNat (eb_L σ k)) else none
def eb_no {τ : Type} (σ : eb_S) (ci n : Nat) (K : Nat → eb_S → Option τ) : Option τ := K (eb_N σ + 8) (eb_new σ ci n)
def eb_na {τ : Type} (σ : eb_S) (t B : Nat) (i : Int32) (K : Nat → eb_S → Option τ) : Option τ := if ¬ i < 0 ∧ i.toNatClampNeg ≤ B then K (eb_N σ + 8) (eb_new σ t i.toNatClampNeg) else none
def eb_ci {τ : Type} (σ : eb_S) (k1 : Nat) (sp : Int32) (k2 : Nat) (dp n : Int32) (K : eb_S → Option τ) : Option τ := if eb_T σ k1 = 11 ∧ eb_T σ k2 = 11 ∧ ¬ sp < 0 ∧ ¬ dp < 0 ∧ ¬ n < 0 ∧ sp.toNatClampNeg + n.toNatClampNeg ≤ eb_L σ k1 ∧ dp.toNatClampNeg + n.toNatClampNeg ≤ eb_L σ k2 then K (eb_rI σ k2 (va_cpy (eb_I σ k1) (eb_I σ k2) sp.toNatClampNeg dp.toNatClampNeg n.toNatClampNeg)) else none
def eb_cj {τ : Type} (σ : eb_S) (k1 : Nat) (sp : Int32) (k2 : Nat) (dp n : Int32) (K : eb_S → Option τ) : Option τ := if eb_T σ k1 = 12 ∧ eb_T σ k2 = 12 ∧ ¬ sp < 0 ∧ ¬ dp < 0 ∧ ¬ n < 0 ∧ sp.toNatClampNeg + n.toNatClampNeg ≤ eb_L σ k1 ∧ dp.toNatClampNeg + n.toNatClampNeg ≤ eb_L σ k2 then K (eb_rJ σ k2 (va_cpy (eb_J σ k1) (eb_J σ k2) sp.toNatClampNeg dp.toNatClampNeg n.toNatClampNeg)) else none
/-- a fixed row: its length, its contents -/
def eb_xi {τ : Type} (n : Nat) (f : Nat → Int32) (i : Int32) (K : Int32 → Option τ) : Option τ := if eb_in i n = true then K (f i.toNatClampNeg) else none
/-- a call's answer goes on -/
def eb_cl {ρ τ : Type} (o : Option (ρ × eb_S)) (K : ρ → eb_S → Option τ) : Option τ := match o with
  | some q => K q.1 q.2
  | none => none
/-- what a field instruction needs of the tables -/
def eb_fo (own : String) (idx : Nat) (cs : List Nat) (j : Nat) (isr : Bool) : Prop := ∀ ci ∈ cs, ∃ q : vw_C, vwCl[ci]? = some q ∧ (∀ w ∈ u_ws q.1 q.2.1 q.2.2, w ∈ eb_tbl) ∧ j < q.2.2 ∧ eb_isR ci j = isr ∧ ∃ ref, Cond.fieldLink own idx ref (q.2.1 j).2.1 (q.2.1 j).2.2.1 ∈ eb_tbl ∧ (ref = (q.2.1 j).1 ∨ Cond.sameField ref (q.2.1 j).1 (q.2.1 j).2.1 (q.2.1 j).2.2.1 ∈ eb_tbl)
def eb_cu : Nat → Bool := fun ci => match vwCl[ci]? with
  | none => false
  | some q => (List.range q.2.2).all fun a => (List.range q.2.2).all fun b => (a == b || (q.2.1 a).2.1 != (q.2.1 b).2.1) && (parseFieldDescriptor (q.2.1 a).2.2.1).isSome
theorem eb_cu_ok : ∀ ci, ci < 10 → eb_cu ci = true := by decide +kernel
theorem eb_vw_lt {ci : Nat} {q : vw_C} (h : vwCl[ci]? = some q) : ci < 10 := (List.getElem?_eq_some_iff.mp h).1
theorem eb_nm {ci : Nat} {q : vw_C} (h : vwCl[ci]? = some q) : ∀ a, a < q.2.2 → ∀ b, b < q.2.2 → a ≠ b → (q.2.1 a).2.1 ≠ (q.2.1 b).2.1 := by
  intro a ha b hb hab he
  have h1 := eb_cu_ok ci (eb_vw_lt h)
  rw [eb_cu, h] at h1
  have h2 := List.all_eq_true.mp (List.all_eq_true.mp h1 a (List.mem_range.mpr ha)) b (List.mem_range.mpr hb)
  simp [hab, he] at h2
theorem eb_tys {ci : Nat} {q : vw_C} (h : vwCl[ci]? = some q) : ∀ a, a < q.2.2 → parseFieldDescriptor (q.2.1 a).2.2.1 = some ((parseFieldDescriptor (q.2.1 a).2.2.1).getD .int) := by
  intro a ha
  have h1 := eb_cu_ok ci (eb_vw_lt h)
  rw [eb_cu, h] at h1
  have h2 := List.all_eq_true.mp (List.all_eq_true.mp h1 a (List.mem_range.mpr ha)) a (List.mem_range.mpr ha)
  simp only [Bool.and_eq_true] at h2
  cases h3 : parseFieldDescriptor (q.2.1 a).2.2.1 with
  | none => rw [h3] at h2; cases h2.2
  | some t => rfl
theorem eb_rv_pos {G : eb_G} {as : List Nat} {r : Nat} {w : Value} (h : eb_rv G as r w) (hr : r ≠ 0) : ∃ a, eb_a G as r = some a ∧ w = .ref a := by
  rcases h with ⟨h, -⟩ | h
  · exact absurd h hr
  · exact h
theorem eb_T8 {G : eb_G} {as : List Nat} {σ : eb_S} {H : Heap} (hW : eb_W G as σ H) {k a : Nat} (ht : eb_T σ k < 14) (ha : eb_a G as k = some a) : 8 ≤ k ∧ as[k - 8]? = some a := by
  obtain ⟨ws, -, -, -, -, h⟩ := hW
  obtain ⟨h8, a', e, h1, -⟩ := h k ht
  unfold eb_a at ha
  rw [if_neg (by omega), if_neg (by omega)] at ha
  exact ⟨h8, ha⟩
/-- a cell of the world, by its number -/
theorem eb_W_at {G : eb_G} {as : List Nat} {σ : eb_S} {ws : va_W} (h : ∀ k, eb_T σ k < 14 → 8 ≤ k ∧ ∃ a e, as[k - 8]? = some a ∧ ws[k - 8]? = some (a, e) ∧ eb_C G as σ k e) {k a : Nat} (ht : eb_T σ k < 14) (ha : eb_a G as k = some a) : 8 ≤ k ∧ ∃ e, ws[k - 8]? = some (a, e) ∧ eb_C G as σ k e := by
  obtain ⟨h8, a', e, h1, h2, h3⟩ := h k ht
  unfold eb_a at ha
  rw [if_neg (by omega), if_neg (by omega), h1] at ha
  cases ha
  exact ⟨h8, e, h2, h3⟩
theorem eb_C_obj {G : eb_G} {as : List Nat} {σ : eb_S} {k : Nat} {e : va_E} (h : eb_C G as σ k e) {q : vw_C} (hq : vwCl[eb_T σ k]? = some q) : ∃ fs : List Value, e = .inr (eb_T σ k, fs) ∧ fs.length = q.2.2 ∧ ∀ j, j < q.2.2 → ∃ w, fs[j]? = some w ∧ eb_fv G as σ (eb_T σ k) k j w := by
  unfold eb_C at h
  rw [if_pos (eb_vw_lt hq)] at h
  obtain ⟨q', fs, h1, h2⟩ := h
  cases hq.symm.trans h1
  exact ⟨fs, h2⟩
theorem eb_C_arr {G : eb_G} {as : List Nat} {σ : eb_S} {k : Nat} {e : va_E} (h : eb_C G as σ k e) (h1 : ¬ eb_T σ k < 10) (h2 : eb_T σ k < 12) : e = .inl (eb_gc G (eb_T σ k), eb_L σ k, .inl (eb_I σ k)) := by
  unfold eb_C at h
  rw [if_neg h1, if_pos h2] at h
  exact h
theorem eb_C_lng {G : eb_G} {as : List Nat} {σ : eb_S} {k : Nat} {e : va_E} (h : eb_C G as σ k e) (h1 : eb_T σ k = 12) : e = .inl (eb_gc G 12, eb_L σ k, .inr (.inl (eb_J σ k))) := by
  unfold eb_C at h
  rw [if_neg (by omega), if_neg (by omega), if_pos h1] at h
  exact h
theorem eb_C_ref {G : eb_G} {as : List Nat} {σ : eb_S} {k : Nat} {e : va_E} (h : eb_C G as σ k e) (h1 : eb_T σ k = 13) : ∃ f : Nat → Option Nat, e = .inl (eb_gc G 13, eb_L σ k, .inr (.inr (.inr (.inr f)))) ∧ ∀ j, j < eb_L σ k → eb_rv G as (eb_R σ k j) (va_rf (f j)) := by
  unfold eb_C at h
  rw [if_neg (by omega), if_neg (by omega), if_neg (by omega)] at h
  exact h
theorem eb_up_s {α : Type} {f : Nat → α} {k : Nat} {x : α} : eb_up f k x k = x := by simp [eb_up]
theorem eb_up_n {α : Type} {f : Nat → α} {k j : Nat} {x : α} (h : j ≠ k) : eb_up f k x j = f j := by simp [eb_up, h]
/-- a world in which the cell k alone is another one -/
theorem eb_W_set {G : eb_G} {as : List Nat} {σ σ' : eb_S} {ws : va_W} {H1 : Heap} {k a : Nat} {e' : va_E} (h : ∀ k, eb_T σ k < 14 → 8 ≤ k ∧ ∃ a e, as[k - 8]? = some a ∧ ws[k - 8]? = some (a, e) ∧ eb_C G as σ k e) (hk : eb_T σ k < 14) (hka : as[k - 8]? = some a) (hl1 : as.length = eb_N σ) (hl2 : ws.length = eb_N σ)
    (hP : va_P (eb_gD G) vwCl (ws.set (k - 8) (a, e')) H1) (hD : va_D (eb_A G) (ws.set (k - 8) (a, e'))) (hT : eb_T σ' = eb_T σ) (hN : eb_N σ' = eb_N σ) (hC : eb_C G as σ' k e')
    (hI : ∀ j, j ≠ k → eb_I σ' j = eb_I σ j) (hJ : ∀ j, j ≠ k → eb_J σ' j = eb_J σ j) (hR : ∀ j, j ≠ k → eb_R σ' j = eb_R σ j) (hLn : eb_L σ' = eb_L σ) : eb_W G as σ' H1 := by
  refine ⟨_, hP, hD, by rw [hN]; exact hl1, by rw [List.length_set, hN]; exact hl2, fun j hj => ?_⟩
  rw [hT] at hj
  obtain ⟨h8, a2, e2, g1, g2, g3⟩ := h j hj
  have hk8 := (h k hk).1
  by_cases hjk : j = k
  · subst hjk
    refine ⟨h8, a, e', hka, ?_, hC⟩
    rw [List.getElem?_set_self (List.getElem?_eq_some_iff.mp g2).1]
  · refine ⟨h8, a2, e2, g1, ?_, ?_⟩
    · rw [List.getElem?_set_ne (by omega)]
      exact g2
    · unfold eb_C eb_fv at g3 ⊢
      rw [hT, hLn, hI j hjk, hJ j hjk, hR j hjk]
      exact g3
section EBH
variable {ρ : Type} {G : eb_G} {y : MethodName} {cc : ByteArray} {nL : Nat} {rt : Option FieldType} {fr mc ms : Nat} {ri : Instr} {enc : ρ → List Value} {pc : Nat} {L : List (Nat × Value)} {st : List Value} {σ : eb_S} {cn sn : Nat} {o o1 o2 : Option (ρ × eb_S)}
theorem eb_hsame {own ref o1 n1 d1 : String} {args : Array Value} {s : State} (hts : ∀ w ∈ eb_tbl, w.before args s = true) (h : ref = o1 ∨ Cond.sameField ref o1 n1 d1 ∈ eb_tbl) : ∀ x, s.fieldFound? o1 n1 d1 = some x → s.fieldFound? ref n1 d1 = some x := by
  intro x hx
  rcases h with rfl | h
  · exact hx
  · exact u_same (hts _ h) x hx
theorem eb_getI {idx : Nat} {cs : List Nat} {k j : Nat} {K : Int32 → Option (ρ × eb_S)} (hf : eb_fo y.cls idx cs j false) (hd : decode cc pc = .ok (.getfield idx, 3)) (kk : ∀ x, eb_go G y cc nL rt fr mc ms ri enc (pc + 3) L (.int x :: st) σ cn sn (K x)) : eb_go G y cc nL rt fr mc ms ri enc pc L (.ref k :: st) σ cn sn (eb_gI σ cs k j K) := by
  intro out ho p e s m args below meth c Q R hR X as ls cst H locs hl hs hW hS kr
  obtain ⟨a, c1, rfl, ha, hs1⟩ := eb_st_r hs
  unfold eb_gI at ho
  by_cases hc : eb_T σ k ∈ cs
  · rw [if_pos hc] at ho
    obtain ⟨ws, hP, hD, hl1, hl2, hC⟩ := id hW
    obtain ⟨q, hq, hin, hj, hisr, ref, hlk, href⟩ := hf _ hc
    obtain ⟨h8, e1, he1, hC1⟩ := eb_W_at hC (Nat.lt_of_lt_of_le (eb_vw_lt hq) (by decide)) ha
    obtain ⟨fs, rfl, hfl, hfv⟩ := eb_C_obj hC1 hq
    obtain ⟨w, hw1, hw2⟩ := hfv j hj
    unfold eb_fv at hw2
    rw [hisr, if_neg (by decide)] at hw2
    subst hw2
    refine va_get (D := eb_gD G) (ci := eb_T σ k) (C := q.1) (T := q.2.1) (N := q.2.2) X.1 X.2.1 X.2.2.2.2.2.2.2.1 hin X.2.2.2.2.2.1 X.2.2.2.2.2.2.2.2.1 hP (k - 8) he1 hq j hj (X.2.2.2.2.2.2.2.1 _ hlk) (eb_hsame (own := q.1) X.2.2.2.2.2.2.2.1 href) hw1 hd ?_
    exact kk _ out ho p e s m args below meth c Q R hR X as ls _ H locs hl ⟨rfl, hs1⟩ hW hS kr
  · rw [if_neg hc] at ho; cases ho
theorem eb_getR {idx : Nat} {cs : List Nat} {k j : Nat} {K : Nat → Option (ρ × eb_S)} (hf : eb_fo y.cls idx cs j true) (hd : decode cc pc = .ok (.getfield idx, 3)) (kk : ∀ r, eb_go G y cc nL rt fr mc ms ri enc (pc + 3) L (.ref r :: st) σ cn sn (K r)) : eb_go G y cc nL rt fr mc ms ri enc pc L (.ref k :: st) σ cn sn (eb_gR σ cs k j K) := by
  intro out ho p e s m args below meth c Q R hR X as ls cst H locs hl hs hW hS kr
  obtain ⟨a, c1, rfl, ha, hs1⟩ := eb_st_r hs
  unfold eb_gR at ho
  by_cases hc : eb_T σ k ∈ cs ∧ eb_R σ k j ≠ 0
  · rw [if_pos hc] at ho
    obtain ⟨ws, hP, hD, hl1, hl2, hC⟩ := id hW
    obtain ⟨q, hq, hin, hj, hisr, ref, hlk, href⟩ := hf _ hc.1
    obtain ⟨h8, e1, he1, hC1⟩ := eb_W_at hC (Nat.lt_of_lt_of_le (eb_vw_lt hq) (by decide)) ha
    obtain ⟨fs, rfl, hfl, hfv⟩ := eb_C_obj hC1 hq
    obtain ⟨w, hw1, hw2⟩ := hfv j hj
    unfold eb_fv at hw2
    rw [hisr, if_pos rfl] at hw2
    obtain ⟨b, hb1, rfl⟩ := eb_rv_pos hw2 hc.2
    refine va_get (D := eb_gD G) (ci := eb_T σ k) (C := q.1) (T := q.2.1) (N := q.2.2) X.1 X.2.1 X.2.2.2.2.2.2.2.1 hin X.2.2.2.2.2.1 X.2.2.2.2.2.2.2.2.1 hP (k - 8) he1 hq j hj (X.2.2.2.2.2.2.2.1 _ hlk) (eb_hsame (own := q.1) X.2.2.2.2.2.2.2.1 href) hw1 hd ?_
    exact kk _ out ho p e s m args below meth c Q R hR X as ls _ H locs hl ⟨⟨b, hb1, rfl⟩, hs1⟩ hW hS kr
  · rw [if_neg hc] at ho; cases ho
/-- writing a field: final ones in a constructor of their own class alone -/
def eb_fw (own : String) (nm : String) (cs : List Nat) (j : Nat) (ty : FieldType) : Prop := ∀ ci ∈ cs, ∀ q : vw_C, vwCl[ci]? = some q → parseFieldDescriptor (q.2.1 j).2.2.1 = some ty ∧ ((q.2.1 j).2.2.2 = false ∨ ((q.2.1 j).2.2.2 = true ∧ nm = "<init>" ∧ (q.2.1 j).1 = own))
theorem eb_put {idx : Nat} {cs : List Nat} {k j : Nat} {v w : Value} {isr : Bool} {ty : FieldType} {σ' : eb_S} (hf : eb_fo y.cls idx cs j isr) (hfw : eb_fw y.cls y.name cs j ty) (hd : decode cc pc = .ok (.putfield idx, 3)) {out : ρ × eb_S} {p : Program} {e : Env} {s : State} {m : MethodId} {args : Array Value} {below : List Frame} {meth : Method} {c : Code} {Q : State → Prop} {R : Room} (X : eb_X G y cc nL rt p s m args meth c) {as : List Nat} {ls : Array Slot} {cst : List Value} {H : Heap} {locs : List Loc} {a : Nat} (ha : eb_a G as k = some a) (hW : eb_W G as σ H) (hS : va_S (eb_A G) s.heap H locs) (hc : eb_T σ k ∈ cs) (hn : narrow ty w = w) (hfit : fits ty w = true)
    (hT : eb_T σ' = eb_T σ) (hN : eb_N σ' = eb_N σ) (hLn : eb_L σ' = eb_L σ) (hI : ∀ j, j ≠ k → eb_I σ' j = eb_I σ j) (hJ : ∀ j, j ≠ k → eb_J σ' j = eb_J σ j) (hRr : ∀ j, j ≠ k → eb_R σ' j = eb_R σ j) (hown : eb_fv G as σ' (eb_T σ k) k j w) (hoth : ∀ i, i ≠ j → eb_I σ' k i = eb_I σ k i ∧ eb_R σ' k i = eb_R σ k i)
    (kk : ∀ (H1 : Heap) (locs1 : List Loc), eb_W G as σ' H1 → va_S (eb_A G) s.heap H1 locs1 → W p (eb_gl G) e R s m args below meth c H1 locs1 cn sn Q (F0 m (pc + 3) ls cst)) : W p (eb_gl G) e R s m args below meth c H locs cn sn Q (F0 m pc ls (w :: .ref a :: cst)) := by
  obtain ⟨ws, hP, hD, hl1, hl2, hC⟩ := id hW
  obtain ⟨q, hq, hin, hj, hisr, ref, hlk, href⟩ := hf _ hc
  have ht14 : eb_T σ k < 14 := Nat.lt_of_lt_of_le (eb_vw_lt hq) (by decide)
  obtain ⟨h8, e1, he1, hC1⟩ := eb_W_at hC ht14 ha
  have hka := (eb_T8 hW ht14 ha).2
  obtain ⟨fs, rfl, hfl, hfv⟩ := eb_C_obj hC1 hq
  obtain ⟨hty, hfin⟩ := hfw _ hc q hq
  have key : ∀ (H1 : Heap) (locs1 : List Loc), va_P (eb_gD G) vwCl (ws.set (k - 8) (a, .inr (eb_T σ k, fs.set j w))) H1 → va_D (eb_A G) (ws.set (k - 8) (a, .inr (eb_T σ k, fs.set j w))) → va_S (eb_A G) s.heap H1 locs1 → W p (eb_gl G) e R s m args below meth c H1 locs1 cn sn Q (F0 m (pc + 3) ls cst) := by
    intro H1 locs1 hP1 hD1 hS1
    refine kk H1 locs1 (eb_W_set hC ht14 hka hl1 hl2 hP1 hD1 hT hN ?_ hI hJ hRr hLn) hS1
    unfold eb_C
    rw [hT, if_pos (eb_vw_lt hq)]
    refine ⟨q, fs.set j w, hq, rfl, by rw [List.length_set]; exact hfl, fun i hi => ?_⟩
    by_cases hij : i = j
    · subst hij
      exact ⟨w, by rw [List.getElem?_set_self (by omega)], hown⟩
    · obtain ⟨w2, g1, g2⟩ := hfv i hi
      refine ⟨w2, by rw [List.getElem?_set_ne (fun h => hij h.symm)]; exact g1, ?_⟩
      unfold eb_fv at g2 ⊢
      rw [(hoth i hij).1, (hoth i hij).2]
      exact g2
  rcases hfin with hfin | ⟨hfin, hnm, hdecl⟩
  · exact va_put (D := eb_gD G) (ci := eb_T σ k) (C := q.1) (T := q.2.1) (N := q.2.2) X.1 X.2.1 X.2.2.2.2.2.2.2.1 hin _ (eb_tys hq) (eb_nm hq) X.2.2.2.2.2.1 X.2.2.2.2.2.2.2.2.1 hP hD hS (k - 8) he1 hq j hj (X.2.2.2.2.2.2.2.1 _ hlk) (eb_hsame (own := q.1) X.2.2.2.2.2.2.2.1 href) hfin hty hn hfit (by omega) hd key
  · exact va_putF (D := eb_gD G) (ci := eb_T σ k) (C := q.1) (T := q.2.1) (N := q.2.2) X.1 X.2.1 X.2.2.2.2.2.2.2.1 hin _ (eb_tys hq) (eb_nm hq) X.2.2.2.2.2.1 X.2.2.2.2.2.2.2.2.1 hP hD hS (k - 8) he1 hq j hj (X.2.2.2.2.2.2.2.1 _ hlk) (eb_hsame (own := q.1) X.2.2.2.2.2.2.2.1 href) hfin (X.2.2.2.2.2.2.1 hnm) hdecl hty hn hfit (by omega) hd key
theorem eb_sI_o {k j i : Nat} {x : Int32} (h : i ≠ j) : eb_I (eb_sI σ k j x) k i = eb_I σ k i ∧ eb_R (eb_sI σ k j x) k i = eb_R σ k i := by
  refine ⟨?_, rfl⟩
  show eb_up (eb_I σ) k (upd (eb_I σ k) j x) k i = _
  rw [eb_up_s]
  simp [upd, h]
theorem eb_sI_s {k j : Nat} {x : Int32} : eb_I (eb_sI σ k j x) k j = x := by
  show eb_up (eb_I σ) k (upd (eb_I σ k) j x) k j = _
  rw [eb_up_s]
  simp [upd]
theorem eb_sI_n {k j i : Nat} {x : Int32} (h : i ≠ k) : eb_I (eb_sI σ k j x) i = eb_I σ i := eb_up_n h
theorem eb_sR_o {k j i r : Nat} (h : i ≠ j) : eb_I (eb_sR σ k j r) k i = eb_I σ k i ∧ eb_R (eb_sR σ k j r) k i = eb_R σ k i := by
  refine ⟨rfl, ?_⟩
  show eb_up (eb_R σ) k (eb_up (eb_R σ k) j r) k i = _
  rw [eb_up_s, eb_up_n h]
theorem eb_sR_s {k j r : Nat} : eb_R (eb_sR σ k j r) k j = r := by
  show eb_up (eb_R σ) k (eb_up (eb_R σ k) j r) k j = _
  rw [eb_up_s, eb_up_s]
theorem eb_putI {idx : Nat} {cs : List Nat} {k j : Nat} {x : Int32} {K : eb_S → Option (ρ × eb_S)} (hf : eb_fo y.cls idx cs j false) (hfw : eb_fw y.cls y.name cs j .int) (hd : decode cc pc = .ok (.putfield idx, 3)) (kk : ∀ σ', eb_go G y cc nL rt fr mc ms ri enc (pc + 3) L st σ' cn sn (K σ')) : eb_go G y cc nL rt fr mc ms ri enc pc L (.int x :: .ref k :: st) σ cn sn (eb_pI σ cs k j x K) := by
  intro out ho p e s m args below meth c Q R hR X as ls cst H locs hl hs hW hS kr
  obtain ⟨c0, rfl, hs0⟩ := eb_st_i hs
  obtain ⟨a, c1, rfl, ha, hs1⟩ := eb_st_r hs0
  unfold eb_pI at ho
  by_cases hc : eb_T σ k ∈ cs
  · rw [if_pos hc] at ho
    refine eb_put (v := .int x) (σ' := eb_sI σ k j x) (out := out) hf hfw hd X ha hW hS hc rfl rfl rfl rfl rfl (fun i hi => eb_sI_n hi) (fun _ _ => rfl) (fun _ _ => rfl) ?_ (fun i hi => eb_sI_o hi) (fun H1 locs1 hW1 hS1 => kk _ out ho p e s m args below meth c Q R hR X as ls _ H1 locs1 hl hs1 hW1 hS1 kr)
    unfold eb_fv
    obtain ⟨q, hq, hin, hj, hisr, -⟩ := hf _ hc
    rw [hisr, if_neg (by decide), eb_sI_s]
  · rw [if_neg hc] at ho; cases ho
theorem eb_putZ {idx : Nat} {cs : List Nat} {k j : Nat} {x : Int32} {K : eb_S → Option (ρ × eb_S)} (hf : eb_fo y.cls idx cs j false) (hfw : eb_fw y.cls y.name cs j .boolean) (hd : decode cc pc = .ok (.putfield idx, 3)) (kk : ∀ σ', eb_go G y cc nL rt fr mc ms ri enc (pc + 3) L st σ' cn sn (K σ')) : eb_go G y cc nL rt fr mc ms ri enc pc L (.int x :: .ref k :: st) σ cn sn (eb_pZ σ cs k j x K) := by
  intro out ho p e s m args below meth c Q R hR X as ls cst H locs hl hs hW hS kr
  obtain ⟨c0, rfl, hs0⟩ := eb_st_i hs
  obtain ⟨a, c1, rfl, ha, hs1⟩ := eb_st_r hs0
  unfold eb_pZ at ho
  by_cases hc : eb_T σ k ∈ cs ∧ (x = 0 ∨ x = 1)
  · rw [if_pos hc] at ho
    have hnn : narrow .boolean (.int x) = .int x ∧ fits .boolean (.int x) = true := by
      rcases hc.2 with rfl | rfl <;> exact ⟨by decide +kernel, by decide +kernel⟩
    refine eb_put (v := .int x) (σ' := eb_sI σ k j x) (out := out) hf hfw hd X ha hW hS hc.1 hnn.1 hnn.2 rfl rfl rfl (fun i hi => eb_sI_n hi) (fun _ _ => rfl) (fun _ _ => rfl) ?_ (fun i hi => eb_sI_o hi) (fun H1 locs1 hW1 hS1 => kk _ out ho p e s m args below meth c Q R hR X as ls _ H1 locs1 hl hs1 hW1 hS1 kr)
    unfold eb_fv
    obtain ⟨q, hq, hin, hj, hisr, -⟩ := hf _ hc.1
    rw [hisr, if_neg (by decide), eb_sI_s]
  · rw [if_neg hc] at ho; cases ho
theorem eb_putR {idx : Nat} {cs : List Nat} {k j r : Nat} {ty : FieldType} {K : eb_S → Option (ρ × eb_S)} (hf : eb_fo y.cls idx cs j true) (hfw : eb_fw y.cls y.name cs j ty) (hty : ∀ a, narrow ty (.ref a) = .ref a ∧ fits ty (.ref a) = true) (hd : decode cc pc = .ok (.putfield idx, 3)) (kk : ∀ σ', eb_go G y cc nL rt fr mc ms ri enc (pc + 3) L st σ' cn sn (K σ')) : eb_go G y cc nL rt fr mc ms ri enc pc L (.ref r :: .ref k :: st) σ cn sn (eb_pR σ cs k j r K) := by
  intro out ho p e s m args below meth c Q R hR X as ls cst H locs hl hs hW hS kr
  obtain ⟨b, c0, rfl, hb, hs0⟩ := eb_st_r hs
  obtain ⟨a, c1, rfl, ha, hs1⟩ := eb_st_r hs0
  unfold eb_pR at ho
  by_cases hc : eb_T σ k ∈ cs
  · rw [if_pos hc] at ho
    refine eb_put (v := .ref r) (σ' := eb_sR σ k j r) (out := out) hf hfw hd X ha hW hS hc (hty b).1 (hty b).2 rfl rfl rfl (fun _ _ => rfl) (fun _ _ => rfl) (fun i hi => eb_up_n hi) ?_ (fun i hi => eb_sR_o hi) (fun H1 locs1 hW1 hS1 => kk _ out ho p e s m args below meth c Q R hR X as ls _ H1 locs1 hl hs1 hW1 hS1 kr)
    unfold eb_fv
    obtain ⟨q, hq, hin, hj, hisr, -⟩ := hf _ hc
    rw [hisr, if_pos rfl, eb_sR_s]
    exact Or.inr ⟨b, hb, rfl⟩
  · rw [if_neg hc] at ho; cases ho
end EBH
