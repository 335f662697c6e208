section EBR
variable {ρ : Type} {G : eb_G} {y : MethodName} {cc : ByteArray} {nL : Nat} {rt : Option FieldType} {fr mc ms : Nat} {ri : Instr} {enc : ρ → List Value} {pc : Nat} {L : List (Nat × Value)} {st : List Value} {σ : eb_S} {cn sn : Nat} {o o1 o2 : Option (ρ × eb_S)}
theorem eb_iadd {a : Int32} {b : Int32} (hd : decode cc pc = .ok (.iadd, 1)) (k : eb_go G y cc nL rt fr mc ms ri enc (pc + 1) L (.int (a + b) :: st) σ cn sn o) : eb_go G y cc nL rt fr mc ms ri enc pc L (.int b :: .int a :: st) σ cn sn o := by
  intro out ho p e s m args below meth c Q R hR X as ls cst H locs hl hs hW hS kr
  obtain ⟨c_b, rfl, hs1⟩ := eb_st_i hs
  obtain ⟨c_a, rfl, hs2⟩ := eb_st_i hs1
  exact lv_iadd X.1 X.2.1 hd (k out ho p e s m args below meth c Q R hR X as ls _ H locs hl ⟨rfl, hs2⟩ hW hS kr)

theorem eb_isub {a : Int32} {b : Int32} (hd : decode cc pc = .ok (.isub, 1)) (k : eb_go G y cc nL rt fr mc ms ri enc (pc + 1) L (.int (a - b) :: st) σ cn sn o) : eb_go G y cc nL rt fr mc ms ri enc pc L (.int b :: .int a :: st) σ cn sn o := by
  intro out ho p e s m args below meth c Q R hR X as ls cst H locs hl hs hW hS kr
  obtain ⟨c_b, rfl, hs1⟩ := eb_st_i hs
  obtain ⟨c_a, rfl, hs2⟩ := eb_st_i hs1
  exact lv_isub X.1 X.2.1 hd (k out ho p e s m args below meth c Q R hR X as ls _ H locs hl ⟨rfl, hs2⟩ hW hS kr)

theorem eb_imul {a : Int32} {b : Int32} (hd : decode cc pc = .ok (.imul, 1)) (k : eb_go G y cc nL rt fr mc ms ri enc (pc + 1) L (.int (a * b) :: st) σ cn sn o) : eb_go G y cc nL rt fr mc ms ri enc pc L (.int b :: .int a :: st) σ cn sn o := by
  intro out ho p e s m args below meth c Q R hR X as ls cst H locs hl hs hW hS kr
  obtain ⟨c_b, rfl, hs1⟩ := eb_st_i hs
  obtain ⟨c_a, rfl, hs2⟩ := eb_st_i hs1
  exact lv_imul X.1 X.2.1 hd (k out ho p e s m args below meth c Q R hR X as ls _ H locs hl ⟨rfl, hs2⟩ hW hS kr)

theorem eb_iand {a : Int32} {b : Int32} (hd : decode cc pc = .ok (.iand, 1)) (k : eb_go G y cc nL rt fr mc ms ri enc (pc + 1) L (.int (a &&& b) :: st) σ cn sn o) : eb_go G y cc nL rt fr mc ms ri enc pc L (.int b :: .int a :: st) σ cn sn o := by
  intro out ho p e s m args below meth c Q R hR X as ls cst H locs hl hs hW hS kr
  obtain ⟨c_b, rfl, hs1⟩ := eb_st_i hs
  obtain ⟨c_a, rfl, hs2⟩ := eb_st_i hs1
  exact lv_iand X.1 X.2.1 hd (k out ho p e s m args below meth c Q R hR X as ls _ H locs hl ⟨rfl, hs2⟩ hW hS kr)

theorem eb_ior {a : Int32} {b : Int32} (hd : decode cc pc = .ok (.ior, 1)) (k : eb_go G y cc nL rt fr mc ms ri enc (pc + 1) L (.int (a ||| b) :: st) σ cn sn o) : eb_go G y cc nL rt fr mc ms ri enc pc L (.int b :: .int a :: st) σ cn sn o := by
  intro out ho p e s m args below meth c Q R hR X as ls cst H locs hl hs hW hS kr
  obtain ⟨c_b, rfl, hs1⟩ := eb_st_i hs
  obtain ⟨c_a, rfl, hs2⟩ := eb_st_i hs1
  exact lv_ior X.1 X.2.1 hd (k out ho p e s m args below meth c Q R hR X as ls _ H locs hl ⟨rfl, hs2⟩ hW hS kr)

theorem eb_ixor {a : Int32} {b : Int32} (hd : decode cc pc = .ok (.ixor, 1)) (k : eb_go G y cc nL rt fr mc ms ri enc (pc + 1) L (.int (a ^^^ b) :: st) σ cn sn o) : eb_go G y cc nL rt fr mc ms ri enc pc L (.int b :: .int a :: st) σ cn sn o := by
  intro out ho p e s m args below meth c Q R hR X as ls cst H locs hl hs hW hS kr
  obtain ⟨c_b, rfl, hs1⟩ := eb_st_i hs
  obtain ⟨c_a, rfl, hs2⟩ := eb_st_i hs1
  exact lv_ixor X.1 X.2.1 hd (k out ho p e s m args below meth c Q R hR X as ls _ H locs hl ⟨rfl, hs2⟩ hW hS kr)

theorem eb_ishl {a : Int32} {b : Int32} (hd : decode cc pc = .ok (.ishl, 1)) (k : eb_go G y cc nL rt fr mc ms ri enc (pc + 1) L (.int (a <<< (b &&& 31)) :: st) σ cn sn o) : eb_go G y cc nL rt fr mc ms ri enc pc L (.int b :: .int a :: st) σ cn sn o := by
  intro out ho p e s m args below meth c Q R hR X as ls cst H locs hl hs hW hS kr
  obtain ⟨c_b, rfl, hs1⟩ := eb_st_i hs
  obtain ⟨c_a, rfl, hs2⟩ := eb_st_i hs1
  exact lv_ishl X.1 X.2.1 hd (k out ho p e s m args below meth c Q R hR X as ls _ H locs hl ⟨rfl, hs2⟩ hW hS kr)

theorem eb_ishr {a : Int32} {b : Int32} (hd : decode cc pc = .ok (.ishr, 1)) (k : eb_go G y cc nL rt fr mc ms ri enc (pc + 1) L (.int (a >>> (b &&& 31)) :: st) σ cn sn o) : eb_go G y cc nL rt fr mc ms ri enc pc L (.int b :: .int a :: st) σ cn sn o := by
  intro out ho p e s m args below meth c Q R hR X as ls cst H locs hl hs hW hS kr
  obtain ⟨c_b, rfl, hs1⟩ := eb_st_i hs
  obtain ⟨c_a, rfl, hs2⟩ := eb_st_i hs1
  exact lv_ishr X.1 X.2.1 hd (k out ho p e s m args below meth c Q R hR X as ls _ H locs hl ⟨rfl, hs2⟩ hW hS kr)

theorem eb_ineg {a : Int32} (hd : decode cc pc = .ok (.ineg, 1)) (k : eb_go G y cc nL rt fr mc ms ri enc (pc + 1) L (.int (-a) :: st) σ cn sn o) : eb_go G y cc nL rt fr mc ms ri enc pc L (.int a :: st) σ cn sn o := by
  intro out ho p e s m args below meth c Q R hR X as ls cst H locs hl hs hW hS kr
  obtain ⟨c_a, rfl, hs1⟩ := eb_st_i hs
  exact lv_ineg X.1 X.2.1 hd (k out ho p e s m args below meth c Q R hR X as ls _ H locs hl ⟨rfl, hs1⟩ hW hS kr)

theorem eb_ladd {a : Int64} {b : Int64} (hd : decode cc pc = .ok (.ladd, 1)) (k : eb_go G y cc nL rt fr mc ms ri enc (pc + 1) L (.long (a + b) :: st) σ cn sn o) : eb_go G y cc nL rt fr mc ms ri enc pc L (.long b :: .long a :: st) σ cn sn o := by
  intro out ho p e s m args below meth c Q R hR X as ls cst H locs hl hs hW hS kr
  obtain ⟨c_b, rfl, hs1⟩ := eb_st_l hs
  obtain ⟨c_a, rfl, hs2⟩ := eb_st_l hs1
  exact lv_ladd X.1 X.2.1 hd (k out ho p e s m args below meth c Q R hR X as ls _ H locs hl ⟨rfl, hs2⟩ hW hS kr)

theorem eb_land {a : Int64} {b : Int64} (hd : decode cc pc = .ok (.land, 1)) (k : eb_go G y cc nL rt fr mc ms ri enc (pc + 1) L (.long (a &&& b) :: st) σ cn sn o) : eb_go G y cc nL rt fr mc ms ri enc pc L (.long b :: .long a :: st) σ cn sn o := by
  intro out ho p e s m args below meth c Q R hR X as ls cst H locs hl hs hW hS kr
  obtain ⟨c_b, rfl, hs1⟩ := eb_st_l hs
  obtain ⟨c_a, rfl, hs2⟩ := eb_st_l hs1
  exact lv_land X.1 X.2.1 hd (k out ho p e s m args below meth c Q R hR X as ls _ H locs hl ⟨rfl, hs2⟩ hW hS kr)

theorem eb_lor {a : Int64} {b : Int64} (hd : decode cc pc = .ok (.lor, 1)) (k : eb_go G y cc nL rt fr mc ms ri enc (pc + 1) L (.long (a ||| b) :: st) σ cn sn o) : eb_go G y cc nL rt fr mc ms ri enc pc L (.long b :: .long a :: st) σ cn sn o := by
  intro out ho p e s m args below meth c Q R hR X as ls cst H locs hl hs hW hS kr
  obtain ⟨c_b, rfl, hs1⟩ := eb_st_l hs
  obtain ⟨c_a, rfl, hs2⟩ := eb_st_l hs1
  exact lv_lor X.1 X.2.1 hd (k out ho p e s m args below meth c Q R hR X as ls _ H locs hl ⟨rfl, hs2⟩ hW hS kr)

theorem eb_lshl {a : Int64} {b : Int32} (hd : decode cc pc = .ok (.lshl, 1)) (k : eb_go G y cc nL rt fr mc ms ri enc (pc + 1) L (.long (a <<< (b.toInt64 &&& 63)) :: st) σ cn sn o) : eb_go G y cc nL rt fr mc ms ri enc pc L (.int b :: .long a :: st) σ cn sn o := by
  intro out ho p e s m args below meth c Q R hR X as ls cst H locs hl hs hW hS kr
  obtain ⟨c_b, rfl, hs1⟩ := eb_st_i hs
  obtain ⟨c_a, rfl, hs2⟩ := eb_st_l hs1
  exact lv_lshl X.1 X.2.1 hd rfl (k out ho p e s m args below meth c Q R hR X as ls _ H locs hl ⟨rfl, hs2⟩ hW hS kr)

theorem eb_lcmp {a : Int64} {b : Int64} (hd : decode cc pc = .ok (.lcmp, 1)) (k : eb_go G y cc nL rt fr mc ms ri enc (pc + 1) L (.int (lg_cmp a b) :: st) σ cn sn o) : eb_go G y cc nL rt fr mc ms ri enc pc L (.long b :: .long a :: st) σ cn sn o := by
  intro out ho p e s m args below meth c Q R hR X as ls cst H locs hl hs hW hS kr
  obtain ⟨c_b, rfl, hs1⟩ := eb_st_l hs
  obtain ⟨c_a, rfl, hs2⟩ := eb_st_l hs1
  exact W.lcmp X.1 X.2.1 hd (k out ho p e s m args below meth c Q R hR X as ls _ H locs hl ⟨rfl, hs2⟩ hW hS kr)

theorem eb_i2l {a : Int32} (hd : decode cc pc = .ok (.i2l, 1)) (k : eb_go G y cc nL rt fr mc ms ri enc (pc + 1) L (.long (a.toInt64) :: st) σ cn sn o) : eb_go G y cc nL rt fr mc ms ri enc pc L (.int a :: st) σ cn sn o := by
  intro out ho p e s m args below meth c Q R hR X as ls cst H locs hl hs hW hS kr
  obtain ⟨c_a, rfl, hs1⟩ := eb_st_i hs
  exact lv_i2l X.1 X.2.1 hd rfl (k out ho p e s m args below meth c Q R hR X as ls _ H locs hl ⟨rfl, hs1⟩ hW hS kr)

theorem eb_l2i {a : Int64} (hd : decode cc pc = .ok (.l2i, 1)) (k : eb_go G y cc nL rt fr mc ms ri enc (pc + 1) L (.int (a.toInt32) :: st) σ cn sn o) : eb_go G y cc nL rt fr mc ms ri enc pc L (.long a :: st) σ cn sn o := by
  intro out ho p e s m args below meth c Q R hR X as ls cst H locs hl hs hW hS kr
  obtain ⟨c_a, rfl, hs1⟩ := eb_st_l hs
  exact lv_l2i X.1 X.2.1 hd rfl (k out ho p e s m args below meth c Q R hR X as ls _ H locs hl ⟨rfl, hs1⟩ hW hS kr)

theorem eb_i2b {a : Int32} (hd : decode cc pc = .ok (.i2b, 1)) (k : eb_go G y cc nL rt fr mc ms ri enc (pc + 1) L (.int (a.toInt8.toInt32) :: st) σ cn sn o) : eb_go G y cc nL rt fr mc ms ri enc pc L (.int a :: st) σ cn sn o := by
  intro out ho p e s m args below meth c Q R hR X as ls cst H locs hl hs hW hS kr
  obtain ⟨c_a, rfl, hs1⟩ := eb_st_i hs
  exact lv_i2b X.1 X.2.1 hd rfl (k out ho p e s m args below meth c Q R hR X as ls _ H locs hl ⟨rfl, hs1⟩ hW hS kr)

theorem eb_i2s {a : Int32} (hd : decode cc pc = .ok (.i2s, 1)) (k : eb_go G y cc nL rt fr mc ms ri enc (pc + 1) L (.int (a.toInt16.toInt32) :: st) σ cn sn o) : eb_go G y cc nL rt fr mc ms ri enc pc L (.int a :: st) σ cn sn o := by
  intro out ho p e s m args below meth c Q R hR X as ls cst H locs hl hs hW hS kr
  obtain ⟨c_a, rfl, hs1⟩ := eb_st_i hs
  exact lv_i2s X.1 X.2.1 hd rfl (k out ho p e s m args below meth c Q R hR X as ls _ H locs hl ⟨rfl, hs1⟩ hW hS kr)

theorem eb_i2c {a : Int32} (hd : decode cc pc = .ok (.i2c, 1)) (k : eb_go G y cc nL rt fr mc ms ri enc (pc + 1) L (.int ((a.toUInt32 % 65536).toInt32) :: st) σ cn sn o) : eb_go G y cc nL rt fr mc ms ri enc pc L (.int a :: st) σ cn sn o := by
  intro out ho p e s m args below meth c Q R hR X as ls cst H locs hl hs hW hS kr
  obtain ⟨c_a, rfl, hs1⟩ := eb_st_i hs
  exact lv_i2c X.1 X.2.1 hd rfl (k out ho p e s m args below meth c Q R hR X as ls _ H locs hl ⟨rfl, hs1⟩ hW hS kr)

theorem eb_iconst {n : Int} {v : Int32} (hd : decode cc pc = .ok (.iconst n, 1)) (hv : Int32.ofInt n = v) (k : eb_go G y cc nL rt fr mc ms ri enc (pc + 1) L (.int (v) :: st) σ cn sn o) : eb_go G y cc nL rt fr mc ms ri enc pc L st σ cn sn o := by
  intro out ho p e s m args below meth c Q R hR X as ls cst H locs hl hs hW hS kr
  exact lv_iconst X.1 X.2.1 hd hv (k out ho p e s m args below meth c Q R hR X as ls _ H locs hl ⟨rfl, hs⟩ hW hS kr)

theorem eb_bipush {n : Int} {v : Int32} (hd : decode cc pc = .ok (.bipush n, 2)) (hv : (Int8.ofInt n).toInt32 = v) (k : eb_go G y cc nL rt fr mc ms ri enc (pc + 2) L (.int (v) :: st) σ cn sn o) : eb_go G y cc nL rt fr mc ms ri enc pc L st σ cn sn o := by
  intro out ho p e s m args below meth c Q R hR X as ls cst H locs hl hs hW hS kr
  exact lv_bipush X.1 X.2.1 hd hv (k out ho p e s m args below meth c Q R hR X as ls _ H locs hl ⟨rfl, hs⟩ hW hS kr)

theorem eb_sipush {n : Int} {v : Int32} (hd : decode cc pc = .ok (.sipush n, 3)) (hv : (Int16.ofInt n).toInt32 = v) (k : eb_go G y cc nL rt fr mc ms ri enc (pc + 3) L (.int (v) :: st) σ cn sn o) : eb_go G y cc nL rt fr mc ms ri enc pc L st σ cn sn o := by
  intro out ho p e s m args below meth c Q R hR X as ls cst H locs hl hs hW hS kr
  exact lv_sipush X.1 X.2.1 hd hv (k out ho p e s m args below meth c Q R hR X as ls _ H locs hl ⟨rfl, hs⟩ hW hS kr)

theorem eb_lconst {n : Fin 2} {v : Int64} (hd : decode cc pc = .ok (.lconst n, 1)) (hv : Int64.ofNat (n : Nat) = v) (k : eb_go G y cc nL rt fr mc ms ri enc (pc + 1) L (.long (v) :: st) σ cn sn o) : eb_go G y cc nL rt fr mc ms ri enc pc L st σ cn sn o := by
  intro out ho p e s m args below meth c Q R hR X as ls cst H locs hl hs hW hS kr
  exact lv_lconst X.1 X.2.1 hd hv (k out ho p e s m args below meth c Q R hR X as ls _ H locs hl ⟨rfl, hs⟩ hW hS kr)

theorem eb_ldc {index : Nat} {v : Int32} (hd : decode cc pc = .ok (.ldc index, 2)) (hc : Cond.constant y.cls index v ∈ eb_tbl) (k : eb_go G y cc nL rt fr mc ms ri enc (pc + 2) L (.int v :: st) σ cn sn o) : eb_go G y cc nL rt fr mc ms ri enc pc L st σ cn sn o := by
  intro out ho p e s m args below meth c Q R hR X as ls cst H locs hl hs hW hS kr
  exact lv_ldc X.1 X.2.1 X.2.2.2.2.2.1 (X.2.2.2.2.2.2.2.1 _ hc) hd (k out ho p e s m args below meth c Q R hR X as ls _ H locs hl ⟨rfl, hs⟩ hW hS kr)

theorem eb_ldc2 {index : Nat} {v : Int64} (hd : decode cc pc = .ok (.ldc2_w index, 3)) (hc : Cond.constantLong y.cls index v ∈ eb_tbl) (k : eb_go G y cc nL rt fr mc ms ri enc (pc + 3) L (.long v :: st) σ cn sn o) : eb_go G y cc nL rt fr mc ms ri enc pc L st σ cn sn o := by
  intro out ho p e s m args below meth c Q R hR X as ls cst H locs hl hs hW hS kr
  exact lv_ldc2 X.1 X.2.1 X.2.2.2.2.2.1 (X.2.2.2.2.2.2.2.1 _ hc) hd (k out ho p e s m args below meth c Q R hR X as ls _ H locs hl ⟨rfl, hs⟩ hW hS kr)

theorem eb_idiv {a b : Int32} (hd : decode cc pc = .ok (.idiv, 1)) (k : eb_go G y cc nL rt fr mc ms ri enc (pc + 1) L (.int (a / b) :: st) σ cn sn o) : eb_go G y cc nL rt fr mc ms ri enc pc L (.int b :: .int a :: st) σ cn sn (if b = 0 then none else o) := by
  intro out ho p e s m args below meth c Q R hR X as ls cst H locs hl hs hW hS kr
  obtain ⟨c_b, rfl, hs1⟩ := eb_st_i hs
  obtain ⟨c_a, rfl, hs2⟩ := eb_st_i hs1
  by_cases hb0 : b = 0
  · rw [if_pos hb0] at ho; cases ho
  · rw [if_neg hb0] at ho
    exact lv_idiv X.1 X.2.1 hd hb0 (k out ho p e s m args below meth c Q R hR X as ls _ H locs hl ⟨rfl, hs2⟩ hW hS kr)

theorem eb_irem {a b : Int32} (hd : decode cc pc = .ok (.irem, 1)) (k : eb_go G y cc nL rt fr mc ms ri enc (pc + 1) L (.int (a - a / b * b) :: st) σ cn sn o) : eb_go G y cc nL rt fr mc ms ri enc pc L (.int b :: .int a :: st) σ cn sn (if b = 0 then none else o) := by
  intro out ho p e s m args below meth c Q R hR X as ls cst H locs hl hs hW hS kr
  obtain ⟨c_b, rfl, hs1⟩ := eb_st_i hs
  obtain ⟨c_a, rfl, hs2⟩ := eb_st_i hs1
  by_cases hb0 : b = 0
  · rw [if_pos hb0] at ho; cases ho
  · rw [if_neg hb0] at ho
    exact lv_irem X.1 X.2.1 hd hb0 (k out ho p e s m args below meth c Q R hR X as ls _ H locs hl ⟨rfl, hs2⟩ hW hS kr)

theorem eb_iload_n {kf : Fin 4} {i : Nat} {x : Int32} (j : Nat) (hd : decode cc pc = .ok (.iload_n kf, 1)) (hi : (kf : Nat) = i) (hj : L[j]? = some (i, .int x)) (k : eb_go G y cc nL rt fr mc ms ri enc (pc + 1) L (.int x :: st) σ cn sn o) : eb_go G y cc nL rt fr mc ms ri enc pc L st σ cn sn o := by
  intro out ho p e s m args below meth c Q R hR X as ls cst H locs hl hs hW hS kr
  obtain ⟨w, h1, h2⟩ := eb_lo_at hl hj
  cases h1
  exact lv_iload_n X.1 X.2.1 hd hi h2 (k out ho p e s m args below meth c Q R hR X as ls _ H locs hl ⟨rfl, hs⟩ hW hS kr)

theorem eb_iload {i : Nat} {x : Int32} (j : Nat) (hd : decode cc pc = .ok (.iload i, 2)) (hj : L[j]? = some (i, .int x)) (k : eb_go G y cc nL rt fr mc ms ri enc (pc + 2) L (.int x :: st) σ cn sn o) : eb_go G y cc nL rt fr mc ms ri enc pc L st σ cn sn o := by
  intro out ho p e s m args below meth c Q R hR X as ls cst H locs hl hs hW hS kr
  obtain ⟨w, h1, h2⟩ := eb_lo_at hl hj
  cases h1
  exact lv_iload X.1 X.2.1 hd h2 (k out ho p e s m args below meth c Q R hR X as ls _ H locs hl ⟨rfl, hs⟩ hW hS kr)

theorem eb_lload_n {kf : Fin 4} {i : Nat} {x : Int64} (j : Nat) (hd : decode cc pc = .ok (.lload_n kf, 1)) (hi : (kf : Nat) = i) (hj : L[j]? = some (i, .long x)) (k : eb_go G y cc nL rt fr mc ms ri enc (pc + 1) L (.long x :: st) σ cn sn o) : eb_go G y cc nL rt fr mc ms ri enc pc L st σ cn sn o := by
  intro out ho p e s m args below meth c Q R hR X as ls cst H locs hl hs hW hS kr
  obtain ⟨w, h1, h2⟩ := eb_lo_at hl hj
  cases h1
  exact lv_lload_n X.1 X.2.1 hd hi h2 (k out ho p e s m args below meth c Q R hR X as ls _ H locs hl ⟨rfl, hs⟩ hW hS kr)

theorem eb_lload {i : Nat} {x : Int64} (j : Nat) (hd : decode cc pc = .ok (.lload i, 2)) (hj : L[j]? = some (i, .long x)) (k : eb_go G y cc nL rt fr mc ms ri enc (pc + 2) L (.long x :: st) σ cn sn o) : eb_go G y cc nL rt fr mc ms ri enc pc L st σ cn sn o := by
  intro out ho p e s m args below meth c Q R hR X as ls cst H locs hl hs hW hS kr
  obtain ⟨w, h1, h2⟩ := eb_lo_at hl hj
  cases h1
  exact lv_lload X.1 X.2.1 hd h2 (k out ho p e s m args below meth c Q R hR X as ls _ H locs hl ⟨rfl, hs⟩ hW hS kr)

theorem eb_aload_n {kf : Fin 4} {i r : Nat} (j : Nat) (hd : decode cc pc = .ok (.aload_n kf, 1)) (hi : (kf : Nat) = i) (hj : L[j]? = some (i, .ref r)) (k : eb_go G y cc nL rt fr mc ms ri enc (pc + 1) L (.ref r :: st) σ cn sn o) : eb_go G y cc nL rt fr mc ms ri enc pc L st σ cn sn o := by
  intro out ho p e s m args below meth c Q R hR X as ls cst H locs hl hs hW hS kr
  obtain ⟨w, h1, h2⟩ := eb_lo_at hl hj
  obtain ⟨a, h3, rfl⟩ := h1
  exact lv_aload_n X.1 X.2.1 hd hi h2 (k out ho p e s m args below meth c Q R hR X as ls _ H locs hl ⟨⟨a, h3, rfl⟩, hs⟩ hW hS kr)

theorem eb_aload {i r : Nat} (j : Nat) (hd : decode cc pc = .ok (.aload i, 2)) (hj : L[j]? = some (i, .ref r)) (k : eb_go G y cc nL rt fr mc ms ri enc (pc + 2) L (.ref r :: st) σ cn sn o) : eb_go G y cc nL rt fr mc ms ri enc pc L st σ cn sn o := by
  intro out ho p e s m args below meth c Q R hR X as ls cst H locs hl hs hW hS kr
  obtain ⟨w, h1, h2⟩ := eb_lo_at hl hj
  obtain ⟨a, h3, rfl⟩ := h1
  exact lv_aload X.1 X.2.1 hd h2 (k out ho p e s m args below meth c Q R hR X as ls _ H locs hl ⟨⟨a, h3, rfl⟩, hs⟩ hW hS kr)

theorem eb_istore_n {kf : Fin 4} {i : Nat} {x : Int32} {L' : List (Nat × Value)} (hd : decode cc pc = .ok (.istore_n kf, 1)) (hi : (kf : Nat) = i) (hn : i < nL) (hL : (i, Value.int x) :: eb_f1 i L = L') (k : eb_go G y cc nL rt fr mc ms ri enc (pc + 1) L' st σ cn sn o) : eb_go G y cc nL rt fr mc ms ri enc pc L (.int x :: st) σ cn sn o := by
  intro out ho p e s m args below meth c Q R hR X as ls cst H locs hl hs hW hS kr
  obtain ⟨c_x, rfl, hs1⟩ := eb_st_i hs
  obtain ⟨lv, h1, h2⟩ := eb_lo_f1 hl
  subst hL
  exact lv_istore_n X.1 X.2.1 hd hi h1 hn rfl (fun ls' hl' => (k out ho p e s m args below meth c Q R hR X as ls' _ H locs (h2 _ _ _ _ rfl hl') hs1 hW hS kr))

theorem eb_astore_n {kf : Fin 4} {i r : Nat} {L' : List (Nat × Value)} (hd : decode cc pc = .ok (.astore_n kf, 1)) (hi : (kf : Nat) = i) (hn : i < nL) (hL : (i, Value.ref r) :: eb_f1 i L = L') (k : eb_go G y cc nL rt fr mc ms ri enc (pc + 1) L' st σ cn sn o) : eb_go G y cc nL rt fr mc ms ri enc pc L (.ref r :: st) σ cn sn o := by
  intro out ho p e s m args below meth c Q R hR X as ls cst H locs hl hs hW hS kr
  obtain ⟨a, c_x, rfl, h3, hs1⟩ := eb_st_r hs
  obtain ⟨lv, h1, h2⟩ := eb_lo_f1 hl
  subst hL
  exact lv_astore_n X.1 X.2.1 hd hi h1 hn rfl (fun ls' hl' => (k out ho p e s m args below meth c Q R hR X as ls' _ H locs (h2 _ _ _ _ ⟨a, h3, rfl⟩ hl') hs1 hW hS kr))

theorem eb_lstore_n {kf : Fin 4} {i : Nat} {x : Int64} {L' : List (Nat × Value)} (hd : decode cc pc = .ok (.lstore_n kf, 1)) (hi : (kf : Nat) = i) (hn : i + 1 < nL) (hL : (i, Value.long x) :: eb_f2 i L = L') (k : eb_go G y cc nL rt fr mc ms ri enc (pc + 1) L' st σ cn sn o) : eb_go G y cc nL rt fr mc ms ri enc pc L (.long x :: st) σ cn sn o := by
  intro out ho p e s m args below meth c Q R hR X as ls cst H locs hl hs hW hS kr
  obtain ⟨c_x, rfl, hs1⟩ := eb_st_l hs
  obtain ⟨lv, h1, h2⟩ := eb_lo_f2 hl
  subst hL
  exact lv_lstore_n X.1 X.2.1 hd hi h1 hn rfl (fun ls' hl' => (k out ho p e s m args below meth c Q R hR X as ls' _ H locs (h2 _ _ _ _ rfl hl') hs1 hW hS kr))

theorem eb_istore {i : Nat} {x : Int32} {L' : List (Nat × Value)} (hd : decode cc pc = .ok (.istore i, 2)) (hn : i < nL) (hL : (i, Value.int x) :: eb_f1 i L = L') (k : eb_go G y cc nL rt fr mc ms ri enc (pc + 2) L' st σ cn sn o) : eb_go G y cc nL rt fr mc ms ri enc pc L (.int x :: st) σ cn sn o := by
  intro out ho p e s m args below meth c Q R hR X as ls cst H locs hl hs hW hS kr
  obtain ⟨c_x, rfl, hs1⟩ := eb_st_i hs
  obtain ⟨lv, h1, h2⟩ := eb_lo_f1 hl
  subst hL
  exact lv_istore X.1 X.2.1 hd h1 hn rfl (fun ls' hl' => (k out ho p e s m args below meth c Q R hR X as ls' _ H locs (h2 _ _ _ _ rfl hl') hs1 hW hS kr))

theorem eb_astore {i r : Nat} {L' : List (Nat × Value)} (hd : decode cc pc = .ok (.astore i, 2)) (hn : i < nL) (hL : (i, Value.ref r) :: eb_f1 i L = L') (k : eb_go G y cc nL rt fr mc ms ri enc (pc + 2) L' st σ cn sn o) : eb_go G y cc nL rt fr mc ms ri enc pc L (.ref r :: st) σ cn sn o := by
  intro out ho p e s m args below meth c Q R hR X as ls cst H locs hl hs hW hS kr
  obtain ⟨a, c_x, rfl, h3, hs1⟩ := eb_st_r hs
  obtain ⟨lv, h1, h2⟩ := eb_lo_f1 hl
  subst hL
  exact lv_astore X.1 X.2.1 hd h1 hn rfl (fun ls' hl' => (k out ho p e s m args below meth c Q R hR X as ls' _ H locs (h2 _ _ _ _ ⟨a, h3, rfl⟩ hl') hs1 hW hS kr))

theorem eb_lstore {i : Nat} {x : Int64} {L' : List (Nat × Value)} (hd : decode cc pc = .ok (.lstore i, 2)) (hn : i + 1 < nL) (hL : (i, Value.long x) :: eb_f2 i L = L') (k : eb_go G y cc nL rt fr mc ms ri enc (pc + 2) L' st σ cn sn o) : eb_go G y cc nL rt fr mc ms ri enc pc L (.long x :: st) σ cn sn o := by
  intro out ho p e s m args below meth c Q R hR X as ls cst H locs hl hs hW hS kr
  obtain ⟨c_x, rfl, hs1⟩ := eb_st_l hs
  obtain ⟨lv, h1, h2⟩ := eb_lo_f2 hl
  subst hL
  exact lv_lstore X.1 X.2.1 hd h1 hn rfl (fun ls' hl' => (k out ho p e s m args below meth c Q R hR X as ls' _ H locs (h2 _ _ _ _ rfl hl') hs1 hW hS kr))

theorem eb_iinc {i : Nat} {n : Int} {x v : Int32} {L' : List (Nat × Value)} (j : Nat) (hd : decode cc pc = .ok (.iinc i n, 3)) (hj : L[j]? = some (i, .int x)) (hv : x + Int32.ofInt n = v) (hn : i < nL) (hL : (i, Value.int v) :: eb_f1 i L = L') (k : eb_go G y cc nL rt fr mc ms ri enc (pc + 3) L' st σ cn sn o) : eb_go G y cc nL rt fr mc ms ri enc pc L st σ cn sn o := by
  intro out ho p e s m args below meth c Q R hR X as ls cst H locs hl hs hW hS kr
  obtain ⟨w, h3, h4⟩ := eb_lo_at hl hj
  cases h3
  obtain ⟨lv, h1, h2⟩ := eb_lo_f1 hl
  have h5 : lv_has ls nL ((i, .int x) :: lv) := ⟨h1.1, h1.2.1, fun q hq => by
    rcases List.mem_cons.mp hq with rfl | hq
    · exact h4
    · exact h1.2.2 q hq⟩
  subst hL
  refine lv_iinc (k := 0) X.1 X.2.1 hd h5 rfl hv hn rfl (fun ls' hl' => (k out ho p e s m args below meth c Q R hR X as ls' _ H locs (h2 _ _ _ _ rfl ?_) hs hW hS kr))
  refine ⟨hl'.1, hl'.2.1, fun q hq => hl'.2.2 q ?_⟩
  rcases List.mem_cons.mp hq with rfl | hq
  · exact List.mem_cons_self
  · have := List.mem_filter.mp hq
    exact List.mem_cons_of_mem _ (List.mem_filter.mpr ⟨List.mem_cons_of_mem _ this.1, this.2⟩)

theorem eb_dup {v : Value} (hd : decode cc pc = .ok (.dup, 1)) (hc : v.category = 1) (k : eb_go G y cc nL rt fr mc ms ri enc (pc + 1) L (v :: v :: st) σ cn sn o) : eb_go G y cc nL rt fr mc ms ri enc pc L (v :: st) σ cn sn o := by
  intro out ho p e s m args below meth c Q R hR X as ls cst H locs hl hs hW hS kr
  obtain ⟨w, c1, rfl, hv, hs1⟩ := eb_st_cons hs
  exact lv_dup X.1 X.2.1 hd (by rw [eb_v_cat hv]; exact hc) (k out ho p e s m args below meth c Q R hR X as ls _ H locs hl ⟨hv, hv, hs1⟩ hW hS kr)

theorem eb_pop {v : Value} (hd : decode cc pc = .ok (.pop, 1)) (hc : v.category = 1) (k : eb_go G y cc nL rt fr mc ms ri enc (pc + 1) L st σ cn sn o) : eb_go G y cc nL rt fr mc ms ri enc pc L (v :: st) σ cn sn o := by
  intro out ho p e s m args below meth c Q R hR X as ls cst H locs hl hs hW hS kr
  obtain ⟨w, c1, rfl, hv, hs1⟩ := eb_st_cons hs
  exact lv_pop X.1 X.2.1 hd (by rw [eb_v_cat hv]; exact hc) (k out ho p e s m args below meth c Q R hR X as ls _ H locs hl hs1 hW hS kr)

theorem eb_dup_x1 {v u : Value} (hd : decode cc pc = .ok (.dup_x1, 1)) (hc : v.category = 1) (hc2 : u.category = 1) (k : eb_go G y cc nL rt fr mc ms ri enc (pc + 1) L (v :: u :: v :: st) σ cn sn o) : eb_go G y cc nL rt fr mc ms ri enc pc L (v :: u :: st) σ cn sn o := by
  intro out ho p e s m args below meth c Q R hR X as ls cst H locs hl hs hW hS kr
  obtain ⟨w, c1, rfl, hv, hs1⟩ := eb_st_cons hs
  obtain ⟨w2, c2, rfl, hu, hs2⟩ := eb_st_cons hs1
  exact lv_dup_x1 X.1 X.2.1 hd (by rw [eb_v_cat hv]; exact hc) (by rw [eb_v_cat hu]; exact hc2) (k out ho p e s m args below meth c Q R hR X as ls _ H locs hl ⟨hv, hu, hv, hs2⟩ hW hS kr)

theorem eb_dup2 {v u : Value} (hd : decode cc pc = .ok (.dup2, 1)) (hc : v.category = 1) (hc2 : u.category = 1) (k : eb_go G y cc nL rt fr mc ms ri enc (pc + 1) L (v :: u :: v :: u :: st) σ cn sn o) : eb_go G y cc nL rt fr mc ms ri enc pc L (v :: u :: st) σ cn sn o := by
  intro out ho p e s m args below meth c Q R hR X as ls cst H locs hl hs hW hS kr
  obtain ⟨w, c1, rfl, hv, hs1⟩ := eb_st_cons hs
  obtain ⟨w2, c2, rfl, hu, hs2⟩ := eb_st_cons hs1
  exact lv_dup2_11 X.1 X.2.1 hd (by rw [eb_v_cat hv]; exact hc) (by rw [eb_v_cat hu]; exact hc2) (k out ho p e s m args below meth c Q R hR X as ls _ H locs hl ⟨hv, hu, hv, hu, hs2⟩ hW hS kr)

theorem eb_icmp_eq {a : Int32} {b : Int32} {off : Int} {tgt : Nat} (hd : decode cc pc = .ok (.if_icmp .eq off, 3)) (ht : (pc : Int) + off = (tgt : Int)) (kt : eb_go G y cc nL rt fr mc ms ri enc tgt L st σ cn sn o1) (kf : eb_go G y cc nL rt fr mc ms ri enc (pc + 3) L st σ cn sn o2) : eb_go G y cc nL rt fr mc ms ri enc pc L (.int b :: .int a :: st) σ cn sn (if a = b then o1 else o2) := by
  intro out ho p e s m args below meth c Q R hR X as ls cst H locs hl hs hW hS kr
  obtain ⟨c_b, rfl, hs1⟩ := eb_st_i hs
  obtain ⟨c_a, rfl, hs2⟩ := eb_st_i hs1
  exact lv_icmp_eq X.1 X.2.1 hd ht (fun hc => (kt out (by rw [if_pos hc] at ho; exact ho) p e s m args below meth c Q R hR X as ls _ H locs hl hs2 hW hS kr)) (fun hc => (kf out (by rw [if_neg hc] at ho; exact ho) p e s m args below meth c Q R hR X as ls _ H locs hl hs2 hW hS kr))

theorem eb_icmp_ne {a : Int32} {b : Int32} {off : Int} {tgt : Nat} (hd : decode cc pc = .ok (.if_icmp .ne off, 3)) (ht : (pc : Int) + off = (tgt : Int)) (kt : eb_go G y cc nL rt fr mc ms ri enc tgt L st σ cn sn o1) (kf : eb_go G y cc nL rt fr mc ms ri enc (pc + 3) L st σ cn sn o2) : eb_go G y cc nL rt fr mc ms ri enc pc L (.int b :: .int a :: st) σ cn sn (if a = b then o2 else o1) := by
  intro out ho p e s m args below meth c Q R hR X as ls cst H locs hl hs hW hS kr
  obtain ⟨c_b, rfl, hs1⟩ := eb_st_i hs
  obtain ⟨c_a, rfl, hs2⟩ := eb_st_i hs1
  exact lv_icmp_ne X.1 X.2.1 hd ht (fun hc => (kt out (by rw [if_neg hc] at ho; exact ho) p e s m args below meth c Q R hR X as ls _ H locs hl hs2 hW hS kr)) (fun hc => (kf out (by rw [if_pos hc] at ho; exact ho) p e s m args below meth c Q R hR X as ls _ H locs hl hs2 hW hS kr))

theorem eb_icmp_lt {a : Int32} {b : Int32} {off : Int} {tgt : Nat} (hd : decode cc pc = .ok (.if_icmp .lt off, 3)) (ht : (pc : Int) + off = (tgt : Int)) (kt : eb_go G y cc nL rt fr mc ms ri enc tgt L st σ cn sn o1) (kf : eb_go G y cc nL rt fr mc ms ri enc (pc + 3) L st σ cn sn o2) : eb_go G y cc nL rt fr mc ms ri enc pc L (.int b :: .int a :: st) σ cn sn (if a < b then o1 else o2) := by
  intro out ho p e s m args below meth c Q R hR X as ls cst H locs hl hs hW hS kr
  obtain ⟨c_b, rfl, hs1⟩ := eb_st_i hs
  obtain ⟨c_a, rfl, hs2⟩ := eb_st_i hs1
  exact lv_icmp_lt X.1 X.2.1 hd ht (fun hc => (kt out (by rw [if_pos hc] at ho; exact ho) p e s m args below meth c Q R hR X as ls _ H locs hl hs2 hW hS kr)) (fun hc => (kf out (by rw [if_neg hc] at ho; exact ho) p e s m args below meth c Q R hR X as ls _ H locs hl hs2 hW hS kr))

theorem eb_icmp_ge {a : Int32} {b : Int32} {off : Int} {tgt : Nat} (hd : decode cc pc = .ok (.if_icmp .ge off, 3)) (ht : (pc : Int) + off = (tgt : Int)) (kt : eb_go G y cc nL rt fr mc ms ri enc tgt L st σ cn sn o1) (kf : eb_go G y cc nL rt fr mc ms ri enc (pc + 3) L st σ cn sn o2) : eb_go G y cc nL rt fr mc ms ri enc pc L (.int b :: .int a :: st) σ cn sn (if b ≤ a then o1 else o2) := by
  intro out ho p e s m args below meth c Q R hR X as ls cst H locs hl hs hW hS kr
  obtain ⟨c_b, rfl, hs1⟩ := eb_st_i hs
  obtain ⟨c_a, rfl, hs2⟩ := eb_st_i hs1
  exact lv_icmp_ge X.1 X.2.1 hd ht (fun hc => (kt out (by rw [if_pos hc] at ho; exact ho) p e s m args below meth c Q R hR X as ls _ H locs hl hs2 hW hS kr)) (fun hc => (kf out (by rw [if_neg hc] at ho; exact ho) p e s m args below meth c Q R hR X as ls _ H locs hl hs2 hW hS kr))

theorem eb_icmp_gt {a : Int32} {b : Int32} {off : Int} {tgt : Nat} (hd : decode cc pc = .ok (.if_icmp .gt off, 3)) (ht : (pc : Int) + off = (tgt : Int)) (kt : eb_go G y cc nL rt fr mc ms ri enc tgt L st σ cn sn o1) (kf : eb_go G y cc nL rt fr mc ms ri enc (pc + 3) L st σ cn sn o2) : eb_go G y cc nL rt fr mc ms ri enc pc L (.int b :: .int a :: st) σ cn sn (if b < a then o1 else o2) := by
  intro out ho p e s m args below meth c Q R hR X as ls cst H locs hl hs hW hS kr
  obtain ⟨c_b, rfl, hs1⟩ := eb_st_i hs
  obtain ⟨c_a, rfl, hs2⟩ := eb_st_i hs1
  exact lv_icmp_gt X.1 X.2.1 hd ht (fun hc => (kt out (by rw [if_pos hc] at ho; exact ho) p e s m args below meth c Q R hR X as ls _ H locs hl hs2 hW hS kr)) (fun hc => (kf out (by rw [if_neg hc] at ho; exact ho) p e s m args below meth c Q R hR X as ls _ H locs hl hs2 hW hS kr))

theorem eb_icmp_le {a : Int32} {b : Int32} {off : Int} {tgt : Nat} (hd : decode cc pc = .ok (.if_icmp .le off, 3)) (ht : (pc : Int) + off = (tgt : Int)) (kt : eb_go G y cc nL rt fr mc ms ri enc tgt L st σ cn sn o1) (kf : eb_go G y cc nL rt fr mc ms ri enc (pc + 3) L st σ cn sn o2) : eb_go G y cc nL rt fr mc ms ri enc pc L (.int b :: .int a :: st) σ cn sn (if a ≤ b then o1 else o2) := by
  intro out ho p e s m args below meth c Q R hR X as ls cst H locs hl hs hW hS kr
  obtain ⟨c_b, rfl, hs1⟩ := eb_st_i hs
  obtain ⟨c_a, rfl, hs2⟩ := eb_st_i hs1
  exact lv_icmp_le X.1 X.2.1 hd ht (fun hc => (kt out (by rw [if_pos hc] at ho; exact ho) p e s m args below meth c Q R hR X as ls _ H locs hl hs2 hW hS kr)) (fun hc => (kf out (by rw [if_neg hc] at ho; exact ho) p e s m args below meth c Q R hR X as ls _ H locs hl hs2 hW hS kr))

theorem eb_if_eq {a : Int32} {off : Int} {tgt : Nat} (hd : decode cc pc = .ok (.ifCond .eq off, 3)) (ht : (pc : Int) + off = (tgt : Int)) (kt : eb_go G y cc nL rt fr mc ms ri enc tgt L st σ cn sn o1) (kf : eb_go G y cc nL rt fr mc ms ri enc (pc + 3) L st σ cn sn o2) : eb_go G y cc nL rt fr mc ms ri enc pc L (.int a :: st) σ cn sn (if a = 0 then o1 else o2) := by
  intro out ho p e s m args below meth c Q R hR X as ls cst H locs hl hs hW hS kr
  obtain ⟨c_a, rfl, hs1⟩ := eb_st_i hs
  exact lv_if_eq X.1 X.2.1 hd ht (fun hc => (kt out (by rw [if_pos hc] at ho; exact ho) p e s m args below meth c Q R hR X as ls _ H locs hl hs1 hW hS kr)) (fun hc => (kf out (by rw [if_neg hc] at ho; exact ho) p e s m args below meth c Q R hR X as ls _ H locs hl hs1 hW hS kr))

theorem eb_if_ne {a : Int32} {off : Int} {tgt : Nat} (hd : decode cc pc = .ok (.ifCond .ne off, 3)) (ht : (pc : Int) + off = (tgt : Int)) (kt : eb_go G y cc nL rt fr mc ms ri enc tgt L st σ cn sn o1) (kf : eb_go G y cc nL rt fr mc ms ri enc (pc + 3) L st σ cn sn o2) : eb_go G y cc nL rt fr mc ms ri enc pc L (.int a :: st) σ cn sn (if a = 0 then o2 else o1) := by
  intro out ho p e s m args below meth c Q R hR X as ls cst H locs hl hs hW hS kr
  obtain ⟨c_a, rfl, hs1⟩ := eb_st_i hs
  exact lv_if_ne X.1 X.2.1 hd ht (fun hc => (kt out (by rw [if_neg hc] at ho; exact ho) p e s m args below meth c Q R hR X as ls _ H locs hl hs1 hW hS kr)) (fun hc => (kf out (by rw [if_pos hc] at ho; exact ho) p e s m args below meth c Q R hR X as ls _ H locs hl hs1 hW hS kr))

theorem eb_if_lt {a : Int32} {off : Int} {tgt : Nat} (hd : decode cc pc = .ok (.ifCond .lt off, 3)) (ht : (pc : Int) + off = (tgt : Int)) (kt : eb_go G y cc nL rt fr mc ms ri enc tgt L st σ cn sn o1) (kf : eb_go G y cc nL rt fr mc ms ri enc (pc + 3) L st σ cn sn o2) : eb_go G y cc nL rt fr mc ms ri enc pc L (.int a :: st) σ cn sn (if a < 0 then o1 else o2) := by
  intro out ho p e s m args below meth c Q R hR X as ls cst H locs hl hs hW hS kr
  obtain ⟨c_a, rfl, hs1⟩ := eb_st_i hs
  exact lv_if_lt X.1 X.2.1 hd ht (fun hc => (kt out (by rw [if_pos hc] at ho; exact ho) p e s m args below meth c Q R hR X as ls _ H locs hl hs1 hW hS kr)) (fun hc => (kf out (by rw [if_neg hc] at ho; exact ho) p e s m args below meth c Q R hR X as ls _ H locs hl hs1 hW hS kr))

theorem eb_if_ge {a : Int32} {off : Int} {tgt : Nat} (hd : decode cc pc = .ok (.ifCond .ge off, 3)) (ht : (pc : Int) + off = (tgt : Int)) (kt : eb_go G y cc nL rt fr mc ms ri enc tgt L st σ cn sn o1) (kf : eb_go G y cc nL rt fr mc ms ri enc (pc + 3) L st σ cn sn o2) : eb_go G y cc nL rt fr mc ms ri enc pc L (.int a :: st) σ cn sn (if 0 ≤ a then o1 else o2) := by
  intro out ho p e s m args below meth c Q R hR X as ls cst H locs hl hs hW hS kr
  obtain ⟨c_a, rfl, hs1⟩ := eb_st_i hs
  exact lv_if_ge X.1 X.2.1 hd ht (fun hc => (kt out (by rw [if_pos hc] at ho; exact ho) p e s m args below meth c Q R hR X as ls _ H locs hl hs1 hW hS kr)) (fun hc => (kf out (by rw [if_neg hc] at ho; exact ho) p e s m args below meth c Q R hR X as ls _ H locs hl hs1 hW hS kr))

theorem eb_if_gt {a : Int32} {off : Int} {tgt : Nat} (hd : decode cc pc = .ok (.ifCond .gt off, 3)) (ht : (pc : Int) + off = (tgt : Int)) (kt : eb_go G y cc nL rt fr mc ms ri enc tgt L st σ cn sn o1) (kf : eb_go G y cc nL rt fr mc ms ri enc (pc + 3) L st σ cn sn o2) : eb_go G y cc nL rt fr mc ms ri enc pc L (.int a :: st) σ cn sn (if 0 < a then o1 else o2) := by
  intro out ho p e s m args below meth c Q R hR X as ls cst H locs hl hs hW hS kr
  obtain ⟨c_a, rfl, hs1⟩ := eb_st_i hs
  exact lv_if_gt X.1 X.2.1 hd ht (fun hc => (kt out (by rw [if_pos hc] at ho; exact ho) p e s m args below meth c Q R hR X as ls _ H locs hl hs1 hW hS kr)) (fun hc => (kf out (by rw [if_neg hc] at ho; exact ho) p e s m args below meth c Q R hR X as ls _ H locs hl hs1 hW hS kr))

theorem eb_if_le {a : Int32} {off : Int} {tgt : Nat} (hd : decode cc pc = .ok (.ifCond .le off, 3)) (ht : (pc : Int) + off = (tgt : Int)) (kt : eb_go G y cc nL rt fr mc ms ri enc tgt L st σ cn sn o1) (kf : eb_go G y cc nL rt fr mc ms ri enc (pc + 3) L st σ cn sn o2) : eb_go G y cc nL rt fr mc ms ri enc pc L (.int a :: st) σ cn sn (if a ≤ 0 then o1 else o2) := by
  intro out ho p e s m args below meth c Q R hR X as ls cst H locs hl hs hW hS kr
  obtain ⟨c_a, rfl, hs1⟩ := eb_st_i hs
  exact lv_if_le X.1 X.2.1 hd ht (fun hc => (kt out (by rw [if_pos hc] at ho; exact ho) p e s m args below meth c Q R hR X as ls _ H locs hl hs1 hW hS kr)) (fun hc => (kf out (by rw [if_neg hc] at ho; exact ho) p e s m args below meth c Q R hR X as ls _ H locs hl hs1 hW hS kr))

theorem eb_goto {off : Int} {tgt : Nat} (hd : decode cc pc = .ok (.goto off, 3)) (ht : (pc : Int) + off = (tgt : Int)) (k : eb_go G y cc nL rt fr mc ms ri enc tgt L st σ cn sn o) : eb_go G y cc nL rt fr mc ms ri enc pc L st σ cn sn o := by
  intro out ho p e s m args below meth c Q R hR X as ls cst H locs hl hs hW hS kr
  exact lv_goto X.1 X.2.1 hd ht (k out ho p e s m args below meth c Q R hR X as ls _ H locs hl hs hW hS kr)

theorem eb_table {dflt lo hi : Int} {offs : Array Int} {len : Nat} {x : Int32} (hd : decode cc pc = .ok (.tableswitch dflt lo hi offs, len)) {tg : Nat → Nat} {td : Nat} {os : Nat → Option (ρ × eb_S)} {od : Option (ρ × eb_S)} (hlo : lo = 0) (htd : (pc : Int) + dflt = (td : Int)) (hn : 0 ≤ hi)
    (htg : ∀ j : Nat, (j : Int) ≤ hi → ∃ off, offs[j]? = some off ∧ (pc : Int) + off = (tg j : Int)) (kd : eb_go G y cc nL rt fr mc ms ri enc td L st σ cn sn od) (kt : ∀ j : Nat, (j : Int) ≤ hi → eb_go G y cc nL rt fr mc ms ri enc (tg j) L st σ cn sn (os j)) : eb_go G y cc nL rt fr mc ms ri enc pc L (.int x :: st) σ cn sn (if x.toInt < 0 ∨ hi < x.toInt then od else os x.toInt.toNat) := by
  intro out ho p e s m args below meth c Q R hR X as ls cst H locs hl hs hW hS kr
  obtain ⟨c_x, rfl, hs1⟩ := eb_st_i hs
  subst hlo
  by_cases hc : x.toInt < 0 ∨ hi < x.toInt
  · rw [if_pos hc] at ho
    exact lv_tableOut X.1 X.2.1 hd hc htd (kd out ho p e s m args below meth c Q R hR X as ls _ H locs hl hs1 hW hS kr)
  · rw [if_neg hc] at ho
    have h1 : ¬ x.toInt < 0 := fun h => hc (Or.inl h)
    have h2 : ¬ hi < x.toInt := fun h => hc (Or.inr h)
    have h3 : (x.toInt.toNat : Int) ≤ hi := by omega
    obtain ⟨off, h4, h5⟩ := htg _ h3
    exact lv_tableIn X.1 X.2.1 hd h1 h2 (by rw [Int.sub_zero]; exact h4) h5 ((kt _ h3) out ho p e s m args below meth c Q R hR X as ls _ H locs hl hs1 hW hS kr)

theorem eb_lookup {dflt : Int} {ps : Array (Int × Int)} {len : Nat} {x : Int32} {off : Int} {tgt : Nat} (hd : decode cc pc = .ok (.lookupswitch dflt ps, len)) (hp : (ps.toList.zip (ps.toList.drop 1)).all (fun (a, next) => a.1 < next.1) = true) (ho1 : Op.lookupswitch.offset ps.toList dflt x.toInt = off) (ht : (pc : Int) + off = (tgt : Int)) (k : eb_go G y cc nL rt fr mc ms ri enc tgt L st σ cn sn o) : eb_go G y cc nL rt fr mc ms ri enc pc L (.int x :: st) σ cn sn o := by
  intro out ho p e s m args below meth c Q R hR X as ls cst H locs hl hs hW hS kr
  obtain ⟨c_x, rfl, hs1⟩ := eb_st_i hs
  exact lv_lookup X.1 X.2.1 hd hp ho1 ht (k out ho p e s m args below meth c Q R hR X as ls _ H locs hl hs1 hW hS kr)

theorem eb_iret {x : Int32} (hd : decode cc pc = .ok (.ireturn, 1)) (hc : cn ≤ mc) (hs : sn ≤ ms) : eb_go G y cc nL rt fr mc ms .ireturn (fun r : Int32 => [.int r]) pc L [.int x] σ cn sn (some (x, σ)) := by
  intro out ho p e s m args below meth c Q R hR X as ls cst H locs hl hst hW hS kr
  obtain ⟨c_x, rfl, hst1⟩ := eb_st_i hst
  cases eb_st_nil hst1
  cases ho
  exact kr as ls H locs pc cn sn (List.prefix_refl as) hW hS hc hs hd

theorem eb_lret {x : Int64} (hd : decode cc pc = .ok (.lreturn, 1)) (hc : cn ≤ mc) (hs : sn ≤ ms) : eb_go G y cc nL rt fr mc ms .lreturn (fun r : Int64 => [.long r]) pc L [.long x] σ cn sn (some (x, σ)) := by
  intro out ho p e s m args below meth c Q R hR X as ls cst H locs hl hst hW hS kr
  obtain ⟨c_x, rfl, hst1⟩ := eb_st_l hst
  cases eb_st_nil hst1
  cases ho
  exact kr as ls H locs pc cn sn (List.prefix_refl as) hW hS hc hs hd

theorem eb_vret (hd : decode cc pc = .ok (.return_, 1)) (hc : cn ≤ mc) (hs : sn ≤ ms) : eb_go G y cc nL rt fr mc ms .return_ (fun _ : Unit => []) pc L [] σ cn sn (some ((), σ)) := by
  intro out ho p e s m args below meth c Q R hR X as ls cst H locs hl hst hW hS kr
  cases eb_st_nil hst
  cases ho
  exact kr as ls H locs pc cn sn (List.prefix_refl as) hW hS hc hs hd

theorem eb_sub {L' : List (Nat × Value)} (ks : List Nat) (hL : lv_pick L ks = L') (k : eb_go G y cc nL rt fr mc ms ri enc pc L' st σ cn sn o) : eb_go G y cc nL rt fr mc ms ri enc pc L st σ cn sn o := by
  intro out ho p e s m args below meth c Q R hR X as ls cst H locs hl hs hW hS kr
  exact (k out ho p e s m args below meth c Q R hR X as ls _ H locs (eb_lo_sub hl ks hL) hs hW hS kr)
theorem eb_none : eb_go G y cc nL rt fr mc ms ri enc pc L st σ cn sn none := by
  intro out ho
  cases ho
theorem eb_wide {cn' sn' : Nat} (h1 : cn ≤ cn') (h2 : sn ≤ sn') (k : eb_go G y cc nL rt fr mc ms ri enc pc L st σ cn' sn' o) : eb_go G y cc nL rt fr mc ms ri enc pc L st σ cn sn o := by
  intro out ho p e s m args below meth c Q R hR X as ls cst H locs hl hs hW hS kr
  exact W.widen h1 h2 (k out ho p e s m args below meth c Q R hR X as ls _ H locs hl hs hW hS kr)

end EBR
