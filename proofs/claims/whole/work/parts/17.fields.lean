def eb_k1 : Nat → Int32 := fun j => match j with
  | 1 => 1
  | 3 => 2
  | _ => 0
def eb_k2 : Nat → Int32 := fun j => match j with
  | 1 => 2
  | 2 => 3
  | 3 => 2
  | 5 => -2
  | 6 => -3
  | 7 => -2
  | _ => 0
def eb_k3 : Nat → Int32 := fun j => match j with
  | 0 => 3
  | 1 => 2
  | 3 => -2
  | 4 => -3
  | 5 => -2
  | 7 => 2
  | _ => 0
/-- the fixed rows hold what the class puts there -/
def eb_ok (G : eb_G) : Prop := (eb_gn G 1 = 4 ∧ eb_gx G 1 = eb_k1) ∧ (eb_gn G 2 = 8 ∧ eb_gx G 2 = eb_k2) ∧ (eb_gn G 3 = 8 ∧ eb_gx G 3 = eb_k3)
theorem eb_inX3 : ∀ w ∈ u_ws RX3 TX3 20, w ∈ eb_tbl := fun w h => eb_tbl_in ((by decide +kernel : ∀ w ∈ u_ws RX3 TX3 20, w ∈ lw_tbl) w h) ((by decide +kernel : ∀ w ∈ u_ws RX3 TX3 20, goodWord w = true) w h)
theorem ef_RX3_25 : eb_fo RX3 25 [3] 4 true := by
  intro ci h
  rcases (by simpa using h : ci = 3) with rfl
  · exact ⟨(RX3, TX3, 20), rfl, eb_inX3, by decide, by decide +kernel, "EvenBags$Market", ew_0, Or.inl rfl⟩

theorem ef_RX3_22 : eb_fo RX3 22 [3] 3 true := by
  intro ci h
  rcases (by simpa using h : ci = 3) with rfl
  · exact ⟨(RX3, TX3, 20), rfl, eb_inX3, by decide, by decide +kernel, "EvenBags$Market", ew_1, Or.inl rfl⟩

theorem ef_RX3_18 : eb_fo RX3 18 [3] 2 true := by
  intro ci h
  rcases (by simpa using h : ci = 3) with rfl
  · exact ⟨(RX3, TX3, 20), rfl, eb_inX3, by decide, by decide +kernel, "EvenBags$Market", ew_2, Or.inl rfl⟩

theorem ef_RX3_15 : eb_fo RX3 15 [3] 1 false := by
  intro ci h
  rcases (by simpa using h : ci = 3) with rfl
  · exact ⟨(RX3, TX3, 20), rfl, eb_inX3, by decide, by decide +kernel, "EvenBags$Market", ew_8, Or.inl rfl⟩

theorem ef_RX3_31 : eb_fo RX3 31 [3] 6 true := by
  intro ci h
  rcases (by simpa using h : ci = 3) with rfl
  · exact ⟨(RX3, TX3, 20), rfl, eb_inX3, by decide, by decide +kernel, "EvenBags$Market", ew_9, Or.inl rfl⟩

theorem ef_RX3_9 : eb_fo RX3 9 [3] 0 false := by
  intro ci h
  rcases (by simpa using h : ci = 3) with rfl
  · exact ⟨(RX3, TX3, 20), rfl, eb_inX3, by decide, by decide +kernel, "EvenBags$Market", ew_15, Or.inl rfl⟩

theorem ef_RX3_28 : eb_fo RX3 28 [3] 5 true := by
  intro ci h
  rcases (by simpa using h : ci = 3) with rfl
  · exact ⟨(RX3, TX3, 20), rfl, eb_inX3, by decide, by decide +kernel, "EvenBags$Market", ew_16, Or.inl rfl⟩
theorem eg_RX3_9 {nm : String} : eb_fw RX3 nm [3] 0 .int := by
  intro ci h q hq
  rcases (by simpa using h : ci = 3) with rfl <;> cases hq <;> exact ⟨by decide +kernel, Or.inl rfl⟩

theorem eg_RX3_15 {nm : String} : eb_fw RX3 nm [3] 1 .int := by
  intro ci h q hq
  rcases (by simpa using h : ci = 3) with rfl <;> cases hq <;> exact ⟨by decide +kernel, Or.inl rfl⟩
theorem ed_X3_thingLoad : yX3_thingLoad.cls ≠ "java/lang/invoke/MethodHandle" ∧ yX3_thingLoad.cls ≠ "java/lang/invoke/VarHandle" ∧ (parseMethodDescriptor yX3_thingLoad.desc).map (fun d => d.parameters.length) = some 2 := by decide +kernel
