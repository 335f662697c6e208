def eb_k1 : Nat → Int32 := fun j => match j with
  | 1 => 1
  | 3 => 2
  | _ => 0
def eb_k2 : Nat → Int32 := fun j => match j with
  | 1 => 2
  | 2 => 3
  | 3 => 2
  | 5 => -2
  | 6 => -3
  | 7 => -2
  | _ => 0
def eb_k3 : Nat → Int32 := fun j => match j with
  | 0 => 3
  | 1 => 2
  | 3 => -2
  | 4 => -3
  | 5 => -2
  | 7 => 2
  | _ => 0
/-- the fixed rows hold what the class puts there -/
def eb_ok (G : eb_G) : Prop := (eb_gn G 1 = 4 ∧ eb_gx G 1 = eb_k1) ∧ (eb_gn G 2 = 8 ∧ eb_gx G 2 = eb_k2) ∧ (eb_gn G 3 = 8 ∧ eb_gx G 3 = eb_k3)
theorem eb_inX0 : ∀ w ∈ u_ws RX0 TX0 11, w ∈ eb_tbl := fun w h => eb_tbl_in ((by decide +kernel : ∀ w ∈ u_ws RX0 TX0 11, w ∈ lw_tbl) w h) ((by decide +kernel : ∀ w ∈ u_ws RX0 TX0 11, goodWord w = true) w h)
theorem eb_inX1 : ∀ w ∈ u_ws RX1 TX1 5, w ∈ eb_tbl := fun w h => eb_tbl_in ((by decide +kernel : ∀ w ∈ u_ws RX1 TX1 5, w ∈ lw_tbl) w h) ((by decide +kernel : ∀ w ∈ u_ws RX1 TX1 5, goodWord w = true) w h)
theorem eb_inX2 : ∀ w ∈ u_ws RX2 TX2 4, w ∈ eb_tbl := fun w h => eb_tbl_in ((by decide +kernel : ∀ w ∈ u_ws RX2 TX2 4, w ∈ lw_tbl) w h) ((by decide +kernel : ∀ w ∈ u_ws RX2 TX2 4, goodWord w = true) w h)
theorem eb_inX3 : ∀ w ∈ u_ws RX3 TX3 20, w ∈ eb_tbl := fun w h => eb_tbl_in ((by decide +kernel : ∀ w ∈ u_ws RX3 TX3 20, w ∈ lw_tbl) w h) ((by decide +kernel : ∀ w ∈ u_ws RX3 TX3 20, goodWord w = true) w h)
theorem eb_inX4 : ∀ w ∈ u_ws RX4 TX4 11, w ∈ eb_tbl := fun w h => eb_tbl_in ((by decide +kernel : ∀ w ∈ u_ws RX4 TX4 11, w ∈ lw_tbl) w h) ((by decide +kernel : ∀ w ∈ u_ws RX4 TX4 11, goodWord w = true) w h)
theorem eb_inX5 : ∀ w ∈ u_ws RX5 TX5 9, w ∈ eb_tbl := fun w h => eb_tbl_in ((by decide +kernel : ∀ w ∈ u_ws RX5 TX5 9, w ∈ lw_tbl) w h) ((by decide +kernel : ∀ w ∈ u_ws RX5 TX5 9, goodWord w = true) w h)
theorem eb_inX7 : ∀ w ∈ u_ws RX7 TX7 3, w ∈ eb_tbl := fun w h => eb_tbl_in ((by decide +kernel : ∀ w ∈ u_ws RX7 TX7 3, w ∈ lw_tbl) w h) ((by decide +kernel : ∀ w ∈ u_ws RX7 TX7 3, goodWord w = true) w h)
theorem eb_inX8 : ∀ w ∈ u_ws RX8 TX8 3, w ∈ eb_tbl := fun w h => eb_tbl_in ((by decide +kernel : ∀ w ∈ u_ws RX8 TX8 3, w ∈ lw_tbl) w h) ((by decide +kernel : ∀ w ∈ u_ws RX8 TX8 3, goodWord w = true) w h)
theorem eb_inX9 : ∀ w ∈ u_ws RX9 TX9 12, w ∈ eb_tbl := fun w h => eb_tbl_in ((by decide +kernel : ∀ w ∈ u_ws RX9 TX9 12, w ∈ lw_tbl) w h) ((by decide +kernel : ∀ w ∈ u_ws RX9 TX9 12, goodWord w = true) w h)
theorem eb_inX10 : ∀ w ∈ u_ws RX10 TX10 43, w ∈ eb_tbl := fun w h => eb_tbl_in ((by decide +kernel : ∀ w ∈ u_ws RX10 TX10 43, w ∈ lw_tbl) w h) ((by decide +kernel : ∀ w ∈ u_ws RX10 TX10 43, goodWord w = true) w h)
theorem ef_RX3_9 : eb_fo RX3 9 [3] 0 false := by
  intro ci h
  rcases (by simpa using h : ci = 3) with rfl
  · exact ⟨(RX3, TX3, 20), rfl, eb_inX3, by decide, by decide +kernel, "EvenBags$Market", ew_37, Or.inl rfl⟩

theorem ef_RX3_15 : eb_fo RX3 15 [3] 1 false := by
  intro ci h
  rcases (by simpa using h : ci = 3) with rfl
  · exact ⟨(RX3, TX3, 20), rfl, eb_inX3, by decide, by decide +kernel, "EvenBags$Market", ew_38, Or.inl rfl⟩

theorem ef_RX3_18 : eb_fo RX3 18 [3] 2 true := by
  intro ci h
  rcases (by simpa using h : ci = 3) with rfl
  · exact ⟨(RX3, TX3, 20), rfl, eb_inX3, by decide, by decide +kernel, "EvenBags$Market", ew_39, Or.inl rfl⟩

theorem ef_RX3_22 : eb_fo RX3 22 [3] 3 true := by
  intro ci h
  rcases (by simpa using h : ci = 3) with rfl
  · exact ⟨(RX3, TX3, 20), rfl, eb_inX3, by decide, by decide +kernel, "EvenBags$Market", ew_40, Or.inl rfl⟩

theorem ef_RX3_25 : eb_fo RX3 25 [3] 4 true := by
  intro ci h
  rcases (by simpa using h : ci = 3) with rfl
  · exact ⟨(RX3, TX3, 20), rfl, eb_inX3, by decide, by decide +kernel, "EvenBags$Market", ew_41, Or.inl rfl⟩

theorem ef_RX3_28 : eb_fo RX3 28 [3] 5 true := by
  intro ci h
  rcases (by simpa using h : ci = 3) with rfl
  · exact ⟨(RX3, TX3, 20), rfl, eb_inX3, by decide, by decide +kernel, "EvenBags$Market", ew_42, Or.inl rfl⟩

theorem ef_RX3_31 : eb_fo RX3 31 [3] 6 true := by
  intro ci h
  rcases (by simpa using h : ci = 3) with rfl
  · exact ⟨(RX3, TX3, 20), rfl, eb_inX3, by decide, by decide +kernel, "EvenBags$Market", ew_43, Or.inl rfl⟩

theorem ef_RX3_34 : eb_fo RX3 34 [3] 7 false := by
  intro ci h
  rcases (by simpa using h : ci = 3) with rfl
  · exact ⟨(RX3, TX3, 20), rfl, eb_inX3, by decide, by decide +kernel, "EvenBags$Market", ew_44, Or.inl rfl⟩

theorem ef_RX3_37 : eb_fo RX3 37 [3] 8 true := by
  intro ci h
  rcases (by simpa using h : ci = 3) with rfl
  · exact ⟨(RX3, TX3, 20), rfl, eb_inX3, by decide, by decide +kernel, "EvenBags$Market", ew_45, Or.inl rfl⟩

theorem ef_RX3_40 : eb_fo RX3 40 [3] 9 true := by
  intro ci h
  rcases (by simpa using h : ci = 3) with rfl
  · exact ⟨(RX3, TX3, 20), rfl, eb_inX3, by decide, by decide +kernel, "EvenBags$Market", ew_46, Or.inl rfl⟩

theorem ef_RX3_43 : eb_fo RX3 43 [3] 10 true := by
  intro ci h
  rcases (by simpa using h : ci = 3) with rfl
  · exact ⟨(RX3, TX3, 20), rfl, eb_inX3, by decide, by decide +kernel, "EvenBags$Market", ew_47, Or.inl rfl⟩

theorem ef_RX3_46 : eb_fo RX3 46 [3] 11 true := by
  intro ci h
  rcases (by simpa using h : ci = 3) with rfl
  · exact ⟨(RX3, TX3, 20), rfl, eb_inX3, by decide, by decide +kernel, "EvenBags$Market", ew_48, Or.inl rfl⟩

theorem ef_RX3_49 : eb_fo RX3 49 [3] 12 true := by
  intro ci h
  rcases (by simpa using h : ci = 3) with rfl
  · exact ⟨(RX3, TX3, 20), rfl, eb_inX3, by decide, by decide +kernel, "EvenBags$Market", ew_49, Or.inl rfl⟩

theorem ef_RX3_52 : eb_fo RX3 52 [3] 13 false := by
  intro ci h
  rcases (by simpa using h : ci = 3) with rfl
  · exact ⟨(RX3, TX3, 20), rfl, eb_inX3, by decide, by decide +kernel, "EvenBags$Market", ew_50, Or.inl rfl⟩

theorem ef_RX3_55 : eb_fo RX3 55 [3] 14 true := by
  intro ci h
  rcases (by simpa using h : ci = 3) with rfl
  · exact ⟨(RX3, TX3, 20), rfl, eb_inX3, by decide, by decide +kernel, "EvenBags$Market", ew_51, Or.inl rfl⟩

theorem ef_RX3_58 : eb_fo RX3 58 [3] 15 true := by
  intro ci h
  rcases (by simpa using h : ci = 3) with rfl
  · exact ⟨(RX3, TX3, 20), rfl, eb_inX3, by decide, by decide +kernel, "EvenBags$Market", ew_52, Or.inl rfl⟩

theorem ef_RX3_61 : eb_fo RX3 61 [3] 16 true := by
  intro ci h
  rcases (by simpa using h : ci = 3) with rfl
  · exact ⟨(RX3, TX3, 20), rfl, eb_inX3, by decide, by decide +kernel, "EvenBags$Market", ew_53, Or.inl rfl⟩

theorem ef_RX3_64 : eb_fo RX3 64 [3] 17 false := by
  intro ci h
  rcases (by simpa using h : ci = 3) with rfl
  · exact ⟨(RX3, TX3, 20), rfl, eb_inX3, by decide, by decide +kernel, "EvenBags$Market", ew_54, Or.inl rfl⟩

theorem ef_RX3_67 : eb_fo RX3 67 [3] 18 true := by
  intro ci h
  rcases (by simpa using h : ci = 3) with rfl
  · exact ⟨(RX3, TX3, 20), rfl, eb_inX3, by decide, by decide +kernel, "EvenBags$Market", ew_55, Or.inl rfl⟩

theorem ef_RX3_70 : eb_fo RX3 70 [3] 19 true := by
  intro ci h
  rcases (by simpa using h : ci = 3) with rfl
  · exact ⟨(RX3, TX3, 20), rfl, eb_inX3, by decide, by decide +kernel, "EvenBags$Market", ew_56, Or.inl rfl⟩

theorem ef_RX6_9 : eb_fo RX6 9 [0, 4, 5] 1 true := by
  intro ci h
  rcases (by simpa using h : ci = 0 ∨ ci = 4 ∨ ci = 5) with rfl | rfl | rfl
  · exact ⟨(RX0, TX0, 11), rfl, eb_inX0, by decide, by decide +kernel, "EvenBags$Search", ew_127, Or.inl rfl⟩
  · exact ⟨(RX4, TX4, 11), rfl, eb_inX4, by decide, by decide +kernel, "EvenBags$Search", ew_127, Or.inl rfl⟩
  · exact ⟨(RX5, TX5, 9), rfl, eb_inX5, by decide, by decide +kernel, "EvenBags$Search", ew_127, Or.inl rfl⟩

theorem ef_RX6_15 : eb_fo RX6 15 [0, 4, 5] 2 true := by
  intro ci h
  rcases (by simpa using h : ci = 0 ∨ ci = 4 ∨ ci = 5) with rfl | rfl | rfl
  · exact ⟨(RX0, TX0, 11), rfl, eb_inX0, by decide, by decide +kernel, "EvenBags$Search", ew_128, Or.inl rfl⟩
  · exact ⟨(RX4, TX4, 11), rfl, eb_inX4, by decide, by decide +kernel, "EvenBags$Search", ew_128, Or.inl rfl⟩
  · exact ⟨(RX5, TX5, 9), rfl, eb_inX5, by decide, by decide +kernel, "EvenBags$Search", ew_128, Or.inl rfl⟩

theorem ef_RX6_18 : eb_fo RX6 18 [0, 4, 5] 3 true := by
  intro ci h
  rcases (by simpa using h : ci = 0 ∨ ci = 4 ∨ ci = 5) with rfl | rfl | rfl
  · exact ⟨(RX0, TX0, 11), rfl, eb_inX0, by decide, by decide +kernel, "EvenBags$Search", ew_129, Or.inl rfl⟩
  · exact ⟨(RX4, TX4, 11), rfl, eb_inX4, by decide, by decide +kernel, "EvenBags$Search", ew_129, Or.inl rfl⟩
  · exact ⟨(RX5, TX5, 9), rfl, eb_inX5, by decide, by decide +kernel, "EvenBags$Search", ew_129, Or.inl rfl⟩

theorem ef_RX6_21 : eb_fo RX6 21 [0, 4, 5] 4 true := by
  intro ci h
  rcases (by simpa using h : ci = 0 ∨ ci = 4 ∨ ci = 5) with rfl | rfl | rfl
  · exact ⟨(RX0, TX0, 11), rfl, eb_inX0, by decide, by decide +kernel, "EvenBags$Search", ew_130, Or.inl rfl⟩
  · exact ⟨(RX4, TX4, 11), rfl, eb_inX4, by decide, by decide +kernel, "EvenBags$Search", ew_130, Or.inl rfl⟩
  · exact ⟨(RX5, TX5, 9), rfl, eb_inX5, by decide, by decide +kernel, "EvenBags$Search", ew_130, Or.inl rfl⟩

theorem ef_RX6_24 : eb_fo RX6 24 [0, 4, 5] 5 false := by
  intro ci h
  rcases (by simpa using h : ci = 0 ∨ ci = 4 ∨ ci = 5) with rfl | rfl | rfl
  · exact ⟨(RX0, TX0, 11), rfl, eb_inX0, by decide, by decide +kernel, "EvenBags$Search", ew_131, Or.inl rfl⟩
  · exact ⟨(RX4, TX4, 11), rfl, eb_inX4, by decide, by decide +kernel, "EvenBags$Search", ew_131, Or.inl rfl⟩
  · exact ⟨(RX5, TX5, 9), rfl, eb_inX5, by decide, by decide +kernel, "EvenBags$Search", ew_131, Or.inl rfl⟩

theorem ef_RX6_28 : eb_fo RX6 28 [0, 4, 5] 0 true := by
  intro ci h
  rcases (by simpa using h : ci = 0 ∨ ci = 4 ∨ ci = 5) with rfl | rfl | rfl
  · exact ⟨(RX0, TX0, 11), rfl, eb_inX0, by decide, by decide +kernel, "EvenBags$Search", ew_132, Or.inl rfl⟩
  · exact ⟨(RX4, TX4, 11), rfl, eb_inX4, by decide, by decide +kernel, "EvenBags$Search", ew_132, Or.inl rfl⟩
  · exact ⟨(RX5, TX5, 9), rfl, eb_inX5, by decide, by decide +kernel, "EvenBags$Search", ew_132, Or.inl rfl⟩

theorem ef_RX6_47 : eb_fo RX6 47 [3] 1 false := by
  intro ci h
  rcases (by simpa using h : ci = 3) with rfl
  · exact ⟨(RX3, TX3, 20), rfl, eb_inX3, by decide, by decide +kernel, "EvenBags$Market", ew_134, Or.inl rfl⟩

theorem ef_RX6_50 : eb_fo RX6 50 [3] 7 false := by
  intro ci h
  rcases (by simpa using h : ci = 3) with rfl
  · exact ⟨(RX3, TX3, 20), rfl, eb_inX3, by decide, by decide +kernel, "EvenBags$Market", ew_135, Or.inl rfl⟩

theorem ef_RX0_7 : eb_fo RX0 7 [0] 6 false := by
  intro ci h
  rcases (by simpa using h : ci = 0) with rfl
  · exact ⟨(RX0, TX0, 11), rfl, eb_inX0, by decide, by decide +kernel, "EvenBags$Best", ew_145, Or.inl rfl⟩

theorem ef_RX4_7 : eb_fo RX4 7 [4] 6 false := by
  intro ci h
  rcases (by simpa using h : ci = 4) with rfl
  · exact ⟨(RX4, TX4, 11), rfl, eb_inX4, by decide, by decide +kernel, "EvenBags$Moves", ew_146, Or.inl rfl⟩

theorem ef_RX5_9 : eb_fo RX5 9 [5] 6 false := by
  intro ci h
  rcases (by simpa using h : ci = 5) with rfl
  · exact ⟨(RX5, TX5, 9), rfl, eb_inX5, by decide, by decide +kernel, "EvenBags$Pulls", ew_147, Or.inl rfl⟩

theorem ef_RX5_15 : eb_fo RX5 15 [5] 7 false := by
  intro ci h
  rcases (by simpa using h : ci = 5) with rfl
  · exact ⟨(RX5, TX5, 9), rfl, eb_inX5, by decide, by decide +kernel, "EvenBags$Pulls", ew_148, Or.inl rfl⟩

theorem ef_RX0_20 : eb_fo RX0 20 [0] 9 false := by
  intro ci h
  rcases (by simpa using h : ci = 0) with rfl
  · exact ⟨(RX0, TX0, 11), rfl, eb_inX0, by decide, by decide +kernel, "EvenBags$Best", ew_165, Or.inl rfl⟩

theorem ef_RX0_23 : eb_fo RX0 23 [0] 10 false := by
  intro ci h
  rcases (by simpa using h : ci = 0) with rfl
  · exact ⟨(RX0, TX0, 11), rfl, eb_inX0, by decide, by decide +kernel, "EvenBags$Best", ew_166, Or.inl rfl⟩

theorem ef_RX0_26 : eb_fo RX0 26 [0] 0 true := by
  intro ci h
  rcases (by simpa using h : ci = 0) with rfl
  · exact ⟨(RX0, TX0, 11), rfl, eb_inX0, by decide, by decide +kernel, "EvenBags$Best", ew_167, Or.inr ew_168⟩

theorem ef_RX0_30 : eb_fo RX0 30 [3] 7 false := by
  intro ci h
  rcases (by simpa using h : ci = 3) with rfl
  · exact ⟨(RX3, TX3, 20), rfl, eb_inX3, by decide, by decide +kernel, "EvenBags$Market", ew_169, Or.inl rfl⟩

theorem ef_RX0_44 : eb_fo RX0 44 [3] 8 true := by
  intro ci h
  rcases (by simpa using h : ci = 3) with rfl
  · exact ⟨(RX3, TX3, 20), rfl, eb_inX3, by decide, by decide +kernel, "EvenBags$Market", ew_175, Or.inl rfl⟩

theorem ef_RX0_13 : eb_fo RX0 13 [0] 7 false := by
  intro ci h
  rcases (by simpa using h : ci = 0) with rfl
  · exact ⟨(RX0, TX0, 11), rfl, eb_inX0, by decide, by decide +kernel, "EvenBags$Best", ew_178, Or.inl rfl⟩

theorem ef_RX0_17 : eb_fo RX0 17 [0] 8 false := by
  intro ci h
  rcases (by simpa using h : ci = 0) with rfl
  · exact ⟨(RX0, TX0, 11), rfl, eb_inX0, by decide, by decide +kernel, "EvenBags$Best", ew_179, Or.inl rfl⟩

theorem ef_RX4_23 : eb_fo RX4 23 [4] 10 false := by
  intro ci h
  rcases (by simpa using h : ci = 4) with rfl
  · exact ⟨(RX4, TX4, 11), rfl, eb_inX4, by decide, by decide +kernel, "EvenBags$Moves", ew_180, Or.inl rfl⟩

theorem ef_RX4_30 : eb_fo RX4 30 [4] 1 true := by
  intro ci h
  rcases (by simpa using h : ci = 4) with rfl
  · exact ⟨(RX4, TX4, 11), rfl, eb_inX4, by decide, by decide +kernel, "EvenBags$Moves", ew_181, Or.inr ew_182⟩

theorem ef_RX4_34 : eb_fo RX4 34 [4] 0 true := by
  intro ci h
  rcases (by simpa using h : ci = 4) with rfl
  · exact ⟨(RX4, TX4, 11), rfl, eb_inX4, by decide, by decide +kernel, "EvenBags$Moves", ew_183, Or.inr ew_184⟩

theorem ef_RX4_38 : eb_fo RX4 38 [3] 6 true := by
  intro ci h
  rcases (by simpa using h : ci = 3) with rfl
  · exact ⟨(RX3, TX3, 20), rfl, eb_inX3, by decide, by decide +kernel, "EvenBags$Market", ew_185, Or.inl rfl⟩

theorem ef_RX4_17 : eb_fo RX4 17 [4] 8 false := by
  intro ci h
  rcases (by simpa using h : ci = 4) with rfl
  · exact ⟨(RX4, TX4, 11), rfl, eb_inX4, by decide, by decide +kernel, "EvenBags$Moves", ew_186, Or.inl rfl⟩

theorem ef_RX4_43 : eb_fo RX4 43 [3] 7 false := by
  intro ci h
  rcases (by simpa using h : ci = 3) with rfl
  · exact ⟨(RX3, TX3, 20), rfl, eb_inX3, by decide, by decide +kernel, "EvenBags$Market", ew_187, Or.inl rfl⟩

theorem ef_RX4_20 : eb_fo RX4 20 [4] 9 false := by
  intro ci h
  rcases (by simpa using h : ci = 4) with rfl
  · exact ⟨(RX4, TX4, 11), rfl, eb_inX4, by decide, by decide +kernel, "EvenBags$Moves", ew_191, Or.inl rfl⟩

theorem ef_RX4_13 : eb_fo RX4 13 [4] 7 false := by
  intro ci h
  rcases (by simpa using h : ci = 4) with rfl
  · exact ⟨(RX4, TX4, 11), rfl, eb_inX4, by decide, by decide +kernel, "EvenBags$Moves", ew_192, Or.inl rfl⟩

theorem ef_RX5_26 : eb_fo RX5 26 [5] 0 true := by
  intro ci h
  rcases (by simpa using h : ci = 5) with rfl
  · exact ⟨(RX5, TX5, 9), rfl, eb_inX5, by decide, by decide +kernel, "EvenBags$Pulls", ew_193, Or.inr ew_194⟩

theorem ef_RX5_30 : eb_fo RX5 30 [3] 7 false := by
  intro ci h
  rcases (by simpa using h : ci = 3) with rfl
  · exact ⟨(RX3, TX3, 20), rfl, eb_inX3, by decide, by decide +kernel, "EvenBags$Market", ew_195, Or.inl rfl⟩

theorem ef_RX5_18 : eb_fo RX5 18 [5] 8 true := by
  intro ci h
  rcases (by simpa using h : ci = 5) with rfl
  · exact ⟨(RX5, TX5, 9), rfl, eb_inX5, by decide, by decide +kernel, "EvenBags$Pulls", ew_196, Or.inl rfl⟩

theorem ef_RX5_45 : eb_fo RX5 45 [3] 1 false := by
  intro ci h
  rcases (by simpa using h : ci = 3) with rfl
  · exact ⟨(RX3, TX3, 20), rfl, eb_inX3, by decide, by decide +kernel, "EvenBags$Market", ew_212, Or.inl rfl⟩

theorem ef_RX5_48 : eb_fo RX5 48 [5] 1 true := by
  intro ci h
  rcases (by simpa using h : ci = 5) with rfl
  · exact ⟨(RX5, TX5, 9), rfl, eb_inX5, by decide, by decide +kernel, "EvenBags$Pulls", ew_213, Or.inr ew_214⟩

theorem ef_RX5_52 : eb_fo RX5 52 [5] 2 true := by
  intro ci h
  rcases (by simpa using h : ci = 5) with rfl
  · exact ⟨(RX5, TX5, 9), rfl, eb_inX5, by decide, by decide +kernel, "EvenBags$Pulls", ew_215, Or.inr ew_216⟩

theorem ef_RX6_81 : eb_fo RX6 81 [3] 10 true := by
  intro ci h
  rcases (by simpa using h : ci = 3) with rfl
  · exact ⟨(RX3, TX3, 20), rfl, eb_inX3, by decide, by decide +kernel, "EvenBags$Market", ew_220, Or.inl rfl⟩

theorem ef_RX6_32 : eb_fo RX6 32 [3] 0 false := by
  intro ci h
  rcases (by simpa using h : ci = 3) with rfl
  · exact ⟨(RX3, TX3, 20), rfl, eb_inX3, by decide, by decide +kernel, "EvenBags$Market", ew_269, Or.inl rfl⟩

theorem ef_RX1_9 : eb_fo RX1 9 [1] 0 false := by
  intro ci h
  rcases (by simpa using h : ci = 1) with rfl
  · exact ⟨(RX1, TX1, 5), rfl, eb_inX1, by decide, by decide +kernel, "EvenBags$Errand", ew_302, Or.inl rfl⟩

theorem ef_RX1_15 : eb_fo RX1 15 [1] 1 true := by
  intro ci h
  rcases (by simpa using h : ci = 1) with rfl
  · exact ⟨(RX1, TX1, 5), rfl, eb_inX1, by decide, by decide +kernel, "EvenBags$Errand", ew_303, Or.inl rfl⟩

theorem ef_RX1_19 : eb_fo RX1 19 [1] 3 true := by
  intro ci h
  rcases (by simpa using h : ci = 1) with rfl
  · exact ⟨(RX1, TX1, 5), rfl, eb_inX1, by decide, by decide +kernel, "EvenBags$Errand", ew_304, Or.inl rfl⟩

theorem ef_RX1_22 : eb_fo RX1 22 [1] 4 false := by
  intro ci h
  rcases (by simpa using h : ci = 1) with rfl
  · exact ⟨(RX1, TX1, 5), rfl, eb_inX1, by decide, by decide +kernel, "EvenBags$Errand", ew_305, Or.inl rfl⟩

theorem ef_RX1_25 : eb_fo RX1 25 [1] 2 true := by
  intro ci h
  rcases (by simpa using h : ci = 1) with rfl
  · exact ⟨(RX1, TX1, 5), rfl, eb_inX1, by decide, by decide +kernel, "EvenBags$Errand", ew_306, Or.inl rfl⟩

theorem ef_RX1_52 : eb_fo RX1 52 [3] 5 true := by
  intro ci h
  rcases (by simpa using h : ci = 3) with rfl
  · exact ⟨(RX3, TX3, 20), rfl, eb_inX3, by decide, by decide +kernel, "EvenBags$Market", ew_308, Or.inl rfl⟩

theorem ef_RX1_34 : eb_fo RX1 34 [3] 1 false := by
  intro ci h
  rcases (by simpa using h : ci = 3) with rfl
  · exact ⟨(RX3, TX3, 20), rfl, eb_inX3, by decide, by decide +kernel, "EvenBags$Market", ew_314, Or.inl rfl⟩

theorem ef_RX1_68 : eb_fo RX1 68 [3] 3 true := by
  intro ci h
  rcases (by simpa using h : ci = 3) with rfl
  · exact ⟨(RX3, TX3, 20), rfl, eb_inX3, by decide, by decide +kernel, "EvenBags$Market", ew_325, Or.inl rfl⟩

theorem ef_RX1_29 : eb_fo RX1 29 [3] 0 false := by
  intro ci h
  rcases (by simpa using h : ci = 3) with rfl
  · exact ⟨(RX3, TX3, 20), rfl, eb_inX3, by decide, by decide +kernel, "EvenBags$Market", ew_326, Or.inl rfl⟩

theorem ef_RX2_9 : eb_fo RX2 9 [2] 0 false := by
  intro ci h
  rcases (by simpa using h : ci = 2) with rfl
  · exact ⟨(RX2, TX2, 4), rfl, eb_inX2, by decide, by decide +kernel, "EvenBags$Guests", ew_335, Or.inl rfl⟩

theorem ef_RX2_15 : eb_fo RX2 15 [2] 2 true := by
  intro ci h
  rcases (by simpa using h : ci = 2) with rfl
  · exact ⟨(RX2, TX2, 4), rfl, eb_inX2, by decide, by decide +kernel, "EvenBags$Guests", ew_336, Or.inl rfl⟩

theorem ef_RX2_19 : eb_fo RX2 19 [2] 3 true := by
  intro ci h
  rcases (by simpa using h : ci = 2) with rfl
  · exact ⟨(RX2, TX2, 4), rfl, eb_inX2, by decide, by decide +kernel, "EvenBags$Guests", ew_337, Or.inl rfl⟩

theorem ef_RX2_22 : eb_fo RX2 22 [2] 1 true := by
  intro ci h
  rcases (by simpa using h : ci = 2) with rfl
  · exact ⟨(RX2, TX2, 4), rfl, eb_inX2, by decide, by decide +kernel, "EvenBags$Guests", ew_338, Or.inl rfl⟩

theorem ef_RX2_26 : eb_fo RX2 26 [6] 2 true := by
  intro ci h
  rcases (by simpa using h : ci = 6) with rfl
  · exact ⟨(RX7, TX7, 3), rfl, eb_inX7, by decide, by decide +kernel, "EvenBags$Sheet", ew_340, Or.inl rfl⟩

theorem ef_RX2_32 : eb_fo RX2 32 [3] 1 false := by
  intro ci h
  rcases (by simpa using h : ci = 3) with rfl
  · exact ⟨(RX3, TX3, 20), rfl, eb_inX3, by decide, by decide +kernel, "EvenBags$Market", ew_341, Or.inl rfl⟩

theorem ef_RX2_37 : eb_fo RX2 37 [3] 3 true := by
  intro ci h
  rcases (by simpa using h : ci = 3) with rfl
  · exact ⟨(RX3, TX3, 20), rfl, eb_inX3, by decide, by decide +kernel, "EvenBags$Market", ew_342, Or.inl rfl⟩

theorem ef_RX7_11 : eb_fo RX7 11 [6] 0 false := by
  intro ci h
  rcases (by simpa using h : ci = 6) with rfl
  · exact ⟨(RX7, TX7, 3), rfl, eb_inX7, by decide, by decide +kernel, "EvenBags$Sheet", ew_355, Or.inl rfl⟩

theorem ef_RX7_15 : eb_fo RX7 15 [6] 1 false := by
  intro ci h
  rcases (by simpa using h : ci = 6) with rfl
  · exact ⟨(RX7, TX7, 3), rfl, eb_inX7, by decide, by decide +kernel, "EvenBags$Sheet", ew_356, Or.inl rfl⟩

theorem ef_RX7_18 : eb_fo RX7 18 [6] 2 true := by
  intro ci h
  rcases (by simpa using h : ci = 6) with rfl
  · exact ⟨(RX7, TX7, 3), rfl, eb_inX7, by decide, by decide +kernel, "EvenBags$Sheet", ew_357, Or.inl rfl⟩

theorem ef_RX8_9 : eb_fo RX8 9 [7] 0 false := by
  intro ci h
  rcases (by simpa using h : ci = 7) with rfl
  · exact ⟨(RX8, TX8, 3), rfl, eb_inX8, by decide, by decide +kernel, "EvenBags$Tape", ew_364, Or.inl rfl⟩

theorem ef_RX8_15 : eb_fo RX8 15 [7] 1 true := by
  intro ci h
  rcases (by simpa using h : ci = 7) with rfl
  · exact ⟨(RX8, TX8, 3), rfl, eb_inX8, by decide, by decide +kernel, "EvenBags$Tape", ew_365, Or.inl rfl⟩

theorem ef_RX8_19 : eb_fo RX8 19 [7] 2 false := by
  intro ci h
  rcases (by simpa using h : ci = 7) with rfl
  · exact ⟨(RX8, TX8, 3), rfl, eb_inX8, by decide, by decide +kernel, "EvenBags$Tape", ew_366, Or.inl rfl⟩

theorem ef_RX9_10 : eb_fo RX9 10 [8] 0 true := by
  intro ci h
  rcases (by simpa using h : ci = 8) with rfl
  · exact ⟨(RX9, TX9, 12), rfl, eb_inX9, by decide, by decide +kernel, "EvenBags", ew_377, Or.inl rfl⟩

theorem ef_RX9_16 : eb_fo RX9 16 [8] 1 true := by
  intro ci h
  rcases (by simpa using h : ci = 8) with rfl
  · exact ⟨(RX9, TX9, 12), rfl, eb_inX9, by decide, by decide +kernel, "EvenBags", ew_378, Or.inl rfl⟩

theorem ef_RX9_19 : eb_fo RX9 19 [8] 2 true := by
  intro ci h
  rcases (by simpa using h : ci = 8) with rfl
  · exact ⟨(RX9, TX9, 12), rfl, eb_inX9, by decide, by decide +kernel, "EvenBags", ew_379, Or.inl rfl⟩

theorem ef_RX9_25 : eb_fo RX9 25 [8] 3 true := by
  intro ci h
  rcases (by simpa using h : ci = 8) with rfl
  · exact ⟨(RX9, TX9, 12), rfl, eb_inX9, by decide, by decide +kernel, "EvenBags", ew_382, Or.inl rfl⟩

theorem ef_RX9_34 : eb_fo RX9 34 [8] 4 true := by
  intro ci h
  rcases (by simpa using h : ci = 8) with rfl
  · exact ⟨(RX9, TX9, 12), rfl, eb_inX9, by decide, by decide +kernel, "EvenBags", ew_386, Or.inl rfl⟩

theorem ef_RX9_41 : eb_fo RX9 41 [8] 5 true := by
  intro ci h
  rcases (by simpa using h : ci = 8) with rfl
  · exact ⟨(RX9, TX9, 12), rfl, eb_inX9, by decide, by decide +kernel, "EvenBags", ew_390, Or.inl rfl⟩

theorem ef_RX9_48 : eb_fo RX9 48 [8] 6 true := by
  intro ci h
  rcases (by simpa using h : ci = 8) with rfl
  · exact ⟨(RX9, TX9, 12), rfl, eb_inX9, by decide, by decide +kernel, "EvenBags", ew_394, Or.inl rfl⟩

theorem ef_RX9_55 : eb_fo RX9 55 [8] 7 true := by
  intro ci h
  rcases (by simpa using h : ci = 8) with rfl
  · exact ⟨(RX9, TX9, 12), rfl, eb_inX9, by decide, by decide +kernel, "EvenBags", ew_398, Or.inl rfl⟩

theorem ef_RX9_62 : eb_fo RX9 62 [8] 8 true := by
  intro ci h
  rcases (by simpa using h : ci = 8) with rfl
  · exact ⟨(RX9, TX9, 12), rfl, eb_inX9, by decide, by decide +kernel, "EvenBags", ew_402, Or.inl rfl⟩

theorem ef_RX9_69 : eb_fo RX9 69 [8] 9 true := by
  intro ci h
  rcases (by simpa using h : ci = 8) with rfl
  · exact ⟨(RX9, TX9, 12), rfl, eb_inX9, by decide, by decide +kernel, "EvenBags", ew_405, Or.inl rfl⟩

theorem ef_RX9_73 : eb_fo RX9 73 [8] 10 true := by
  intro ci h
  rcases (by simpa using h : ci = 8) with rfl
  · exact ⟨(RX9, TX9, 12), rfl, eb_inX9, by decide, by decide +kernel, "EvenBags", ew_406, Or.inl rfl⟩

theorem ef_RX9_77 : eb_fo RX9 77 [8] 11 false := by
  intro ci h
  rcases (by simpa using h : ci = 8) with rfl
  · exact ⟨(RX9, TX9, 12), rfl, eb_inX9, by decide, by decide +kernel, "EvenBags", ew_407, Or.inl rfl⟩

theorem ef_RX9_85 : eb_fo RX9 85 [3] 1 false := by
  intro ci h
  rcases (by simpa using h : ci = 3) with rfl
  · exact ⟨(RX3, TX3, 20), rfl, eb_inX3, by decide, by decide +kernel, "EvenBags$Market", ew_429, Or.inl rfl⟩

theorem ef_RX9_97 : eb_fo RX9 97 [3] 2 true := by
  intro ci h
  rcases (by simpa using h : ci = 3) with rfl
  · exact ⟨(RX3, TX3, 20), rfl, eb_inX3, by decide, by decide +kernel, "EvenBags$Market", ew_438, Or.inl rfl⟩

theorem ef_RX9_100 : eb_fo RX9 100 [3] 3 true := by
  intro ci h
  rcases (by simpa using h : ci = 3) with rfl
  · exact ⟨(RX3, TX3, 20), rfl, eb_inX3, by decide, by decide +kernel, "EvenBags$Market", ew_439, Or.inl rfl⟩

theorem ef_RX9_103 : eb_fo RX9 103 [3] 4 true := by
  intro ci h
  rcases (by simpa using h : ci = 3) with rfl
  · exact ⟨(RX3, TX3, 20), rfl, eb_inX3, by decide, by decide +kernel, "EvenBags$Market", ew_440, Or.inl rfl⟩

theorem ef_RX9_106 : eb_fo RX9 106 [3] 5 true := by
  intro ci h
  rcases (by simpa using h : ci = 3) with rfl
  · exact ⟨(RX3, TX3, 20), rfl, eb_inX3, by decide, by decide +kernel, "EvenBags$Market", ew_441, Or.inl rfl⟩

theorem ef_RX9_109 : eb_fo RX9 109 [3] 6 true := by
  intro ci h
  rcases (by simpa using h : ci = 3) with rfl
  · exact ⟨(RX3, TX3, 20), rfl, eb_inX3, by decide, by decide +kernel, "EvenBags$Market", ew_442, Or.inl rfl⟩

theorem ef_RX9_122 : eb_fo RX9 122 [3] 7 false := by
  intro ci h
  rcases (by simpa using h : ci = 3) with rfl
  · exact ⟨(RX3, TX3, 20), rfl, eb_inX3, by decide, by decide +kernel, "EvenBags$Market", ew_454, Or.inl rfl⟩

theorem ef_RX9_135 : eb_fo RX9 135 [3] 9 true := by
  intro ci h
  rcases (by simpa using h : ci = 3) with rfl
  · exact ⟨(RX3, TX3, 20), rfl, eb_inX3, by decide, by decide +kernel, "EvenBags$Market", ew_463, Or.inl rfl⟩

theorem ef_RX9_132 : eb_fo RX9 132 [3] 8 true := by
  intro ci h
  rcases (by simpa using h : ci = 3) with rfl
  · exact ⟨(RX3, TX3, 20), rfl, eb_inX3, by decide, by decide +kernel, "EvenBags$Market", ew_464, Or.inl rfl⟩

theorem ef_RX9_141 : eb_fo RX9 141 [3] 11 true := by
  intro ci h
  rcases (by simpa using h : ci = 3) with rfl
  · exact ⟨(RX3, TX3, 20), rfl, eb_inX3, by decide, by decide +kernel, "EvenBags$Market", ew_465, Or.inl rfl⟩

theorem ef_RX9_138 : eb_fo RX9 138 [3] 10 true := by
  intro ci h
  rcases (by simpa using h : ci = 3) with rfl
  · exact ⟨(RX3, TX3, 20), rfl, eb_inX3, by decide, by decide +kernel, "EvenBags$Market", ew_466, Or.inl rfl⟩

theorem ef_RX9_144 : eb_fo RX9 144 [3] 12 true := by
  intro ci h
  rcases (by simpa using h : ci = 3) with rfl
  · exact ⟨(RX3, TX3, 20), rfl, eb_inX3, by decide, by decide +kernel, "EvenBags$Market", ew_467, Or.inl rfl⟩

theorem ef_RX9_147 : eb_fo RX9 147 [3] 13 false := by
  intro ci h
  rcases (by simpa using h : ci = 3) with rfl
  · exact ⟨(RX3, TX3, 20), rfl, eb_inX3, by decide, by decide +kernel, "EvenBags$Market", ew_468, Or.inl rfl⟩

theorem ef_RX9_157 : eb_fo RX9 157 [7] 0 false := by
  intro ci h
  rcases (by simpa using h : ci = 7) with rfl
  · exact ⟨(RX8, TX8, 3), rfl, eb_inX8, by decide, by decide +kernel, "EvenBags$Tape", ew_477, Or.inl rfl⟩

theorem ef_RX9_174 : eb_fo RX9 174 [3] 17 false := by
  intro ci h
  rcases (by simpa using h : ci = 3) with rfl
  · exact ⟨(RX3, TX3, 20), rfl, eb_inX3, by decide, by decide +kernel, "EvenBags$Market", ew_482, Or.inl rfl⟩

theorem ef_RX9_199 : eb_fo RX9 199 [0] 6 false := by
  intro ci h
  rcases (by simpa using h : ci = 0) with rfl
  · exact ⟨(RX0, TX0, 11), rfl, eb_inX0, by decide, by decide +kernel, "EvenBags$Best", ew_507, Or.inl rfl⟩

theorem ef_RX9_206 : eb_fo RX9 206 [0] 2 true := by
  intro ci h
  rcases (by simpa using h : ci = 0) with rfl
  · exact ⟨(RX0, TX0, 11), rfl, eb_inX0, by decide, by decide +kernel, "EvenBags$Best", ew_508, Or.inr ew_509⟩

theorem ef_RX9_204 : eb_fo RX9 204 [0] 8 false := by
  intro ci h
  rcases (by simpa using h : ci = 0) with rfl
  · exact ⟨(RX0, TX0, 11), rfl, eb_inX0, by decide, by decide +kernel, "EvenBags$Best", ew_510, Or.inl rfl⟩

theorem ef_RX9_202 : eb_fo RX9 202 [0] 7 false := by
  intro ci h
  rcases (by simpa using h : ci = 0) with rfl
  · exact ⟨(RX0, TX0, 11), rfl, eb_inX0, by decide, by decide +kernel, "EvenBags$Best", ew_511, Or.inl rfl⟩

theorem ef_RX9_234 : eb_fo RX9 234 [4] 6 false := by
  intro ci h
  rcases (by simpa using h : ci = 4) with rfl
  · exact ⟨(RX4, TX4, 11), rfl, eb_inX4, by decide, by decide +kernel, "EvenBags$Moves", ew_530, Or.inl rfl⟩

theorem ef_RX9_238 : eb_fo RX9 238 [4] 2 true := by
  intro ci h
  rcases (by simpa using h : ci = 4) with rfl
  · exact ⟨(RX4, TX4, 11), rfl, eb_inX4, by decide, by decide +kernel, "EvenBags$Moves", ew_531, Or.inr ew_532⟩

theorem ef_RX9_235 : eb_fo RX9 235 [4] 7 false := by
  intro ci h
  rcases (by simpa using h : ci = 4) with rfl
  · exact ⟨(RX4, TX4, 11), rfl, eb_inX4, by decide, by decide +kernel, "EvenBags$Moves", ew_533, Or.inl rfl⟩

theorem ef_RX9_252 : eb_fo RX9 252 [1] 1 true := by
  intro ci h
  rcases (by simpa using h : ci = 1) with rfl
  · exact ⟨(RX1, TX1, 5), rfl, eb_inX1, by decide, by decide +kernel, "EvenBags$Errand", ew_547, Or.inl rfl⟩

theorem ef_RX9_249 : eb_fo RX9 249 [1] 0 false := by
  intro ci h
  rcases (by simpa using h : ci = 1) with rfl
  · exact ⟨(RX1, TX1, 5), rfl, eb_inX1, by decide, by decide +kernel, "EvenBags$Errand", ew_548, Or.inl rfl⟩

theorem ef_RX9_268 : eb_fo RX9 268 [3] 18 true := by
  intro ci h
  rcases (by simpa using h : ci = 3) with rfl
  · exact ⟨(RX3, TX3, 20), rfl, eb_inX3, by decide, by decide +kernel, "EvenBags$Market", ew_564, Or.inl rfl⟩

theorem ef_RX9_274 : eb_fo RX9 274 [3] 19 true := by
  intro ci h
  rcases (by simpa using h : ci = 3) with rfl
  · exact ⟨(RX3, TX3, 20), rfl, eb_inX3, by decide, by decide +kernel, "EvenBags$Market", ew_569, Or.inl rfl⟩

theorem ef_RX9_337 : eb_fo RX9 337 [6] 0 false := by
  intro ci h
  rcases (by simpa using h : ci = 6) with rfl
  · exact ⟨(RX7, TX7, 3), rfl, eb_inX7, by decide, by decide +kernel, "EvenBags$Sheet", ew_581, Or.inl rfl⟩

theorem ef_RX9_287 : eb_fo RX9 287 [2] 0 false := by
  intro ci h
  rcases (by simpa using h : ci = 2) with rfl
  · exact ⟨(RX2, TX2, 4), rfl, eb_inX2, by decide, by decide +kernel, "EvenBags$Guests", ew_594, Or.inl rfl⟩

theorem ef_RX9_299 : eb_fo RX9 299 [6] 2 true := by
  intro ci h
  rcases (by simpa using h : ci = 6) with rfl
  · exact ⟨(RX7, TX7, 3), rfl, eb_inX7, by decide, by decide +kernel, "EvenBags$Sheet", ew_604, Or.inl rfl⟩

theorem ef_RX9_307 : eb_fo RX9 307 [5] 6 false := by
  intro ci h
  rcases (by simpa using h : ci = 5) with rfl
  · exact ⟨(RX5, TX5, 9), rfl, eb_inX5, by decide, by decide +kernel, "EvenBags$Pulls", ew_612, Or.inl rfl⟩

theorem ef_RX9_313 : eb_fo RX9 313 [5] 7 false := by
  intro ci h
  rcases (by simpa using h : ci = 5) with rfl
  · exact ⟨(RX5, TX5, 9), rfl, eb_inX5, by decide, by decide +kernel, "EvenBags$Pulls", ew_613, Or.inl rfl⟩

theorem ef_RX9_331 : eb_fo RX9 331 [6] 1 false := by
  intro ci h
  rcases (by simpa using h : ci = 6) with rfl
  · exact ⟨(RX7, TX7, 3), rfl, eb_inX7, by decide, by decide +kernel, "EvenBags$Sheet", ew_627, Or.inl rfl⟩

theorem ef_RX10_7 : eb_fo RX10 7 [9] 1 true := by
  intro ci h
  rcases (by simpa using h : ci = 9) with rfl
  · exact ⟨(RX10, TX10, 43), rfl, eb_inX10, by decide, by decide +kernel, "EvenBagsModel", ew_633, Or.inl rfl⟩

theorem ef_RX10_13 : eb_fo RX10 13 [9] 2 true := by
  intro ci h
  rcases (by simpa using h : ci = 9) with rfl
  · exact ⟨(RX10, TX10, 43), rfl, eb_inX10, by decide, by decide +kernel, "EvenBagsModel", ew_634, Or.inl rfl⟩

theorem ef_RX10_16 : eb_fo RX10 16 [9] 3 true := by
  intro ci h
  rcases (by simpa using h : ci = 9) with rfl
  · exact ⟨(RX10, TX10, 43), rfl, eb_inX10, by decide, by decide +kernel, "EvenBagsModel", ew_635, Or.inl rfl⟩

theorem ef_RX10_19 : eb_fo RX10 19 [9] 4 true := by
  intro ci h
  rcases (by simpa using h : ci = 9) with rfl
  · exact ⟨(RX10, TX10, 43), rfl, eb_inX10, by decide, by decide +kernel, "EvenBagsModel", ew_636, Or.inl rfl⟩

theorem ef_RX10_22 : eb_fo RX10 22 [9] 5 true := by
  intro ci h
  rcases (by simpa using h : ci = 9) with rfl
  · exact ⟨(RX10, TX10, 43), rfl, eb_inX10, by decide, by decide +kernel, "EvenBagsModel", ew_637, Or.inl rfl⟩

theorem ef_RX10_25 : eb_fo RX10 25 [9] 7 true := by
  intro ci h
  rcases (by simpa using h : ci = 9) with rfl
  · exact ⟨(RX10, TX10, 43), rfl, eb_inX10, by decide, by decide +kernel, "EvenBagsModel", ew_638, Or.inl rfl⟩

theorem ef_RX10_28 : eb_fo RX10 28 [9] 8 true := by
  intro ci h
  rcases (by simpa using h : ci = 9) with rfl
  · exact ⟨(RX10, TX10, 43), rfl, eb_inX10, by decide, by decide +kernel, "EvenBagsModel", ew_639, Or.inl rfl⟩

theorem ef_RX10_31 : eb_fo RX10 31 [9] 9 true := by
  intro ci h
  rcases (by simpa using h : ci = 9) with rfl
  · exact ⟨(RX10, TX10, 43), rfl, eb_inX10, by decide, by decide +kernel, "EvenBagsModel", ew_640, Or.inl rfl⟩

theorem ef_RX10_34 : eb_fo RX10 34 [9] 10 true := by
  intro ci h
  rcases (by simpa using h : ci = 9) with rfl
  · exact ⟨(RX10, TX10, 43), rfl, eb_inX10, by decide, by decide +kernel, "EvenBagsModel", ew_641, Or.inl rfl⟩

theorem ef_RX10_37 : eb_fo RX10 37 [9] 11 true := by
  intro ci h
  rcases (by simpa using h : ci = 9) with rfl
  · exact ⟨(RX10, TX10, 43), rfl, eb_inX10, by decide, by decide +kernel, "EvenBagsModel", ew_642, Or.inl rfl⟩

theorem ef_RX10_40 : eb_fo RX10 40 [9] 13 true := by
  intro ci h
  rcases (by simpa using h : ci = 9) with rfl
  · exact ⟨(RX10, TX10, 43), rfl, eb_inX10, by decide, by decide +kernel, "EvenBagsModel", ew_643, Or.inl rfl⟩

theorem ef_RX10_43 : eb_fo RX10 43 [9] 14 true := by
  intro ci h
  rcases (by simpa using h : ci = 9) with rfl
  · exact ⟨(RX10, TX10, 43), rfl, eb_inX10, by decide, by decide +kernel, "EvenBagsModel", ew_644, Or.inl rfl⟩

theorem ef_RX10_46 : eb_fo RX10 46 [9] 15 true := by
  intro ci h
  rcases (by simpa using h : ci = 9) with rfl
  · exact ⟨(RX10, TX10, 43), rfl, eb_inX10, by decide, by decide +kernel, "EvenBagsModel", ew_645, Or.inl rfl⟩

theorem ef_RX10_49 : eb_fo RX10 49 [9] 17 true := by
  intro ci h
  rcases (by simpa using h : ci = 9) with rfl
  · exact ⟨(RX10, TX10, 43), rfl, eb_inX10, by decide, by decide +kernel, "EvenBagsModel", ew_646, Or.inl rfl⟩

theorem ef_RX10_52 : eb_fo RX10 52 [9] 18 true := by
  intro ci h
  rcases (by simpa using h : ci = 9) with rfl
  · exact ⟨(RX10, TX10, 43), rfl, eb_inX10, by decide, by decide +kernel, "EvenBagsModel", ew_647, Or.inl rfl⟩

theorem ef_RX10_55 : eb_fo RX10 55 [9] 19 true := by
  intro ci h
  rcases (by simpa using h : ci = 9) with rfl
  · exact ⟨(RX10, TX10, 43), rfl, eb_inX10, by decide, by decide +kernel, "EvenBagsModel", ew_648, Or.inl rfl⟩

theorem ef_RX10_58 : eb_fo RX10 58 [9] 25 true := by
  intro ci h
  rcases (by simpa using h : ci = 9) with rfl
  · exact ⟨(RX10, TX10, 43), rfl, eb_inX10, by decide, by decide +kernel, "EvenBagsModel", ew_649, Or.inl rfl⟩

theorem ef_RX10_61 : eb_fo RX10 61 [9] 26 true := by
  intro ci h
  rcases (by simpa using h : ci = 9) with rfl
  · exact ⟨(RX10, TX10, 43), rfl, eb_inX10, by decide, by decide +kernel, "EvenBagsModel", ew_650, Or.inl rfl⟩

theorem ef_RX10_64 : eb_fo RX10 64 [9] 29 true := by
  intro ci h
  rcases (by simpa using h : ci = 9) with rfl
  · exact ⟨(RX10, TX10, 43), rfl, eb_inX10, by decide, by decide +kernel, "EvenBagsModel", ew_651, Or.inl rfl⟩

theorem ef_RX10_67 : eb_fo RX10 67 [9] 30 true := by
  intro ci h
  rcases (by simpa using h : ci = 9) with rfl
  · exact ⟨(RX10, TX10, 43), rfl, eb_inX10, by decide, by decide +kernel, "EvenBagsModel", ew_652, Or.inl rfl⟩

theorem ef_RX10_70 : eb_fo RX10 70 [9] 33 true := by
  intro ci h
  rcases (by simpa using h : ci = 9) with rfl
  · exact ⟨(RX10, TX10, 43), rfl, eb_inX10, by decide, by decide +kernel, "EvenBagsModel", ew_653, Or.inl rfl⟩

theorem ef_RX10_73 : eb_fo RX10 73 [9] 34 true := by
  intro ci h
  rcases (by simpa using h : ci = 9) with rfl
  · exact ⟨(RX10, TX10, 43), rfl, eb_inX10, by decide, by decide +kernel, "EvenBagsModel", ew_654, Or.inl rfl⟩

theorem ef_RX10_76 : eb_fo RX10 76 [9] 35 true := by
  intro ci h
  rcases (by simpa using h : ci = 9) with rfl
  · exact ⟨(RX10, TX10, 43), rfl, eb_inX10, by decide, by decide +kernel, "EvenBagsModel", ew_655, Or.inl rfl⟩

theorem ef_RX10_79 : eb_fo RX10 79 [9] 37 true := by
  intro ci h
  rcases (by simpa using h : ci = 9) with rfl
  · exact ⟨(RX10, TX10, 43), rfl, eb_inX10, by decide, by decide +kernel, "EvenBagsModel", ew_656, Or.inl rfl⟩

theorem ef_RX10_82 : eb_fo RX10 82 [9] 38 true := by
  intro ci h
  rcases (by simpa using h : ci = 9) with rfl
  · exact ⟨(RX10, TX10, 43), rfl, eb_inX10, by decide, by decide +kernel, "EvenBagsModel", ew_657, Or.inl rfl⟩

theorem ef_RX10_85 : eb_fo RX10 85 [9] 39 true := by
  intro ci h
  rcases (by simpa using h : ci = 9) with rfl
  · exact ⟨(RX10, TX10, 43), rfl, eb_inX10, by decide, by decide +kernel, "EvenBagsModel", ew_658, Or.inl rfl⟩

theorem ef_RX10_89 : eb_fo RX10 89 [9] 40 true := by
  intro ci h
  rcases (by simpa using h : ci = 9) with rfl
  · exact ⟨(RX10, TX10, 43), rfl, eb_inX10, by decide, by decide +kernel, "EvenBagsModel", ew_659, Or.inl rfl⟩

theorem ef_RX10_92 : eb_fo RX10 92 [9] 41 true := by
  intro ci h
  rcases (by simpa using h : ci = 9) with rfl
  · exact ⟨(RX10, TX10, 43), rfl, eb_inX10, by decide, by decide +kernel, "EvenBagsModel", ew_660, Or.inl rfl⟩

theorem ef_RX10_95 : eb_fo RX10 95 [9] 42 true := by
  intro ci h
  rcases (by simpa using h : ci = 9) with rfl
  · exact ⟨(RX10, TX10, 43), rfl, eb_inX10, by decide, by decide +kernel, "EvenBagsModel", ew_661, Or.inl rfl⟩

theorem ef_RX10_98 : eb_fo RX10 98 [9] 0 false := by
  intro ci h
  rcases (by simpa using h : ci = 9) with rfl
  · exact ⟨(RX10, TX10, 43), rfl, eb_inX10, by decide, by decide +kernel, "EvenBagsModel", ew_663, Or.inl rfl⟩

theorem ef_RX10_106 : eb_fo RX10 106 [9] 6 false := by
  intro ci h
  rcases (by simpa using h : ci = 9) with rfl
  · exact ⟨(RX10, TX10, 43), rfl, eb_inX10, by decide, by decide +kernel, "EvenBagsModel", ew_668, Or.inl rfl⟩

theorem ef_RX10_119 : eb_fo RX10 119 [9] 16 false := by
  intro ci h
  rcases (by simpa using h : ci = 9) with rfl
  · exact ⟨(RX10, TX10, 43), rfl, eb_inX10, by decide, by decide +kernel, "EvenBagsModel", ew_676, Or.inl rfl⟩

theorem ef_RX10_152 : eb_fo RX10 152 [9] 12 false := by
  intro ci h
  rcases (by simpa using h : ci = 9) with rfl
  · exact ⟨(RX10, TX10, 43), rfl, eb_inX10, by decide, by decide +kernel, "EvenBagsModel", ew_702, Or.inl rfl⟩

theorem ef_RX10_163 : eb_fo RX10 163 [9] 20 false := by
  intro ci h
  rcases (by simpa using h : ci = 9) with rfl
  · exact ⟨(RX10, TX10, 43), rfl, eb_inX10, by decide, by decide +kernel, "EvenBagsModel", ew_707, Or.inl rfl⟩

theorem ef_RX10_166 : eb_fo RX10 166 [9] 21 false := by
  intro ci h
  rcases (by simpa using h : ci = 9) with rfl
  · exact ⟨(RX10, TX10, 43), rfl, eb_inX10, by decide, by decide +kernel, "EvenBagsModel", ew_710, Or.inl rfl⟩

theorem ef_RX10_169 : eb_fo RX10 169 [9] 22 false := by
  intro ci h
  rcases (by simpa using h : ci = 9) with rfl
  · exact ⟨(RX10, TX10, 43), rfl, eb_inX10, by decide, by decide +kernel, "EvenBagsModel", ew_711, Or.inl rfl⟩

theorem ef_RX10_181 : eb_fo RX10 181 [9] 23 false := by
  intro ci h
  rcases (by simpa using h : ci = 9) with rfl
  · exact ⟨(RX10, TX10, 43), rfl, eb_inX10, by decide, by decide +kernel, "EvenBagsModel", ew_718, Or.inl rfl⟩

theorem ef_RX10_192 : eb_fo RX10 192 [9] 24 false := by
  intro ci h
  rcases (by simpa using h : ci = 9) with rfl
  · exact ⟨(RX10, TX10, 43), rfl, eb_inX10, by decide, by decide +kernel, "EvenBagsModel", ew_728, Or.inl rfl⟩

theorem ef_RX10_224 : eb_fo RX10 224 [9] 27 false := by
  intro ci h
  rcases (by simpa using h : ci = 9) with rfl
  · exact ⟨(RX10, TX10, 43), rfl, eb_inX10, by decide, by decide +kernel, "EvenBagsModel", ew_762, Or.inl rfl⟩

theorem ef_RX10_227 : eb_fo RX10 227 [9] 28 false := by
  intro ci h
  rcases (by simpa using h : ci = 9) with rfl
  · exact ⟨(RX10, TX10, 43), rfl, eb_inX10, by decide, by decide +kernel, "EvenBagsModel", ew_763, Or.inl rfl⟩

theorem ef_RX10_243 : eb_fo RX10 243 [9] 31 false := by
  intro ci h
  rcases (by simpa using h : ci = 9) with rfl
  · exact ⟨(RX10, TX10, 43), rfl, eb_inX10, by decide, by decide +kernel, "EvenBagsModel", ew_784, Or.inl rfl⟩

theorem ef_RX10_246 : eb_fo RX10 246 [9] 32 false := by
  intro ci h
  rcases (by simpa using h : ci = 9) with rfl
  · exact ⟨(RX10, TX10, 43), rfl, eb_inX10, by decide, by decide +kernel, "EvenBagsModel", ew_785, Or.inl rfl⟩

theorem ef_RX10_289 : eb_fo RX10 289 [9] 36 false := by
  intro ci h
  rcases (by simpa using h : ci = 9) with rfl
  · exact ⟨(RX10, TX10, 43), rfl, eb_inX10, by decide, by decide +kernel, "EvenBagsModel", ew_829, Or.inl rfl⟩

theorem ef_RX8_41 : eb_fo RX8 41 [3] 1 false := by
  intro ci h
  rcases (by simpa using h : ci = 3) with rfl
  · exact ⟨(RX3, TX3, 20), rfl, eb_inX3, by decide, by decide +kernel, "EvenBags$Market", ew_893, Or.inl rfl⟩
theorem eg_RX3_9 {nm : String} : eb_fw RX3 nm [3] 0 .int := by
  intro ci h q hq
  rcases (by simpa using h : ci = 3) with rfl <;> cases hq <;> exact ⟨by decide +kernel, Or.inl rfl⟩

theorem eg_RX3_15 {nm : String} : eb_fw RX3 nm [3] 1 .int := by
  intro ci h q hq
  rcases (by simpa using h : ci = 3) with rfl <;> cases hq <;> exact ⟨by decide +kernel, Or.inl rfl⟩

theorem eg_RX3_18 : eb_fw RX3 "<init>" [3] 2 (.array .int) := by
  intro ci h q hq
  rcases (by simpa using h : ci = 3) with rfl <;> cases hq <;> exact ⟨by decide +kernel, Or.inr ⟨rfl, rfl, rfl⟩⟩

theorem eg_RX3_22 : eb_fw RX3 "<init>" [3] 3 (.array .int) := by
  intro ci h q hq
  rcases (by simpa using h : ci = 3) with rfl <;> cases hq <;> exact ⟨by decide +kernel, Or.inr ⟨rfl, rfl, rfl⟩⟩

theorem eg_RX3_25 : eb_fw RX3 "<init>" [3] 4 (.array .int) := by
  intro ci h q hq
  rcases (by simpa using h : ci = 3) with rfl <;> cases hq <;> exact ⟨by decide +kernel, Or.inr ⟨rfl, rfl, rfl⟩⟩

theorem eg_RX3_28 : eb_fw RX3 "<init>" [3] 5 (.array .int) := by
  intro ci h q hq
  rcases (by simpa using h : ci = 3) with rfl <;> cases hq <;> exact ⟨by decide +kernel, Or.inr ⟨rfl, rfl, rfl⟩⟩

theorem eg_RX3_31 : eb_fw RX3 "<init>" [3] 6 (.array .int) := by
  intro ci h q hq
  rcases (by simpa using h : ci = 3) with rfl <;> cases hq <;> exact ⟨by decide +kernel, Or.inr ⟨rfl, rfl, rfl⟩⟩

theorem eg_RX3_34 {nm : String} : eb_fw RX3 nm [3] 7 .int := by
  intro ci h q hq
  rcases (by simpa using h : ci = 3) with rfl <;> cases hq <;> exact ⟨by decide +kernel, Or.inl rfl⟩

theorem eg_RX3_37 : eb_fw RX3 "<init>" [3] 8 (.array .int) := by
  intro ci h q hq
  rcases (by simpa using h : ci = 3) with rfl <;> cases hq <;> exact ⟨by decide +kernel, Or.inr ⟨rfl, rfl, rfl⟩⟩

theorem eg_RX3_40 : eb_fw RX3 "<init>" [3] 9 (.array .int) := by
  intro ci h q hq
  rcases (by simpa using h : ci = 3) with rfl <;> cases hq <;> exact ⟨by decide +kernel, Or.inr ⟨rfl, rfl, rfl⟩⟩

theorem eg_RX3_43 : eb_fw RX3 "<init>" [3] 10 (.array .int) := by
  intro ci h q hq
  rcases (by simpa using h : ci = 3) with rfl <;> cases hq <;> exact ⟨by decide +kernel, Or.inr ⟨rfl, rfl, rfl⟩⟩

theorem eg_RX3_46 : eb_fw RX3 "<init>" [3] 11 (.array .int) := by
  intro ci h q hq
  rcases (by simpa using h : ci = 3) with rfl <;> cases hq <;> exact ⟨by decide +kernel, Or.inr ⟨rfl, rfl, rfl⟩⟩

theorem eg_RX3_49 : eb_fw RX3 "<init>" [3] 12 (.array .int) := by
  intro ci h q hq
  rcases (by simpa using h : ci = 3) with rfl <;> cases hq <;> exact ⟨by decide +kernel, Or.inr ⟨rfl, rfl, rfl⟩⟩

theorem eg_RX3_52 {nm : String} : eb_fw RX3 nm [3] 13 .int := by
  intro ci h q hq
  rcases (by simpa using h : ci = 3) with rfl <;> cases hq <;> exact ⟨by decide +kernel, Or.inl rfl⟩

theorem eg_RX3_55 : eb_fw RX3 "<init>" [3] 14 (.array .int) := by
  intro ci h q hq
  rcases (by simpa using h : ci = 3) with rfl <;> cases hq <;> exact ⟨by decide +kernel, Or.inr ⟨rfl, rfl, rfl⟩⟩

theorem eg_RX3_58 : eb_fw RX3 "<init>" [3] 15 (.array .int) := by
  intro ci h q hq
  rcases (by simpa using h : ci = 3) with rfl <;> cases hq <;> exact ⟨by decide +kernel, Or.inr ⟨rfl, rfl, rfl⟩⟩

theorem eg_RX3_61 : eb_fw RX3 "<init>" [3] 16 (.array .int) := by
  intro ci h q hq
  rcases (by simpa using h : ci = 3) with rfl <;> cases hq <;> exact ⟨by decide +kernel, Or.inr ⟨rfl, rfl, rfl⟩⟩

theorem eg_RX3_64 {nm : String} : eb_fw RX3 nm [3] 17 .int := by
  intro ci h q hq
  rcases (by simpa using h : ci = 3) with rfl <;> cases hq <;> exact ⟨by decide +kernel, Or.inl rfl⟩

theorem eg_RX3_67 : eb_fw RX3 "<init>" [3] 18 (.array .int) := by
  intro ci h q hq
  rcases (by simpa using h : ci = 3) with rfl <;> cases hq <;> exact ⟨by decide +kernel, Or.inr ⟨rfl, rfl, rfl⟩⟩

theorem eg_RX3_70 : eb_fw RX3 "<init>" [3] 19 (.array .int) := by
  intro ci h q hq
  rcases (by simpa using h : ci = 3) with rfl <;> cases hq <;> exact ⟨by decide +kernel, Or.inr ⟨rfl, rfl, rfl⟩⟩

theorem eg_RX6_9 : eb_fw RX6 "<init>" [0, 4, 5] 1 (.array .int) := by
  intro ci h q hq
  rcases (by simpa using h : ci = 0 ∨ ci = 4 ∨ ci = 5) with rfl | rfl | rfl <;> cases hq <;> exact ⟨by decide +kernel, Or.inr ⟨rfl, rfl, rfl⟩⟩

theorem eg_RX6_15 : eb_fw RX6 "<init>" [0, 4, 5] 2 (.array .int) := by
  intro ci h q hq
  rcases (by simpa using h : ci = 0 ∨ ci = 4 ∨ ci = 5) with rfl | rfl | rfl <;> cases hq <;> exact ⟨by decide +kernel, Or.inr ⟨rfl, rfl, rfl⟩⟩

theorem eg_RX6_18 : eb_fw RX6 "<init>" [0, 4, 5] 3 (.array .int) := by
  intro ci h q hq
  rcases (by simpa using h : ci = 0 ∨ ci = 4 ∨ ci = 5) with rfl | rfl | rfl <;> cases hq <;> exact ⟨by decide +kernel, Or.inr ⟨rfl, rfl, rfl⟩⟩

theorem eg_RX6_21 : eb_fw RX6 "<init>" [0, 4, 5] 4 (.array .int) := by
  intro ci h q hq
  rcases (by simpa using h : ci = 0 ∨ ci = 4 ∨ ci = 5) with rfl | rfl | rfl <;> cases hq <;> exact ⟨by decide +kernel, Or.inr ⟨rfl, rfl, rfl⟩⟩

theorem eg_RX6_24 {nm : String} : eb_fw RX6 nm [0, 4, 5] 5 .int := by
  intro ci h q hq
  rcases (by simpa using h : ci = 0 ∨ ci = 4 ∨ ci = 5) with rfl | rfl | rfl <;> cases hq <;> exact ⟨by decide +kernel, Or.inl rfl⟩

theorem eg_RX6_28 : eb_fw RX6 "<init>" [0, 4, 5] 0 (.object "EvenBags$Market") := by
  intro ci h q hq
  rcases (by simpa using h : ci = 0 ∨ ci = 4 ∨ ci = 5) with rfl | rfl | rfl <;> cases hq <;> exact ⟨by decide +kernel, Or.inr ⟨rfl, rfl, rfl⟩⟩

theorem eg_RX0_7 {nm : String} : eb_fw RX0 nm [0] 6 .boolean := by
  intro ci h q hq
  rcases (by simpa using h : ci = 0) with rfl <;> cases hq <;> exact ⟨by decide +kernel, Or.inl rfl⟩

theorem eg_RX4_7 {nm : String} : eb_fw RX4 nm [4] 6 .boolean := by
  intro ci h q hq
  rcases (by simpa using h : ci = 4) with rfl <;> cases hq <;> exact ⟨by decide +kernel, Or.inl rfl⟩

theorem eg_RX5_9 {nm : String} : eb_fw RX5 nm [5] 6 .int := by
  intro ci h q hq
  rcases (by simpa using h : ci = 5) with rfl <;> cases hq <;> exact ⟨by decide +kernel, Or.inl rfl⟩

theorem eg_RX5_15 {nm : String} : eb_fw RX5 nm [5] 7 .int := by
  intro ci h q hq
  rcases (by simpa using h : ci = 5) with rfl <;> cases hq <;> exact ⟨by decide +kernel, Or.inl rfl⟩

theorem eg_RX0_20 {nm : String} : eb_fw RX0 nm [0] 9 .int := by
  intro ci h q hq
  rcases (by simpa using h : ci = 0) with rfl <;> cases hq <;> exact ⟨by decide +kernel, Or.inl rfl⟩

theorem eg_RX0_23 {nm : String} : eb_fw RX0 nm [0] 10 .int := by
  intro ci h q hq
  rcases (by simpa using h : ci = 0) with rfl <;> cases hq <;> exact ⟨by decide +kernel, Or.inl rfl⟩

theorem eg_RX4_23 {nm : String} : eb_fw RX4 nm [4] 10 .int := by
  intro ci h q hq
  rcases (by simpa using h : ci = 4) with rfl <;> cases hq <;> exact ⟨by decide +kernel, Or.inl rfl⟩

theorem eg_RX0_13 {nm : String} : eb_fw RX0 nm [0] 7 .int := by
  intro ci h q hq
  rcases (by simpa using h : ci = 0) with rfl <;> cases hq <;> exact ⟨by decide +kernel, Or.inl rfl⟩

theorem eg_RX0_17 {nm : String} : eb_fw RX0 nm [0] 8 .int := by
  intro ci h q hq
  rcases (by simpa using h : ci = 0) with rfl <;> cases hq <;> exact ⟨by decide +kernel, Or.inl rfl⟩

theorem eg_RX4_13 {nm : String} : eb_fw RX4 nm [4] 7 .int := by
  intro ci h q hq
  rcases (by simpa using h : ci = 4) with rfl <;> cases hq <;> exact ⟨by decide +kernel, Or.inl rfl⟩

theorem eg_RX4_17 {nm : String} : eb_fw RX4 nm [4] 8 .int := by
  intro ci h q hq
  rcases (by simpa using h : ci = 4) with rfl <;> cases hq <;> exact ⟨by decide +kernel, Or.inl rfl⟩

theorem eg_RX4_20 {nm : String} : eb_fw RX4 nm [4] 9 .int := by
  intro ci h q hq
  rcases (by simpa using h : ci = 4) with rfl <;> cases hq <;> exact ⟨by decide +kernel, Or.inl rfl⟩

theorem eg_RX5_18 : eb_fw RX5 "<init>" [5] 8 (.array .long) := by
  intro ci h q hq
  rcases (by simpa using h : ci = 5) with rfl <;> cases hq <;> exact ⟨by decide +kernel, Or.inr ⟨rfl, rfl, rfl⟩⟩

theorem eg_RX1_9 {nm : String} : eb_fw RX1 nm [1] 0 .int := by
  intro ci h q hq
  rcases (by simpa using h : ci = 1) with rfl <;> cases hq <;> exact ⟨by decide +kernel, Or.inl rfl⟩

theorem eg_RX1_15 : eb_fw RX1 "<init>" [1] 1 (.array .int) := by
  intro ci h q hq
  rcases (by simpa using h : ci = 1) with rfl <;> cases hq <;> exact ⟨by decide +kernel, Or.inr ⟨rfl, rfl, rfl⟩⟩

theorem eg_RX1_19 {nm : String} : eb_fw RX1 nm [1] 3 (.array .int) := by
  intro ci h q hq
  rcases (by simpa using h : ci = 1) with rfl <;> cases hq <;> exact ⟨by decide +kernel, Or.inl rfl⟩

theorem eg_RX1_22 {nm : String} : eb_fw RX1 nm [1] 4 .int := by
  intro ci h q hq
  rcases (by simpa using h : ci = 1) with rfl <;> cases hq <;> exact ⟨by decide +kernel, Or.inl rfl⟩

theorem eg_RX1_25 : eb_fw RX1 "<init>" [1] 2 (.object "EvenBags$Market") := by
  intro ci h q hq
  rcases (by simpa using h : ci = 1) with rfl <;> cases hq <;> exact ⟨by decide +kernel, Or.inr ⟨rfl, rfl, rfl⟩⟩

theorem eg_RX2_9 {nm : String} : eb_fw RX2 nm [2] 0 .int := by
  intro ci h q hq
  rcases (by simpa using h : ci = 2) with rfl <;> cases hq <;> exact ⟨by decide +kernel, Or.inl rfl⟩

theorem eg_RX2_15 : eb_fw RX2 "<init>" [2] 2 (.array .int) := by
  intro ci h q hq
  rcases (by simpa using h : ci = 2) with rfl <;> cases hq <;> exact ⟨by decide +kernel, Or.inr ⟨rfl, rfl, rfl⟩⟩

theorem eg_RX2_19 : eb_fw RX2 "<init>" [2] 3 (.array .int) := by
  intro ci h q hq
  rcases (by simpa using h : ci = 2) with rfl <;> cases hq <;> exact ⟨by decide +kernel, Or.inr ⟨rfl, rfl, rfl⟩⟩

theorem eg_RX2_22 : eb_fw RX2 "<init>" [2] 1 (.object "EvenBags$Market") := by
  intro ci h q hq
  rcases (by simpa using h : ci = 2) with rfl <;> cases hq <;> exact ⟨by decide +kernel, Or.inr ⟨rfl, rfl, rfl⟩⟩

theorem eg_RX7_11 {nm : String} : eb_fw RX7 nm [6] 0 .int := by
  intro ci h q hq
  rcases (by simpa using h : ci = 6) with rfl <;> cases hq <;> exact ⟨by decide +kernel, Or.inl rfl⟩

theorem eg_RX7_15 {nm : String} : eb_fw RX7 nm [6] 1 .int := by
  intro ci h q hq
  rcases (by simpa using h : ci = 6) with rfl <;> cases hq <;> exact ⟨by decide +kernel, Or.inl rfl⟩

theorem eg_RX7_18 : eb_fw RX7 "<init>" [6] 2 (.array .long) := by
  intro ci h q hq
  rcases (by simpa using h : ci = 6) with rfl <;> cases hq <;> exact ⟨by decide +kernel, Or.inr ⟨rfl, rfl, rfl⟩⟩

theorem eg_RX8_9 {nm : String} : eb_fw RX8 nm [7] 0 .int := by
  intro ci h q hq
  rcases (by simpa using h : ci = 7) with rfl <;> cases hq <;> exact ⟨by decide +kernel, Or.inl rfl⟩

theorem eg_RX8_15 : eb_fw RX8 "<init>" [7] 1 (.array .char) := by
  intro ci h q hq
  rcases (by simpa using h : ci = 7) with rfl <;> cases hq <;> exact ⟨by decide +kernel, Or.inr ⟨rfl, rfl, rfl⟩⟩

theorem eg_RX8_19 {nm : String} : eb_fw RX8 nm [7] 2 .int := by
  intro ci h q hq
  rcases (by simpa using h : ci = 7) with rfl <;> cases hq <;> exact ⟨by decide +kernel, Or.inl rfl⟩

theorem eg_RX9_10 : eb_fw RX9 "<init>" [8] 0 (.object "EvenBags$Market") := by
  intro ci h q hq
  rcases (by simpa using h : ci = 8) with rfl <;> cases hq <;> exact ⟨by decide +kernel, Or.inr ⟨rfl, rfl, rfl⟩⟩

theorem eg_RX9_16 : eb_fw RX9 "<init>" [8] 1 (.object "EvenBags$Market") := by
  intro ci h q hq
  rcases (by simpa using h : ci = 8) with rfl <;> cases hq <;> exact ⟨by decide +kernel, Or.inr ⟨rfl, rfl, rfl⟩⟩

theorem eg_RX9_19 : eb_fw RX9 "<init>" [8] 2 (.object "EvenBags$Market") := by
  intro ci h q hq
  rcases (by simpa using h : ci = 8) with rfl <;> cases hq <;> exact ⟨by decide +kernel, Or.inr ⟨rfl, rfl, rfl⟩⟩

theorem eg_RX9_25 : eb_fw RX9 "<init>" [8] 3 (.object "EvenBags$Tape") := by
  intro ci h q hq
  rcases (by simpa using h : ci = 8) with rfl <;> cases hq <;> exact ⟨by decide +kernel, Or.inr ⟨rfl, rfl, rfl⟩⟩

theorem eg_RX9_34 : eb_fw RX9 "<init>" [8] 4 (.object "EvenBags$Best") := by
  intro ci h q hq
  rcases (by simpa using h : ci = 8) with rfl <;> cases hq <;> exact ⟨by decide +kernel, Or.inr ⟨rfl, rfl, rfl⟩⟩

theorem eg_RX9_41 : eb_fw RX9 "<init>" [8] 5 (.object "EvenBags$Moves") := by
  intro ci h q hq
  rcases (by simpa using h : ci = 8) with rfl <;> cases hq <;> exact ⟨by decide +kernel, Or.inr ⟨rfl, rfl, rfl⟩⟩

theorem eg_RX9_48 : eb_fw RX9 "<init>" [8] 6 (.object "EvenBags$Pulls") := by
  intro ci h q hq
  rcases (by simpa using h : ci = 8) with rfl <;> cases hq <;> exact ⟨by decide +kernel, Or.inr ⟨rfl, rfl, rfl⟩⟩

theorem eg_RX9_55 : eb_fw RX9 "<init>" [8] 7 (.object "EvenBags$Errand") := by
  intro ci h q hq
  rcases (by simpa using h : ci = 8) with rfl <;> cases hq <;> exact ⟨by decide +kernel, Or.inr ⟨rfl, rfl, rfl⟩⟩

theorem eg_RX9_62 : eb_fw RX9 "<init>" [8] 8 (.object "EvenBags$Guests") := by
  intro ci h q hq
  rcases (by simpa using h : ci = 8) with rfl <;> cases hq <;> exact ⟨by decide +kernel, Or.inr ⟨rfl, rfl, rfl⟩⟩

theorem eg_RX9_69 : eb_fw RX9 "<init>" [8] 9 (.array (.object "EvenBags$Sheet")) := by
  intro ci h q hq
  rcases (by simpa using h : ci = 8) with rfl <;> cases hq <;> exact ⟨by decide +kernel, Or.inr ⟨rfl, rfl, rfl⟩⟩

theorem eg_RX9_73 : eb_fw RX9 "<init>" [8] 10 (.array .int) := by
  intro ci h q hq
  rcases (by simpa using h : ci = 8) with rfl <;> cases hq <;> exact ⟨by decide +kernel, Or.inr ⟨rfl, rfl, rfl⟩⟩

theorem eg_RX9_77 {nm : String} : eb_fw RX9 nm [8] 11 .boolean := by
  intro ci h q hq
  rcases (by simpa using h : ci = 8) with rfl <;> cases hq <;> exact ⟨by decide +kernel, Or.inl rfl⟩

theorem eg_RX10_7 : eb_fw RX10 "<init>" [9] 1 (.array .int) := by
  intro ci h q hq
  rcases (by simpa using h : ci = 9) with rfl <;> cases hq <;> exact ⟨by decide +kernel, Or.inr ⟨rfl, rfl, rfl⟩⟩

theorem eg_RX10_13 : eb_fw RX10 "<init>" [9] 2 (.array .int) := by
  intro ci h q hq
  rcases (by simpa using h : ci = 9) with rfl <;> cases hq <;> exact ⟨by decide +kernel, Or.inr ⟨rfl, rfl, rfl⟩⟩

theorem eg_RX10_16 : eb_fw RX10 "<init>" [9] 3 (.array .int) := by
  intro ci h q hq
  rcases (by simpa using h : ci = 9) with rfl <;> cases hq <;> exact ⟨by decide +kernel, Or.inr ⟨rfl, rfl, rfl⟩⟩

theorem eg_RX10_19 : eb_fw RX10 "<init>" [9] 4 (.array .int) := by
  intro ci h q hq
  rcases (by simpa using h : ci = 9) with rfl <;> cases hq <;> exact ⟨by decide +kernel, Or.inr ⟨rfl, rfl, rfl⟩⟩

theorem eg_RX10_22 : eb_fw RX10 "<init>" [9] 5 (.array .int) := by
  intro ci h q hq
  rcases (by simpa using h : ci = 9) with rfl <;> cases hq <;> exact ⟨by decide +kernel, Or.inr ⟨rfl, rfl, rfl⟩⟩

theorem eg_RX10_25 : eb_fw RX10 "<init>" [9] 7 (.array .int) := by
  intro ci h q hq
  rcases (by simpa using h : ci = 9) with rfl <;> cases hq <;> exact ⟨by decide +kernel, Or.inr ⟨rfl, rfl, rfl⟩⟩

theorem eg_RX10_28 : eb_fw RX10 "<init>" [9] 8 (.array .int) := by
  intro ci h q hq
  rcases (by simpa using h : ci = 9) with rfl <;> cases hq <;> exact ⟨by decide +kernel, Or.inr ⟨rfl, rfl, rfl⟩⟩

theorem eg_RX10_31 : eb_fw RX10 "<init>" [9] 9 (.array .int) := by
  intro ci h q hq
  rcases (by simpa using h : ci = 9) with rfl <;> cases hq <;> exact ⟨by decide +kernel, Or.inr ⟨rfl, rfl, rfl⟩⟩

theorem eg_RX10_34 : eb_fw RX10 "<init>" [9] 10 (.array .int) := by
  intro ci h q hq
  rcases (by simpa using h : ci = 9) with rfl <;> cases hq <;> exact ⟨by decide +kernel, Or.inr ⟨rfl, rfl, rfl⟩⟩

theorem eg_RX10_37 : eb_fw RX10 "<init>" [9] 11 (.array .int) := by
  intro ci h q hq
  rcases (by simpa using h : ci = 9) with rfl <;> cases hq <;> exact ⟨by decide +kernel, Or.inr ⟨rfl, rfl, rfl⟩⟩

theorem eg_RX10_40 : eb_fw RX10 "<init>" [9] 13 (.array .int) := by
  intro ci h q hq
  rcases (by simpa using h : ci = 9) with rfl <;> cases hq <;> exact ⟨by decide +kernel, Or.inr ⟨rfl, rfl, rfl⟩⟩

theorem eg_RX10_43 : eb_fw RX10 "<init>" [9] 14 (.array .int) := by
  intro ci h q hq
  rcases (by simpa using h : ci = 9) with rfl <;> cases hq <;> exact ⟨by decide +kernel, Or.inr ⟨rfl, rfl, rfl⟩⟩

theorem eg_RX10_46 : eb_fw RX10 "<init>" [9] 15 (.array .int) := by
  intro ci h q hq
  rcases (by simpa using h : ci = 9) with rfl <;> cases hq <;> exact ⟨by decide +kernel, Or.inr ⟨rfl, rfl, rfl⟩⟩

theorem eg_RX10_49 : eb_fw RX10 "<init>" [9] 17 (.array .int) := by
  intro ci h q hq
  rcases (by simpa using h : ci = 9) with rfl <;> cases hq <;> exact ⟨by decide +kernel, Or.inr ⟨rfl, rfl, rfl⟩⟩

theorem eg_RX10_52 : eb_fw RX10 "<init>" [9] 18 (.array .int) := by
  intro ci h q hq
  rcases (by simpa using h : ci = 9) with rfl <;> cases hq <;> exact ⟨by decide +kernel, Or.inr ⟨rfl, rfl, rfl⟩⟩

theorem eg_RX10_55 : eb_fw RX10 "<init>" [9] 19 (.array .int) := by
  intro ci h q hq
  rcases (by simpa using h : ci = 9) with rfl <;> cases hq <;> exact ⟨by decide +kernel, Or.inr ⟨rfl, rfl, rfl⟩⟩

theorem eg_RX10_58 : eb_fw RX10 "<init>" [9] 25 (.array .int) := by
  intro ci h q hq
  rcases (by simpa using h : ci = 9) with rfl <;> cases hq <;> exact ⟨by decide +kernel, Or.inr ⟨rfl, rfl, rfl⟩⟩

theorem eg_RX10_61 : eb_fw RX10 "<init>" [9] 26 (.array .int) := by
  intro ci h q hq
  rcases (by simpa using h : ci = 9) with rfl <;> cases hq <;> exact ⟨by decide +kernel, Or.inr ⟨rfl, rfl, rfl⟩⟩

theorem eg_RX10_64 : eb_fw RX10 "<init>" [9] 29 (.array .int) := by
  intro ci h q hq
  rcases (by simpa using h : ci = 9) with rfl <;> cases hq <;> exact ⟨by decide +kernel, Or.inr ⟨rfl, rfl, rfl⟩⟩

theorem eg_RX10_67 : eb_fw RX10 "<init>" [9] 30 (.array .int) := by
  intro ci h q hq
  rcases (by simpa using h : ci = 9) with rfl <;> cases hq <;> exact ⟨by decide +kernel, Or.inr ⟨rfl, rfl, rfl⟩⟩

theorem eg_RX10_70 : eb_fw RX10 "<init>" [9] 33 (.array .int) := by
  intro ci h q hq
  rcases (by simpa using h : ci = 9) with rfl <;> cases hq <;> exact ⟨by decide +kernel, Or.inr ⟨rfl, rfl, rfl⟩⟩

theorem eg_RX10_73 : eb_fw RX10 "<init>" [9] 34 (.array .int) := by
  intro ci h q hq
  rcases (by simpa using h : ci = 9) with rfl <;> cases hq <;> exact ⟨by decide +kernel, Or.inr ⟨rfl, rfl, rfl⟩⟩

theorem eg_RX10_76 : eb_fw RX10 "<init>" [9] 35 (.array .int) := by
  intro ci h q hq
  rcases (by simpa using h : ci = 9) with rfl <;> cases hq <;> exact ⟨by decide +kernel, Or.inr ⟨rfl, rfl, rfl⟩⟩

theorem eg_RX10_79 : eb_fw RX10 "<init>" [9] 37 (.array .int) := by
  intro ci h q hq
  rcases (by simpa using h : ci = 9) with rfl <;> cases hq <;> exact ⟨by decide +kernel, Or.inr ⟨rfl, rfl, rfl⟩⟩

theorem eg_RX10_82 : eb_fw RX10 "<init>" [9] 38 (.array .int) := by
  intro ci h q hq
  rcases (by simpa using h : ci = 9) with rfl <;> cases hq <;> exact ⟨by decide +kernel, Or.inr ⟨rfl, rfl, rfl⟩⟩

theorem eg_RX10_85 : eb_fw RX10 "<init>" [9] 39 (.array .long) := by
  intro ci h q hq
  rcases (by simpa using h : ci = 9) with rfl <;> cases hq <;> exact ⟨by decide +kernel, Or.inr ⟨rfl, rfl, rfl⟩⟩

theorem eg_RX10_89 : eb_fw RX10 "<init>" [9] 40 (.array .long) := by
  intro ci h q hq
  rcases (by simpa using h : ci = 9) with rfl <;> cases hq <;> exact ⟨by decide +kernel, Or.inr ⟨rfl, rfl, rfl⟩⟩

theorem eg_RX10_92 : eb_fw RX10 "<init>" [9] 41 (.array .int) := by
  intro ci h q hq
  rcases (by simpa using h : ci = 9) with rfl <;> cases hq <;> exact ⟨by decide +kernel, Or.inr ⟨rfl, rfl, rfl⟩⟩

theorem eg_RX10_95 : eb_fw RX10 "<init>" [9] 42 (.array .int) := by
  intro ci h q hq
  rcases (by simpa using h : ci = 9) with rfl <;> cases hq <;> exact ⟨by decide +kernel, Or.inr ⟨rfl, rfl, rfl⟩⟩

theorem eg_RX10_98 {nm : String} : eb_fw RX10 nm [9] 0 .int := by
  intro ci h q hq
  rcases (by simpa using h : ci = 9) with rfl <;> cases hq <;> exact ⟨by decide +kernel, Or.inl rfl⟩

theorem eg_RX10_106 {nm : String} : eb_fw RX10 nm [9] 6 .int := by
  intro ci h q hq
  rcases (by simpa using h : ci = 9) with rfl <;> cases hq <;> exact ⟨by decide +kernel, Or.inl rfl⟩

theorem eg_RX10_152 {nm : String} : eb_fw RX10 nm [9] 12 .int := by
  intro ci h q hq
  rcases (by simpa using h : ci = 9) with rfl <;> cases hq <;> exact ⟨by decide +kernel, Or.inl rfl⟩

theorem eg_RX10_163 {nm : String} : eb_fw RX10 nm [9] 20 .int := by
  intro ci h q hq
  rcases (by simpa using h : ci = 9) with rfl <;> cases hq <;> exact ⟨by decide +kernel, Or.inl rfl⟩

theorem eg_RX10_166 {nm : String} : eb_fw RX10 nm [9] 21 .int := by
  intro ci h q hq
  rcases (by simpa using h : ci = 9) with rfl <;> cases hq <;> exact ⟨by decide +kernel, Or.inl rfl⟩

theorem eg_RX10_169 {nm : String} : eb_fw RX10 nm [9] 22 .boolean := by
  intro ci h q hq
  rcases (by simpa using h : ci = 9) with rfl <;> cases hq <;> exact ⟨by decide +kernel, Or.inl rfl⟩

theorem eg_RX10_181 {nm : String} : eb_fw RX10 nm [9] 23 .int := by
  intro ci h q hq
  rcases (by simpa using h : ci = 9) with rfl <;> cases hq <;> exact ⟨by decide +kernel, Or.inl rfl⟩

theorem eg_RX10_192 {nm : String} : eb_fw RX10 nm [9] 24 .int := by
  intro ci h q hq
  rcases (by simpa using h : ci = 9) with rfl <;> cases hq <;> exact ⟨by decide +kernel, Or.inl rfl⟩

theorem eg_RX10_119 {nm : String} : eb_fw RX10 nm [9] 16 .int := by
  intro ci h q hq
  rcases (by simpa using h : ci = 9) with rfl <;> cases hq <;> exact ⟨by decide +kernel, Or.inl rfl⟩

theorem eg_RX10_224 {nm : String} : eb_fw RX10 nm [9] 27 .int := by
  intro ci h q hq
  rcases (by simpa using h : ci = 9) with rfl <;> cases hq <;> exact ⟨by decide +kernel, Or.inl rfl⟩

theorem eg_RX10_227 {nm : String} : eb_fw RX10 nm [9] 28 .int := by
  intro ci h q hq
  rcases (by simpa using h : ci = 9) with rfl <;> cases hq <;> exact ⟨by decide +kernel, Or.inl rfl⟩

theorem eg_RX10_243 {nm : String} : eb_fw RX10 nm [9] 31 .int := by
  intro ci h q hq
  rcases (by simpa using h : ci = 9) with rfl <;> cases hq <;> exact ⟨by decide +kernel, Or.inl rfl⟩

theorem eg_RX10_246 {nm : String} : eb_fw RX10 nm [9] 32 .int := by
  intro ci h q hq
  rcases (by simpa using h : ci = 9) with rfl <;> cases hq <;> exact ⟨by decide +kernel, Or.inl rfl⟩

theorem eg_RX10_289 {nm : String} : eb_fw RX10 nm [9] 36 .boolean := by
  intro ci h q hq
  rcases (by simpa using h : ci = 9) with rfl <;> cases hq <;> exact ⟨by decide +kernel, Or.inl rfl⟩

theorem eg_RX9_157 {nm : String} : eb_fw RX9 nm [7] 0 .int := by
  intro ci h q hq
  rcases (by simpa using h : ci = 7) with rfl <;> cases hq <;> exact ⟨by decide +kernel, Or.inl rfl⟩
theorem ed_J0_coder_7d493 : yJ0_coder_7d493.cls ≠ "java/lang/invoke/MethodHandle" ∧ yJ0_coder_7d493.cls ≠ "java/lang/invoke/VarHandle" ∧ (parseMethodDescriptor yJ0_coder_7d493.desc).map (fun d => d.parameters.length) = some 0 := by decide +kernel
theorem ed_J1_canEncode_9a6ad : yJ1_canEncode_9a6ad.cls ≠ "java/lang/invoke/MethodHandle" ∧ yJ1_canEncode_9a6ad.cls ≠ "java/lang/invoke/VarHandle" ∧ (parseMethodDescriptor yJ1_canEncode_9a6ad.desc).map (fun d => d.parameters.length) = some 1 := by decide +kernel
theorem ed_J1_indexOfChar_4cfef : yJ1_indexOfChar_4cfef.cls ≠ "java/lang/invoke/MethodHandle" ∧ yJ1_indexOfChar_4cfef.cls ≠ "java/lang/invoke/VarHandle" ∧ (parseMethodDescriptor yJ1_indexOfChar_4cfef.desc).map (fun d => d.parameters.length) = some 4 := by decide +kernel
theorem ed_J0_isLatin1_aae02 : yJ0_isLatin1_aae02.cls ≠ "java/lang/invoke/MethodHandle" ∧ yJ0_isLatin1_aae02.cls ≠ "java/lang/invoke/VarHandle" ∧ (parseMethodDescriptor yJ0_isLatin1_aae02.desc).map (fun d => d.parameters.length) = some 0 := by decide +kernel
theorem ed_J0_length_8abf5 : yJ0_length_8abf5.cls ≠ "java/lang/invoke/MethodHandle" ∧ yJ0_length_8abf5.cls ≠ "java/lang/invoke/VarHandle" ∧ (parseMethodDescriptor yJ0_length_8abf5.desc).map (fun d => d.parameters.length) = some 0 := by decide +kernel
theorem ed_J1_indexOf_4cfef : yJ1_indexOf_4cfef.cls ≠ "java/lang/invoke/MethodHandle" ∧ yJ1_indexOf_4cfef.cls ≠ "java/lang/invoke/VarHandle" ∧ (parseMethodDescriptor yJ1_indexOf_4cfef.desc).map (fun d => d.parameters.length) = some 4 := by decide +kernel
theorem ed_J0_indexOf_7cf53 : yJ0_indexOf_7cf53.cls ≠ "java/lang/invoke/MethodHandle" ∧ yJ0_indexOf_7cf53.cls ≠ "java/lang/invoke/VarHandle" ∧ (parseMethodDescriptor yJ0_indexOf_7cf53.desc).map (fun d => d.parameters.length) = some 2 := by decide +kernel
theorem ed_X3_takeGoods : yX3_takeGoods.cls ≠ "java/lang/invoke/MethodHandle" ∧ yX3_takeGoods.cls ≠ "java/lang/invoke/VarHandle" ∧ (parseMethodDescriptor yX3_takeGoods.desc).map (fun d => d.parameters.length) = some 1 := by decide +kernel
theorem ed_X3_thingLoad : yX3_thingLoad.cls ≠ "java/lang/invoke/MethodHandle" ∧ yX3_thingLoad.cls ≠ "java/lang/invoke/VarHandle" ∧ (parseMethodDescriptor yX3_thingLoad.desc).map (fun d => d.parameters.length) = some 2 := by decide +kernel
theorem ed_X3_isWet : yX3_isWet.cls ≠ "java/lang/invoke/MethodHandle" ∧ yX3_isWet.cls ≠ "java/lang/invoke/VarHandle" ∧ (parseMethodDescriptor yX3_isWet.desc).map (fun d => d.parameters.length) = some 1 := by decide +kernel
theorem ed_X3_bagLoad : yX3_bagLoad.cls ≠ "java/lang/invoke/MethodHandle" ∧ yX3_bagLoad.cls ≠ "java/lang/invoke/VarHandle" ∧ (parseMethodDescriptor yX3_bagLoad.desc).map (fun d => d.parameters.length) = some 2 := by decide +kernel
theorem ed_X3_offBetween : yX3_offBetween.cls ≠ "java/lang/invoke/MethodHandle" ∧ yX3_offBetween.cls ≠ "java/lang/invoke/VarHandle" ∧ (parseMethodDescriptor yX3_offBetween.desc).map (fun d => d.parameters.length) = some 2 := by decide +kernel
theorem ed_X3_offOn : yX3_offOn.cls ≠ "java/lang/invoke/MethodHandle" ∧ yX3_offOn.cls ≠ "java/lang/invoke/VarHandle" ∧ (parseMethodDescriptor yX3_offOn.desc).map (fun d => d.parameters.length) = some 1 := by decide +kernel
theorem ed_X3_steepness : yX3_steepness.cls ≠ "java/lang/invoke/MethodHandle" ∧ yX3_steepness.cls ≠ "java/lang/invoke/VarHandle" ∧ (parseMethodDescriptor yX3_steepness.desc).map (fun d => d.parameters.length) = some 1 := by decide +kernel
theorem ed_X3_crushes : yX3_crushes.cls ≠ "java/lang/invoke/MethodHandle" ∧ yX3_crushes.cls ≠ "java/lang/invoke/VarHandle" ∧ (parseMethodDescriptor yX3_crushes.desc).map (fun d => d.parameters.length) = some 2 := by decide +kernel
theorem ed_X3_bagsHold : yX3_bagsHold.cls ≠ "java/lang/invoke/MethodHandle" ∧ yX3_bagsHold.cls ≠ "java/lang/invoke/VarHandle" ∧ (parseMethodDescriptor yX3_bagsHold.desc).map (fun d => d.parameters.length) = some 0 := by decide +kernel
theorem ed_X3_keepsLaws : yX3_keepsLaws.cls ≠ "java/lang/invoke/MethodHandle" ∧ yX3_keepsLaws.cls ≠ "java/lang/invoke/VarHandle" ∧ (parseMethodDescriptor yX3_keepsLaws.desc).map (fun d => d.parameters.length) = some 2 := by decide +kernel
theorem ed_X3_liesSoftly : yX3_liesSoftly.cls ≠ "java/lang/invoke/MethodHandle" ∧ yX3_liesSoftly.cls ≠ "java/lang/invoke/VarHandle" ∧ (parseMethodDescriptor yX3_liesSoftly.desc).map (fun d => d.parameters.length) = some 2 := by decide +kernel
theorem ed_X3_isInRight : yX3_isInRight.cls ≠ "java/lang/invoke/MethodHandle" ∧ yX3_isInRight.cls ≠ "java/lang/invoke/VarHandle" ∧ (parseMethodDescriptor yX3_isInRight.desc).map (fun d => d.parameters.length) = some 2 := by decide +kernel
theorem ed_X3_splitOff : yX3_splitOff.cls ≠ "java/lang/invoke/MethodHandle" ∧ yX3_splitOff.cls ≠ "java/lang/invoke/VarHandle" ∧ (parseMethodDescriptor yX3_splitOff.desc).map (fun d => d.parameters.length) = some 2 := by decide +kernel
theorem ed_X3_weightOf : yX3_weightOf.cls ≠ "java/lang/invoke/MethodHandle" ∧ yX3_weightOf.cls ≠ "java/lang/invoke/VarHandle" ∧ (parseMethodDescriptor yX3_weightOf.desc).map (fun d => d.parameters.length) = some 1 := by decide +kernel
theorem ed_X6_init : yX6_init.cls ≠ "java/lang/invoke/MethodHandle" ∧ yX6_init.cls ≠ "java/lang/invoke/VarHandle" ∧ (parseMethodDescriptor yX6_init.desc).map (fun d => d.parameters.length) = some 1 := by decide +kernel
theorem ed_X1_at : yX1_at.cls ≠ "java/lang/invoke/MethodHandle" ∧ yX1_at.cls ≠ "java/lang/invoke/VarHandle" ∧ (parseMethodDescriptor yX1_at.desc).map (fun d => d.parameters.length) = some 2 := by decide +kernel
theorem ed_X1_costBy : yX1_costBy.cls ≠ "java/lang/invoke/MethodHandle" ∧ yX1_costBy.cls ≠ "java/lang/invoke/VarHandle" ∧ (parseMethodDescriptor yX1_costBy.desc).map (fun d => d.parameters.length) = some 4 := by decide +kernel
theorem ed_X1_nextBehind : yX1_nextBehind.cls ≠ "java/lang/invoke/MethodHandle" ∧ yX1_nextBehind.cls ≠ "java/lang/invoke/VarHandle" ∧ (parseMethodDescriptor yX1_nextBehind.desc).map (fun d => d.parameters.length) = some 3 := by decide +kernel
theorem ed_X1_weigh : yX1_weigh.cls ≠ "java/lang/invoke/MethodHandle" ∧ yX1_weigh.cls ≠ "java/lang/invoke/VarHandle" ∧ (parseMethodDescriptor yX1_weigh.desc).map (fun d => d.parameters.length) = some 2 := by decide +kernel
theorem ed_X1_goShopping : yX1_goShopping.cls ≠ "java/lang/invoke/MethodHandle" ∧ yX1_goShopping.cls ≠ "java/lang/invoke/VarHandle" ∧ (parseMethodDescriptor yX1_goShopping.desc).map (fun d => d.parameters.length) = some 0 := by decide +kernel
theorem ed_X2_tips : yX2_tips.cls ≠ "java/lang/invoke/MethodHandle" ∧ yX2_tips.cls ≠ "java/lang/invoke/VarHandle" ∧ (parseMethodDescriptor yX2_tips.desc).map (fun d => d.parameters.length) = some 2 := by decide +kernel
theorem ed_X2_waysWithoutOne : yX2_waysWithoutOne.cls ≠ "java/lang/invoke/MethodHandle" ∧ yX2_waysWithoutOne.cls ≠ "java/lang/invoke/VarHandle" ∧ (parseMethodDescriptor yX2_waysWithoutOne.desc).map (fun d => d.parameters.length) = some 1 := by decide +kernel
theorem ed_X7_lowestBits : yX7_lowestBits.cls ≠ "java/lang/invoke/MethodHandle" ∧ yX7_lowestBits.cls ≠ "java/lang/invoke/VarHandle" ∧ (parseMethodDescriptor yX7_lowestBits.desc).map (fun d => d.parameters.length) = some 1 := by decide +kernel
theorem ed_X8_skipBlanks : yX8_skipBlanks.cls ≠ "java/lang/invoke/MethodHandle" ∧ yX8_skipBlanks.cls ≠ "java/lang/invoke/VarHandle" ∧ (parseMethodDescriptor yX8_skipBlanks.desc).map (fun d => d.parameters.length) = some 0 := by decide +kernel
theorem ed_X3_init : yX3_init.cls ≠ "java/lang/invoke/MethodHandle" ∧ yX3_init.cls ≠ "java/lang/invoke/VarHandle" ∧ (parseMethodDescriptor yX3_init.desc).map (fun d => d.parameters.length) = some 0 := by decide +kernel
theorem ed_X8_init : yX8_init.cls ≠ "java/lang/invoke/MethodHandle" ∧ yX8_init.cls ≠ "java/lang/invoke/VarHandle" ∧ (parseMethodDescriptor yX8_init.desc).map (fun d => d.parameters.length) = some 0 := by decide +kernel
theorem ed_X0_init : yX0_init.cls ≠ "java/lang/invoke/MethodHandle" ∧ yX0_init.cls ≠ "java/lang/invoke/VarHandle" ∧ (parseMethodDescriptor yX0_init.desc).map (fun d => d.parameters.length) = some 1 := by decide +kernel
theorem ed_X4_init : yX4_init.cls ≠ "java/lang/invoke/MethodHandle" ∧ yX4_init.cls ≠ "java/lang/invoke/VarHandle" ∧ (parseMethodDescriptor yX4_init.desc).map (fun d => d.parameters.length) = some 1 := by decide +kernel
theorem ed_X5_init : yX5_init.cls ≠ "java/lang/invoke/MethodHandle" ∧ yX5_init.cls ≠ "java/lang/invoke/VarHandle" ∧ (parseMethodDescriptor yX5_init.desc).map (fun d => d.parameters.length) = some 1 := by decide +kernel
theorem ed_X1_init : yX1_init.cls ≠ "java/lang/invoke/MethodHandle" ∧ yX1_init.cls ≠ "java/lang/invoke/VarHandle" ∧ (parseMethodDescriptor yX1_init.desc).map (fun d => d.parameters.length) = some 1 := by decide +kernel
theorem ed_X2_init : yX2_init.cls ≠ "java/lang/invoke/MethodHandle" ∧ yX2_init.cls ≠ "java/lang/invoke/VarHandle" ∧ (parseMethodDescriptor yX2_init.desc).map (fun d => d.parameters.length) = some 1 := by decide +kernel
theorem ed_X7_init : yX7_init.cls ≠ "java/lang/invoke/MethodHandle" ∧ yX7_init.cls ≠ "java/lang/invoke/VarHandle" ∧ (parseMethodDescriptor yX7_init.desc).map (fun d => d.parameters.length) = some 0 := by decide +kernel
theorem ed_X9_within : yX9_within.cls ≠ "java/lang/invoke/MethodHandle" ∧ yX9_within.cls ≠ "java/lang/invoke/VarHandle" ∧ (parseMethodDescriptor yX9_within.desc).map (fun d => d.parameters.length) = some 3 := by decide +kernel
theorem ed_X3_addThing : yX3_addThing.cls ≠ "java/lang/invoke/MethodHandle" ∧ yX3_addThing.cls ≠ "java/lang/invoke/VarHandle" ∧ (parseMethodDescriptor yX3_addThing.desc).map (fun d => d.parameters.length) = some 3 := by decide +kernel
theorem ed_X9_isThing : yX9_isThing.cls ≠ "java/lang/invoke/MethodHandle" ∧ yX9_isThing.cls ≠ "java/lang/invoke/VarHandle" ∧ (parseMethodDescriptor yX9_isThing.desc).map (fun d => d.parameters.length) = some 1 := by decide +kernel
theorem ed_X3_hangs : yX3_hangs.cls ≠ "java/lang/invoke/MethodHandle" ∧ yX3_hangs.cls ≠ "java/lang/invoke/VarHandle" ∧ (parseMethodDescriptor yX3_hangs.desc).map (fun d => d.parameters.length) = some 1 := by decide +kernel
theorem ed_X3_put : yX3_put.cls ≠ "java/lang/invoke/MethodHandle" ∧ yX3_put.cls ≠ "java/lang/invoke/VarHandle" ∧ (parseMethodDescriptor yX3_put.desc).map (fun d => d.parameters.length) = some 3 := by decide +kernel
theorem ed_X9_isBag : yX9_isBag.cls ≠ "java/lang/invoke/MethodHandle" ∧ yX9_isBag.cls ≠ "java/lang/invoke/VarHandle" ∧ (parseMethodDescriptor yX9_isBag.desc).map (fun d => d.parameters.length) = some 1 := by decide +kernel
theorem ed_X3_addStretch : yX3_addStretch.cls ≠ "java/lang/invoke/MethodHandle" ∧ yX3_addStretch.cls ≠ "java/lang/invoke/VarHandle" ∧ (parseMethodDescriptor yX3_addStretch.desc).map (fun d => d.parameters.length) = some 2 := by decide +kernel
theorem ed_X9_isStretch : yX9_isStretch.cls ≠ "java/lang/invoke/MethodHandle" ∧ yX9_isStretch.cls ≠ "java/lang/invoke/VarHandle" ∧ (parseMethodDescriptor yX9_isStretch.desc).map (fun d => d.parameters.length) = some 1 := by decide +kernel
theorem ed_X3_addLaw : yX3_addLaw.cls ≠ "java/lang/invoke/MethodHandle" ∧ yX3_addLaw.cls ≠ "java/lang/invoke/VarHandle" ∧ (parseMethodDescriptor yX3_addLaw.desc).map (fun d => d.parameters.length) = some 3 := by decide +kernel
theorem ed_X3_dropLaw : yX3_dropLaw.cls ≠ "java/lang/invoke/MethodHandle" ∧ yX3_dropLaw.cls ≠ "java/lang/invoke/VarHandle" ∧ (parseMethodDescriptor yX3_dropLaw.desc).map (fun d => d.parameters.length) = some 0 := by decide +kernel
theorem ed_X8_add : yX8_add.cls ≠ "java/lang/invoke/MethodHandle" ∧ yX8_add.cls ≠ "java/lang/invoke/VarHandle" ∧ (parseMethodDescriptor yX8_add.desc).map (fun d => d.parameters.length) = some 1 := by decide +kernel
theorem ed_X3_wholeWay : yX3_wholeWay.cls ≠ "java/lang/invoke/MethodHandle" ∧ yX3_wholeWay.cls ≠ "java/lang/invoke/VarHandle" ∧ (parseMethodDescriptor yX3_wholeWay.desc).map (fun d => d.parameters.length) = some 0 := by decide +kernel
theorem ed_X3_whyUnlawful : yX3_whyUnlawful.cls ≠ "java/lang/invoke/MethodHandle" ∧ yX3_whyUnlawful.cls ≠ "java/lang/invoke/VarHandle" ∧ (parseMethodDescriptor yX3_whyUnlawful.desc).map (fun d => d.parameters.length) = some 0 := by decide +kernel
theorem ed_X3_worst : yX3_worst.cls ≠ "java/lang/invoke/MethodHandle" ∧ yX3_worst.cls ≠ "java/lang/invoke/VarHandle" ∧ (parseMethodDescriptor yX3_worst.desc).map (fun d => d.parameters.length) = some 0 := by decide +kernel
theorem ed_X3_whole : yX3_whole.cls ≠ "java/lang/invoke/MethodHandle" ∧ yX3_whole.cls ≠ "java/lang/invoke/VarHandle" ∧ (parseMethodDescriptor yX3_whole.desc).map (fun d => d.parameters.length) = some 0 := by decide +kernel
theorem ed_X3_packAs : yX3_packAs.cls ≠ "java/lang/invoke/MethodHandle" ∧ yX3_packAs.cls ≠ "java/lang/invoke/VarHandle" ∧ (parseMethodDescriptor yX3_packAs.desc).map (fun d => d.parameters.length) = some 1 := by decide +kernel
theorem ed_X3_evenestSplit : yX3_evenestSplit.cls ≠ "java/lang/invoke/MethodHandle" ∧ yX3_evenestSplit.cls ≠ "java/lang/invoke/VarHandle" ∧ (parseMethodDescriptor yX3_evenestSplit.desc).map (fun d => d.parameters.length) = some 1 := by decide +kernel
theorem ed_X4_ask : yX4_ask.cls ≠ "java/lang/invoke/MethodHandle" ∧ yX4_ask.cls ≠ "java/lang/invoke/VarHandle" ∧ (parseMethodDescriptor yX4_ask.desc).map (fun d => d.parameters.length) = some 2 := by decide +kernel
theorem ed_X9_inLowestTerms : yX9_inLowestTerms.cls ≠ "java/lang/invoke/MethodHandle" ∧ yX9_inLowestTerms.cls ≠ "java/lang/invoke/VarHandle" ∧ (parseMethodDescriptor yX9_inLowestTerms.desc).map (fun d => d.parameters.length) = some 3 := by decide +kernel
theorem ed_X9_yardOf : yX9_yardOf.cls ≠ "java/lang/invoke/MethodHandle" ∧ yX9_yardOf.cls ≠ "java/lang/invoke/VarHandle" ∧ (parseMethodDescriptor yX9_yardOf.desc).map (fun d => d.parameters.length) = some 2 := by decide +kernel
theorem ed_X1_solve : yX1_solve.cls ≠ "java/lang/invoke/MethodHandle" ∧ yX1_solve.cls ≠ "java/lang/invoke/VarHandle" ∧ (parseMethodDescriptor yX1_solve.desc).map (fun d => d.parameters.length) = some 0 := by decide +kernel
theorem ed_X3_wetLoad : yX3_wetLoad.cls ≠ "java/lang/invoke/MethodHandle" ∧ yX3_wetLoad.cls ≠ "java/lang/invoke/VarHandle" ∧ (parseMethodDescriptor yX3_wetLoad.desc).map (fun d => d.parameters.length) = some 2 := by decide +kernel
theorem ed_X9_levelAt : yX9_levelAt.cls ≠ "java/lang/invoke/MethodHandle" ∧ yX9_levelAt.cls ≠ "java/lang/invoke/VarHandle" ∧ (parseMethodDescriptor yX9_levelAt.desc).map (fun d => d.parameters.length) = some 4 := by decide +kernel
theorem ed_X9_isEnd : yX9_isEnd.cls ≠ "java/lang/invoke/MethodHandle" ∧ yX9_isEnd.cls ≠ "java/lang/invoke/VarHandle" ∧ (parseMethodDescriptor yX9_isEnd.desc).map (fun d => d.parameters.length) = some 1 := by decide +kernel
theorem ed_X3_addBar : yX3_addBar.cls ≠ "java/lang/invoke/MethodHandle" ∧ yX3_addBar.cls ≠ "java/lang/invoke/VarHandle" ∧ (parseMethodDescriptor yX3_addBar.desc).map (fun d => d.parameters.length) = some 2 := by decide +kernel
theorem ed_X3_endWeight : yX3_endWeight.cls ≠ "java/lang/invoke/MethodHandle" ∧ yX3_endWeight.cls ≠ "java/lang/invoke/VarHandle" ∧ (parseMethodDescriptor yX3_endWeight.desc).map (fun d => d.parameters.length) = some 1 := by decide +kernel
theorem ed_X3_takeAll : yX3_takeAll.cls ≠ "java/lang/invoke/MethodHandle" ∧ yX3_takeAll.cls ≠ "java/lang/invoke/VarHandle" ∧ (parseMethodDescriptor yX3_takeAll.desc).map (fun d => d.parameters.length) = some 1 := by decide +kernel
theorem ed_X9_isSheet : yX9_isSheet.cls ≠ "java/lang/invoke/MethodHandle" ∧ yX9_isSheet.cls ≠ "java/lang/invoke/VarHandle" ∧ (parseMethodDescriptor yX9_isSheet.desc).map (fun d => d.parameters.length) = some 1 := by decide +kernel
theorem ed_X7_isMissing : yX7_isMissing.cls ≠ "java/lang/invoke/MethodHandle" ∧ yX7_isMissing.cls ≠ "java/lang/invoke/VarHandle" ∧ (parseMethodDescriptor yX7_isMissing.desc).map (fun d => d.parameters.length) = some 0 := by decide +kernel
theorem ed_X7_spans : yX7_spans.cls ≠ "java/lang/invoke/MethodHandle" ∧ yX7_spans.cls ≠ "java/lang/invoke/VarHandle" ∧ (parseMethodDescriptor yX7_spans.desc).map (fun d => d.parameters.length) = some 2 := by decide +kernel
theorem ed_X9_refusalOf : yX9_refusalOf.cls ≠ "java/lang/invoke/MethodHandle" ∧ yX9_refusalOf.cls ≠ "java/lang/invoke/VarHandle" ∧ (parseMethodDescriptor yX9_refusalOf.desc).map (fun d => d.parameters.length) = some 4 := by decide +kernel
theorem ed_X2_seat : yX2_seat.cls ≠ "java/lang/invoke/MethodHandle" ∧ yX2_seat.cls ≠ "java/lang/invoke/VarHandle" ∧ (parseMethodDescriptor yX2_seat.desc).map (fun d => d.parameters.length) = some 2 := by decide +kernel
theorem ed_X2_orders : yX2_orders.cls ≠ "java/lang/invoke/MethodHandle" ∧ yX2_orders.cls ≠ "java/lang/invoke/VarHandle" ∧ (parseMethodDescriptor yX2_orders.desc).map (fun d => d.parameters.length) = some 1 := by decide +kernel
theorem ed_X2_safe : yX2_safe.cls ≠ "java/lang/invoke/MethodHandle" ∧ yX2_safe.cls ≠ "java/lang/invoke/VarHandle" ∧ (parseMethodDescriptor yX2_safe.desc).map (fun d => d.parameters.length) = some 1 := by decide +kernel
theorem ed_X5_ask : yX5_ask.cls ≠ "java/lang/invoke/MethodHandle" ∧ yX5_ask.cls ≠ "java/lang/invoke/VarHandle" ∧ (parseMethodDescriptor yX5_ask.desc).map (fun d => d.parameters.length) = some 2 := by decide +kernel
theorem ed_X5_firstAsDigits : yX5_firstAsDigits.cls ≠ "java/lang/invoke/MethodHandle" ∧ yX5_firstAsDigits.cls ≠ "java/lang/invoke/VarHandle" ∧ (parseMethodDescriptor yX5_firstAsDigits.desc).map (fun d => d.parameters.length) = some 0 := by decide +kernel
theorem ed_X7_write : yX7_write.cls ≠ "java/lang/invoke/MethodHandle" ∧ yX7_write.cls ≠ "java/lang/invoke/VarHandle" ∧ (parseMethodDescriptor yX7_write.desc).map (fun d => d.parameters.length) = some 2 := by decide +kernel
theorem ed_X7_renew : yX7_renew.cls ≠ "java/lang/invoke/MethodHandle" ∧ yX7_renew.cls ≠ "java/lang/invoke/VarHandle" ∧ (parseMethodDescriptor yX7_renew.desc).map (fun d => d.parameters.length) = some 2 := by decide +kernel
theorem ed_X7_lose : yX7_lose.cls ≠ "java/lang/invoke/MethodHandle" ∧ yX7_lose.cls ≠ "java/lang/invoke/VarHandle" ∧ (parseMethodDescriptor yX7_lose.desc).map (fun d => d.parameters.length) = some 0 := by decide +kernel
theorem ed_X10_in : yX10_in.cls ≠ "java/lang/invoke/MethodHandle" ∧ yX10_in.cls ≠ "java/lang/invoke/VarHandle" ∧ (parseMethodDescriptor yX10_in.desc).map (fun d => d.parameters.length) = some 3 := by decide +kernel
theorem ed_X10_comes : yX10_comes.cls ≠ "java/lang/invoke/MethodHandle" ∧ yX10_comes.cls ≠ "java/lang/invoke/VarHandle" ∧ (parseMethodDescriptor yX10_comes.desc).map (fun d => d.parameters.length) = some 3 := by decide +kernel
theorem ed_X10_isThing : yX10_isThing.cls ≠ "java/lang/invoke/MethodHandle" ∧ yX10_isThing.cls ≠ "java/lang/invoke/VarHandle" ∧ (parseMethodDescriptor yX10_isThing.desc).map (fun d => d.parameters.length) = some 1 := by decide +kernel
theorem ed_X10_hangs : yX10_hangs.cls ≠ "java/lang/invoke/MethodHandle" ∧ yX10_hangs.cls ≠ "java/lang/invoke/VarHandle" ∧ (parseMethodDescriptor yX10_hangs.desc).map (fun d => d.parameters.length) = some 1 := by decide +kernel
theorem ed_X10_told : yX10_told.cls ≠ "java/lang/invoke/MethodHandle" ∧ yX10_told.cls ≠ "java/lang/invoke/VarHandle" ∧ (parseMethodDescriptor yX10_told.desc).map (fun d => d.parameters.length) = some 2 := by decide +kernel
theorem ed_X10_isStretch : yX10_isStretch.cls ≠ "java/lang/invoke/MethodHandle" ∧ yX10_isStretch.cls ≠ "java/lang/invoke/VarHandle" ∧ (parseMethodDescriptor yX10_isStretch.desc).map (fun d => d.parameters.length) = some 1 := by decide +kernel
theorem ed_X10_isBag : yX10_isBag.cls ≠ "java/lang/invoke/MethodHandle" ∧ yX10_isBag.cls ≠ "java/lang/invoke/VarHandle" ∧ (parseMethodDescriptor yX10_isBag.desc).map (fun d => d.parameters.length) = some 1 := by decide +kernel
theorem ed_X10_wayTo : yX10_wayTo.cls ≠ "java/lang/invoke/MethodHandle" ∧ yX10_wayTo.cls ≠ "java/lang/invoke/VarHandle" ∧ (parseMethodDescriptor yX10_wayTo.desc).map (fun d => d.parameters.length) = some 1 := by decide +kernel
theorem ed_X10_here : yX10_here.cls ≠ "java/lang/invoke/MethodHandle" ∧ yX10_here.cls ≠ "java/lang/invoke/VarHandle" ∧ (parseMethodDescriptor yX10_here.desc).map (fun d => d.parameters.length) = some 0 := by decide +kernel
theorem ed_X10_number : yX10_number.cls ≠ "java/lang/invoke/MethodHandle" ∧ yX10_number.cls ≠ "java/lang/invoke/VarHandle" ∧ (parseMethodDescriptor yX10_number.desc).map (fun d => d.parameters.length) = some 0 := by decide +kernel
theorem ed_X10_has : yX10_has.cls ≠ "java/lang/invoke/MethodHandle" ∧ yX10_has.cls ≠ "java/lang/invoke/VarHandle" ∧ (parseMethodDescriptor yX10_has.desc).map (fun d => d.parameters.length) = some 1 := by decide +kernel
theorem ed_X10_readThing : yX10_readThing.cls ≠ "java/lang/invoke/MethodHandle" ∧ yX10_readThing.cls ≠ "java/lang/invoke/VarHandle" ∧ (parseMethodDescriptor yX10_readThing.desc).map (fun d => d.parameters.length) = some 0 := by decide +kernel
theorem ed_X10_loadOf : yX10_loadOf.cls ≠ "java/lang/invoke/MethodHandle" ∧ yX10_loadOf.cls ≠ "java/lang/invoke/VarHandle" ∧ (parseMethodDescriptor yX10_loadOf.desc).map (fun d => d.parameters.length) = some 2 := by decide +kernel
theorem ed_X10_loads : yX10_loads.cls ≠ "java/lang/invoke/MethodHandle" ∧ yX10_loads.cls ≠ "java/lang/invoke/VarHandle" ∧ (parseMethodDescriptor yX10_loads.desc).map (fun d => d.parameters.length) = some 3 := by decide +kernel
theorem ed_X10_doHold : yX10_doHold.cls ≠ "java/lang/invoke/MethodHandle" ∧ yX10_doHold.cls ≠ "java/lang/invoke/VarHandle" ∧ (parseMethodDescriptor yX10_doHold.desc).map (fun d => d.parameters.length) = some 1 := by decide +kernel
theorem ed_X10_areLaws : yX10_areLaws.cls ≠ "java/lang/invoke/MethodHandle" ∧ yX10_areLaws.cls ≠ "java/lang/invoke/VarHandle" ∧ (parseMethodDescriptor yX10_areLaws.desc).map (fun d => d.parameters.length) = some 1 := by decide +kernel
theorem ed_X10_areSoft : yX10_areSoft.cls ≠ "java/lang/invoke/MethodHandle" ∧ yX10_areSoft.cls ≠ "java/lang/invoke/VarHandle" ∧ (parseMethodDescriptor yX10_areSoft.desc).map (fun d => d.parameters.length) = some 1 := by decide +kernel
theorem ed_X10_whyNot : yX10_whyNot.cls ≠ "java/lang/invoke/MethodHandle" ∧ yX10_whyNot.cls ≠ "java/lang/invoke/VarHandle" ∧ (parseMethodDescriptor yX10_whyNot.desc).map (fun d => d.parameters.length) = some 1 := by decide +kernel
theorem ed_X10_offOf : yX10_offOf.cls ≠ "java/lang/invoke/MethodHandle" ∧ yX10_offOf.cls ≠ "java/lang/invoke/VarHandle" ∧ (parseMethodDescriptor yX10_offOf.desc).map (fun d => d.parameters.length) = some 2 := by decide +kernel
theorem ed_X10_plain : yX10_plain.cls ≠ "java/lang/invoke/MethodHandle" ∧ yX10_plain.cls ≠ "java/lang/invoke/VarHandle" ∧ (parseMethodDescriptor yX10_plain.desc).map (fun d => d.parameters.length) = some 1 := by decide +kernel
theorem ed_X10_unevens : yX10_unevens.cls ≠ "java/lang/invoke/MethodHandle" ∧ yX10_unevens.cls ≠ "java/lang/invoke/VarHandle" ∧ (parseMethodDescriptor yX10_unevens.desc).map (fun d => d.parameters.length) = some 1 := by decide +kernel
theorem ed_X10_begins : yX10_begins.cls ≠ "java/lang/invoke/MethodHandle" ∧ yX10_begins.cls ≠ "java/lang/invoke/VarHandle" ∧ (parseMethodDescriptor yX10_begins.desc).map (fun d => d.parameters.length) = some 0 := by decide +kernel
theorem ed_X10_isLawful : yX10_isLawful.cls ≠ "java/lang/invoke/MethodHandle" ∧ yX10_isLawful.cls ≠ "java/lang/invoke/VarHandle" ∧ (parseMethodDescriptor yX10_isLawful.desc).map (fun d => d.parameters.length) = some 1 := by decide +kernel
theorem ed_X10_turns : yX10_turns.cls ≠ "java/lang/invoke/MethodHandle" ∧ yX10_turns.cls ≠ "java/lang/invoke/VarHandle" ∧ (parseMethodDescriptor yX10_turns.desc).map (fun d => d.parameters.length) = some 1 := by decide +kernel
theorem ed_X10_finds : yX10_finds.cls ≠ "java/lang/invoke/MethodHandle" ∧ yX10_finds.cls ≠ "java/lang/invoke/VarHandle" ∧ (parseMethodDescriptor yX10_finds.desc).map (fun d => d.parameters.length) = some 0 := by decide +kernel
theorem ed_X10_isBest : yX10_isBest.cls ≠ "java/lang/invoke/MethodHandle" ∧ yX10_isBest.cls ≠ "java/lang/invoke/VarHandle" ∧ (parseMethodDescriptor yX10_isBest.desc).map (fun d => d.parameters.length) = some 0 := by decide +kernel
theorem ed_X10_changes : yX10_changes.cls ≠ "java/lang/invoke/MethodHandle" ∧ yX10_changes.cls ≠ "java/lang/invoke/VarHandle" ∧ (parseMethodDescriptor yX10_changes.desc).map (fun d => d.parameters.length) = some 1 := by decide +kernel
theorem ed_X10_common : yX10_common.cls ≠ "java/lang/invoke/MethodHandle" ∧ yX10_common.cls ≠ "java/lang/invoke/VarHandle" ∧ (parseMethodDescriptor yX10_common.desc).map (fun d => d.parameters.length) = some 2 := by decide +kernel
theorem ed_X10_part : yX10_part.cls ≠ "java/lang/invoke/MethodHandle" ∧ yX10_part.cls ≠ "java/lang/invoke/VarHandle" ∧ (parseMethodDescriptor yX10_part.desc).map (fun d => d.parameters.length) = some 3 := by decide +kernel
theorem ed_X10_apart : yX10_apart.cls ≠ "java/lang/invoke/MethodHandle" ∧ yX10_apart.cls ≠ "java/lang/invoke/VarHandle" ∧ (parseMethodDescriptor yX10_apart.desc).map (fun d => d.parameters.length) = some 2 := by decide +kernel
theorem ed_X10_bought : yX10_bought.cls ≠ "java/lang/invoke/MethodHandle" ∧ yX10_bought.cls ≠ "java/lang/invoke/VarHandle" ∧ (parseMethodDescriptor yX10_bought.desc).map (fun d => d.parameters.length) = some 1 := by decide +kernel
theorem ed_X10_onFrom : yX10_onFrom.cls ≠ "java/lang/invoke/MethodHandle" ∧ yX10_onFrom.cls ≠ "java/lang/invoke/VarHandle" ∧ (parseMethodDescriptor yX10_onFrom.desc).map (fun d => d.parameters.length) = some 2 := by decide +kernel
theorem ed_X10_isEnd : yX10_isEnd.cls ≠ "java/lang/invoke/MethodHandle" ∧ yX10_isEnd.cls ≠ "java/lang/invoke/VarHandle" ∧ (parseMethodDescriptor yX10_isEnd.desc).map (fun d => d.parameters.length) = some 1 := by decide +kernel
theorem ed_X10_hangsOn : yX10_hangsOn.cls ≠ "java/lang/invoke/MethodHandle" ∧ yX10_hangsOn.cls ≠ "java/lang/invoke/VarHandle" ∧ (parseMethodDescriptor yX10_hangsOn.desc).map (fun d => d.parameters.length) = some 1 := by decide +kernel
theorem ed_X10_notes : yX10_notes.cls ≠ "java/lang/invoke/MethodHandle" ∧ yX10_notes.cls ≠ "java/lang/invoke/VarHandle" ∧ (parseMethodDescriptor yX10_notes.desc).map (fun d => d.parameters.length) = some 2 := by decide +kernel
theorem ed_X10_givesBack : yX10_givesBack.cls ≠ "java/lang/invoke/MethodHandle" ∧ yX10_givesBack.cls ≠ "java/lang/invoke/VarHandle" ∧ (parseMethodDescriptor yX10_givesBack.desc).map (fun d => d.parameters.length) = some 2 := by decide +kernel
theorem ed_X10_across : yX10_across.cls ≠ "java/lang/invoke/MethodHandle" ∧ yX10_across.cls ≠ "java/lang/invoke/VarHandle" ∧ (parseMethodDescriptor yX10_across.desc).map (fun d => d.parameters.length) = some 1 := by decide +kernel
theorem ed_X10_isTipped : yX10_isTipped.cls ≠ "java/lang/invoke/MethodHandle" ∧ yX10_isTipped.cls ≠ "java/lang/invoke/VarHandle" ∧ (parseMethodDescriptor yX10_isTipped.desc).map (fun d => d.parameters.length) = some 2 := by decide +kernel
theorem ed_X10_isSheet : yX10_isSheet.cls ≠ "java/lang/invoke/MethodHandle" ∧ yX10_isSheet.cls ≠ "java/lang/invoke/VarHandle" ∧ (parseMethodDescriptor yX10_isSheet.desc).map (fun d => d.parameters.length) = some 1 := by decide +kernel
theorem ed_X10_isLane : yX10_isLane.cls ≠ "java/lang/invoke/MethodHandle" ∧ yX10_isLane.cls ≠ "java/lang/invoke/VarHandle" ∧ (parseMethodDescriptor yX10_isLane.desc).map (fun d => d.parameters.length) = some 1 := by decide +kernel
theorem ed_X10_why : yX10_why.cls ≠ "java/lang/invoke/MethodHandle" ∧ yX10_why.cls ≠ "java/lang/invoke/VarHandle" ∧ (parseMethodDescriptor yX10_why.desc).map (fun d => d.parameters.length) = some 4 := by decide +kernel
theorem ed_X10_ordersOf : yX10_ordersOf.cls ≠ "java/lang/invoke/MethodHandle" ∧ yX10_ordersOf.cls ≠ "java/lang/invoke/VarHandle" ∧ (parseMethodDescriptor yX10_ordersOf.desc).map (fun d => d.parameters.length) = some 2 := by decide +kernel
theorem ed_X10_puts : yX10_puts.cls ≠ "java/lang/invoke/MethodHandle" ∧ yX10_puts.cls ≠ "java/lang/invoke/VarHandle" ∧ (parseMethodDescriptor yX10_puts.desc).map (fun d => d.parameters.length) = some 3 := by decide +kernel
theorem ed_X8_readNumber : yX8_readNumber.cls ≠ "java/lang/invoke/MethodHandle" ∧ yX8_readNumber.cls ≠ "java/lang/invoke/VarHandle" ∧ (parseMethodDescriptor yX8_readNumber.desc).map (fun d => d.parameters.length) = some 0 := by decide +kernel
theorem ed_X8_passes : yX8_passes.cls ≠ "java/lang/invoke/MethodHandle" ∧ yX8_passes.cls ≠ "java/lang/invoke/VarHandle" ∧ (parseMethodDescriptor yX8_passes.desc).map (fun d => d.parameters.length) = some 1 := by decide +kernel
theorem ed_X8_readStop : yX8_readStop.cls ≠ "java/lang/invoke/MethodHandle" ∧ yX8_readStop.cls ≠ "java/lang/invoke/VarHandle" ∧ (parseMethodDescriptor yX8_readStop.desc).map (fun d => d.parameters.length) = some 0 := by decide +kernel
theorem ed_J0_indexOf_0f7a4 : yJ0_indexOf_0f7a4.cls ≠ "java/lang/invoke/MethodHandle" ∧ yJ0_indexOf_0f7a4.cls ≠ "java/lang/invoke/VarHandle" ∧ (parseMethodDescriptor yJ0_indexOf_0f7a4.desc).map (fun d => d.parameters.length) = some 1 := by decide +kernel
theorem ed_X8_readThing : yX8_readThing.cls ≠ "java/lang/invoke/MethodHandle" ∧ yX8_readThing.cls ≠ "java/lang/invoke/VarHandle" ∧ (parseMethodDescriptor yX8_readThing.desc).map (fun d => d.parameters.length) = some 1 := by decide +kernel
theorem ed_X8_readStretch : yX8_readStretch.cls ≠ "java/lang/invoke/MethodHandle" ∧ yX8_readStretch.cls ≠ "java/lang/invoke/VarHandle" ∧ (parseMethodDescriptor yX8_readStretch.desc).map (fun d => d.parameters.length) = some 1 := by decide +kernel
theorem ed_X3_clearGoods : yX3_clearGoods.cls ≠ "java/lang/invoke/MethodHandle" ∧ yX3_clearGoods.cls ≠ "java/lang/invoke/VarHandle" ∧ (parseMethodDescriptor yX3_clearGoods.desc).map (fun d => d.parameters.length) = some 0 := by decide +kernel
theorem ed_X8_readThings : yX8_readThings.cls ≠ "java/lang/invoke/MethodHandle" ∧ yX8_readThings.cls ≠ "java/lang/invoke/VarHandle" ∧ (parseMethodDescriptor yX8_readThings.desc).map (fun d => d.parameters.length) = some 1 := by decide +kernel
theorem ed_X8_readStretches : yX8_readStretches.cls ≠ "java/lang/invoke/MethodHandle" ∧ yX8_readStretches.cls ≠ "java/lang/invoke/VarHandle" ∧ (parseMethodDescriptor yX8_readStretches.desc).map (fun d => d.parameters.length) = some 1 := by decide +kernel
theorem ed_X8_read : yX8_read.cls ≠ "java/lang/invoke/MethodHandle" ∧ yX8_read.cls ≠ "java/lang/invoke/VarHandle" ∧ (parseMethodDescriptor yX8_read.desc).map (fun d => d.parameters.length) = some 1 := by decide +kernel
theorem ed_X3_clearLawsAndBars : yX3_clearLawsAndBars.cls ≠ "java/lang/invoke/MethodHandle" ∧ yX3_clearLawsAndBars.cls ≠ "java/lang/invoke/VarHandle" ∧ (parseMethodDescriptor yX3_clearLawsAndBars.desc).map (fun d => d.parameters.length) = some 0 := by decide +kernel
theorem ed_X9_init : yX9_init.cls ≠ "java/lang/invoke/MethodHandle" ∧ yX9_init.cls ≠ "java/lang/invoke/VarHandle" ∧ (parseMethodDescriptor yX9_init.desc).map (fun d => d.parameters.length) = some 0 := by decide +kernel
theorem ed_X10_init : yX10_init.cls ≠ "java/lang/invoke/MethodHandle" ∧ yX10_init.cls ≠ "java/lang/invoke/VarHandle" ∧ (parseMethodDescriptor yX10_init.desc).map (fun d => d.parameters.length) = some 0 := by decide +kernel
theorem ed_X9_thing : yX9_thing.cls ≠ "java/lang/invoke/MethodHandle" ∧ yX9_thing.cls ≠ "java/lang/invoke/VarHandle" ∧ (parseMethodDescriptor yX9_thing.desc).map (fun d => d.parameters.length) = some 2 := by decide +kernel
theorem ed_X10_thing : yX10_thing.cls ≠ "java/lang/invoke/MethodHandle" ∧ yX10_thing.cls ≠ "java/lang/invoke/VarHandle" ∧ (parseMethodDescriptor yX10_thing.desc).map (fun d => d.parameters.length) = some 2 := by decide +kernel
theorem ed_X9_told : yX9_told.cls ≠ "java/lang/invoke/MethodHandle" ∧ yX9_told.cls ≠ "java/lang/invoke/VarHandle" ∧ (parseMethodDescriptor yX9_told.desc).map (fun d => d.parameters.length) = some 2 := by decide +kernel
theorem ed_X9_set : yX9_set.cls ≠ "java/lang/invoke/MethodHandle" ∧ yX9_set.cls ≠ "java/lang/invoke/VarHandle" ∧ (parseMethodDescriptor yX9_set.desc).map (fun d => d.parameters.length) = some 3 := by decide +kernel
theorem ed_X10_set : yX10_set.cls ≠ "java/lang/invoke/MethodHandle" ∧ yX10_set.cls ≠ "java/lang/invoke/VarHandle" ∧ (parseMethodDescriptor yX10_set.desc).map (fun d => d.parameters.length) = some 3 := by decide +kernel
theorem ed_X9_stretch : yX9_stretch.cls ≠ "java/lang/invoke/MethodHandle" ∧ yX9_stretch.cls ≠ "java/lang/invoke/VarHandle" ∧ (parseMethodDescriptor yX9_stretch.desc).map (fun d => d.parameters.length) = some 2 := by decide +kernel
theorem ed_X10_stretch : yX10_stretch.cls ≠ "java/lang/invoke/MethodHandle" ∧ yX10_stretch.cls ≠ "java/lang/invoke/VarHandle" ∧ (parseMethodDescriptor yX10_stretch.desc).map (fun d => d.parameters.length) = some 2 := by decide +kernel
theorem ed_X9_of : yX9_of.cls ≠ "java/lang/invoke/MethodHandle" ∧ yX9_of.cls ≠ "java/lang/invoke/VarHandle" ∧ (parseMethodDescriptor yX9_of.desc).map (fun d => d.parameters.length) = some 2 := by decide +kernel
theorem ed_X10_of : yX10_of.cls ≠ "java/lang/invoke/MethodHandle" ∧ yX10_of.cls ≠ "java/lang/invoke/VarHandle" ∧ (parseMethodDescriptor yX10_of.desc).map (fun d => d.parameters.length) = some 2 := by decide +kernel
theorem ed_X9_bag : yX9_bag.cls ≠ "java/lang/invoke/MethodHandle" ∧ yX9_bag.cls ≠ "java/lang/invoke/VarHandle" ∧ (parseMethodDescriptor yX9_bag.desc).map (fun d => d.parameters.length) = some 3 := by decide +kernel
theorem ed_X10_bag : yX10_bag.cls ≠ "java/lang/invoke/MethodHandle" ∧ yX10_bag.cls ≠ "java/lang/invoke/VarHandle" ∧ (parseMethodDescriptor yX10_bag.desc).map (fun d => d.parameters.length) = some 3 := by decide +kernel
theorem ed_X9_arm : yX9_arm.cls ≠ "java/lang/invoke/MethodHandle" ∧ yX9_arm.cls ≠ "java/lang/invoke/VarHandle" ∧ (parseMethodDescriptor yX9_arm.desc).map (fun d => d.parameters.length) = some 2 := by decide +kernel
theorem ed_X10_arm : yX10_arm.cls ≠ "java/lang/invoke/MethodHandle" ∧ yX10_arm.cls ≠ "java/lang/invoke/VarHandle" ∧ (parseMethodDescriptor yX10_arm.desc).map (fun d => d.parameters.length) = some 2 := by decide +kernel
theorem ed_X9_rule : yX9_rule.cls ≠ "java/lang/invoke/MethodHandle" ∧ yX9_rule.cls ≠ "java/lang/invoke/VarHandle" ∧ (parseMethodDescriptor yX9_rule.desc).map (fun d => d.parameters.length) = some 3 := by decide +kernel
theorem ed_X10_rule : yX10_rule.cls ≠ "java/lang/invoke/MethodHandle" ∧ yX10_rule.cls ≠ "java/lang/invoke/VarHandle" ∧ (parseMethodDescriptor yX10_rule.desc).map (fun d => d.parameters.length) = some 3 := by decide +kernel
theorem ed_X9_off : yX9_off.cls ≠ "java/lang/invoke/MethodHandle" ∧ yX9_off.cls ≠ "java/lang/invoke/VarHandle" ∧ (parseMethodDescriptor yX9_off.desc).map (fun d => d.parameters.length) = some 0 := by decide +kernel
theorem ed_X10_off : yX10_off.cls ≠ "java/lang/invoke/MethodHandle" ∧ yX10_off.cls ≠ "java/lang/invoke/VarHandle" ∧ (parseMethodDescriptor yX10_off.desc).map (fun d => d.parameters.length) = some 0 := by decide +kernel
theorem ed_X9_type : yX9_type.cls ≠ "java/lang/invoke/MethodHandle" ∧ yX9_type.cls ≠ "java/lang/invoke/VarHandle" ∧ (parseMethodDescriptor yX9_type.desc).map (fun d => d.parameters.length) = some 1 := by decide +kernel
theorem ed_X10_type : yX10_type.cls ≠ "java/lang/invoke/MethodHandle" ∧ yX10_type.cls ≠ "java/lang/invoke/VarHandle" ∧ (parseMethodDescriptor yX10_type.desc).map (fun d => d.parameters.length) = some 1 := by decide +kernel
theorem ed_X9_market : yX9_market.cls ≠ "java/lang/invoke/MethodHandle" ∧ yX9_market.cls ≠ "java/lang/invoke/VarHandle" ∧ (parseMethodDescriptor yX9_market.desc).map (fun d => d.parameters.length) = some 0 := by decide +kernel
theorem ed_X10_market : yX10_market.cls ≠ "java/lang/invoke/MethodHandle" ∧ yX10_market.cls ≠ "java/lang/invoke/VarHandle" ∧ (parseMethodDescriptor yX10_market.desc).map (fun d => d.parameters.length) = some 0 := by decide +kernel
theorem ed_X9_count : yX9_count.cls ≠ "java/lang/invoke/MethodHandle" ∧ yX9_count.cls ≠ "java/lang/invoke/VarHandle" ∧ (parseMethodDescriptor yX9_count.desc).map (fun d => d.parameters.length) = some 1 := by decide +kernel
theorem ed_X10_count : yX10_count.cls ≠ "java/lang/invoke/MethodHandle" ∧ yX10_count.cls ≠ "java/lang/invoke/VarHandle" ∧ (parseMethodDescriptor yX10_count.desc).map (fun d => d.parameters.length) = some 1 := by decide +kernel
theorem ed_X9_load : yX9_load.cls ≠ "java/lang/invoke/MethodHandle" ∧ yX9_load.cls ≠ "java/lang/invoke/VarHandle" ∧ (parseMethodDescriptor yX9_load.desc).map (fun d => d.parameters.length) = some 2 := by decide +kernel
theorem ed_X10_load : yX10_load.cls ≠ "java/lang/invoke/MethodHandle" ∧ yX10_load.cls ≠ "java/lang/invoke/VarHandle" ∧ (parseMethodDescriptor yX10_load.desc).map (fun d => d.parameters.length) = some 2 := by decide +kernel
theorem ed_X9_lawful : yX9_lawful.cls ≠ "java/lang/invoke/MethodHandle" ∧ yX9_lawful.cls ≠ "java/lang/invoke/VarHandle" ∧ (parseMethodDescriptor yX9_lawful.desc).map (fun d => d.parameters.length) = some 0 := by decide +kernel
theorem ed_X10_lawful : yX10_lawful.cls ≠ "java/lang/invoke/MethodHandle" ∧ yX10_lawful.cls ≠ "java/lang/invoke/VarHandle" ∧ (parseMethodDescriptor yX10_lawful.desc).map (fun d => d.parameters.length) = some 0 := by decide +kernel
theorem ed_X9_pull : yX9_pull.cls ≠ "java/lang/invoke/MethodHandle" ∧ yX9_pull.cls ≠ "java/lang/invoke/VarHandle" ∧ (parseMethodDescriptor yX9_pull.desc).map (fun d => d.parameters.length) = some 1 := by decide +kernel
theorem ed_X10_pull : yX10_pull.cls ≠ "java/lang/invoke/MethodHandle" ∧ yX10_pull.cls ≠ "java/lang/invoke/VarHandle" ∧ (parseMethodDescriptor yX10_pull.desc).map (fun d => d.parameters.length) = some 1 := by decide +kernel
theorem ed_X9_uneven : yX9_uneven.cls ≠ "java/lang/invoke/MethodHandle" ∧ yX9_uneven.cls ≠ "java/lang/invoke/VarHandle" ∧ (parseMethodDescriptor yX9_uneven.desc).map (fun d => d.parameters.length) = some 1 := by decide +kernel
theorem ed_X10_uneven : yX10_uneven.cls ≠ "java/lang/invoke/MethodHandle" ∧ yX10_uneven.cls ≠ "java/lang/invoke/VarHandle" ∧ (parseMethodDescriptor yX10_uneven.desc).map (fun d => d.parameters.length) = some 1 := by decide +kernel
theorem ed_X9_best : yX9_best.cls ≠ "java/lang/invoke/MethodHandle" ∧ yX9_best.cls ≠ "java/lang/invoke/VarHandle" ∧ (parseMethodDescriptor yX9_best.desc).map (fun d => d.parameters.length) = some 1 := by decide +kernel
theorem ed_X10_best : yX10_best.cls ≠ "java/lang/invoke/MethodHandle" ∧ yX10_best.cls ≠ "java/lang/invoke/VarHandle" ∧ (parseMethodDescriptor yX10_best.desc).map (fun d => d.parameters.length) = some 1 := by decide +kernel
theorem ed_X9_pack : yX9_pack.cls ≠ "java/lang/invoke/MethodHandle" ∧ yX9_pack.cls ≠ "java/lang/invoke/VarHandle" ∧ (parseMethodDescriptor yX9_pack.desc).map (fun d => d.parameters.length) = some 0 := by decide +kernel
theorem ed_X10_pack : yX10_pack.cls ≠ "java/lang/invoke/MethodHandle" ∧ yX10_pack.cls ≠ "java/lang/invoke/VarHandle" ∧ (parseMethodDescriptor yX10_pack.desc).map (fun d => d.parameters.length) = some 0 := by decide +kernel
theorem ed_X9_evenest : yX9_evenest.cls ≠ "java/lang/invoke/MethodHandle" ∧ yX9_evenest.cls ≠ "java/lang/invoke/VarHandle" ∧ (parseMethodDescriptor yX9_evenest.desc).map (fun d => d.parameters.length) = some 2 := by decide +kernel
theorem ed_X10_evenest : yX10_evenest.cls ≠ "java/lang/invoke/MethodHandle" ∧ yX10_evenest.cls ≠ "java/lang/invoke/VarHandle" ∧ (parseMethodDescriptor yX10_evenest.desc).map (fun d => d.parameters.length) = some 2 := by decide +kernel
theorem ed_X9_moved : yX9_moved.cls ≠ "java/lang/invoke/MethodHandle" ∧ yX9_moved.cls ≠ "java/lang/invoke/VarHandle" ∧ (parseMethodDescriptor yX9_moved.desc).map (fun d => d.parameters.length) = some 3 := by decide +kernel
theorem ed_X10_moved : yX10_moved.cls ≠ "java/lang/invoke/MethodHandle" ∧ yX10_moved.cls ≠ "java/lang/invoke/VarHandle" ∧ (parseMethodDescriptor yX10_moved.desc).map (fun d => d.parameters.length) = some 3 := by decide +kernel
theorem ed_X9_hands : yX9_hands.cls ≠ "java/lang/invoke/MethodHandle" ∧ yX9_hands.cls ≠ "java/lang/invoke/VarHandle" ∧ (parseMethodDescriptor yX9_hands.desc).map (fun d => d.parameters.length) = some 2 := by decide +kernel
theorem ed_X10_hands : yX10_hands.cls ≠ "java/lang/invoke/MethodHandle" ∧ yX10_hands.cls ≠ "java/lang/invoke/VarHandle" ∧ (parseMethodDescriptor yX10_hands.desc).map (fun d => d.parameters.length) = some 2 := by decide +kernel
theorem ed_X9_buying : yX9_buying.cls ≠ "java/lang/invoke/MethodHandle" ∧ yX9_buying.cls ≠ "java/lang/invoke/VarHandle" ∧ (parseMethodDescriptor yX9_buying.desc).map (fun d => d.parameters.length) = some 1 := by decide +kernel
theorem ed_X10_buying : yX10_buying.cls ≠ "java/lang/invoke/MethodHandle" ∧ yX10_buying.cls ≠ "java/lang/invoke/VarHandle" ∧ (parseMethodDescriptor yX10_buying.desc).map (fun d => d.parameters.length) = some 1 := by decide +kernel
theorem ed_X9_paper : yX9_paper.cls ≠ "java/lang/invoke/MethodHandle" ∧ yX9_paper.cls ≠ "java/lang/invoke/VarHandle" ∧ (parseMethodDescriptor yX9_paper.desc).map (fun d => d.parameters.length) = some 2 := by decide +kernel
theorem ed_X10_paper : yX10_paper.cls ≠ "java/lang/invoke/MethodHandle" ∧ yX10_paper.cls ≠ "java/lang/invoke/VarHandle" ∧ (parseMethodDescriptor yX10_paper.desc).map (fun d => d.parameters.length) = some 2 := by decide +kernel
theorem ed_X9_pole : yX9_pole.cls ≠ "java/lang/invoke/MethodHandle" ∧ yX9_pole.cls ≠ "java/lang/invoke/VarHandle" ∧ (parseMethodDescriptor yX9_pole.desc).map (fun d => d.parameters.length) = some 4 := by decide +kernel
theorem ed_X10_pole : yX10_pole.cls ≠ "java/lang/invoke/MethodHandle" ∧ yX10_pole.cls ≠ "java/lang/invoke/VarHandle" ∧ (parseMethodDescriptor yX10_pole.desc).map (fun d => d.parameters.length) = some 4 := by decide +kernel
theorem ed_X9_bar : yX9_bar.cls ≠ "java/lang/invoke/MethodHandle" ∧ yX9_bar.cls ≠ "java/lang/invoke/VarHandle" ∧ (parseMethodDescriptor yX9_bar.desc).map (fun d => d.parameters.length) = some 2 := by decide +kernel
theorem ed_X10_bar : yX10_bar.cls ≠ "java/lang/invoke/MethodHandle" ∧ yX10_bar.cls ≠ "java/lang/invoke/VarHandle" ∧ (parseMethodDescriptor yX10_bar.desc).map (fun d => d.parameters.length) = some 2 := by decide +kernel
theorem ed_X9_hung : yX9_hung.cls ≠ "java/lang/invoke/MethodHandle" ∧ yX9_hung.cls ≠ "java/lang/invoke/VarHandle" ∧ (parseMethodDescriptor yX9_hung.desc).map (fun d => d.parameters.length) = some 2 := by decide +kernel
theorem ed_X10_hung : yX10_hung.cls ≠ "java/lang/invoke/MethodHandle" ∧ yX10_hung.cls ≠ "java/lang/invoke/VarHandle" ∧ (parseMethodDescriptor yX10_hung.desc).map (fun d => d.parameters.length) = some 2 := by decide +kernel
theorem ed_X9_image : yX9_image.cls ≠ "java/lang/invoke/MethodHandle" ∧ yX9_image.cls ≠ "java/lang/invoke/VarHandle" ∧ (parseMethodDescriptor yX9_image.desc).map (fun d => d.parameters.length) = some 0 := by decide +kernel
theorem ed_X10_image : yX10_image.cls ≠ "java/lang/invoke/MethodHandle" ∧ yX10_image.cls ≠ "java/lang/invoke/VarHandle" ∧ (parseMethodDescriptor yX10_image.desc).map (fun d => d.parameters.length) = some 0 := by decide +kernel
theorem ed_X9_restore : yX9_restore.cls ≠ "java/lang/invoke/MethodHandle" ∧ yX9_restore.cls ≠ "java/lang/invoke/VarHandle" ∧ (parseMethodDescriptor yX9_restore.desc).map (fun d => d.parameters.length) = some 0 := by decide +kernel
theorem ed_X10_restore : yX10_restore.cls ≠ "java/lang/invoke/MethodHandle" ∧ yX10_restore.cls ≠ "java/lang/invoke/VarHandle" ∧ (parseMethodDescriptor yX10_restore.desc).map (fun d => d.parameters.length) = some 0 := by decide +kernel
theorem ed_X9_tray : yX9_tray.cls ≠ "java/lang/invoke/MethodHandle" ∧ yX9_tray.cls ≠ "java/lang/invoke/VarHandle" ∧ (parseMethodDescriptor yX9_tray.desc).map (fun d => d.parameters.length) = some 5 := by decide +kernel
theorem ed_X10_tray : yX10_tray.cls ≠ "java/lang/invoke/MethodHandle" ∧ yX10_tray.cls ≠ "java/lang/invoke/VarHandle" ∧ (parseMethodDescriptor yX10_tray.desc).map (fun d => d.parameters.length) = some 5 := by decide +kernel
theorem ed_X9_pulled : yX9_pulled.cls ≠ "java/lang/invoke/MethodHandle" ∧ yX9_pulled.cls ≠ "java/lang/invoke/VarHandle" ∧ (parseMethodDescriptor yX9_pulled.desc).map (fun d => d.parameters.length) = some 4 := by decide +kernel
theorem ed_X10_pulled : yX10_pulled.cls ≠ "java/lang/invoke/MethodHandle" ∧ yX10_pulled.cls ≠ "java/lang/invoke/VarHandle" ∧ (parseMethodDescriptor yX10_pulled.desc).map (fun d => d.parameters.length) = some 4 := by decide +kernel
theorem ed_X9_film : yX9_film.cls ≠ "java/lang/invoke/MethodHandle" ∧ yX9_film.cls ≠ "java/lang/invoke/VarHandle" ∧ (parseMethodDescriptor yX9_film.desc).map (fun d => d.parameters.length) = some 3 := by decide +kernel
theorem ed_X10_film : yX10_film.cls ≠ "java/lang/invoke/MethodHandle" ∧ yX10_film.cls ≠ "java/lang/invoke/VarHandle" ∧ (parseMethodDescriptor yX10_film.desc).map (fun d => d.parameters.length) = some 3 := by decide +kernel
theorem ed_X9_lay : yX9_lay.cls ≠ "java/lang/invoke/MethodHandle" ∧ yX9_lay.cls ≠ "java/lang/invoke/VarHandle" ∧ (parseMethodDescriptor yX9_lay.desc).map (fun d => d.parameters.length) = some 3 := by decide +kernel
theorem ed_X10_lay : yX10_lay.cls ≠ "java/lang/invoke/MethodHandle" ∧ yX10_lay.cls ≠ "java/lang/invoke/VarHandle" ∧ (parseMethodDescriptor yX10_lay.desc).map (fun d => d.parameters.length) = some 3 := by decide +kernel
theorem ed_X9_sheet : yX9_sheet.cls ≠ "java/lang/invoke/MethodHandle" ∧ yX9_sheet.cls ≠ "java/lang/invoke/VarHandle" ∧ (parseMethodDescriptor yX9_sheet.desc).map (fun d => d.parameters.length) = some 3 := by decide +kernel
theorem ed_X10_sheet : yX10_sheet.cls ≠ "java/lang/invoke/MethodHandle" ∧ yX10_sheet.cls ≠ "java/lang/invoke/VarHandle" ∧ (parseMethodDescriptor yX10_sheet.desc).map (fun d => d.parameters.length) = some 3 := by decide +kernel
theorem ed_X9_drop : yX9_drop.cls ≠ "java/lang/invoke/MethodHandle" ∧ yX9_drop.cls ≠ "java/lang/invoke/VarHandle" ∧ (parseMethodDescriptor yX9_drop.desc).map (fun d => d.parameters.length) = some 1 := by decide +kernel
theorem ed_X10_drop : yX10_drop.cls ≠ "java/lang/invoke/MethodHandle" ∧ yX10_drop.cls ≠ "java/lang/invoke/VarHandle" ∧ (parseMethodDescriptor yX10_drop.desc).map (fun d => d.parameters.length) = some 1 := by decide +kernel
theorem ed_X9_item : yX9_item.cls ≠ "java/lang/invoke/MethodHandle" ∧ yX9_item.cls ≠ "java/lang/invoke/VarHandle" ∧ (parseMethodDescriptor yX9_item.desc).map (fun d => d.parameters.length) = some 4 := by decide +kernel
theorem ed_X10_item : yX10_item.cls ≠ "java/lang/invoke/MethodHandle" ∧ yX10_item.cls ≠ "java/lang/invoke/VarHandle" ∧ (parseMethodDescriptor yX10_item.desc).map (fun d => d.parameters.length) = some 4 := by decide +kernel
theorem ed_X9_copy : yX9_copy.cls ≠ "java/lang/invoke/MethodHandle" ∧ yX9_copy.cls ≠ "java/lang/invoke/VarHandle" ∧ (parseMethodDescriptor yX9_copy.desc).map (fun d => d.parameters.length) = some 5 := by decide +kernel
theorem ed_X10_copy : yX10_copy.cls ≠ "java/lang/invoke/MethodHandle" ∧ yX10_copy.cls ≠ "java/lang/invoke/VarHandle" ∧ (parseMethodDescriptor yX10_copy.desc).map (fun d => d.parameters.length) = some 5 := by decide +kernel
