/-! ===== pure: the first state ===== -/
def zA (i j : Nat) : Nat := if i = 9 then 999 else if i = 11 then (if j = 0 then 2 else 3) else 0
theorem z_X9 : X9 zA 0 zs6 := by
  refine ⟨z_M9, ?_, by decide +kernel⟩
  unfold MX9
  repeat' (first | refine And.intro ?_ ?_ | decide +kernel)
theorem z_MD : MD zA zs6 := by
  unfold MD
  repeat' (first | refine And.intro ?_ ?_ | decide +kernel)
theorem z_wf : wf zA := ⟨by decide, fun t h => absurd h (Nat.not_lt_zero t), by decide, fun t h => absurd h (Nat.not_lt_zero t), by decide, by decide, by decide, fun t h => absurd h (Nat.not_lt_zero t), by decide, fun t h => absurd h (Nat.not_lt_zero t)⟩
theorem z_XT : XT 0 (fun _ => 0) zs6 := ⟨z_T, by decide +kernel, fun j hj => by omega⟩
theorem z_XS0 : XS0 zA 0 zs6 := ⟨z_S0, by unfold LZ; decide +kernel, -1, by decide, by decide, by decide +kernel, fun z => absurd z (by decide)⟩
theorem z_XS4 : XS4 zA 0 zs6 := ⟨z_S4, by unfold LZ; decide +kernel, -1, by decide, by decide, by decide +kernel, fun z => absurd z (by decide)⟩
theorem z_XS5 : XS5 zA 0 zs6 := ⟨z_S5, by unfold LZ; decide +kernel, -1, by decide, by decide, by decide +kernel, fun z => absurd z (by decide)⟩
theorem z_XE : XE zA 0 zs6 := ⟨z_E, by rw [z_N6]; decide, ⟨77, by decide +kernel, Or.inl rfl, by decide +kernel, by decide +kernel⟩, -1, by decide, by decide, by decide +kernel, fun z => absurd z (by decide)⟩
theorem z_XH : XH (fun _ => 0) (fun _ => 0) (fun _ _ => 0) zs6 := ⟨z_H, fun s hs => ⟨(by decide +kernel : ∀ s, s < 4 → eb_I zs6 (82 + 2 * s) 0 = nI 0 - 1) s hs, fun z => absurd rfl z⟩⟩
theorem z_DH : DH (fun _ => 0) (fun _ => 0) (fun _ _ => 0) zs6 := fun s hs => ⟨(by decide +kernel : ∀ s, s < 4 → eb_I zs6 115 s = nI 0 - 1) s hs, fun z => absurd rfl z⟩
theorem z_CX : CX zA 0 false zA 0 (fun _ => 0) (fun _ => 0) (fun _ => 0) (fun _ _ => 0) zs6 := ⟨z_B, z_X9, ⟨z_M25, by decide +kernel, fun z => by cases z⟩, z_M41, z_XT, z_XS0, z_XS4, z_XS5, z_XE, z_G, z_XH⟩
theorem z_CD : CD zA false zA 0 (fun _ => 0) (fun _ => 0) (fun _ => 0) (fun _ _ => 0) zs6 := ⟨z_D, z_MD, ⟨by decide +kernel, fun z => by cases z⟩, ⟨by decide +kernel, fun j hj => by omega⟩, z_DH⟩
theorem z_INV : INV 0 zs6 := mkI (by decide) z_wf (fun z => by cases z) ⟨by decide, fun j hj => by omega⟩ (fun s hs => ⟨by decide, by decide⟩) z_CX z_CD
theorem law_begin {L : Nat} {xs : Nat → Int32} : f_L_law 100000 L xs eb_s0 = f_L_law_L 100000 L xs 8 91 66 (nI (6 * 0)) zs6 := by
  have e3 : f_X9_init 8 zs2 = some ((), zs3) := by
    have := (Option.some_get zo3_s).symm
    rw [show f_X9_init 8 zs2 = zo3 from rfl, this]; rfl
  have e6 : f_X10_init 100000 91 zs5 = some ((), zs6) := by
    have := (Option.some_get zo6_s).symm
    rw [show f_X10_init 100000 91 zs5 = zo6 from rfl, this]; rfl
  have n0 : eb_N eb_s0 + 8 = 8 := rfl
  have n3 : eb_N zs3 + 8 = 91 := by rw [z_N3]
  unfold f_L_law
  rw [eb_no, n0, show eb_new eb_s0 8 12 = zs2 from rfl, e3, eb_cl_s, eb_no, n3, show eb_new zs3 9 43 = zs5 from rfl, e6, eb_cl_s]
  rfl
theorem law_pure (L : Nat) (xs : Nat → Int32) (hL : L ≤ 384) : ∃ (n : Nat) (σ : eb_S), f_L_law n L xs eb_s0 = some (true, σ) := by
  obtain ⟨σ, e⟩ := law_loop (xs := xs) hL 66 0 zs6 rfl (by decide) z_INV
  exact ⟨100000, σ, by rw [law_begin]; exact e⟩
