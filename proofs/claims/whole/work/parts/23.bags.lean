def f_X9_init (v0 : Nat) (s : eb_S) : Option (Unit × eb_S) := eb_no s 3 20 fun r1 s2 => eb_cl (f_X3_init r1 s2) fun _u s3 => eb_pR s3 [8] v0 0 r1 fun s4 => eb_no s4 3 20 fun r5 s6 => eb_cl (f_X3_init r5 s6) fun _u s7 => eb_pR s7 [8] v0 1 r5 fun s8 => eb_no s8 3 20 fun r9 s10 => eb_cl (f_X3_init r9 s10) fun _u s11 => eb_pR s11 [8] v0 2 r9 fun s12 => eb_no s12 7 3 fun r13 s14 => eb_cl (f_X8_init r13 s14) fun _u s15 => eb_pR s15 [8] v0 3 r13 fun s16 => eb_no s16 0 11 fun r17 s18 => eb_gR s18 [8] v0 0 fun r19 => eb_cl (f_X0_init r17 r19 s18) fun _u s20 => eb_pR s20 [8] v0 4 r17 fun s21 => eb_no s21 4 11 fun r22 s23 => eb_gR s23 [8] v0 0 fun r24 => eb_cl (f_X4_init r22 r24 s23) fun _u s25 => eb_pR s25 [8] v0 5 r22 fun s26 => eb_no s26 5 9 fun r27 s28 => eb_gR s28 [8] v0 0 fun r29 => eb_cl (f_X5_init r27 r29 s28) fun _u s30 => eb_pR s30 [8] v0 6 r27 fun s31 => eb_no s31 1 5 fun r32 s33 => eb_gR s33 [8] v0 0 fun r34 => eb_cl (f_X1_init r32 r34 s33) fun _u s35 => eb_pR s35 [8] v0 7 r32 fun s36 => eb_no s36 2 4 fun r37 s38 => eb_gR s38 [8] v0 0 fun r39 => eb_cl (f_X2_init r37 r39 s38) fun _u s40 => eb_pR s40 [8] v0 8 r37 fun s41 => eb_na s41 13 4 4 fun r42 s43 => eb_no s43 6 3 fun r44 s45 => eb_cl (f_X7_init r44 s45) fun _u s46 => eb_wr s46 r42 0 r44 fun s47 => eb_no s47 6 3 fun r48 s49 => eb_cl (f_X7_init r48 s49) fun _u s50 => eb_wr s50 r42 1 r48 fun s51 => eb_no s51 6 3 fun r52 s53 => eb_cl (f_X7_init r52 s53) fun _u s54 => eb_wr s54 r42 2 r52 fun s55 => eb_no s55 6 3 fun r56 s57 => eb_cl (f_X7_init r56 s57) fun _u s58 => eb_wr s58 r42 3 r56 fun s59 => eb_pR s59 [8] v0 9 r42 fun s60 => eb_na s60 11 5 5 fun r61 s62 => eb_pR s62 [8] v0 10 r61 fun s63 => eb_pZ s63 [8] v0 11 0 fun s64 => some ((), s64)
set_option maxRecDepth 100000 in
theorem ct_X9_init {G : eb_G} (hG : eb_ok G) (v0 : Nat) (s : eb_S) : eb_ct G yX9_init cX9_init 1 none 3 82 1129 eb_ev [.ref v0] s (f_X9_init v0 s) := by
  refine eb_ct_v (by decide) (Nat.le_of_ble_eq_true rfl) (fun v hv => by simp at hv; rcases hv with rfl <;> simp [Value.category]) ?_
  show eb_go G yX9_init cX9_init 1 none (3) 82 1129 .return_ (fun _ : Unit => []) 0 [(0, .ref v0)] [] s 0 0 _
  unfold f_X9_init
  refine eb_aload_n (pc := 0) 0 dX9_init_0 rfl rfl ?_
  refine eb_obj (pc := 1) ew_424 ew_59 ew_60 (by decide) (Nat.le_of_ble_eq_true rfl) dX9_init_1 ?_
  refine eb_aload_n (pc := 4) 0 dX9_init_4 rfl rfl ?_
  refine eb_newo (pc := 5) (ci := 3) (q := (RX3, TX3, 20)) rfl rfl eb_inX3 ew_422 ew_423 ew_68 dX9_init_5 (by decide) (by decide) (fun r1 s2 => ?_)
  refine eb_dup (pc := 8) dX9_init_8 rfl ?_
  refine eb_callv (pc := 9) (eb_runIN (pc := 9) (As := []) (rest := [.ref r1, .ref v0]) (host := RX9) (by decide +kernel) ew_375 ew_68 rfl ed_X3_init (ct_X3_init hG _ _) ew_376 ⟨by decide, by decide⟩ (by decide) (by decide) (Nat.le_of_ble_eq_true rfl) rfl dX9_init_9) (fun _u s3 => ?_)
  refine eb_putR (pc := 12) ef_RX9_10 eg_RX9_10 (fun _ => ⟨rfl, rfl⟩) dX9_init_12 (fun s4 => ?_)
  refine eb_aload_n (pc := 15) 0 dX9_init_15 rfl rfl ?_
  refine eb_newo (pc := 16) (ci := 3) (q := (RX3, TX3, 20)) rfl rfl eb_inX3 ew_422 ew_423 ew_68 dX9_init_16 (by decide) (by decide) (fun r5 s6 => ?_)
  refine eb_dup (pc := 19) dX9_init_19 rfl ?_
  refine eb_callv (pc := 20) (eb_runIN (pc := 20) (As := []) (rest := [.ref r5, .ref v0]) (host := RX9) (by decide +kernel) ew_375 ew_68 rfl ed_X3_init (ct_X3_init hG _ _) ew_376 ⟨by decide, by decide⟩ (by decide) (by decide) (Nat.le_of_ble_eq_true rfl) rfl dX9_init_20) (fun _u s7 => ?_)
  refine eb_putR (pc := 23) ef_RX9_16 eg_RX9_16 (fun _ => ⟨rfl, rfl⟩) dX9_init_23 (fun s8 => ?_)
  refine eb_aload_n (pc := 26) 0 dX9_init_26 rfl rfl ?_
  refine eb_newo (pc := 27) (ci := 3) (q := (RX3, TX3, 20)) rfl rfl eb_inX3 ew_422 ew_423 ew_68 dX9_init_27 (by decide) (by decide) (fun r9 s10 => ?_)
  refine eb_dup (pc := 30) dX9_init_30 rfl ?_
  refine eb_callv (pc := 31) (eb_runIN (pc := 31) (As := []) (rest := [.ref r9, .ref v0]) (host := RX9) (by decide +kernel) ew_375 ew_68 rfl ed_X3_init (ct_X3_init hG _ _) ew_376 ⟨by decide, by decide⟩ (by decide) (by decide) (Nat.le_of_ble_eq_true rfl) rfl dX9_init_31) (fun _u s11 => ?_)
  refine eb_putR (pc := 34) ef_RX9_19 eg_RX9_19 (fun _ => ⟨rfl, rfl⟩) dX9_init_34 (fun s12 => ?_)
  refine eb_aload_n (pc := 37) 0 dX9_init_37 rfl rfl ?_
  refine eb_newo (pc := 38) (ci := 7) (q := (RX8, TX8, 3)) rfl rfl eb_inX8 ew_420 ew_421 ew_372 dX9_init_38 (by decide) (by decide) (fun r13 s14 => ?_)
  refine eb_dup (pc := 41) dX9_init_41 rfl ?_
  refine eb_callv (pc := 42) (eb_runIN (pc := 42) (As := []) (rest := [.ref r13, .ref v0]) (host := RX9) (by decide +kernel) ew_380 ew_372 rfl ed_X8_init (ct_X8_init hG _ _) ew_381 ⟨by decide, by decide⟩ (by decide) (by decide) (Nat.le_of_ble_eq_true rfl) rfl dX9_init_42) (fun _u s15 => ?_)
  refine eb_putR (pc := 45) ef_RX9_25 eg_RX9_25 (fun _ => ⟨rfl, rfl⟩) dX9_init_45 (fun s16 => ?_)
  refine eb_aload_n (pc := 48) 0 dX9_init_48 rfl rfl ?_
  refine eb_newo (pc := 49) (ci := 0) (q := (RX0, TX0, 11)) rfl rfl eb_inX0 ew_418 ew_419 ew_225 dX9_init_49 (by decide) (by decide) (fun r17 s18 => ?_)
  refine eb_dup (pc := 52) dX9_init_52 rfl ?_
  refine eb_aload_n (pc := 53) 0 dX9_init_53 rfl rfl ?_
  refine eb_getR (pc := 54) ef_RX9_10 dX9_init_54 (fun r19 => ?_)
  refine eb_callv (pc := 57) (eb_runI (pc := 57) (As := [.ref r19]) (rest := [.ref r17, .ref v0]) ew_383 ew_384 ew_225 rfl ed_X0_init (ct_X0_init hG _ _ _) ew_385 ⟨by decide, by decide⟩ (by decide) (by decide) (Nat.le_of_ble_eq_true rfl) rfl dX9_init_57) (fun _u s20 => ?_)
  refine eb_putR (pc := 60) ef_RX9_34 eg_RX9_34 (fun _ => ⟨rfl, rfl⟩) dX9_init_60 (fun s21 => ?_)
  refine eb_aload_n (pc := 63) 0 dX9_init_63 rfl rfl ?_
  refine eb_newo (pc := 64) (ci := 4) (q := (RX4, TX4, 11)) rfl rfl eb_inX4 ew_416 ew_417 ew_229 dX9_init_64 (by decide) (by decide) (fun r22 s23 => ?_)
  refine eb_dup (pc := 67) dX9_init_67 rfl ?_
  refine eb_aload_n (pc := 68) 0 dX9_init_68 rfl rfl ?_
  refine eb_getR (pc := 69) ef_RX9_10 dX9_init_69 (fun r24 => ?_)
  refine eb_callv (pc := 72) (eb_runI (pc := 72) (As := [.ref r24]) (rest := [.ref r22, .ref v0]) ew_387 ew_388 ew_229 rfl ed_X4_init (ct_X4_init hG _ _ _) ew_389 ⟨by decide, by decide⟩ (by decide) (by decide) (Nat.le_of_ble_eq_true rfl) rfl dX9_init_72) (fun _u s25 => ?_)
  refine eb_putR (pc := 75) ef_RX9_41 eg_RX9_41 (fun _ => ⟨rfl, rfl⟩) dX9_init_75 (fun s26 => ?_)
  refine eb_aload_n (pc := 78) 0 dX9_init_78 rfl rfl ?_
  refine eb_newo (pc := 79) (ci := 5) (q := (RX5, TX5, 9)) rfl rfl eb_inX5 ew_414 ew_415 ew_233 dX9_init_79 (by decide) (by decide) (fun r27 s28 => ?_)
  refine eb_dup (pc := 82) dX9_init_82 rfl ?_
  refine eb_aload_n (pc := 83) 0 dX9_init_83 rfl rfl ?_
  refine eb_getR (pc := 84) ef_RX9_10 dX9_init_84 (fun r29 => ?_)
  refine eb_callv (pc := 87) (eb_runI (pc := 87) (As := [.ref r29]) (rest := [.ref r27, .ref v0]) ew_391 ew_392 ew_233 rfl ed_X5_init (ct_X5_init hG _ _ _) ew_393 ⟨by decide, by decide⟩ (by decide) (by decide) (Nat.le_of_ble_eq_true rfl) rfl dX9_init_87) (fun _u s30 => ?_)
  refine eb_putR (pc := 90) ef_RX9_48 eg_RX9_48 (fun _ => ⟨rfl, rfl⟩) dX9_init_90 (fun s31 => ?_)
  refine eb_aload_n (pc := 93) 0 dX9_init_93 rfl rfl ?_
  refine eb_newo (pc := 94) (ci := 1) (q := (RX1, TX1, 5)) rfl rfl eb_inX1 ew_412 ew_413 ew_311 dX9_init_94 (by decide) (by decide) (fun r32 s33 => ?_)
  refine eb_dup (pc := 97) dX9_init_97 rfl ?_
  refine eb_aload_n (pc := 98) 0 dX9_init_98 rfl rfl ?_
  refine eb_getR (pc := 99) ef_RX9_10 dX9_init_99 (fun r34 => ?_)
  refine eb_callv (pc := 102) (eb_runI (pc := 102) (As := [.ref r34]) (rest := [.ref r32, .ref v0]) ew_395 ew_396 ew_311 rfl ed_X1_init (ct_X1_init hG _ _ _) ew_397 ⟨by decide, by decide⟩ (by decide) (by decide) (Nat.le_of_ble_eq_true rfl) rfl dX9_init_102) (fun _u s35 => ?_)
  refine eb_putR (pc := 105) ef_RX9_55 eg_RX9_55 (fun _ => ⟨rfl, rfl⟩) dX9_init_105 (fun s36 => ?_)
  refine eb_aload_n (pc := 108) 0 dX9_init_108 rfl rfl ?_
  refine eb_newo (pc := 109) (ci := 2) (q := (RX2, TX2, 4)) rfl rfl eb_inX2 ew_410 ew_411 ew_349 dX9_init_109 (by decide) (by decide) (fun r37 s38 => ?_)
  refine eb_dup (pc := 112) dX9_init_112 rfl ?_
  refine eb_aload_n (pc := 113) 0 dX9_init_113 rfl rfl ?_
  refine eb_getR (pc := 114) ef_RX9_10 dX9_init_114 (fun r39 => ?_)
  refine eb_callv (pc := 117) (eb_runI (pc := 117) (As := [.ref r39]) (rest := [.ref r37, .ref v0]) ew_399 ew_400 ew_349 rfl ed_X2_init (ct_X2_init hG _ _ _) ew_401 ⟨by decide, by decide⟩ (by decide) (by decide) (Nat.le_of_ble_eq_true rfl) rfl dX9_init_117) (fun _u s40 => ?_)
  refine eb_putR (pc := 120) ef_RX9_62 eg_RX9_62 (fun _ => ⟨rfl, rfl⟩) dX9_init_120 (fun s41 => ?_)
  refine eb_aload_n (pc := 123) 0 dX9_init_123 rfl rfl ?_
  refine eb_iconst (pc := 124) (v := 4) dX9_init_124 (by decide) ?_
  refine eb_newq (pc := 125) ew_408 dX9_init_125 (by decide) (by decide) (by decide) (fun r42 s43 => ?_)
  refine eb_dup (pc := 128) dX9_init_128 rfl ?_
  refine eb_iconst (pc := 129) (v := 0) dX9_init_129 (by decide) ?_
  refine eb_newo (pc := 130) (ci := 6) (q := (RX7, TX7, 3)) rfl rfl eb_inX7 ew_408 ew_409 ew_362 dX9_init_130 (by decide) (by decide) (fun r44 s45 => ?_)
  refine eb_dup (pc := 133) dX9_init_133 rfl ?_
  refine eb_callv (pc := 134) (eb_runIN (pc := 134) (As := []) (rest := [.ref r44, .int 0, .ref r42, .ref r42, .ref v0]) (host := RX9) (by decide +kernel) ew_403 ew_362 rfl ed_X7_init (ct_X7_init hG _ _) ew_404 ⟨by decide, by decide⟩ (by decide) (by decide) (Nat.le_of_ble_eq_true rfl) rfl dX9_init_134) (fun _u s46 => ?_)
  refine eb_aastore (pc := 137) dX9_init_137 (fun s47 => ?_)
  refine eb_dup (pc := 138) dX9_init_138 rfl ?_
  refine eb_iconst (pc := 139) (v := 1) dX9_init_139 (by decide) ?_
  refine eb_newo (pc := 140) (ci := 6) (q := (RX7, TX7, 3)) rfl rfl eb_inX7 ew_408 ew_409 ew_362 dX9_init_140 (by decide) (by decide) (fun r48 s49 => ?_)
  refine eb_dup (pc := 143) dX9_init_143 rfl ?_
  refine eb_callv (pc := 144) (eb_runIN (pc := 144) (As := []) (rest := [.ref r48, .int 1, .ref r42, .ref r42, .ref v0]) (host := RX9) (by decide +kernel) ew_403 ew_362 rfl ed_X7_init (ct_X7_init hG _ _) ew_404 ⟨by decide, by decide⟩ (by decide) (by decide) (Nat.le_of_ble_eq_true rfl) rfl dX9_init_144) (fun _u s50 => ?_)
  refine eb_aastore (pc := 147) dX9_init_147 (fun s51 => ?_)
  refine eb_dup (pc := 148) dX9_init_148 rfl ?_
  refine eb_iconst (pc := 149) (v := 2) dX9_init_149 (by decide) ?_
  refine eb_newo (pc := 150) (ci := 6) (q := (RX7, TX7, 3)) rfl rfl eb_inX7 ew_408 ew_409 ew_362 dX9_init_150 (by decide) (by decide) (fun r52 s53 => ?_)
  refine eb_dup (pc := 153) dX9_init_153 rfl ?_
  refine eb_callv (pc := 154) (eb_runIN (pc := 154) (As := []) (rest := [.ref r52, .int 2, .ref r42, .ref r42, .ref v0]) (host := RX9) (by decide +kernel) ew_403 ew_362 rfl ed_X7_init (ct_X7_init hG _ _) ew_404 ⟨by decide, by decide⟩ (by decide) (by decide) (Nat.le_of_ble_eq_true rfl) rfl dX9_init_154) (fun _u s54 => ?_)
  refine eb_aastore (pc := 157) dX9_init_157 (fun s55 => ?_)
  refine eb_dup (pc := 158) dX9_init_158 rfl ?_
  refine eb_iconst (pc := 159) (v := 3) dX9_init_159 (by decide) ?_
  refine eb_newo (pc := 160) (ci := 6) (q := (RX7, TX7, 3)) rfl rfl eb_inX7 ew_408 ew_409 ew_362 dX9_init_160 (by decide) (by decide) (fun r56 s57 => ?_)
  refine eb_dup (pc := 163) dX9_init_163 rfl ?_
  refine eb_callv (pc := 164) (eb_runIN (pc := 164) (As := []) (rest := [.ref r56, .int 3, .ref r42, .ref r42, .ref v0]) (host := RX9) (by decide +kernel) ew_403 ew_362 rfl ed_X7_init (ct_X7_init hG _ _) ew_404 ⟨by decide, by decide⟩ (by decide) (by decide) (Nat.le_of_ble_eq_true rfl) rfl dX9_init_164) (fun _u s58 => ?_)
  refine eb_aastore (pc := 167) dX9_init_167 (fun s59 => ?_)
  refine eb_putR (pc := 168) ef_RX9_69 eg_RX9_69 (fun _ => ⟨rfl, rfl⟩) dX9_init_168 (fun s60 => ?_)
  refine eb_aload_n (pc := 171) 0 dX9_init_171 rfl rfl ?_
  refine eb_iconst (pc := 172) (v := 5) dX9_init_172 (by decide) ?_
  refine eb_newi (pc := 173) ew_57 dX9_init_173 (by decide) (by decide) (by decide) (fun r61 s62 => ?_)
  refine eb_putR (pc := 175) ef_RX9_73 eg_RX9_73 (fun _ => ⟨rfl, rfl⟩) dX9_init_175 (fun s63 => ?_)
  refine eb_aload_n (pc := 178) 0 dX9_init_178 rfl rfl ?_
  refine eb_iconst (pc := 179) (v := 0) dX9_init_179 (by decide) ?_
  refine eb_putZ (pc := 180) ef_RX9_77 eg_RX9_77 dX9_init_180 (fun s64 => ?_)
  exact eb_vret (pc := 183) dX9_init_183 (by decide) (by decide)

def f_X9_within (v0 : Int32) (v1 : Int32) (v2 : Int32) (s : eb_S) : Option (Bool × eb_S) := if v0 < v1 then (some (false, s)) else (if v2 < v0 then (some (false, s)) else (some (true, s)))
set_option maxRecDepth 100000 in
theorem ct_X9_within {G : eb_G} (hG : eb_ok G) (v0 : Int32) (v1 : Int32) (v2 : Int32) (s : eb_S) : eb_ct G yX9_within cX9_within 3 (some .boolean) 1 0 0 eb_eb [.int v0, .int v1, .int v2] s (f_X9_within v0 v1 v2 s) := by
  refine eb_ct_b (by decide) (Nat.le_of_ble_eq_true rfl) (fun v hv => by simp at hv; rcases hv with rfl | rfl | rfl <;> simp [Value.category]) ?_
  show eb_go G yX9_within cX9_within 3 (some .boolean) (1) 0 0 .ireturn (fun r : Bool => [.int (eb_b r)]) 0 [(0, .int v0), (1, .int v1), (2, .int v2)] [] s 0 0 _
  unfold f_X9_within
  refine eb_iload_n (pc := 0) 0 dX9_within_0 rfl rfl ?_
  refine eb_iload_n (pc := 1) 1 dX9_within_1 rfl rfl ?_
  refine eb_icmp_lt (pc := 2) (tgt := 14) dX9_within_2 (by decide) ?_ ?_
  · refine eb_iconst (pc := 14) (v := 0) dX9_within_14 (by decide) ?_
    exact eb_bret (pc := 15) (b := false) dX9_within_15 (by decide) (by decide)
  · refine eb_iload_n (pc := 5) 0 dX9_within_5 rfl rfl ?_
    refine eb_iload_n (pc := 6) 2 dX9_within_6 rfl rfl ?_
    refine eb_icmp_gt (pc := 7) (tgt := 14) dX9_within_7 (by decide) ?_ ?_
    · refine eb_iconst (pc := 14) (v := 0) dX9_within_14 (by decide) ?_
      exact eb_bret (pc := 15) (b := false) dX9_within_15 (by decide) (by decide)
    · refine eb_iconst (pc := 10) (v := 1) dX9_within_10 (by decide) ?_
      refine eb_goto (pc := 11) (tgt := 15) dX9_within_11 (by decide) ?_
      exact eb_bret (pc := 15) (b := true) dX9_within_15 (by decide) (by decide)

def f_X9_thing (v0 : Nat) (v1 : Int32) (v2 : Int32) (s : eb_S) : Option (Int32 × eb_S) := eb_cl (f_X9_within v1 0 3 s) fun b2 s1 => if (eb_b b2) = 0 then (some ((-1), s1)) else (eb_cl (f_X9_within v2 1 99 s1) fun b4 s3 => if (eb_b b4) = 0 then (some ((-1), s3)) else (eb_gR s3 [8] v0 0 fun r5 => eb_gI s3 [3] r5 1 fun x6 => if 10 ≤ x6 then (some ((-3), s3)) else (eb_gR s3 [8] v0 0 fun r7 => eb_cl (eb_tg s3 r7 3 (f_X3_addThing r7 v1 v2 5 s3)) fun x9 s8 => some (x9, s8))))
set_option maxRecDepth 100000 in
theorem ct_X9_thing {G : eb_G} (hG : eb_ok G) (v0 : Nat) (v1 : Int32) (v2 : Int32) (s : eb_S) : eb_ct G yX9_thing cX9_thing 3 (some .int) 2 0 0 eb_ei [.ref v0, .int v1, .int v2] s (f_X9_thing v0 v1 v2 s) := by
  refine eb_ct_i (by decide) (Nat.le_of_ble_eq_true rfl) (fun v hv => by simp at hv; rcases hv with rfl | rfl | rfl <;> simp [Value.category]) ?_
  show eb_go G yX9_thing cX9_thing 3 (some .int) (2) 0 0 .ireturn (fun r : Int32 => [.int r]) 0 [(0, .ref v0), (1, .int v1), (2, .int v2)] [] s 0 0 _
  unfold f_X9_thing
  refine eb_iload_n (pc := 0) 1 dX9_thing_0 rfl rfl ?_
  refine eb_iconst (pc := 1) (v := 0) dX9_thing_1 (by decide) ?_
  refine eb_iconst (pc := 2) (v := 3) dX9_thing_2 (by decide) ?_
  refine eb_callb (pc := 3) (eb_runS (pc := 3) (As := [.int v1, .int 0, .int 3]) (rest := []) ew_425 ew_426 ew_427 rfl ed_X9_within (ct_X9_within hG _ _ _ _) ew_428 ⟨by decide, by decide⟩ (by decide) (by decide) (Nat.le_of_ble_eq_true rfl) rfl dX9_thing_3) (fun b2 s1 => ?_)
  refine eb_if_eq (pc := 6) (tgt := 19) dX9_thing_6 (by decide) ?_ ?_
  · refine eb_iconst (pc := 19) (v := (-1)) dX9_thing_19 (by decide) ?_
    exact eb_iret (pc := 20) dX9_thing_20 (by decide) (by decide)
  · refine eb_iload_n (pc := 9) 2 dX9_thing_9 rfl rfl ?_
    refine eb_iconst (pc := 10) (v := 1) dX9_thing_10 (by decide) ?_
    refine eb_bipush (pc := 11) (v := 99) dX9_thing_11 (by decide) ?_
    refine eb_callb (pc := 13) (eb_runS (pc := 13) (As := [.int v2, .int 1, .int 99]) (rest := []) ew_425 ew_426 ew_427 rfl ed_X9_within (ct_X9_within hG _ _ _ _) ew_428 ⟨by decide, by decide⟩ (by decide) (by decide) (Nat.le_of_ble_eq_true rfl) rfl dX9_thing_13) (fun b4 s3 => ?_)
    refine eb_if_ne (pc := 16) (tgt := 21) dX9_thing_16 (by decide) ?_ ?_
    · refine eb_aload_n (pc := 21) 0 dX9_thing_21 rfl rfl ?_
      refine eb_getR (pc := 22) ef_RX9_10 dX9_thing_22 (fun r5 => ?_)
      refine eb_getI (pc := 25) ef_RX9_85 dX9_thing_25 (fun x6 => ?_)
      refine eb_bipush (pc := 28) (v := 10) dX9_thing_28 (by decide) ?_
      refine eb_icmp_ge (pc := 30) (tgt := 46) dX9_thing_30 (by decide) ?_ ?_
      · refine eb_bipush (pc := 46) (v := (-3)) dX9_thing_46 (by decide) ?_
        exact eb_iret (pc := 48) dX9_thing_48 (by decide) (by decide)
      · refine eb_aload_n (pc := 33) 0 dX9_thing_33 rfl rfl ?_
        refine eb_getR (pc := 34) ef_RX9_10 dX9_thing_34 (fun r7 => ?_)
        refine eb_iload_n (pc := 37) 1 dX9_thing_37 rfl rfl ?_
        refine eb_iload_n (pc := 38) 2 dX9_thing_38 rfl rfl ?_
        refine eb_iconst (pc := 39) (v := 5) dX9_thing_39 (by decide) ?_
        refine eb_calli (pc := 40) (eb_runV (pc := 40) (As := [.int v1, .int v2, .int 5]) (rest := []) (ci := 3) (q0 := (RX3, TX3, 20)) (q := (RX3, TX3, 20)) ew_430 ew_431 ew_432 ew_68 rfl rfl ed_X3_addThing (ct_X3_addThing hG _ _ _ _ _) rfl ew_433 ⟨by decide, by decide⟩ (by decide) (by decide) (Nat.le_of_ble_eq_true rfl) rfl dX9_thing_40) (fun x9 s8 => ?_)
        refine eb_goto (pc := 43) (tgt := 48) dX9_thing_43 (by decide) ?_
        exact eb_iret (pc := 48) dX9_thing_48 (by decide) (by decide)
    · refine eb_iconst (pc := 19) (v := (-1)) dX9_thing_19 (by decide) ?_
      exact eb_iret (pc := 20) dX9_thing_20 (by decide) (by decide)

def f_X9_isThing (v0 : Nat) (v1 : Int32) (s : eb_S) : Option (Bool × eb_S) := eb_gR s [8] v0 0 fun r1 => eb_gI s [3] r1 1 fun x2 => eb_cl (f_X9_within v1 0 (x2 - 1) s) fun b4 s3 => some (b4, s3)
set_option maxRecDepth 100000 in
theorem ct_X9_isThing {G : eb_G} (hG : eb_ok G) (v0 : Nat) (v1 : Int32) (s : eb_S) : eb_ct G yX9_isThing cX9_isThing 2 (some .boolean) 2 0 0 eb_eb [.ref v0, .int v1] s (f_X9_isThing v0 v1 s) := by
  refine eb_ct_b (by decide) (Nat.le_of_ble_eq_true rfl) (fun v hv => by simp at hv; rcases hv with rfl | rfl <;> simp [Value.category]) ?_
  show eb_go G yX9_isThing cX9_isThing 2 (some .boolean) (2) 0 0 .ireturn (fun r : Bool => [.int (eb_b r)]) 0 [(0, .ref v0), (1, .int v1)] [] s 0 0 _
  unfold f_X9_isThing
  refine eb_iload_n (pc := 0) 1 dX9_isThing_0 rfl rfl ?_
  refine eb_iconst (pc := 1) (v := 0) dX9_isThing_1 (by decide) ?_
  refine eb_aload_n (pc := 2) 0 dX9_isThing_2 rfl rfl ?_
  refine eb_getR (pc := 3) ef_RX9_10 dX9_isThing_3 (fun r1 => ?_)
  refine eb_getI (pc := 6) ef_RX9_85 dX9_isThing_6 (fun x2 => ?_)
  refine eb_iconst (pc := 9) (v := 1) dX9_isThing_9 (by decide) ?_
  refine eb_isub (pc := 10) dX9_isThing_10 ?_
  refine eb_callb (pc := 11) (eb_runS (pc := 11) (As := [.int v1, .int 0, .int (x2 - 1)]) (rest := []) ew_425 ew_426 ew_427 rfl ed_X9_within (ct_X9_within hG _ _ _ _) ew_428 ⟨by decide, by decide⟩ (by decide) (by decide) (Nat.le_of_ble_eq_true rfl) rfl dX9_isThing_11) (fun b4 s3 => ?_)
  exact eb_bret (pc := 14) dX9_isThing_14 (by decide) (by decide)

def f_X9_told (n : Nat) (v0 : Nat) (v1 : Int32) (v2 : Int32) (s : eb_S) : Option (Int32 × eb_S) := eb_cl (eb_tg s v0 8 (f_X9_isThing v0 v1 s)) fun b2 s1 => if (eb_b b2) = 0 then (some ((-1), s1)) else (eb_sw v2 0 [(eb_gR s1 [8] v0 0 fun r3 => eb_gR s1 [3] r3 2 fun r4 => eb_ai s1 r4 v1 fun x5 => some (x5, s1)), (eb_gR s1 [8] v0 0 fun r6 => eb_gR s1 [3] r6 3 fun r7 => eb_ai s1 r7 v1 fun x8 => some (x8, s1)), (eb_gR s1 [8] v0 0 fun r9 => eb_gR s1 [3] r9 4 fun r10 => eb_ai s1 r10 v1 fun x11 => some (x11, s1)), (eb_gR s1 [8] v0 0 fun r12 => eb_gR s1 [3] r12 5 fun r13 => eb_ai s1 r13 v1 fun x14 => some (x14 + 50, s1)), (eb_gR s1 [8] v0 0 fun r15 => eb_gR s1 [3] r15 6 fun r16 => eb_ai s1 r16 v1 fun x17 => some (x17, s1)), (eb_gR s1 [8] v0 0 fun r18 => eb_cl (eb_tg s1 r18 3 (f_X3_hangs n r18 v1 s1)) fun b20 s19 => if (eb_b b20) = 0 then (some (0, s19)) else (some (1, s19)))] (some ((-1), s1)))
set_option maxRecDepth 100000 in
theorem ct_X9_told {G : eb_G} (hG : eb_ok G) (n : Nat) (v0 : Nat) (v1 : Int32) (v2 : Int32) (s : eb_S) : eb_ct G yX9_told cX9_told 3 (some .int) 3 0 0 eb_ei [.ref v0, .int v1, .int v2] s (f_X9_told n v0 v1 v2 s) := by
  refine eb_ct_i (by decide) (Nat.le_of_ble_eq_true rfl) (fun v hv => by simp at hv; rcases hv with rfl | rfl | rfl <;> simp [Value.category]) ?_
  show eb_go G yX9_told cX9_told 3 (some .int) (3) 0 0 .ireturn (fun r : Int32 => [.int r]) 0 [(0, .ref v0), (1, .int v1), (2, .int v2)] [] s 0 0 _
  unfold f_X9_told
  refine eb_aload_n (pc := 0) 0 dX9_told_0 rfl rfl ?_
  refine eb_iload_n (pc := 1) 1 dX9_told_1 rfl rfl ?_
  refine eb_callb (pc := 2) (eb_runV (pc := 2) (As := [.int v1]) (rest := []) (ci := 8) (q0 := (RX9, TX9, 12)) (q := (RX9, TX9, 12)) ew_434 ew_435 ew_436 ew_427 rfl rfl ed_X9_isThing (ct_X9_isThing hG _ _ _) rfl ew_437 ⟨by decide, by decide⟩ (by decide) (by decide) (Nat.le_of_ble_eq_true rfl) rfl dX9_told_2) (fun b2 s1 => ?_)
  refine eb_if_ne (pc := 5) (tgt := 10) dX9_told_5 (by decide) ?_ ?_
  · refine eb_iload_n (pc := 10) 2 dX9_told_10 rfl rfl ?_
    refine eb_tswitch (pc := 11) (i0 := 0) (tgs := [48, 58, 68, 78, 91, 101]) (td := 118) dX9_told_11 rfl rfl rfl rfl (by decide) ⟨?_, ?_, ?_, ?_, ?_, ?_, trivial⟩ ?_
    · refine eb_aload_n (pc := 48) 0 dX9_told_48 rfl rfl ?_
      refine eb_getR (pc := 49) ef_RX9_10 dX9_told_49 (fun r3 => ?_)
      refine eb_getR (pc := 52) ef_RX9_97 dX9_told_52 (fun r4 => ?_)
      refine eb_iload_n (pc := 55) 1 dX9_told_55 rfl rfl ?_
      refine eb_iaload (pc := 56) dX9_told_56 (fun x5 => ?_)
      exact eb_iret (pc := 57) dX9_told_57 (by decide) (by decide)
    · refine eb_aload_n (pc := 58) 0 dX9_told_58 rfl rfl ?_
      refine eb_getR (pc := 59) ef_RX9_10 dX9_told_59 (fun r6 => ?_)
      refine eb_getR (pc := 62) ef_RX9_100 dX9_told_62 (fun r7 => ?_)
      refine eb_iload_n (pc := 65) 1 dX9_told_65 rfl rfl ?_
      refine eb_iaload (pc := 66) dX9_told_66 (fun x8 => ?_)
      exact eb_iret (pc := 67) dX9_told_67 (by decide) (by decide)
    · refine eb_aload_n (pc := 68) 0 dX9_told_68 rfl rfl ?_
      refine eb_getR (pc := 69) ef_RX9_10 dX9_told_69 (fun r9 => ?_)
      refine eb_getR (pc := 72) ef_RX9_103 dX9_told_72 (fun r10 => ?_)
      refine eb_iload_n (pc := 75) 1 dX9_told_75 rfl rfl ?_
      refine eb_iaload (pc := 76) dX9_told_76 (fun x11 => ?_)
      exact eb_iret (pc := 77) dX9_told_77 (by decide) (by decide)
    · refine eb_aload_n (pc := 78) 0 dX9_told_78 rfl rfl ?_
      refine eb_getR (pc := 79) ef_RX9_10 dX9_told_79 (fun r12 => ?_)
      refine eb_getR (pc := 82) ef_RX9_106 dX9_told_82 (fun r13 => ?_)
      refine eb_iload_n (pc := 85) 1 dX9_told_85 rfl rfl ?_
      refine eb_iaload (pc := 86) dX9_told_86 (fun x14 => ?_)
      refine eb_bipush (pc := 87) (v := 50) dX9_told_87 (by decide) ?_
      refine eb_iadd (pc := 89) dX9_told_89 ?_
      exact eb_iret (pc := 90) dX9_told_90 (by decide) (by decide)
    · refine eb_aload_n (pc := 91) 0 dX9_told_91 rfl rfl ?_
      refine eb_getR (pc := 92) ef_RX9_10 dX9_told_92 (fun r15 => ?_)
      refine eb_getR (pc := 95) ef_RX9_109 dX9_told_95 (fun r16 => ?_)
      refine eb_iload_n (pc := 98) 1 dX9_told_98 rfl rfl ?_
      refine eb_iaload (pc := 99) dX9_told_99 (fun x17 => ?_)
      exact eb_iret (pc := 100) dX9_told_100 (by decide) (by decide)
    · refine eb_aload_n (pc := 101) 0 dX9_told_101 rfl rfl ?_
      refine eb_getR (pc := 102) ef_RX9_10 dX9_told_102 (fun r18 => ?_)
      refine eb_iload_n (pc := 105) 1 dX9_told_105 rfl rfl ?_
      refine eb_callb (pc := 106) (eb_runV (pc := 106) (As := [.int v1]) (rest := []) (ci := 3) (q0 := (RX3, TX3, 20)) (q := (RX3, TX3, 20)) ew_443 ew_444 ew_445 ew_68 rfl rfl ed_X3_hangs (ct_X3_hangs hG n _ _ _) rfl ew_446 ⟨by decide, by decide⟩ (by decide) (by decide) (Nat.le_of_ble_eq_true rfl) rfl dX9_told_106) (fun b20 s19 => ?_)
      refine eb_if_eq (pc := 109) (tgt := 116) dX9_told_109 (by decide) ?_ ?_
      · refine eb_iconst (pc := 116) (v := 0) dX9_told_116 (by decide) ?_
        exact eb_iret (pc := 117) dX9_told_117 (by decide) (by decide)
      · refine eb_iconst (pc := 112) (v := 1) dX9_told_112 (by decide) ?_
        refine eb_goto (pc := 113) (tgt := 117) dX9_told_113 (by decide) ?_
        exact eb_iret (pc := 117) dX9_told_117 (by decide) (by decide)
    · refine eb_iconst (pc := 118) (v := (-1)) dX9_told_118 (by decide) ?_
      exact eb_iret (pc := 119) dX9_told_119 (by decide) (by decide)
  · refine eb_iconst (pc := 8) (v := (-1)) dX9_told_8 (by decide) ?_
    exact eb_iret (pc := 9) dX9_told_9 (by decide) (by decide)

def f_X9_isBag (v0 : Int32) (s : eb_S) : Option (Bool × eb_S) := eb_cl (f_X9_within v0 0 2 s) fun b2 s1 => some (b2, s1)
set_option maxRecDepth 100000 in
theorem ct_X9_isBag {G : eb_G} (hG : eb_ok G) (v0 : Int32) (s : eb_S) : eb_ct G yX9_isBag cX9_isBag 1 (some .boolean) 2 0 0 eb_eb [.int v0] s (f_X9_isBag v0 s) := by
  refine eb_ct_b (by decide) (Nat.le_of_ble_eq_true rfl) (fun v hv => by simp at hv; rcases hv with rfl <;> simp [Value.category]) ?_
  show eb_go G yX9_isBag cX9_isBag 1 (some .boolean) (2) 0 0 .ireturn (fun r : Bool => [.int (eb_b r)]) 0 [(0, .int v0)] [] s 0 0 _
  unfold f_X9_isBag
  refine eb_iload_n (pc := 0) 0 dX9_isBag_0 rfl rfl ?_
  refine eb_iconst (pc := 1) (v := 0) dX9_isBag_1 (by decide) ?_
  refine eb_iconst (pc := 2) (v := 2) dX9_isBag_2 (by decide) ?_
  refine eb_callb (pc := 3) (eb_runS (pc := 3) (As := [.int v0, .int 0, .int 2]) (rest := []) ew_425 ew_426 ew_427 rfl ed_X9_within (ct_X9_within hG _ _ _ _) ew_428 ⟨by decide, by decide⟩ (by decide) (by decide) (Nat.le_of_ble_eq_true rfl) rfl dX9_isBag_3) (fun b2 s1 => ?_)
  exact eb_bret (pc := 6) dX9_isBag_6 (by decide) (by decide)

def f_X9_set (v0 : Nat) (v1 : Int32) (v2 : Int32) (v3 : Int32) (s : eb_S) : Option (Int32 × eb_S) := eb_cl (eb_tg s v0 8 (f_X9_isThing v0 v1 s)) fun b2 s1 => if (eb_b b2) = 0 then (some ((-1), s1)) else (eb_sw v2 1 [(eb_cl (f_X9_within v3 1 99 s1) fun b4 s3 => if (eb_b b4) = 0 then (some ((-1), s3)) else (eb_gR s3 [8] v0 0 fun r5 => eb_gR s3 [8] v0 0 fun r6 => eb_gR s3 [3] r6 3 fun r7 => eb_cl (eb_tg s3 r5 3 (f_X3_put r5 r7 v1 v3 s3)) fun x9 s8 => some (x9, s8))), (eb_cl (f_X9_within v3 0 5 s1) fun b11 s10 => if (eb_b b11) = 0 then (some ((-1), s10)) else (eb_gR s10 [8] v0 0 fun r12 => eb_gR s10 [8] v0 0 fun r13 => eb_gR s10 [3] r13 4 fun r14 => eb_cl (eb_tg s10 r12 3 (f_X3_put r12 r14 v1 v3 s10)) fun x16 s15 => some (x16, s15))), (eb_cl (f_X9_within v3 0 100 s1) fun b18 s17 => if (eb_b b18) = 0 then (some ((-1), s17)) else (eb_gR s17 [8] v0 0 fun r19 => eb_gR s17 [8] v0 0 fun r20 => eb_gR s17 [3] r20 5 fun r21 => eb_cl (eb_tg s17 r19 3 (f_X3_put r19 r21 v1 (v3 - 50) s17)) fun x23 s22 => some (x23 + 50, s22))), (eb_cl (f_X9_isBag v3 s1) fun b25 s24 => if (eb_b b25) = 0 then (some ((-1), s24)) else (eb_gR s24 [8] v0 0 fun r26 => eb_gR s24 [8] v0 0 fun r27 => eb_gR s24 [3] r27 6 fun r28 => eb_cl (eb_tg s24 r26 3 (f_X3_put r26 r28 v1 v3 s24)) fun x30 s29 => some (x30, s29)))] (some ((-1), s1)))
set_option maxRecDepth 100000 in
theorem ct_X9_set {G : eb_G} (hG : eb_ok G) (v0 : Nat) (v1 : Int32) (v2 : Int32) (v3 : Int32) (s : eb_S) : eb_ct G yX9_set cX9_set 4 (some .int) 3 0 0 eb_ei [.ref v0, .int v1, .int v2, .int v3] s (f_X9_set v0 v1 v2 v3 s) := by
  refine eb_ct_i (by decide) (Nat.le_of_ble_eq_true rfl) (fun v hv => by simp at hv; rcases hv with rfl | rfl | rfl | rfl <;> simp [Value.category]) ?_
  show eb_go G yX9_set cX9_set 4 (some .int) (3) 0 0 .ireturn (fun r : Int32 => [.int r]) 0 [(0, .ref v0), (1, .int v1), (2, .int v2), (3, .int v3)] [] s 0 0 _
  unfold f_X9_set
  refine eb_aload_n (pc := 0) 0 dX9_set_0 rfl rfl ?_
  refine eb_iload_n (pc := 1) 1 dX9_set_1 rfl rfl ?_
  refine eb_callb (pc := 2) (eb_runV (pc := 2) (As := [.int v1]) (rest := []) (ci := 8) (q0 := (RX9, TX9, 12)) (q := (RX9, TX9, 12)) ew_434 ew_435 ew_436 ew_427 rfl rfl ed_X9_isThing (ct_X9_isThing hG _ _ _) rfl ew_437 ⟨by decide, by decide⟩ (by decide) (by decide) (Nat.le_of_ble_eq_true rfl) rfl dX9_set_2) (fun b2 s1 => ?_)
  refine eb_if_ne (pc := 5) (tgt := 10) dX9_set_5 (by decide) ?_ ?_
  · refine eb_iload_n (pc := 10) 2 dX9_set_10 rfl rfl ?_
    refine eb_tswitch (pc := 11) (i0 := 1) (tgs := [40, 71, 101, 138]) (td := 166) dX9_set_11 rfl rfl rfl rfl (by decide) ⟨?_, ?_, ?_, ?_, trivial⟩ ?_
    · refine eb_iload_n (pc := 40) 3 dX9_set_40 rfl rfl ?_
      refine eb_iconst (pc := 41) (v := 1) dX9_set_41 (by decide) ?_
      refine eb_bipush (pc := 42) (v := 99) dX9_set_42 (by decide) ?_
      refine eb_callb (pc := 44) (eb_runS (pc := 44) (As := [.int v3, .int 1, .int 99]) (rest := []) ew_425 ew_426 ew_427 rfl ed_X9_within (ct_X9_within hG _ _ _ _) ew_428 ⟨by decide, by decide⟩ (by decide) (by decide) (Nat.le_of_ble_eq_true rfl) rfl dX9_set_44) (fun b4 s3 => ?_)
      refine eb_if_eq (pc := 47) (tgt := 69) dX9_set_47 (by decide) ?_ ?_
      · refine eb_iconst (pc := 69) (v := (-1)) dX9_set_69 (by decide) ?_
        exact eb_iret (pc := 70) dX9_set_70 (by decide) (by decide)
      · refine eb_aload_n (pc := 50) 0 dX9_set_50 rfl rfl ?_
        refine eb_getR (pc := 51) ef_RX9_10 dX9_set_51 (fun r5 => ?_)
        refine eb_aload_n (pc := 54) 0 dX9_set_54 rfl rfl ?_
        refine eb_getR (pc := 55) ef_RX9_10 dX9_set_55 (fun r6 => ?_)
        refine eb_getR (pc := 58) ef_RX9_100 dX9_set_58 (fun r7 => ?_)
        refine eb_iload_n (pc := 61) 1 dX9_set_61 rfl rfl ?_
        refine eb_iload_n (pc := 62) 3 dX9_set_62 rfl rfl ?_
        refine eb_calli (pc := 63) (eb_runV (pc := 63) (As := [.ref r7, .int v1, .int v3]) (rest := []) (ci := 3) (q0 := (RX3, TX3, 20)) (q := (RX3, TX3, 20)) ew_447 ew_448 ew_449 ew_68 rfl rfl ed_X3_put (ct_X3_put hG _ _ _ _ _) rfl ew_450 ⟨by decide, by decide⟩ (by decide) (by decide) (Nat.le_of_ble_eq_true rfl) rfl dX9_set_63) (fun x9 s8 => ?_)
        refine eb_goto (pc := 66) (tgt := 70) dX9_set_66 (by decide) ?_
        exact eb_iret (pc := 70) dX9_set_70 (by decide) (by decide)
    · refine eb_iload_n (pc := 71) 3 dX9_set_71 rfl rfl ?_
      refine eb_iconst (pc := 72) (v := 0) dX9_set_72 (by decide) ?_
      refine eb_iconst (pc := 73) (v := 5) dX9_set_73 (by decide) ?_
      refine eb_callb (pc := 74) (eb_runS (pc := 74) (As := [.int v3, .int 0, .int 5]) (rest := []) ew_425 ew_426 ew_427 rfl ed_X9_within (ct_X9_within hG _ _ _ _) ew_428 ⟨by decide, by decide⟩ (by decide) (by decide) (Nat.le_of_ble_eq_true rfl) rfl dX9_set_74) (fun b11 s10 => ?_)
      refine eb_if_eq (pc := 77) (tgt := 99) dX9_set_77 (by decide) ?_ ?_
      · refine eb_iconst (pc := 99) (v := (-1)) dX9_set_99 (by decide) ?_
        exact eb_iret (pc := 100) dX9_set_100 (by decide) (by decide)
      · refine eb_aload_n (pc := 80) 0 dX9_set_80 rfl rfl ?_
        refine eb_getR (pc := 81) ef_RX9_10 dX9_set_81 (fun r12 => ?_)
        refine eb_aload_n (pc := 84) 0 dX9_set_84 rfl rfl ?_
        refine eb_getR (pc := 85) ef_RX9_10 dX9_set_85 (fun r13 => ?_)
        refine eb_getR (pc := 88) ef_RX9_103 dX9_set_88 (fun r14 => ?_)
        refine eb_iload_n (pc := 91) 1 dX9_set_91 rfl rfl ?_
        refine eb_iload_n (pc := 92) 3 dX9_set_92 rfl rfl ?_
        refine eb_calli (pc := 93) (eb_runV (pc := 93) (As := [.ref r14, .int v1, .int v3]) (rest := []) (ci := 3) (q0 := (RX3, TX3, 20)) (q := (RX3, TX3, 20)) ew_447 ew_448 ew_449 ew_68 rfl rfl ed_X3_put (ct_X3_put hG _ _ _ _ _) rfl ew_450 ⟨by decide, by decide⟩ (by decide) (by decide) (Nat.le_of_ble_eq_true rfl) rfl dX9_set_93) (fun x16 s15 => ?_)
        refine eb_goto (pc := 96) (tgt := 100) dX9_set_96 (by decide) ?_
        exact eb_iret (pc := 100) dX9_set_100 (by decide) (by decide)
    · refine eb_iload_n (pc := 101) 3 dX9_set_101 rfl rfl ?_
      refine eb_iconst (pc := 102) (v := 0) dX9_set_102 (by decide) ?_
      refine eb_bipush (pc := 103) (v := 100) dX9_set_103 (by decide) ?_
      refine eb_callb (pc := 105) (eb_runS (pc := 105) (As := [.int v3, .int 0, .int 100]) (rest := []) ew_425 ew_426 ew_427 rfl ed_X9_within (ct_X9_within hG _ _ _ _) ew_428 ⟨by decide, by decide⟩ (by decide) (by decide) (Nat.le_of_ble_eq_true rfl) rfl dX9_set_105) (fun b18 s17 => ?_)
      refine eb_if_eq (pc := 108) (tgt := 136) dX9_set_108 (by decide) ?_ ?_
      · refine eb_iconst (pc := 136) (v := (-1)) dX9_set_136 (by decide) ?_
        exact eb_iret (pc := 137) dX9_set_137 (by decide) (by decide)
      · refine eb_aload_n (pc := 111) 0 dX9_set_111 rfl rfl ?_
        refine eb_getR (pc := 112) ef_RX9_10 dX9_set_112 (fun r19 => ?_)
        refine eb_aload_n (pc := 115) 0 dX9_set_115 rfl rfl ?_
        refine eb_getR (pc := 116) ef_RX9_10 dX9_set_116 (fun r20 => ?_)
        refine eb_getR (pc := 119) ef_RX9_106 dX9_set_119 (fun r21 => ?_)
        refine eb_iload_n (pc := 122) 1 dX9_set_122 rfl rfl ?_
        refine eb_iload_n (pc := 123) 3 dX9_set_123 rfl rfl ?_
        refine eb_bipush (pc := 124) (v := 50) dX9_set_124 (by decide) ?_
        refine eb_isub (pc := 126) dX9_set_126 ?_
        refine eb_calli (pc := 127) (eb_runV (pc := 127) (As := [.ref r21, .int v1, .int (v3 - 50)]) (rest := []) (ci := 3) (q0 := (RX3, TX3, 20)) (q := (RX3, TX3, 20)) ew_447 ew_448 ew_449 ew_68 rfl rfl ed_X3_put (ct_X3_put hG _ _ _ _ _) rfl ew_450 ⟨by decide, by decide⟩ (by decide) (by decide) (Nat.le_of_ble_eq_true rfl) rfl dX9_set_127) (fun x23 s22 => ?_)
        refine eb_bipush (pc := 130) (v := 50) dX9_set_130 (by decide) ?_
        refine eb_iadd (pc := 132) dX9_set_132 ?_
        refine eb_goto (pc := 133) (tgt := 137) dX9_set_133 (by decide) ?_
        exact eb_iret (pc := 137) dX9_set_137 (by decide) (by decide)
    · refine eb_iload_n (pc := 138) 3 dX9_set_138 rfl rfl ?_
      refine eb_callb (pc := 139) (eb_runS (pc := 139) (As := [.int v3]) (rest := []) ew_451 ew_452 ew_427 rfl ed_X9_isBag (ct_X9_isBag hG _ _) ew_453 ⟨by decide, by decide⟩ (by decide) (by decide) (Nat.le_of_ble_eq_true rfl) rfl dX9_set_139) (fun b25 s24 => ?_)
      refine eb_if_eq (pc := 142) (tgt := 164) dX9_set_142 (by decide) ?_ ?_
      · refine eb_iconst (pc := 164) (v := (-1)) dX9_set_164 (by decide) ?_
        exact eb_iret (pc := 165) dX9_set_165 (by decide) (by decide)
      · refine eb_aload_n (pc := 145) 0 dX9_set_145 rfl rfl ?_
        refine eb_getR (pc := 146) ef_RX9_10 dX9_set_146 (fun r26 => ?_)
        refine eb_aload_n (pc := 149) 0 dX9_set_149 rfl rfl ?_
        refine eb_getR (pc := 150) ef_RX9_10 dX9_set_150 (fun r27 => ?_)
        refine eb_getR (pc := 153) ef_RX9_109 dX9_set_153 (fun r28 => ?_)
        refine eb_iload_n (pc := 156) 1 dX9_set_156 rfl rfl ?_
        refine eb_iload_n (pc := 157) 3 dX9_set_157 rfl rfl ?_
        refine eb_calli (pc := 158) (eb_runV (pc := 158) (As := [.ref r28, .int v1, .int v3]) (rest := []) (ci := 3) (q0 := (RX3, TX3, 20)) (q := (RX3, TX3, 20)) ew_447 ew_448 ew_449 ew_68 rfl rfl ed_X3_put (ct_X3_put hG _ _ _ _ _) rfl ew_450 ⟨by decide, by decide⟩ (by decide) (by decide) (Nat.le_of_ble_eq_true rfl) rfl dX9_set_158) (fun x30 s29 => ?_)
        refine eb_goto (pc := 161) (tgt := 165) dX9_set_161 (by decide) ?_
        exact eb_iret (pc := 165) dX9_set_165 (by decide) (by decide)
    · refine eb_iconst (pc := 166) (v := (-1)) dX9_set_166 (by decide) ?_
      exact eb_iret (pc := 167) dX9_set_167 (by decide) (by decide)
  · refine eb_iconst (pc := 8) (v := (-1)) dX9_set_8 (by decide) ?_
    exact eb_iret (pc := 9) dX9_set_9 (by decide) (by decide)

def f_X9_stretch (v0 : Nat) (v1 : Int32) (v2 : Int32) (s : eb_S) : Option (Int32 × eb_S) := eb_cl (f_X9_within v1 1 99 s) fun b2 s1 => if (eb_b b2) = 0 then (some ((-1), s1)) else (eb_gR s1 [8] v0 0 fun r3 => eb_gI s1 [3] r3 7 fun x4 => if 5 ≤ x4 then (some ((-3), s1)) else (eb_gR s1 [8] v0 0 fun r5 => eb_jn (fun (y6 : Int32) (s7 : eb_S) => eb_cl (eb_tg s7 r5 3 (f_X3_addStretch r5 v1 y6 s7)) fun x10 s9 => some (x10, s9)) fun j8 => if v2 = 0 then (j8 0 s1) else (j8 1 s1)))
set_option maxRecDepth 100000 in
theorem ct_X9_stretch {G : eb_G} (hG : eb_ok G) (v0 : Nat) (v1 : Int32) (v2 : Int32) (s : eb_S) : eb_ct G yX9_stretch cX9_stretch 3 (some .int) 2 0 0 eb_ei [.ref v0, .int v1, .int v2] s (f_X9_stretch v0 v1 v2 s) := by
  refine eb_ct_i (by decide) (Nat.le_of_ble_eq_true rfl) (fun v hv => by simp at hv; rcases hv with rfl | rfl | rfl <;> simp [Value.category]) ?_
  show eb_go G yX9_stretch cX9_stretch 3 (some .int) (2) 0 0 .ireturn (fun r : Int32 => [.int r]) 0 [(0, .ref v0), (1, .int v1), (2, .int v2)] [] s 0 0 _
  unfold f_X9_stretch
  refine eb_iload_n (pc := 0) 1 dX9_stretch_0 rfl rfl ?_
  refine eb_iconst (pc := 1) (v := 1) dX9_stretch_1 (by decide) ?_
  refine eb_bipush (pc := 2) (v := 99) dX9_stretch_2 (by decide) ?_
  refine eb_callb (pc := 4) (eb_runS (pc := 4) (As := [.int v1, .int 1, .int 99]) (rest := []) ew_425 ew_426 ew_427 rfl ed_X9_within (ct_X9_within hG _ _ _ _) ew_428 ⟨by decide, by decide⟩ (by decide) (by decide) (Nat.le_of_ble_eq_true rfl) rfl dX9_stretch_4) (fun b2 s1 => ?_)
  refine eb_if_ne (pc := 7) (tgt := 12) dX9_stretch_7 (by decide) ?_ ?_
  · refine eb_aload_n (pc := 12) 0 dX9_stretch_12 rfl rfl ?_
    refine eb_getR (pc := 13) ef_RX9_10 dX9_stretch_13 (fun r3 => ?_)
    refine eb_getI (pc := 16) ef_RX9_122 dX9_stretch_16 (fun x4 => ?_)
    refine eb_iconst (pc := 19) (v := 5) dX9_stretch_19 (by decide) ?_
    refine eb_icmp_ge (pc := 20) (tgt := 43) dX9_stretch_20 (by decide) ?_ ?_
    · refine eb_bipush (pc := 43) (v := (-3)) dX9_stretch_43 (by decide) ?_
      exact eb_iret (pc := 45) dX9_stretch_45 (by decide) (by decide)
    · refine eb_aload_n (pc := 23) 0 dX9_stretch_23 rfl rfl ?_
      refine eb_getR (pc := 24) ef_RX9_10 dX9_stretch_24 (fun r5 => ?_)
      refine eb_iload_n (pc := 27) 1 dX9_stretch_27 rfl rfl ?_
      refine eb_iload_n (pc := 28) 2 dX9_stretch_28 rfl rfl ?_
      refine eb_join (fun j8 : Int32 → eb_S → Option (Int32 × eb_S) => ∀ (y6 : Int32) (s7 : eb_S), eb_go G yX9_stretch cX9_stretch 3 (some .int) (2) 0 0 .ireturn (fun r : Int32 => [.int r]) 37 [] [.int y6, .int v1, .ref r5] s7 0 0 (j8 y6 s7)) ?_ (fun j8 hj8 => ?_)
      · intro y6 s7
        refine eb_calli (pc := 37) (eb_runV (pc := 37) (As := [.int v1, .int y6]) (rest := []) (ci := 3) (q0 := (RX3, TX3, 20)) (q := (RX3, TX3, 20)) ew_455 ew_456 ew_457 ew_68 rfl rfl ed_X3_addStretch (ct_X3_addStretch hG _ _ _ _) rfl ew_458 ⟨by decide, by decide⟩ (by decide) (by decide) (Nat.le_of_ble_eq_true rfl) rfl dX9_stretch_37) (fun x10 s9 => ?_)
        refine eb_goto (pc := 40) (tgt := 45) dX9_stretch_40 (by decide) ?_
        exact eb_iret (pc := 45) dX9_stretch_45 (by decide) (by decide)
      refine eb_if_eq (pc := 29) (tgt := 36) dX9_stretch_29 (by decide) ?_ ?_
      · refine eb_iconst (pc := 36) (v := 0) dX9_stretch_36 (by decide) ?_
        refine eb_sub [] rfl ?_
        exact hj8 _ _
      · refine eb_iconst (pc := 32) (v := 1) dX9_stretch_32 (by decide) ?_
        refine eb_goto (pc := 33) (tgt := 37) dX9_stretch_33 (by decide) ?_
        refine eb_sub [] rfl ?_
        exact hj8 _ _
  · refine eb_iconst (pc := 10) (v := (-1)) dX9_stretch_10 (by decide) ?_
    exact eb_iret (pc := 11) dX9_stretch_11 (by decide) (by decide)

def f_X9_isStretch (v0 : Nat) (v1 : Int32) (s : eb_S) : Option (Bool × eb_S) := eb_gR s [8] v0 0 fun r1 => eb_gI s [3] r1 7 fun x2 => eb_cl (f_X9_within v1 0 (x2 - 1) s) fun b4 s3 => some (b4, s3)
set_option maxRecDepth 100000 in
theorem ct_X9_isStretch {G : eb_G} (hG : eb_ok G) (v0 : Nat) (v1 : Int32) (s : eb_S) : eb_ct G yX9_isStretch cX9_isStretch 2 (some .boolean) 2 0 0 eb_eb [.ref v0, .int v1] s (f_X9_isStretch v0 v1 s) := by
  refine eb_ct_b (by decide) (Nat.le_of_ble_eq_true rfl) (fun v hv => by simp at hv; rcases hv with rfl | rfl <;> simp [Value.category]) ?_
  show eb_go G yX9_isStretch cX9_isStretch 2 (some .boolean) (2) 0 0 .ireturn (fun r : Bool => [.int (eb_b r)]) 0 [(0, .ref v0), (1, .int v1)] [] s 0 0 _
  unfold f_X9_isStretch
  refine eb_iload_n (pc := 0) 1 dX9_isStretch_0 rfl rfl ?_
  refine eb_iconst (pc := 1) (v := 0) dX9_isStretch_1 (by decide) ?_
  refine eb_aload_n (pc := 2) 0 dX9_isStretch_2 rfl rfl ?_
  refine eb_getR (pc := 3) ef_RX9_10 dX9_isStretch_3 (fun r1 => ?_)
  refine eb_getI (pc := 6) ef_RX9_122 dX9_isStretch_6 (fun x2 => ?_)
  refine eb_iconst (pc := 9) (v := 1) dX9_isStretch_9 (by decide) ?_
  refine eb_isub (pc := 10) dX9_isStretch_10 ?_
  refine eb_callb (pc := 11) (eb_runS (pc := 11) (As := [.int v1, .int 0, .int (x2 - 1)]) (rest := []) ew_425 ew_426 ew_427 rfl ed_X9_within (ct_X9_within hG _ _ _ _) ew_428 ⟨by decide, by decide⟩ (by decide) (by decide) (Nat.le_of_ble_eq_true rfl) rfl dX9_isStretch_11) (fun b4 s3 => ?_)
  exact eb_bret (pc := 14) dX9_isStretch_14 (by decide) (by decide)

def f_X9_of (v0 : Nat) (v1 : Int32) (v2 : Int32) (s : eb_S) : Option (Int32 × eb_S) := eb_cl (eb_tg s v0 8 (f_X9_isStretch v0 v1 s)) fun b2 s1 => if (eb_b b2) = 0 then (some ((-1), s1)) else (eb_cl (f_X9_within v2 0 1 s1) fun b4 s3 => if (eb_b b4) = 0 then (some ((-1), s3)) else (if v2 = 0 then (eb_gR s3 [8] v0 0 fun r8 => eb_gR s3 [3] r8 8 fun r9 => eb_ai s3 r9 v1 fun x10 => some (x10, s3)) else (eb_gR s3 [8] v0 0 fun r5 => eb_gR s3 [3] r5 9 fun r6 => eb_ai s3 r6 v1 fun x7 => some (x7, s3))))
set_option maxRecDepth 100000 in
theorem ct_X9_of {G : eb_G} (hG : eb_ok G) (v0 : Nat) (v1 : Int32) (v2 : Int32) (s : eb_S) : eb_ct G yX9_of cX9_of 3 (some .int) 3 0 0 eb_ei [.ref v0, .int v1, .int v2] s (f_X9_of v0 v1 v2 s) := by
  refine eb_ct_i (by decide) (Nat.le_of_ble_eq_true rfl) (fun v hv => by simp at hv; rcases hv with rfl | rfl | rfl <;> simp [Value.category]) ?_
  show eb_go G yX9_of cX9_of 3 (some .int) (3) 0 0 .ireturn (fun r : Int32 => [.int r]) 0 [(0, .ref v0), (1, .int v1), (2, .int v2)] [] s 0 0 _
  unfold f_X9_of
  refine eb_aload_n (pc := 0) 0 dX9_of_0 rfl rfl ?_
  refine eb_iload_n (pc := 1) 1 dX9_of_1 rfl rfl ?_
  refine eb_callb (pc := 2) (eb_runV (pc := 2) (As := [.int v1]) (rest := []) (ci := 8) (q0 := (RX9, TX9, 12)) (q := (RX9, TX9, 12)) ew_459 ew_460 ew_461 ew_427 rfl rfl ed_X9_isStretch (ct_X9_isStretch hG _ _ _) rfl ew_462 ⟨by decide, by decide⟩ (by decide) (by decide) (Nat.le_of_ble_eq_true rfl) rfl dX9_of_2) (fun b2 s1 => ?_)
  refine eb_if_eq (pc := 5) (tgt := 17) dX9_of_5 (by decide) ?_ ?_
  · refine eb_iconst (pc := 17) (v := (-1)) dX9_of_17 (by decide) ?_
    exact eb_iret (pc := 18) dX9_of_18 (by decide) (by decide)
  · refine eb_iload_n (pc := 8) 2 dX9_of_8 rfl rfl ?_
    refine eb_iconst (pc := 9) (v := 0) dX9_of_9 (by decide) ?_
    refine eb_iconst (pc := 10) (v := 1) dX9_of_10 (by decide) ?_
    refine eb_callb (pc := 11) (eb_runS (pc := 11) (As := [.int v2, .int 0, .int 1]) (rest := []) ew_425 ew_426 ew_427 rfl ed_X9_within (ct_X9_within hG _ _ _ _) ew_428 ⟨by decide, by decide⟩ (by decide) (by decide) (Nat.le_of_ble_eq_true rfl) rfl dX9_of_11) (fun b4 s3 => ?_)
    refine eb_if_ne (pc := 14) (tgt := 19) dX9_of_14 (by decide) ?_ ?_
    · refine eb_iload_n (pc := 19) 2 dX9_of_19 rfl rfl ?_
      refine eb_if_ne (pc := 20) (tgt := 35) dX9_of_20 (by decide) ?_ ?_
      · refine eb_aload_n (pc := 35) 0 dX9_of_35 rfl rfl ?_
        refine eb_getR (pc := 36) ef_RX9_10 dX9_of_36 (fun r5 => ?_)
        refine eb_getR (pc := 39) ef_RX9_135 dX9_of_39 (fun r6 => ?_)
        refine eb_iload_n (pc := 42) 1 dX9_of_42 rfl rfl ?_
        refine eb_iaload (pc := 43) dX9_of_43 (fun x7 => ?_)
        exact eb_iret (pc := 44) dX9_of_44 (by decide) (by decide)
      · refine eb_aload_n (pc := 23) 0 dX9_of_23 rfl rfl ?_
        refine eb_getR (pc := 24) ef_RX9_10 dX9_of_24 (fun r8 => ?_)
        refine eb_getR (pc := 27) ef_RX9_132 dX9_of_27 (fun r9 => ?_)
        refine eb_iload_n (pc := 30) 1 dX9_of_30 rfl rfl ?_
        refine eb_iaload (pc := 31) dX9_of_31 (fun x10 => ?_)
        refine eb_goto (pc := 32) (tgt := 44) dX9_of_32 (by decide) ?_
        exact eb_iret (pc := 44) dX9_of_44 (by decide) (by decide)
    · refine eb_iconst (pc := 17) (v := (-1)) dX9_of_17 (by decide) ?_
      exact eb_iret (pc := 18) dX9_of_18 (by decide) (by decide)

def f_X9_bag (v0 : Nat) (v1 : Int32) (v2 : Int32) (v3 : Int32) (s : eb_S) : Option (Int32 × eb_S) := eb_cl (f_X9_isBag v1 s) fun b2 s1 => if (eb_b b2) = 0 then (some ((-1), s1)) else (eb_cl (f_X9_within v2 0 1 s1) fun b4 s3 => if (eb_b b4) = 0 then (some ((-1), s3)) else (eb_jn (fun (y5 : Int32) (s6 : eb_S) => eb_cl (f_X9_within v3 0 y5 s6) fun b9 s8 => if (eb_b b9) = 0 then (some ((-1), s8)) else (eb_gR s8 [8] v0 0 fun r10 => eb_jn (fun (y11 : Nat) (s12 : eb_S) => eb_cl (eb_tg s12 r10 3 (f_X3_put r10 y11 v1 v3 s12)) fun x15 s14 => some (x15, s14)) fun j13 => if v2 = 0 then (eb_gR s8 [8] v0 0 fun r18 => eb_gR s8 [3] r18 10 fun r19 => j13 r19 s8) else (eb_gR s8 [8] v0 0 fun r16 => eb_gR s8 [3] r16 11 fun r17 => j13 r17 s8))) fun j7 => if v2 = 0 then (j7 999 s3) else (j7 9999 s3)))
set_option maxRecDepth 100000 in
theorem ct_X9_bag {G : eb_G} (hG : eb_ok G) (v0 : Nat) (v1 : Int32) (v2 : Int32) (v3 : Int32) (s : eb_S) : eb_ct G yX9_bag cX9_bag 4 (some .int) 3 0 0 eb_ei [.ref v0, .int v1, .int v2, .int v3] s (f_X9_bag v0 v1 v2 v3 s) := by
  refine eb_ct_i (by decide) (Nat.le_of_ble_eq_true rfl) (fun v hv => by simp at hv; rcases hv with rfl | rfl | rfl | rfl <;> simp [Value.category]) ?_
  show eb_go G yX9_bag cX9_bag 4 (some .int) (3) 0 0 .ireturn (fun r : Int32 => [.int r]) 0 [(0, .ref v0), (1, .int v1), (2, .int v2), (3, .int v3)] [] s 0 0 _
  unfold f_X9_bag
  refine eb_iload_n (pc := 0) 1 dX9_bag_0 rfl rfl ?_
  refine eb_callb (pc := 1) (eb_runS (pc := 1) (As := [.int v1]) (rest := []) ew_451 ew_452 ew_427 rfl ed_X9_isBag (ct_X9_isBag hG _ _) ew_453 ⟨by decide, by decide⟩ (by decide) (by decide) (Nat.le_of_ble_eq_true rfl) rfl dX9_bag_1) (fun b2 s1 => ?_)
  refine eb_if_eq (pc := 4) (tgt := 37) dX9_bag_4 (by decide) ?_ ?_
  · refine eb_iconst (pc := 37) (v := (-1)) dX9_bag_37 (by decide) ?_
    exact eb_iret (pc := 38) dX9_bag_38 (by decide) (by decide)
  · refine eb_iload_n (pc := 7) 2 dX9_bag_7 rfl rfl ?_
    refine eb_iconst (pc := 8) (v := 0) dX9_bag_8 (by decide) ?_
    refine eb_iconst (pc := 9) (v := 1) dX9_bag_9 (by decide) ?_
    refine eb_callb (pc := 10) (eb_runS (pc := 10) (As := [.int v2, .int 0, .int 1]) (rest := []) ew_425 ew_426 ew_427 rfl ed_X9_within (ct_X9_within hG _ _ _ _) ew_428 ⟨by decide, by decide⟩ (by decide) (by decide) (Nat.le_of_ble_eq_true rfl) rfl dX9_bag_10) (fun b4 s3 => ?_)
    refine eb_if_eq (pc := 13) (tgt := 37) dX9_bag_13 (by decide) ?_ ?_
    · refine eb_iconst (pc := 37) (v := (-1)) dX9_bag_37 (by decide) ?_
      exact eb_iret (pc := 38) dX9_bag_38 (by decide) (by decide)
    · refine eb_iload_n (pc := 16) 3 dX9_bag_16 rfl rfl ?_
      refine eb_iconst (pc := 17) (v := 0) dX9_bag_17 (by decide) ?_
      refine eb_iload_n (pc := 18) 2 dX9_bag_18 rfl rfl ?_
      refine eb_join (fun j7 : Int32 → eb_S → Option (Int32 × eb_S) => ∀ (y5 : Int32) (s6 : eb_S), eb_go G yX9_bag cX9_bag 4 (some .int) (3) 0 0 .ireturn (fun r : Int32 => [.int r]) 31 [(0, .ref v0), (1, .int v1), (2, .int v2), (3, .int v3)] [.int y5, .int 0, .int v3] s6 0 0 (j7 y5 s6)) ?_ (fun j7 hj7 => ?_)
      · intro y5 s6
        refine eb_callb (pc := 31) (eb_runS (pc := 31) (As := [.int v3, .int 0, .int y5]) (rest := []) ew_425 ew_426 ew_427 rfl ed_X9_within (ct_X9_within hG _ _ _ _) ew_428 ⟨by decide, by decide⟩ (by decide) (by decide) (Nat.le_of_ble_eq_true rfl) rfl dX9_bag_31) (fun b9 s8 => ?_)
        refine eb_if_ne (pc := 34) (tgt := 39) dX9_bag_34 (by decide) ?_ ?_
        · refine eb_aload_n (pc := 39) 0 dX9_bag_39 rfl rfl ?_
          refine eb_getR (pc := 40) ef_RX9_10 dX9_bag_40 (fun r10 => ?_)
          refine eb_iload_n (pc := 43) 2 dX9_bag_43 rfl rfl ?_
          refine eb_join (fun j13 : Nat → eb_S → Option (Int32 × eb_S) => ∀ (y11 : Nat) (s12 : eb_S), eb_go G yX9_bag cX9_bag 4 (some .int) (3) 0 0 .ireturn (fun r : Int32 => [.int r]) 64 [(1, .int v1), (3, .int v3)] [.ref y11, .ref r10] s12 0 0 (j13 y11 s12)) ?_ (fun j13 hj13 => ?_)
          · intro y11 s12
            refine eb_iload_n (pc := 64) 0 dX9_bag_64 rfl rfl ?_
            refine eb_iload_n (pc := 65) 1 dX9_bag_65 rfl rfl ?_
            refine eb_calli (pc := 66) (eb_runV (pc := 66) (As := [.ref y11, .int v1, .int v3]) (rest := []) (ci := 3) (q0 := (RX3, TX3, 20)) (q := (RX3, TX3, 20)) ew_447 ew_448 ew_449 ew_68 rfl rfl ed_X3_put (ct_X3_put hG _ _ _ _ _) rfl ew_450 ⟨by decide, by decide⟩ (by decide) (by decide) (Nat.le_of_ble_eq_true rfl) rfl dX9_bag_66) (fun x15 s14 => ?_)
            exact eb_iret (pc := 69) dX9_bag_69 (by decide) (by decide)
          refine eb_if_ne (pc := 44) (tgt := 57) dX9_bag_44 (by decide) ?_ ?_
          · refine eb_aload_n (pc := 57) 0 dX9_bag_57 rfl rfl ?_
            refine eb_getR (pc := 58) ef_RX9_10 dX9_bag_58 (fun r16 => ?_)
            refine eb_getR (pc := 61) ef_RX9_141 dX9_bag_61 (fun r17 => ?_)
            refine eb_sub [1, 3] rfl ?_
            exact hj13 _ _
          · refine eb_aload_n (pc := 47) 0 dX9_bag_47 rfl rfl ?_
            refine eb_getR (pc := 48) ef_RX9_10 dX9_bag_48 (fun r18 => ?_)
            refine eb_getR (pc := 51) ef_RX9_138 dX9_bag_51 (fun r19 => ?_)
            refine eb_goto (pc := 54) (tgt := 64) dX9_bag_54 (by decide) ?_
            refine eb_sub [1, 3] rfl ?_
            exact hj13 _ _
        · refine eb_iconst (pc := 37) (v := (-1)) dX9_bag_37 (by decide) ?_
          exact eb_iret (pc := 38) dX9_bag_38 (by decide) (by decide)
      refine eb_if_ne (pc := 19) (tgt := 28) dX9_bag_19 (by decide) ?_ ?_
      · refine eb_sipush (pc := 28) (v := 9999) dX9_bag_28 (by decide) ?_
        exact hj7 _ _
      · refine eb_sipush (pc := 22) (v := 999) dX9_bag_22 (by decide) ?_
        refine eb_goto (pc := 25) (tgt := 31) dX9_bag_25 (by decide) ?_
        exact hj7 _ _

def f_X9_arm (v0 : Nat) (v1 : Int32) (v2 : Int32) (s : eb_S) : Option (Int32 × eb_S) := eb_cl (f_X9_within v1 0 1 s) fun b2 s1 => if (eb_b b2) = 0 then (some ((-1), s1)) else (eb_cl (f_X9_within v2 1 9 s1) fun b4 s3 => if (eb_b b4) = 0 then (some ((-1), s3)) else (eb_gR s3 [8] v0 0 fun r5 => eb_gR s3 [8] v0 0 fun r6 => eb_gR s3 [3] r6 12 fun r7 => eb_cl (eb_tg s3 r5 3 (f_X3_put r5 r7 v1 v2 s3)) fun x9 s8 => some (x9, s8)))
set_option maxRecDepth 100000 in
theorem ct_X9_arm {G : eb_G} (hG : eb_ok G) (v0 : Nat) (v1 : Int32) (v2 : Int32) (s : eb_S) : eb_ct G yX9_arm cX9_arm 3 (some .int) 2 0 0 eb_ei [.ref v0, .int v1, .int v2] s (f_X9_arm v0 v1 v2 s) := by
  refine eb_ct_i (by decide) (Nat.le_of_ble_eq_true rfl) (fun v hv => by simp at hv; rcases hv with rfl | rfl | rfl <;> simp [Value.category]) ?_
  show eb_go G yX9_arm cX9_arm 3 (some .int) (2) 0 0 .ireturn (fun r : Int32 => [.int r]) 0 [(0, .ref v0), (1, .int v1), (2, .int v2)] [] s 0 0 _
  unfold f_X9_arm
  refine eb_iload_n (pc := 0) 1 dX9_arm_0 rfl rfl ?_
  refine eb_iconst (pc := 1) (v := 0) dX9_arm_1 (by decide) ?_
  refine eb_iconst (pc := 2) (v := 1) dX9_arm_2 (by decide) ?_
  refine eb_callb (pc := 3) (eb_runS (pc := 3) (As := [.int v1, .int 0, .int 1]) (rest := []) ew_425 ew_426 ew_427 rfl ed_X9_within (ct_X9_within hG _ _ _ _) ew_428 ⟨by decide, by decide⟩ (by decide) (by decide) (Nat.le_of_ble_eq_true rfl) rfl dX9_arm_3) (fun b2 s1 => ?_)
  refine eb_if_eq (pc := 6) (tgt := 19) dX9_arm_6 (by decide) ?_ ?_
  · refine eb_iconst (pc := 19) (v := (-1)) dX9_arm_19 (by decide) ?_
    exact eb_iret (pc := 20) dX9_arm_20 (by decide) (by decide)
  · refine eb_iload_n (pc := 9) 2 dX9_arm_9 rfl rfl ?_
    refine eb_iconst (pc := 10) (v := 1) dX9_arm_10 (by decide) ?_
    refine eb_bipush (pc := 11) (v := 9) dX9_arm_11 (by decide) ?_
    refine eb_callb (pc := 13) (eb_runS (pc := 13) (As := [.int v2, .int 1, .int 9]) (rest := []) ew_425 ew_426 ew_427 rfl ed_X9_within (ct_X9_within hG _ _ _ _) ew_428 ⟨by decide, by decide⟩ (by decide) (by decide) (Nat.le_of_ble_eq_true rfl) rfl dX9_arm_13) (fun b4 s3 => ?_)
    refine eb_if_ne (pc := 16) (tgt := 21) dX9_arm_16 (by decide) ?_ ?_
    · refine eb_aload_n (pc := 21) 0 dX9_arm_21 rfl rfl ?_
      refine eb_getR (pc := 22) ef_RX9_10 dX9_arm_22 (fun r5 => ?_)
      refine eb_aload_n (pc := 25) 0 dX9_arm_25 rfl rfl ?_
      refine eb_getR (pc := 26) ef_RX9_10 dX9_arm_26 (fun r6 => ?_)
      refine eb_getR (pc := 29) ef_RX9_144 dX9_arm_29 (fun r7 => ?_)
      refine eb_iload_n (pc := 32) 1 dX9_arm_32 rfl rfl ?_
      refine eb_iload_n (pc := 33) 2 dX9_arm_33 rfl rfl ?_
      refine eb_calli (pc := 34) (eb_runV (pc := 34) (As := [.ref r7, .int v1, .int v2]) (rest := []) (ci := 3) (q0 := (RX3, TX3, 20)) (q := (RX3, TX3, 20)) ew_447 ew_448 ew_449 ew_68 rfl rfl ed_X3_put (ct_X3_put hG _ _ _ _ _) rfl ew_450 ⟨by decide, by decide⟩ (by decide) (by decide) (Nat.le_of_ble_eq_true rfl) rfl dX9_arm_34) (fun x9 s8 => ?_)
      exact eb_iret (pc := 37) dX9_arm_37 (by decide) (by decide)
    · refine eb_iconst (pc := 19) (v := (-1)) dX9_arm_19 (by decide) ?_
      exact eb_iret (pc := 20) dX9_arm_20 (by decide) (by decide)

def f_X9_rule (v0 : Nat) (v1 : Int32) (v2 : Int32) (v3 : Int32) (s : eb_S) : Option (Int32 × eb_S) := eb_cl (eb_tg s v0 8 (f_X9_isThing v0 v1 s)) fun b2 s1 => if (eb_b b2) = 0 then (some ((-1), s1)) else (eb_cl (eb_tg s1 v0 8 (f_X9_isThing v0 v2 s1)) fun b4 s3 => if (eb_b b4) = 0 then (some ((-1), s3)) else (if v1 = v2 then (some ((-1), s3)) else (eb_cl (f_X9_within v3 0 1 s3) fun b6 s5 => if (eb_b b6) = 0 then (some ((-1), s5)) else (eb_gR s5 [8] v0 0 fun r7 => eb_gI s5 [3] r7 13 fun x8 => if 8 ≤ x8 then (some ((-3), s5)) else (eb_gR s5 [8] v0 0 fun r9 => eb_cl (eb_tg s5 r9 3 (f_X3_addLaw r9 v1 v2 v3 s5)) fun x11 s10 => some (x11, s10))))))
set_option maxRecDepth 100000 in
theorem ct_X9_rule {G : eb_G} (hG : eb_ok G) (v0 : Nat) (v1 : Int32) (v2 : Int32) (v3 : Int32) (s : eb_S) : eb_ct G yX9_rule cX9_rule 4 (some .int) 3 0 0 eb_ei [.ref v0, .int v1, .int v2, .int v3] s (f_X9_rule v0 v1 v2 v3 s) := by
  refine eb_ct_i (by decide) (Nat.le_of_ble_eq_true rfl) (fun v hv => by simp at hv; rcases hv with rfl | rfl | rfl | rfl <;> simp [Value.category]) ?_
  show eb_go G yX9_rule cX9_rule 4 (some .int) (3) 0 0 .ireturn (fun r : Int32 => [.int r]) 0 [(0, .ref v0), (1, .int v1), (2, .int v2), (3, .int v3)] [] s 0 0 _
  unfold f_X9_rule
  refine eb_aload_n (pc := 0) 0 dX9_rule_0 rfl rfl ?_
  refine eb_iload_n (pc := 1) 1 dX9_rule_1 rfl rfl ?_
  refine eb_callb (pc := 2) (eb_runV (pc := 2) (As := [.int v1]) (rest := []) (ci := 8) (q0 := (RX9, TX9, 12)) (q := (RX9, TX9, 12)) ew_434 ew_435 ew_436 ew_427 rfl rfl ed_X9_isThing (ct_X9_isThing hG _ _ _) rfl ew_437 ⟨by decide, by decide⟩ (by decide) (by decide) (Nat.le_of_ble_eq_true rfl) rfl dX9_rule_2) (fun b2 s1 => ?_)
  refine eb_if_eq (pc := 5) (tgt := 30) dX9_rule_5 (by decide) ?_ ?_
  · refine eb_iconst (pc := 30) (v := (-1)) dX9_rule_30 (by decide) ?_
    exact eb_iret (pc := 31) dX9_rule_31 (by decide) (by decide)
  · refine eb_aload_n (pc := 8) 0 dX9_rule_8 rfl rfl ?_
    refine eb_iload_n (pc := 9) 2 dX9_rule_9 rfl rfl ?_
    refine eb_callb (pc := 10) (eb_runV (pc := 10) (As := [.int v2]) (rest := []) (ci := 8) (q0 := (RX9, TX9, 12)) (q := (RX9, TX9, 12)) ew_434 ew_435 ew_436 ew_427 rfl rfl ed_X9_isThing (ct_X9_isThing hG _ _ _) rfl ew_437 ⟨by decide, by decide⟩ (by decide) (by decide) (Nat.le_of_ble_eq_true rfl) rfl dX9_rule_10) (fun b4 s3 => ?_)
    refine eb_if_eq (pc := 13) (tgt := 30) dX9_rule_13 (by decide) ?_ ?_
    · refine eb_iconst (pc := 30) (v := (-1)) dX9_rule_30 (by decide) ?_
      exact eb_iret (pc := 31) dX9_rule_31 (by decide) (by decide)
    · refine eb_iload_n (pc := 16) 1 dX9_rule_16 rfl rfl ?_
      refine eb_iload_n (pc := 17) 2 dX9_rule_17 rfl rfl ?_
      refine eb_icmp_eq (pc := 18) (tgt := 30) dX9_rule_18 (by decide) ?_ ?_
      · refine eb_iconst (pc := 30) (v := (-1)) dX9_rule_30 (by decide) ?_
        exact eb_iret (pc := 31) dX9_rule_31 (by decide) (by decide)
      · refine eb_iload_n (pc := 21) 3 dX9_rule_21 rfl rfl ?_
        refine eb_iconst (pc := 22) (v := 0) dX9_rule_22 (by decide) ?_
        refine eb_iconst (pc := 23) (v := 1) dX9_rule_23 (by decide) ?_
        refine eb_callb (pc := 24) (eb_runS (pc := 24) (As := [.int v3, .int 0, .int 1]) (rest := []) ew_425 ew_426 ew_427 rfl ed_X9_within (ct_X9_within hG _ _ _ _) ew_428 ⟨by decide, by decide⟩ (by decide) (by decide) (Nat.le_of_ble_eq_true rfl) rfl dX9_rule_24) (fun b6 s5 => ?_)
        refine eb_if_ne (pc := 27) (tgt := 32) dX9_rule_27 (by decide) ?_ ?_
        · refine eb_aload_n (pc := 32) 0 dX9_rule_32 rfl rfl ?_
          refine eb_getR (pc := 33) ef_RX9_10 dX9_rule_33 (fun r7 => ?_)
          refine eb_getI (pc := 36) ef_RX9_147 dX9_rule_36 (fun x8 => ?_)
          refine eb_bipush (pc := 39) (v := 8) dX9_rule_39 (by decide) ?_
          refine eb_icmp_ge (pc := 41) (tgt := 57) dX9_rule_41 (by decide) ?_ ?_
          · refine eb_bipush (pc := 57) (v := (-3)) dX9_rule_57 (by decide) ?_
            exact eb_iret (pc := 59) dX9_rule_59 (by decide) (by decide)
          · refine eb_aload_n (pc := 44) 0 dX9_rule_44 rfl rfl ?_
            refine eb_getR (pc := 45) ef_RX9_10 dX9_rule_45 (fun r9 => ?_)
            refine eb_iload_n (pc := 48) 1 dX9_rule_48 rfl rfl ?_
            refine eb_iload_n (pc := 49) 2 dX9_rule_49 rfl rfl ?_
            refine eb_iload_n (pc := 50) 3 dX9_rule_50 rfl rfl ?_
            refine eb_calli (pc := 51) (eb_runV (pc := 51) (As := [.int v1, .int v2, .int v3]) (rest := []) (ci := 3) (q0 := (RX3, TX3, 20)) (q := (RX3, TX3, 20)) ew_469 ew_470 ew_471 ew_68 rfl rfl ed_X3_addLaw (ct_X3_addLaw hG _ _ _ _ _) rfl ew_472 ⟨by decide, by decide⟩ (by decide) (by decide) (Nat.le_of_ble_eq_true rfl) rfl dX9_rule_51) (fun x11 s10 => ?_)
            refine eb_goto (pc := 54) (tgt := 59) dX9_rule_54 (by decide) ?_
            exact eb_iret (pc := 59) dX9_rule_59 (by decide) (by decide)
        · refine eb_iconst (pc := 30) (v := (-1)) dX9_rule_30 (by decide) ?_
          exact eb_iret (pc := 31) dX9_rule_31 (by decide) (by decide)

def f_X9_off (v0 : Nat) (s : eb_S) : Option (Int32 × eb_S) := eb_gR s [8] v0 0 fun r1 => eb_gI s [3] r1 13 fun x2 => if x2 ≤ 0 then (some ((-4), s)) else (eb_gR s [8] v0 0 fun r3 => eb_cl (eb_tg s r3 3 (f_X3_dropLaw r3 s)) fun x5 s4 => some (x5, s4))
set_option maxRecDepth 100000 in
theorem ct_X9_off {G : eb_G} (hG : eb_ok G) (v0 : Nat) (s : eb_S) : eb_ct G yX9_off cX9_off 1 (some .int) 2 0 0 eb_ei [.ref v0] s (f_X9_off v0 s) := by
  refine eb_ct_i (by decide) (Nat.le_of_ble_eq_true rfl) (fun v hv => by simp at hv; rcases hv with rfl <;> simp [Value.category]) ?_
  show eb_go G yX9_off cX9_off 1 (some .int) (2) 0 0 .ireturn (fun r : Int32 => [.int r]) 0 [(0, .ref v0)] [] s 0 0 _
  unfold f_X9_off
  refine eb_aload_n (pc := 0) 0 dX9_off_0 rfl rfl ?_
  refine eb_getR (pc := 1) ef_RX9_10 dX9_off_1 (fun r1 => ?_)
  refine eb_getI (pc := 4) ef_RX9_147 dX9_off_4 (fun x2 => ?_)
  refine eb_if_le (pc := 7) (tgt := 20) dX9_off_7 (by decide) ?_ ?_
  · refine eb_bipush (pc := 20) (v := (-4)) dX9_off_20 (by decide) ?_
    exact eb_iret (pc := 22) dX9_off_22 (by decide) (by decide)
  · refine eb_aload_n (pc := 10) 0 dX9_off_10 rfl rfl ?_
    refine eb_getR (pc := 11) ef_RX9_10 dX9_off_11 (fun r3 => ?_)
    refine eb_calli (pc := 14) (eb_runV (pc := 14) (As := []) (rest := []) (ci := 3) (q0 := (RX3, TX3, 20)) (q := (RX3, TX3, 20)) ew_473 ew_474 ew_475 ew_68 rfl rfl ed_X3_dropLaw (ct_X3_dropLaw hG _ _) rfl ew_476 ⟨by decide, by decide⟩ (by decide) (by decide) (Nat.le_of_ble_eq_true rfl) rfl dX9_off_14) (fun x5 s4 => ?_)
    refine eb_goto (pc := 17) (tgt := 22) dX9_off_17 (by decide) ?_
    exact eb_iret (pc := 22) dX9_off_22 (by decide) (by decide)

def f_X9_type (v0 : Nat) (v1 : Int32) (s : eb_S) : Option (Int32 × eb_S) := eb_cl (f_X9_within v1 32 126 s) fun b2 s1 => if (eb_b b2) = 0 then (some ((-1), s1)) else (eb_gR s1 [8] v0 3 fun r3 => eb_gI s1 [7] r3 0 fun x4 => if 80 ≤ x4 then (some ((-3), s1)) else (eb_gR s1 [8] v0 3 fun r5 => eb_cl (eb_tg s1 r5 7 (f_X8_add r5 v1 s1)) fun x7 s6 => some (x7, s6)))
set_option maxRecDepth 100000 in
theorem ct_X9_type {G : eb_G} (hG : eb_ok G) (v0 : Nat) (v1 : Int32) (s : eb_S) : eb_ct G yX9_type cX9_type 2 (some .int) 2 0 0 eb_ei [.ref v0, .int v1] s (f_X9_type v0 v1 s) := by
  refine eb_ct_i (by decide) (Nat.le_of_ble_eq_true rfl) (fun v hv => by simp at hv; rcases hv with rfl | rfl <;> simp [Value.category]) ?_
  show eb_go G yX9_type cX9_type 2 (some .int) (2) 0 0 .ireturn (fun r : Int32 => [.int r]) 0 [(0, .ref v0), (1, .int v1)] [] s 0 0 _
  unfold f_X9_type
  refine eb_iload_n (pc := 0) 1 dX9_type_0 rfl rfl ?_
  refine eb_bipush (pc := 1) (v := 32) dX9_type_1 (by decide) ?_
  refine eb_bipush (pc := 3) (v := 126) dX9_type_3 (by decide) ?_
  refine eb_callb (pc := 5) (eb_runS (pc := 5) (As := [.int v1, .int 32, .int 126]) (rest := []) ew_425 ew_426 ew_427 rfl ed_X9_within (ct_X9_within hG _ _ _ _) ew_428 ⟨by decide, by decide⟩ (by decide) (by decide) (Nat.le_of_ble_eq_true rfl) rfl dX9_type_5) (fun b2 s1 => ?_)
  refine eb_if_ne (pc := 8) (tgt := 13) dX9_type_8 (by decide) ?_ ?_
  · refine eb_aload_n (pc := 13) 0 dX9_type_13 rfl rfl ?_
    refine eb_getR (pc := 14) ef_RX9_25 dX9_type_14 (fun r3 => ?_)
    refine eb_getI (pc := 17) ef_RX9_157 dX9_type_17 (fun x4 => ?_)
    refine eb_bipush (pc := 20) (v := 80) dX9_type_20 (by decide) ?_
    refine eb_icmp_ge (pc := 22) (tgt := 36) dX9_type_22 (by decide) ?_ ?_
    · refine eb_bipush (pc := 36) (v := (-3)) dX9_type_36 (by decide) ?_
      exact eb_iret (pc := 38) dX9_type_38 (by decide) (by decide)
    · refine eb_aload_n (pc := 25) 0 dX9_type_25 rfl rfl ?_
      refine eb_getR (pc := 26) ef_RX9_25 dX9_type_26 (fun r5 => ?_)
      refine eb_iload_n (pc := 29) 1 dX9_type_29 rfl rfl ?_
      refine eb_calli (pc := 30) (eb_runV (pc := 30) (As := [.int v1]) (rest := []) (ci := 7) (q0 := (RX8, TX8, 3)) (q := (RX8, TX8, 3)) ew_478 ew_479 ew_480 ew_372 rfl rfl ed_X8_add (ct_X8_add hG _ _ _) rfl ew_481 ⟨by decide, by decide⟩ (by decide) (by decide) (Nat.le_of_ble_eq_true rfl) rfl dX9_type_30) (fun x7 s6 => ?_)
      refine eb_goto (pc := 33) (tgt := 38) dX9_type_33 (by decide) ?_
      exact eb_iret (pc := 38) dX9_type_38 (by decide) (by decide)
  · refine eb_iconst (pc := 11) (v := (-1)) dX9_type_11 (by decide) ?_
    exact eb_iret (pc := 12) dX9_type_12 (by decide) (by decide)

def f_X9_count (n : Nat) (v0 : Nat) (v1 : Int32) (s : eb_S) : Option (Int32 × eb_S) := eb_sw v1 0 [(eb_gR s [8] v0 0 fun r1 => eb_gI s [3] r1 1 fun x2 => some (x2, s)), (eb_gR s [8] v0 0 fun r3 => eb_gI s [3] r3 7 fun x4 => some (x4, s)), (eb_gR s [8] v0 0 fun r5 => eb_gI s [3] r5 13 fun x6 => some (x6, s)), (eb_gR s [8] v0 0 fun r7 => eb_gI s [3] r7 17 fun x8 => some (x8, s)), (eb_gR s [8] v0 0 fun r9 => eb_cl (eb_tg s r9 3 (f_X3_wholeWay n r9 s)) fun x11 s10 => some (x11, s10)), (eb_gR s [8] v0 0 fun r12 => eb_gR s [3] r12 12 fun r13 => eb_ai s r13 0 fun x14 => some (x14, s)), (eb_gR s [8] v0 0 fun r15 => eb_gR s [3] r15 12 fun r16 => eb_ai s r16 1 fun x17 => some (x17, s))] (some ((-1), s))
set_option maxRecDepth 100000 in
theorem ct_X9_count {G : eb_G} (hG : eb_ok G) (n : Nat) (v0 : Nat) (v1 : Int32) (s : eb_S) : eb_ct G yX9_count cX9_count 2 (some .int) 2 0 0 eb_ei [.ref v0, .int v1] s (f_X9_count n v0 v1 s) := by
  refine eb_ct_i (by decide) (Nat.le_of_ble_eq_true rfl) (fun v hv => by simp at hv; rcases hv with rfl | rfl <;> simp [Value.category]) ?_
  show eb_go G yX9_count cX9_count 2 (some .int) (2) 0 0 .ireturn (fun r : Int32 => [.int r]) 0 [(0, .ref v0), (1, .int v1)] [] s 0 0 _
  unfold f_X9_count
  refine eb_iload_n (pc := 0) 1 dX9_count_0 rfl rfl ?_
  refine eb_tswitch (pc := 1) (i0 := 0) (tgs := [44, 52, 60, 68, 76, 84, 94]) (td := 104) dX9_count_1 rfl rfl rfl rfl (by decide) ⟨?_, ?_, ?_, ?_, ?_, ?_, ?_, trivial⟩ ?_
  · refine eb_aload_n (pc := 44) 0 dX9_count_44 rfl rfl ?_
    refine eb_getR (pc := 45) ef_RX9_10 dX9_count_45 (fun r1 => ?_)
    refine eb_getI (pc := 48) ef_RX9_85 dX9_count_48 (fun x2 => ?_)
    exact eb_iret (pc := 51) dX9_count_51 (by decide) (by decide)
  · refine eb_aload_n (pc := 52) 0 dX9_count_52 rfl rfl ?_
    refine eb_getR (pc := 53) ef_RX9_10 dX9_count_53 (fun r3 => ?_)
    refine eb_getI (pc := 56) ef_RX9_122 dX9_count_56 (fun x4 => ?_)
    exact eb_iret (pc := 59) dX9_count_59 (by decide) (by decide)
  · refine eb_aload_n (pc := 60) 0 dX9_count_60 rfl rfl ?_
    refine eb_getR (pc := 61) ef_RX9_10 dX9_count_61 (fun r5 => ?_)
    refine eb_getI (pc := 64) ef_RX9_147 dX9_count_64 (fun x6 => ?_)
    exact eb_iret (pc := 67) dX9_count_67 (by decide) (by decide)
  · refine eb_aload_n (pc := 68) 0 dX9_count_68 rfl rfl ?_
    refine eb_getR (pc := 69) ef_RX9_10 dX9_count_69 (fun r7 => ?_)
    refine eb_getI (pc := 72) ef_RX9_174 dX9_count_72 (fun x8 => ?_)
    exact eb_iret (pc := 75) dX9_count_75 (by decide) (by decide)
  · refine eb_aload_n (pc := 76) 0 dX9_count_76 rfl rfl ?_
    refine eb_getR (pc := 77) ef_RX9_10 dX9_count_77 (fun r9 => ?_)
    refine eb_calli (pc := 80) (eb_runV (pc := 80) (As := []) (rest := []) (ci := 3) (q0 := (RX3, TX3, 20)) (q := (RX3, TX3, 20)) ew_483 ew_484 ew_485 ew_68 rfl rfl ed_X3_wholeWay (ct_X3_wholeWay hG n _ _) rfl ew_486 ⟨by decide, by decide⟩ (by decide) (by decide) (Nat.le_of_ble_eq_true rfl) rfl dX9_count_80) (fun x11 s10 => ?_)
    exact eb_iret (pc := 83) dX9_count_83 (by decide) (by decide)
  · refine eb_aload_n (pc := 84) 0 dX9_count_84 rfl rfl ?_
    refine eb_getR (pc := 85) ef_RX9_10 dX9_count_85 (fun r12 => ?_)
    refine eb_getR (pc := 88) ef_RX9_144 dX9_count_88 (fun r13 => ?_)
    refine eb_iconst (pc := 91) (v := 0) dX9_count_91 (by decide) ?_
    refine eb_iaload (pc := 92) dX9_count_92 (fun x14 => ?_)
    exact eb_iret (pc := 93) dX9_count_93 (by decide) (by decide)
  · refine eb_aload_n (pc := 94) 0 dX9_count_94 rfl rfl ?_
    refine eb_getR (pc := 95) ef_RX9_10 dX9_count_95 (fun r15 => ?_)
    refine eb_getR (pc := 98) ef_RX9_144 dX9_count_98 (fun r16 => ?_)
    refine eb_iconst (pc := 101) (v := 1) dX9_count_101 (by decide) ?_
    refine eb_iaload (pc := 102) dX9_count_102 (fun x17 => ?_)
    exact eb_iret (pc := 103) dX9_count_103 (by decide) (by decide)
  · refine eb_iconst (pc := 104) (v := (-1)) dX9_count_104 (by decide) ?_
    exact eb_iret (pc := 105) dX9_count_105 (by decide) (by decide)

def f_X9_load (n : Nat) (v0 : Nat) (v1 : Int32) (v2 : Int32) (s : eb_S) : Option (Int32 × eb_S) := eb_cl (f_X9_isBag v1 s) fun b2 s1 => if (eb_b b2) = 0 then (some ((-1), s1)) else (eb_cl (eb_tg s1 v0 8 (f_X9_isStretch v0 v2 s1)) fun b4 s3 => if (eb_b b4) = 0 then (some ((-1), s3)) else (eb_gR s3 [8] v0 0 fun r5 => eb_cl (eb_tg s3 r5 3 (f_X3_bagLoad n r5 v1 v2 s3)) fun x7 s6 => some (x7, s6)))
set_option maxRecDepth 100000 in
theorem ct_X9_load {G : eb_G} (hG : eb_ok G) (n : Nat) (v0 : Nat) (v1 : Int32) (v2 : Int32) (s : eb_S) : eb_ct G yX9_load cX9_load 3 (some .int) 3 0 0 eb_ei [.ref v0, .int v1, .int v2] s (f_X9_load n v0 v1 v2 s) := by
  refine eb_ct_i (by decide) (Nat.le_of_ble_eq_true rfl) (fun v hv => by simp at hv; rcases hv with rfl | rfl | rfl <;> simp [Value.category]) ?_
  show eb_go G yX9_load cX9_load 3 (some .int) (3) 0 0 .ireturn (fun r : Int32 => [.int r]) 0 [(0, .ref v0), (1, .int v1), (2, .int v2)] [] s 0 0 _
  unfold f_X9_load
  refine eb_iload_n (pc := 0) 1 dX9_load_0 rfl rfl ?_
  refine eb_callb (pc := 1) (eb_runS (pc := 1) (As := [.int v1]) (rest := []) ew_451 ew_452 ew_427 rfl ed_X9_isBag (ct_X9_isBag hG _ _) ew_453 ⟨by decide, by decide⟩ (by decide) (by decide) (Nat.le_of_ble_eq_true rfl) rfl dX9_load_1) (fun b2 s1 => ?_)
  refine eb_if_eq (pc := 4) (tgt := 27) dX9_load_4 (by decide) ?_ ?_
  · refine eb_iconst (pc := 27) (v := (-1)) dX9_load_27 (by decide) ?_
    exact eb_iret (pc := 28) dX9_load_28 (by decide) (by decide)
  · refine eb_aload_n (pc := 7) 0 dX9_load_7 rfl rfl ?_
    refine eb_iload_n (pc := 8) 2 dX9_load_8 rfl rfl ?_
    refine eb_callb (pc := 9) (eb_runV (pc := 9) (As := [.int v2]) (rest := []) (ci := 8) (q0 := (RX9, TX9, 12)) (q := (RX9, TX9, 12)) ew_459 ew_460 ew_461 ew_427 rfl rfl ed_X9_isStretch (ct_X9_isStretch hG _ _ _) rfl ew_462 ⟨by decide, by decide⟩ (by decide) (by decide) (Nat.le_of_ble_eq_true rfl) rfl dX9_load_9) (fun b4 s3 => ?_)
    refine eb_if_eq (pc := 12) (tgt := 27) dX9_load_12 (by decide) ?_ ?_
    · refine eb_iconst (pc := 27) (v := (-1)) dX9_load_27 (by decide) ?_
      exact eb_iret (pc := 28) dX9_load_28 (by decide) (by decide)
    · refine eb_aload_n (pc := 15) 0 dX9_load_15 rfl rfl ?_
      refine eb_getR (pc := 16) ef_RX9_10 dX9_load_16 (fun r5 => ?_)
      refine eb_iload_n (pc := 19) 1 dX9_load_19 rfl rfl ?_
      refine eb_iload_n (pc := 20) 2 dX9_load_20 rfl rfl ?_
      refine eb_calli (pc := 21) (eb_runV (pc := 21) (As := [.int v1, .int v2]) (rest := []) (ci := 3) (q0 := (RX3, TX3, 20)) (q := (RX3, TX3, 20)) ew_487 ew_81 ew_82 ew_68 rfl rfl ed_X3_bagLoad (ct_X3_bagLoad hG n _ _ _ _) rfl ew_83 ⟨by decide, by decide⟩ (by decide) (by decide) (Nat.le_of_ble_eq_true rfl) rfl dX9_load_21) (fun x7 s6 => ?_)
      refine eb_goto (pc := 24) (tgt := 28) dX9_load_24 (by decide) ?_
      exact eb_iret (pc := 28) dX9_load_28 (by decide) (by decide)

def f_X9_lawful (n : Nat) (v0 : Nat) (s : eb_S) : Option (Int32 × eb_S) := eb_gR s [8] v0 0 fun r1 => eb_cl (eb_tg s r1 3 (f_X3_whyUnlawful n r1 s)) fun x3 s2 => some (x3, s2)
set_option maxRecDepth 100000 in
theorem ct_X9_lawful {G : eb_G} (hG : eb_ok G) (n : Nat) (v0 : Nat) (s : eb_S) : eb_ct G yX9_lawful cX9_lawful 1 (some .int) 5 0 0 eb_ei [.ref v0] s (f_X9_lawful n v0 s) := by
  refine eb_ct_i (by decide) (Nat.le_of_ble_eq_true rfl) (fun v hv => by simp at hv; rcases hv with rfl <;> simp [Value.category]) ?_
  show eb_go G yX9_lawful cX9_lawful 1 (some .int) (5) 0 0 .ireturn (fun r : Int32 => [.int r]) 0 [(0, .ref v0)] [] s 0 0 _
  unfold f_X9_lawful
  refine eb_aload_n (pc := 0) 0 dX9_lawful_0 rfl rfl ?_
  refine eb_getR (pc := 1) ef_RX9_10 dX9_lawful_1 (fun r1 => ?_)
  refine eb_calli (pc := 4) (eb_runV (pc := 4) (As := []) (rest := []) (ci := 3) (q0 := (RX3, TX3, 20)) (q := (RX3, TX3, 20)) ew_488 ew_489 ew_490 ew_68 rfl rfl ed_X3_whyUnlawful (ct_X3_whyUnlawful hG n _ _) rfl ew_491 ⟨by decide, by decide⟩ (by decide) (by decide) (Nat.le_of_ble_eq_true rfl) rfl dX9_lawful_4) (fun x3 s2 => ?_)
  exact eb_iret (pc := 7) dX9_lawful_7 (by decide) (by decide)

def f_X9_pull (n : Nat) (v0 : Nat) (v1 : Int32) (s : eb_S) : Option (Int32 × eb_S) := eb_cl (eb_tg s v0 8 (f_X9_isStretch v0 v1 s)) fun b2 s1 => if (eb_b b2) = 0 then (some ((-10000001), s1)) else (eb_gR s1 [8] v0 0 fun r3 => eb_cl (eb_tg s1 r3 3 (f_X3_offOn n r3 v1 s1)) fun x5 s4 => some (x5, s4))
set_option maxRecDepth 100000 in
theorem ct_X9_pull {G : eb_G} (hG : eb_ok G) (n : Nat) (v0 : Nat) (v1 : Int32) (s : eb_S) : eb_ct G yX9_pull cX9_pull 2 (some .int) 4 0 0 eb_ei [.ref v0, .int v1] s (f_X9_pull n v0 v1 s) := by
  refine eb_ct_i (by decide) (Nat.le_of_ble_eq_true rfl) (fun v hv => by simp at hv; rcases hv with rfl | rfl <;> simp [Value.category]) ?_
  show eb_go G yX9_pull cX9_pull 2 (some .int) (4) 0 0 .ireturn (fun r : Int32 => [.int r]) 0 [(0, .ref v0), (1, .int v1)] [] s 0 0 _
  unfold f_X9_pull
  refine eb_aload_n (pc := 0) 0 dX9_pull_0 rfl rfl ?_
  refine eb_iload_n (pc := 1) 1 dX9_pull_1 rfl rfl ?_
  refine eb_callb (pc := 2) (eb_runV (pc := 2) (As := [.int v1]) (rest := []) (ci := 8) (q0 := (RX9, TX9, 12)) (q := (RX9, TX9, 12)) ew_459 ew_460 ew_461 ew_427 rfl rfl ed_X9_isStretch (ct_X9_isStretch hG _ _ _) rfl ew_462 ⟨by decide, by decide⟩ (by decide) (by decide) (Nat.le_of_ble_eq_true rfl) rfl dX9_pull_2) (fun b2 s1 => ?_)
  refine eb_if_eq (pc := 5) (tgt := 19) dX9_pull_5 (by decide) ?_ ?_
  · refine eb_ldc (pc := 19) (v := (-10000001)) dX9_pull_19 ew_492 ?_
    exact eb_iret (pc := 21) dX9_pull_21 (by decide) (by decide)
  · refine eb_aload_n (pc := 8) 0 dX9_pull_8 rfl rfl ?_
    refine eb_getR (pc := 9) ef_RX9_10 dX9_pull_9 (fun r3 => ?_)
    refine eb_iload_n (pc := 12) 1 dX9_pull_12 rfl rfl ?_
    refine eb_calli (pc := 13) (eb_runV (pc := 13) (As := [.int v1]) (rest := []) (ci := 3) (q0 := (RX3, TX3, 20)) (q := (RX3, TX3, 20)) ew_493 ew_89 ew_90 ew_68 rfl rfl ed_X3_offOn (ct_X3_offOn hG n _ _ _) rfl ew_91 ⟨by decide, by decide⟩ (by decide) (by decide) (Nat.le_of_ble_eq_true rfl) rfl dX9_pull_13) (fun x5 s4 => ?_)
    refine eb_goto (pc := 16) (tgt := 21) dX9_pull_16 (by decide) ?_
    exact eb_iret (pc := 21) dX9_pull_21 (by decide) (by decide)

def f_X9_uneven (n : Nat) (v0 : Nat) (v1 : Int32) (s : eb_S) : Option (Int32 × eb_S) := eb_lw v1 [(0, eb_gR s [8] v0 0 fun r1 => eb_cl (eb_tg s r1 3 (f_X3_worst n r1 s)) fun x3 s2 => some (x3, s2)), (1, eb_gR s [8] v0 0 fun r4 => eb_cl (eb_tg s r4 3 (f_X3_whole n r4 s)) fun x6 s5 => some (x6, s5))] (some ((-1), s))
set_option maxRecDepth 100000 in
theorem ct_X9_uneven {G : eb_G} (hG : eb_ok G) (n : Nat) (v0 : Nat) (v1 : Int32) (s : eb_S) : eb_ct G yX9_uneven cX9_uneven 2 (some .int) 5 0 0 eb_ei [.ref v0, .int v1] s (f_X9_uneven n v0 v1 s) := by
  refine eb_ct_i (by decide) (Nat.le_of_ble_eq_true rfl) (fun v hv => by simp at hv; rcases hv with rfl | rfl <;> simp [Value.category]) ?_
  show eb_go G yX9_uneven cX9_uneven 2 (some .int) (5) 0 0 .ireturn (fun r : Int32 => [.int r]) 0 [(0, .ref v0), (1, .int v1)] [] s 0 0 _
  unfold f_X9_uneven
  refine eb_iload_n (pc := 0) 1 dX9_uneven_0 rfl rfl ?_
  refine eb_lswitch2 (pc := 1) (k0 := 0) (k1 := 1) (t0 := 28) (t1 := 36) (td := 44) dX9_uneven_1 (by decide) (by decide) (by decide) (by decide) ?_ ?_ ?_
  · refine eb_aload_n (pc := 28) 0 dX9_uneven_28 rfl rfl ?_
    refine eb_getR (pc := 29) ef_RX9_10 dX9_uneven_29 (fun r1 => ?_)
    refine eb_calli (pc := 32) (eb_runV (pc := 32) (As := []) (rest := []) (ci := 3) (q0 := (RX3, TX3, 20)) (q := (RX3, TX3, 20)) ew_494 ew_495 ew_496 ew_68 rfl rfl ed_X3_worst (ct_X3_worst hG n _ _) rfl ew_497 ⟨by decide, by decide⟩ (by decide) (by decide) (Nat.le_of_ble_eq_true rfl) rfl dX9_uneven_32) (fun x3 s2 => ?_)
    exact eb_iret (pc := 35) dX9_uneven_35 (by decide) (by decide)
  · refine eb_aload_n (pc := 36) 0 dX9_uneven_36 rfl rfl ?_
    refine eb_getR (pc := 37) ef_RX9_10 dX9_uneven_37 (fun r4 => ?_)
    refine eb_calli (pc := 40) (eb_runV (pc := 40) (As := []) (rest := []) (ci := 3) (q0 := (RX3, TX3, 20)) (q := (RX3, TX3, 20)) ew_498 ew_499 ew_500 ew_68 rfl rfl ed_X3_whole (ct_X3_whole hG n _ _) rfl ew_501 ⟨by decide, by decide⟩ (by decide) (by decide) (Nat.le_of_ble_eq_true rfl) rfl dX9_uneven_40) (fun x6 s5 => ?_)
    exact eb_iret (pc := 43) dX9_uneven_43 (by decide) (by decide)
  · refine eb_iconst (pc := 44) (v := (-1)) dX9_uneven_44 (by decide) ?_
    exact eb_iret (pc := 45) dX9_uneven_45 (by decide) (by decide)

def f_X9_best (n : Nat) (v0 : Nat) (v1 : Int32) (s : eb_S) : Option (Int32 × eb_S) := eb_jn (fun (s1 : eb_S) => eb_gR s1 [8] v0 4 fun r3 => eb_cl (eb_tg s1 r3 0 (f_X6_solve n r3 s1)) fun _u s4 => eb_gR s4 [8] v0 4 fun r5 => eb_gI s4 [0] r5 6 fun x6 => if x6 = 0 then (some ((-4), s4)) else (if 0 ≤ v1 then (eb_gR s4 [8] v0 4 fun r7 => eb_gR s4 [0] r7 2 fun r8 => eb_ai s4 r8 v1 fun x9 => some (x9, s4)) else (if v1 = ((-2)) then (eb_gR s4 [8] v0 4 fun r12 => eb_gI s4 [0] r12 7 fun x13 => some (x13, s4)) else (eb_gR s4 [8] v0 4 fun r10 => eb_gI s4 [0] r10 8 fun x11 => some (x11, s4))))) fun j2 => if v1 = ((-2)) then (j2 s) else (if v1 = ((-1)) then (j2 s) else (eb_cl (eb_tg s v0 8 (f_X9_isThing v0 v1 s)) fun b15 s14 => if (eb_b b15) = 0 then (some ((-1), s14)) else (j2 s14)))
set_option maxRecDepth 100000 in
theorem ct_X9_best {G : eb_G} (hG : eb_ok G) (n : Nat) (v0 : Nat) (v1 : Int32) (s : eb_S) : eb_ct G yX9_best cX9_best 2 (some .int) 19 0 0 eb_ei [.ref v0, .int v1] s (f_X9_best n v0 v1 s) := by
  refine eb_ct_i (by decide) (Nat.le_of_ble_eq_true rfl) (fun v hv => by simp at hv; rcases hv with rfl | rfl <;> simp [Value.category]) ?_
  show eb_go G yX9_best cX9_best 2 (some .int) (19) 0 0 .ireturn (fun r : Int32 => [.int r]) 0 [(0, .ref v0), (1, .int v1)] [] s 0 0 _
  unfold f_X9_best
  refine eb_iload_n (pc := 0) 1 dX9_best_0 rfl rfl ?_
  refine eb_bipush (pc := 1) (v := (-2)) dX9_best_1 (by decide) ?_
  refine eb_join (fun j2 : eb_S → Option (Int32 × eb_S) => ∀  (s1 : eb_S), eb_go G yX9_best cX9_best 2 (some .int) (19) 0 0 .ireturn (fun r : Int32 => [.int r]) 21 [(0, .ref v0), (1, .int v1)] [] s1 0 0 (j2  s1)) ?_ (fun j2 hj2 => ?_)
  · intro  s1
    refine eb_aload_n (pc := 21) 0 dX9_best_21 rfl rfl ?_
    refine eb_getR (pc := 22) ef_RX9_34 dX9_best_22 (fun r3 => ?_)
    refine eb_callv (pc := 25) (eb_runU (pc := 25) (n := 0) (As := []) (rest := []) (x2 := ⟨RX0, "solve", "()V"⟩) (owner := RX6) (ci := 0) (q := (RX0, TX0, 11)) ew_502 ew_503 (fun q hq => by cases hq; exact ew_504) ew_505 ew_140 rfl (by decide +kernel) (ct_X6_solve hG n _ _) rfl ew_506 ⟨by decide, by decide⟩ (by decide) (by decide) (Nat.le_of_ble_eq_true rfl) rfl dX9_best_25) (fun _u s4 => ?_)
    refine eb_aload_n (pc := 28) 0 dX9_best_28 rfl rfl ?_
    refine eb_getR (pc := 29) ef_RX9_34 dX9_best_29 (fun r5 => ?_)
    refine eb_getI (pc := 32) ef_RX9_199 dX9_best_32 (fun x6 => ?_)
    refine eb_if_ne (pc := 35) (tgt := 41) dX9_best_35 (by decide) ?_ ?_
    · refine eb_iload_n (pc := 41) 1 dX9_best_41 rfl rfl ?_
      refine eb_if_ge (pc := 42) (tgt := 69) dX9_best_42 (by decide) ?_ ?_
      · refine eb_aload_n (pc := 69) 0 dX9_best_69 rfl rfl ?_
        refine eb_getR (pc := 70) ef_RX9_34 dX9_best_70 (fun r7 => ?_)
        refine eb_getR (pc := 73) ef_RX9_206 dX9_best_73 (fun r8 => ?_)
        refine eb_iload_n (pc := 76) 1 dX9_best_76 rfl rfl ?_
        refine eb_iaload (pc := 77) dX9_best_77 (fun x9 => ?_)
        exact eb_iret (pc := 78) dX9_best_78 (by decide) (by decide)
      · refine eb_iload_n (pc := 45) 1 dX9_best_45 rfl rfl ?_
        refine eb_bipush (pc := 46) (v := (-2)) dX9_best_46 (by decide) ?_
        refine eb_icmp_ne (pc := 48) (tgt := 61) dX9_best_48 (by decide) ?_ ?_
        · refine eb_aload_n (pc := 61) 0 dX9_best_61 rfl rfl ?_
          refine eb_getR (pc := 62) ef_RX9_34 dX9_best_62 (fun r10 => ?_)
          refine eb_getI (pc := 65) ef_RX9_204 dX9_best_65 (fun x11 => ?_)
          exact eb_iret (pc := 68) dX9_best_68 (by decide) (by decide)
        · refine eb_aload_n (pc := 51) 0 dX9_best_51 rfl rfl ?_
          refine eb_getR (pc := 52) ef_RX9_34 dX9_best_52 (fun r12 => ?_)
          refine eb_getI (pc := 55) ef_RX9_202 dX9_best_55 (fun x13 => ?_)
          refine eb_goto (pc := 58) (tgt := 68) dX9_best_58 (by decide) ?_
          exact eb_iret (pc := 68) dX9_best_68 (by decide) (by decide)
    · refine eb_bipush (pc := 38) (v := (-4)) dX9_best_38 (by decide) ?_
      exact eb_iret (pc := 40) dX9_best_40 (by decide) (by decide)
  refine eb_icmp_eq (pc := 3) (tgt := 21) dX9_best_3 (by decide) ?_ ?_
  · exact hj2 _
  · refine eb_iload_n (pc := 6) 1 dX9_best_6 rfl rfl ?_
    refine eb_iconst (pc := 7) (v := (-1)) dX9_best_7 (by decide) ?_
    refine eb_icmp_eq (pc := 8) (tgt := 21) dX9_best_8 (by decide) ?_ ?_
    · exact hj2 _
    · refine eb_aload_n (pc := 11) 0 dX9_best_11 rfl rfl ?_
      refine eb_iload_n (pc := 12) 1 dX9_best_12 rfl rfl ?_
      refine eb_callb (pc := 13) (eb_runV (pc := 13) (As := [.int v1]) (rest := []) (ci := 8) (q0 := (RX9, TX9, 12)) (q := (RX9, TX9, 12)) ew_434 ew_435 ew_436 ew_427 rfl rfl ed_X9_isThing (ct_X9_isThing hG _ _ _) rfl ew_437 ⟨by decide, by decide⟩ (by decide) (by decide) (Nat.le_of_ble_eq_true rfl) rfl dX9_best_13) (fun b15 s14 => ?_)
      refine eb_if_ne (pc := 16) (tgt := 21) dX9_best_16 (by decide) ?_ ?_
      · exact hj2 _
      · refine eb_iconst (pc := 19) (v := (-1)) dX9_best_19 (by decide) ?_
        exact eb_iret (pc := 20) dX9_best_20 (by decide) (by decide)

def f_X9_pack (n : Nat) (v0 : Nat) (s : eb_S) : Option (Int32 × eb_S) := eb_gR s [8] v0 4 fun r1 => eb_cl (eb_tg s r1 0 (f_X6_solve n r1 s)) fun _u s2 => eb_gR s2 [8] v0 4 fun r3 => eb_gI s2 [0] r3 6 fun x4 => if x4 = 0 then (some ((-4), s2)) else (eb_gR s2 [8] v0 0 fun r5 => eb_gR s2 [8] v0 4 fun r6 => eb_gR s2 [0] r6 2 fun r7 => eb_cl (eb_tg s2 r5 3 (f_X3_packAs r5 r7 s2)) fun _u s8 => eb_gR s8 [8] v0 4 fun r9 => eb_gI s8 [0] r9 7 fun x10 => some (x10, s8))
set_option maxRecDepth 100000 in
theorem ct_X9_pack {G : eb_G} (hG : eb_ok G) (n : Nat) (v0 : Nat) (s : eb_S) : eb_ct G yX9_pack cX9_pack 1 (some .int) 19 0 0 eb_ei [.ref v0] s (f_X9_pack n v0 s) := by
  refine eb_ct_i (by decide) (Nat.le_of_ble_eq_true rfl) (fun v hv => by simp at hv; rcases hv with rfl <;> simp [Value.category]) ?_
  show eb_go G yX9_pack cX9_pack 1 (some .int) (19) 0 0 .ireturn (fun r : Int32 => [.int r]) 0 [(0, .ref v0)] [] s 0 0 _
  unfold f_X9_pack
  refine eb_aload_n (pc := 0) 0 dX9_pack_0 rfl rfl ?_
  refine eb_getR (pc := 1) ef_RX9_34 dX9_pack_1 (fun r1 => ?_)
  refine eb_callv (pc := 4) (eb_runU (pc := 4) (n := 0) (As := []) (rest := []) (x2 := ⟨RX0, "solve", "()V"⟩) (owner := RX6) (ci := 0) (q := (RX0, TX0, 11)) ew_502 ew_503 (fun q hq => by cases hq; exact ew_504) ew_505 ew_140 rfl (by decide +kernel) (ct_X6_solve hG n _ _) rfl ew_506 ⟨by decide, by decide⟩ (by decide) (by decide) (Nat.le_of_ble_eq_true rfl) rfl dX9_pack_4) (fun _u s2 => ?_)
  refine eb_aload_n (pc := 7) 0 dX9_pack_7 rfl rfl ?_
  refine eb_getR (pc := 8) ef_RX9_34 dX9_pack_8 (fun r3 => ?_)
  refine eb_getI (pc := 11) ef_RX9_199 dX9_pack_11 (fun x4 => ?_)
  refine eb_if_ne (pc := 14) (tgt := 20) dX9_pack_14 (by decide) ?_ ?_
  · refine eb_aload_n (pc := 20) 0 dX9_pack_20 rfl rfl ?_
    refine eb_getR (pc := 21) ef_RX9_10 dX9_pack_21 (fun r5 => ?_)
    refine eb_aload_n (pc := 24) 0 dX9_pack_24 rfl rfl ?_
    refine eb_getR (pc := 25) ef_RX9_34 dX9_pack_25 (fun r6 => ?_)
    refine eb_getR (pc := 28) ef_RX9_206 dX9_pack_28 (fun r7 => ?_)
    refine eb_callv (pc := 31) (eb_runV (pc := 31) (As := [.ref r7]) (rest := []) (ci := 3) (q0 := (RX3, TX3, 20)) (q := (RX3, TX3, 20)) ew_512 ew_513 ew_514 ew_68 rfl rfl ed_X3_packAs (ct_X3_packAs hG _ _ _) rfl ew_515 ⟨by decide, by decide⟩ (by decide) (by decide) (Nat.le_of_ble_eq_true rfl) rfl dX9_pack_31) (fun _u s8 => ?_)
    refine eb_aload_n (pc := 34) 0 dX9_pack_34 rfl rfl ?_
    refine eb_getR (pc := 35) ef_RX9_34 dX9_pack_35 (fun r9 => ?_)
    refine eb_getI (pc := 38) ef_RX9_202 dX9_pack_38 (fun x10 => ?_)
    exact eb_iret (pc := 41) dX9_pack_41 (by decide) (by decide)
  · refine eb_bipush (pc := 17) (v := (-4)) dX9_pack_17 (by decide) ?_
    exact eb_iret (pc := 19) dX9_pack_19 (by decide) (by decide)

def f_X9_evenest (n : Nat) (v0 : Nat) (v1 : Int32) (v2 : Int32) (s : eb_S) : Option (Int32 × eb_S) := eb_cl (eb_tg s v0 8 (f_X9_isStretch v0 v1 s)) fun b2 s1 => if (eb_b b2) = 0 then (some ((-1), s1)) else (eb_jn (fun (s3 : eb_S) => eb_gR s3 [8] v0 0 fun r5 => eb_cl (eb_tg s3 r5 3 (f_X3_evenestSplit n r5 v1 s3)) fun x7 s6 => if 0 ≤ v2 then (eb_gR s6 [8] v0 0 fun r8 => eb_cl (eb_tg s6 r8 3 (f_X3_isInRight r8 x7 v2 s6)) fun b10 s9 => if (eb_b b10) = 0 then (some (0, s9)) else (some (1, s9))) else (eb_gR s6 [8] v0 0 fun r11 => eb_cl (eb_tg s6 r11 3 (f_X3_splitOff n r11 x7 v1 s6)) fun x13 s12 => some (if 0 ≤ x13 then x13 else 0 - x13, s12))) fun j4 => if v2 = ((-1)) then (j4 s1) else (eb_cl (eb_tg s1 v0 8 (f_X9_isThing v0 v2 s1)) fun b15 s14 => if (eb_b b15) = 0 then (some ((-1), s14)) else (j4 s14)))
set_option maxRecDepth 100000 in
theorem ct_X9_evenest {G : eb_G} (hG : eb_ok G) (n : Nat) (v0 : Nat) (v1 : Int32) (v2 : Int32) (s : eb_S) : eb_ct G yX9_evenest cX9_evenest 4 (some .int) 4 0 0 eb_ei [.ref v0, .int v1, .int v2] s (f_X9_evenest n v0 v1 v2 s) := by
  refine eb_ct_i (by decide) (Nat.le_of_ble_eq_true rfl) (fun v hv => by simp at hv; rcases hv with rfl | rfl | rfl <;> simp [Value.category]) ?_
  show eb_go G yX9_evenest cX9_evenest 4 (some .int) (4) 0 0 .ireturn (fun r : Int32 => [.int r]) 0 [(0, .ref v0), (1, .int v1), (2, .int v2)] [] s 0 0 _
  unfold f_X9_evenest
  refine eb_aload_n (pc := 0) 0 dX9_evenest_0 rfl rfl ?_
  refine eb_iload_n (pc := 1) 1 dX9_evenest_1 rfl rfl ?_
  refine eb_callb (pc := 2) (eb_runV (pc := 2) (As := [.int v1]) (rest := []) (ci := 8) (q0 := (RX9, TX9, 12)) (q := (RX9, TX9, 12)) ew_459 ew_460 ew_461 ew_427 rfl rfl ed_X9_isStretch (ct_X9_isStretch hG _ _ _) rfl ew_462 ⟨by decide, by decide⟩ (by decide) (by decide) (Nat.le_of_ble_eq_true rfl) rfl dX9_evenest_2) (fun b2 s1 => ?_)
  refine eb_if_eq (pc := 5) (tgt := 21) dX9_evenest_5 (by decide) ?_ ?_
  · refine eb_iconst (pc := 21) (v := (-1)) dX9_evenest_21 (by decide) ?_
    exact eb_iret (pc := 22) dX9_evenest_22 (by decide) (by decide)
  · refine eb_iload_n (pc := 8) 2 dX9_evenest_8 rfl rfl ?_
    refine eb_iconst (pc := 9) (v := (-1)) dX9_evenest_9 (by decide) ?_
    refine eb_join (fun j4 : eb_S → Option (Int32 × eb_S) => ∀  (s3 : eb_S), eb_go G yX9_evenest cX9_evenest 4 (some .int) (4) 0 0 .ireturn (fun r : Int32 => [.int r]) 23 [(0, .ref v0), (1, .int v1), (2, .int v2)] [] s3 0 0 (j4  s3)) ?_ (fun j4 hj4 => ?_)
    · intro  s3
      refine eb_aload_n (pc := 23) 0 dX9_evenest_23 rfl rfl ?_
      refine eb_getR (pc := 24) ef_RX9_10 dX9_evenest_24 (fun r5 => ?_)
      refine eb_iload_n (pc := 27) 1 dX9_evenest_27 rfl rfl ?_
      refine eb_calli (pc := 28) (eb_runV (pc := 28) (As := [.int v1]) (rest := []) (ci := 3) (q0 := (RX3, TX3, 20)) (q := (RX3, TX3, 20)) ew_516 ew_517 ew_518 ew_68 rfl rfl ed_X3_evenestSplit (ct_X3_evenestSplit hG n _ _ _) rfl ew_519 ⟨by decide, by decide⟩ (by decide) (by decide) (Nat.le_of_ble_eq_true rfl) rfl dX9_evenest_28) (fun x7 s6 => ?_)
      refine eb_istore_n (pc := 31) (L' := [(3, .int x7), (0, .ref v0), (1, .int v1), (2, .int v2)]) dX9_evenest_31 rfl (by decide) rfl ?_
      refine eb_iload_n (pc := 32) 3 dX9_evenest_32 rfl rfl ?_
      refine eb_if_ge (pc := 33) (tgt := 49) dX9_evenest_33 (by decide) ?_ ?_
      · refine eb_aload_n (pc := 49) 1 dX9_evenest_49 rfl rfl ?_
        refine eb_getR (pc := 50) ef_RX9_10 dX9_evenest_50 (fun r8 => ?_)
        refine eb_iload_n (pc := 53) 0 dX9_evenest_53 rfl rfl ?_
        refine eb_iload_n (pc := 54) 3 dX9_evenest_54 rfl rfl ?_
        refine eb_callb (pc := 55) (eb_runV (pc := 55) (As := [.int x7, .int v2]) (rest := []) (ci := 3) (q0 := (RX3, TX3, 20)) (q := (RX3, TX3, 20)) ew_520 ew_116 ew_117 ew_68 rfl rfl ed_X3_isInRight (ct_X3_isInRight hG _ _ _ _) rfl ew_118 ⟨by decide, by decide⟩ (by decide) (by decide) (Nat.le_of_ble_eq_true rfl) rfl dX9_evenest_55) (fun b10 s9 => ?_)
        refine eb_if_eq (pc := 58) (tgt := 65) dX9_evenest_58 (by decide) ?_ ?_
        · refine eb_iconst (pc := 65) (v := 0) dX9_evenest_65 (by decide) ?_
          exact eb_iret (pc := 66) dX9_evenest_66 (by decide) (by decide)
        · refine eb_iconst (pc := 61) (v := 1) dX9_evenest_61 (by decide) ?_
          refine eb_goto (pc := 62) (tgt := 66) dX9_evenest_62 (by decide) ?_
          exact eb_iret (pc := 66) dX9_evenest_66 (by decide) (by decide)
      · refine eb_aload_n (pc := 36) 1 dX9_evenest_36 rfl rfl ?_
        refine eb_getR (pc := 37) ef_RX9_10 dX9_evenest_37 (fun r11 => ?_)
        refine eb_iload_n (pc := 40) 0 dX9_evenest_40 rfl rfl ?_
        refine eb_iload_n (pc := 41) 2 dX9_evenest_41 rfl rfl ?_
        refine eb_calli (pc := 42) (eb_runV (pc := 42) (As := [.int x7, .int v1]) (rest := []) (ci := 3) (q0 := (RX3, TX3, 20)) (q := (RX3, TX3, 20)) ew_521 ew_120 ew_121 ew_68 rfl rfl ed_X3_splitOff (ct_X3_splitOff hG n _ _ _ _) rfl ew_122 ⟨by decide, by decide⟩ (by decide) (by decide) (Nat.le_of_ble_eq_true rfl) rfl dX9_evenest_42) (fun x13 s12 => ?_)
        refine eb_mabs (pc := 45) ew_522 ew_93 ew_17 ew_94 (by decide) (Nat.le_of_ble_eq_true rfl) (by decide) (by decide) dX9_evenest_45 ?_
        exact eb_iret (pc := 48) dX9_evenest_48 (by decide) (by decide)
    refine eb_icmp_eq (pc := 10) (tgt := 23) dX9_evenest_10 (by decide) ?_ ?_
    · exact hj4 _
    · refine eb_aload_n (pc := 13) 0 dX9_evenest_13 rfl rfl ?_
      refine eb_iload_n (pc := 14) 2 dX9_evenest_14 rfl rfl ?_
      refine eb_callb (pc := 15) (eb_runV (pc := 15) (As := [.int v2]) (rest := []) (ci := 8) (q0 := (RX9, TX9, 12)) (q := (RX9, TX9, 12)) ew_434 ew_435 ew_436 ew_427 rfl rfl ed_X9_isThing (ct_X9_isThing hG _ _ _) rfl ew_437 ⟨by decide, by decide⟩ (by decide) (by decide) (Nat.le_of_ble_eq_true rfl) rfl dX9_evenest_15) (fun b15 s14 => ?_)
      refine eb_if_ne (pc := 18) (tgt := 23) dX9_evenest_18 (by decide) ?_ ?_
      · exact hj4 _
      · refine eb_iconst (pc := 21) (v := (-1)) dX9_evenest_21 (by decide) ?_
        exact eb_iret (pc := 22) dX9_evenest_22 (by decide) (by decide)

def f_X9_moved (n : Nat) (v0 : Nat) (v1 : Int32) (v2 : Int32) (v3 : Int32) (s : eb_S) : Option (Int32 × eb_S) := eb_cl (eb_tg s v0 8 (f_X9_isStretch v0 v1 s)) fun b2 s1 => if (eb_b b2) = 0 then (some ((-1), s1)) else (eb_cl (f_X9_within v2 0 99999 s1) fun b4 s3 => if (eb_b b4) = 0 then (some ((-1), s3)) else (eb_jn (fun (s5 : eb_S) => eb_gR s5 [8] v0 5 fun r7 => eb_cl (eb_tg s5 r7 4 (f_X4_ask r7 v1 v2 s5)) fun _u s8 => eb_gR s8 [8] v0 5 fun r9 => eb_cl (eb_tg s8 r9 4 (f_X6_solve n r9 s8)) fun _u s10 => eb_gR s10 [8] v0 5 fun r11 => eb_gI s10 [4] r11 6 fun x12 => if x12 = 0 then (some ((-4), s10)) else (if 0 ≤ v3 then (eb_gR s10 [8] v0 5 fun r13 => eb_gR s10 [4] r13 2 fun r14 => eb_ai s10 r14 v3 fun x15 => some (x15, s10)) else (eb_gR s10 [8] v0 5 fun r16 => eb_gI s10 [4] r16 7 fun x17 => some (x17, s10)))) fun j6 => if v3 = ((-1)) then (j6 s3) else (eb_cl (eb_tg s3 v0 8 (f_X9_isThing v0 v3 s3)) fun b19 s18 => if (eb_b b19) = 0 then (some ((-1), s18)) else (j6 s18))))
set_option maxRecDepth 100000 in
theorem ct_X9_moved {G : eb_G} (hG : eb_ok G) (n : Nat) (v0 : Nat) (v1 : Int32) (v2 : Int32) (v3 : Int32) (s : eb_S) : eb_ct G yX9_moved cX9_moved 4 (some .int) 19 0 0 eb_ei [.ref v0, .int v1, .int v2, .int v3] s (f_X9_moved n v0 v1 v2 v3 s) := by
  refine eb_ct_i (by decide) (Nat.le_of_ble_eq_true rfl) (fun v hv => by simp at hv; rcases hv with rfl | rfl | rfl | rfl <;> simp [Value.category]) ?_
  show eb_go G yX9_moved cX9_moved 4 (some .int) (19) 0 0 .ireturn (fun r : Int32 => [.int r]) 0 [(0, .ref v0), (1, .int v1), (2, .int v2), (3, .int v3)] [] s 0 0 _
  unfold f_X9_moved
  refine eb_aload_n (pc := 0) 0 dX9_moved_0 rfl rfl ?_
  refine eb_iload_n (pc := 1) 1 dX9_moved_1 rfl rfl ?_
  refine eb_callb (pc := 2) (eb_runV (pc := 2) (As := [.int v1]) (rest := []) (ci := 8) (q0 := (RX9, TX9, 12)) (q := (RX9, TX9, 12)) ew_459 ew_460 ew_461 ew_427 rfl rfl ed_X9_isStretch (ct_X9_isStretch hG _ _ _) rfl ew_462 ⟨by decide, by decide⟩ (by decide) (by decide) (Nat.le_of_ble_eq_true rfl) rfl dX9_moved_2) (fun b2 s1 => ?_)
  refine eb_if_eq (pc := 5) (tgt := 31) dX9_moved_5 (by decide) ?_ ?_
  · refine eb_iconst (pc := 31) (v := (-1)) dX9_moved_31 (by decide) ?_
    exact eb_iret (pc := 32) dX9_moved_32 (by decide) (by decide)
  · refine eb_iload_n (pc := 8) 2 dX9_moved_8 rfl rfl ?_
    refine eb_iconst (pc := 9) (v := 0) dX9_moved_9 (by decide) ?_
    refine eb_ldc (pc := 10) (v := 99999) dX9_moved_10 ew_534 ?_
    refine eb_callb (pc := 12) (eb_runS (pc := 12) (As := [.int v2, .int 0, .int 99999]) (rest := []) ew_425 ew_426 ew_427 rfl ed_X9_within (ct_X9_within hG _ _ _ _) ew_428 ⟨by decide, by decide⟩ (by decide) (by decide) (Nat.le_of_ble_eq_true rfl) rfl dX9_moved_12) (fun b4 s3 => ?_)
    refine eb_if_eq (pc := 15) (tgt := 31) dX9_moved_15 (by decide) ?_ ?_
    · refine eb_iconst (pc := 31) (v := (-1)) dX9_moved_31 (by decide) ?_
      exact eb_iret (pc := 32) dX9_moved_32 (by decide) (by decide)
    · refine eb_iload_n (pc := 18) 3 dX9_moved_18 rfl rfl ?_
      refine eb_iconst (pc := 19) (v := (-1)) dX9_moved_19 (by decide) ?_
      refine eb_join (fun j6 : eb_S → Option (Int32 × eb_S) => ∀  (s5 : eb_S), eb_go G yX9_moved cX9_moved 4 (some .int) (19) 0 0 .ireturn (fun r : Int32 => [.int r]) 33 [(0, .ref v0), (1, .int v1), (2, .int v2), (3, .int v3)] [] s5 0 0 (j6  s5)) ?_ (fun j6 hj6 => ?_)
      · intro  s5
        refine eb_aload_n (pc := 33) 0 dX9_moved_33 rfl rfl ?_
        refine eb_getR (pc := 34) ef_RX9_41 dX9_moved_34 (fun r7 => ?_)
        refine eb_iload_n (pc := 37) 1 dX9_moved_37 rfl rfl ?_
        refine eb_iload_n (pc := 38) 2 dX9_moved_38 rfl rfl ?_
        refine eb_callv (pc := 39) (eb_runV (pc := 39) (As := [.int v1, .int v2]) (rest := []) (ci := 4) (q0 := (RX4, TX4, 11)) (q := (RX4, TX4, 11)) ew_523 ew_524 ew_525 ew_229 rfl rfl ed_X4_ask (ct_X4_ask hG _ _ _ _) rfl ew_526 ⟨by decide, by decide⟩ (by decide) (by decide) (Nat.le_of_ble_eq_true rfl) rfl dX9_moved_39) (fun _u s8 => ?_)
        refine eb_aload_n (pc := 42) 0 dX9_moved_42 rfl rfl ?_
        refine eb_getR (pc := 43) ef_RX9_41 dX9_moved_43 (fun r9 => ?_)
        refine eb_callv (pc := 46) (eb_runU (pc := 46) (n := 0) (As := []) (rest := []) (x2 := ⟨RX4, "solve", "()V"⟩) (owner := RX6) (ci := 4) (q := (RX4, TX4, 11)) ew_527 ew_528 (fun q hq => by cases hq; exact ew_529) ew_505 ew_140 rfl (by decide +kernel) (ct_X6_solve hG n _ _) rfl ew_506 ⟨by decide, by decide⟩ (by decide) (by decide) (Nat.le_of_ble_eq_true rfl) rfl dX9_moved_46) (fun _u s10 => ?_)
        refine eb_aload_n (pc := 49) 0 dX9_moved_49 rfl rfl ?_
        refine eb_getR (pc := 50) ef_RX9_41 dX9_moved_50 (fun r11 => ?_)
        refine eb_getI (pc := 53) ef_RX9_234 dX9_moved_53 (fun x12 => ?_)
        refine eb_if_ne (pc := 56) (tgt := 62) dX9_moved_56 (by decide) ?_ ?_
        · refine eb_iload_n (pc := 62) 3 dX9_moved_62 rfl rfl ?_
          refine eb_if_ge (pc := 63) (tgt := 76) dX9_moved_63 (by decide) ?_ ?_
          · refine eb_aload_n (pc := 76) 0 dX9_moved_76 rfl rfl ?_
            refine eb_getR (pc := 77) ef_RX9_41 dX9_moved_77 (fun r13 => ?_)
            refine eb_getR (pc := 80) ef_RX9_238 dX9_moved_80 (fun r14 => ?_)
            refine eb_iload_n (pc := 83) 3 dX9_moved_83 rfl rfl ?_
            refine eb_iaload (pc := 84) dX9_moved_84 (fun x15 => ?_)
            exact eb_iret (pc := 85) dX9_moved_85 (by decide) (by decide)
          · refine eb_aload_n (pc := 66) 0 dX9_moved_66 rfl rfl ?_
            refine eb_getR (pc := 67) ef_RX9_41 dX9_moved_67 (fun r16 => ?_)
            refine eb_getI (pc := 70) ef_RX9_235 dX9_moved_70 (fun x17 => ?_)
            refine eb_goto (pc := 73) (tgt := 85) dX9_moved_73 (by decide) ?_
            exact eb_iret (pc := 85) dX9_moved_85 (by decide) (by decide)
        · refine eb_bipush (pc := 59) (v := (-4)) dX9_moved_59 (by decide) ?_
          exact eb_iret (pc := 61) dX9_moved_61 (by decide) (by decide)
      refine eb_icmp_eq (pc := 20) (tgt := 33) dX9_moved_20 (by decide) ?_ ?_
      · exact hj6 _
      · refine eb_aload_n (pc := 23) 0 dX9_moved_23 rfl rfl ?_
        refine eb_iload_n (pc := 24) 3 dX9_moved_24 rfl rfl ?_
        refine eb_callb (pc := 25) (eb_runV (pc := 25) (As := [.int v3]) (rest := []) (ci := 8) (q0 := (RX9, TX9, 12)) (q := (RX9, TX9, 12)) ew_434 ew_435 ew_436 ew_427 rfl rfl ed_X9_isThing (ct_X9_isThing hG _ _ _) rfl ew_437 ⟨by decide, by decide⟩ (by decide) (by decide) (Nat.le_of_ble_eq_true rfl) rfl dX9_moved_25) (fun b19 s18 => ?_)
        refine eb_if_ne (pc := 28) (tgt := 33) dX9_moved_28 (by decide) ?_ ?_
        · exact hj6 _
        · refine eb_iconst (pc := 31) (v := (-1)) dX9_moved_31 (by decide) ?_
          exact eb_iret (pc := 32) dX9_moved_32 (by decide) (by decide)

def f_X9_inLowestTerms_L8 (n : Nat) (v0 : Int32) (v1 : Int32) (v2 : Int32) (K : Int32 → eb_S → Option (Int32 × eb_S)) : Nat → Int32 → Int32 → Int32 → eb_S → Option (Int32 × eb_S)
  | 0, _, _, _, _ => none
  | m + 1, v3, v4, v5, s => if 100 ≤ v5 then (K v3 s) else (if v4 ≤ 0 then (K v3 s) else (if v4 = 0 then none else f_X9_inLowestTerms_L8 n v0 v1 v2 K m v4 (v3 - v3 / v4 * v4) (v5 + 1) s))
def f_X9_inLowestTerms (n : Nat) (v0 : Int32) (v1 : Int32) (v2 : Int32) (s : eb_S) : Option (Int32 × eb_S) := f_X9_inLowestTerms_L8 n v0 v1 v2 (fun (w1 : Int32) (s2 : eb_S) => if 1 ≤ w1 then (if v2 = 0 then (if w1 = 0 then none else some (v0 / w1, s2)) else (if w1 = 0 then none else some (v1 / w1, s2))) else (if v2 = 0 then (some (v0, s2)) else (some (v1, s2)))) n v1 v0 0 s
set_option maxRecDepth 100000 in
theorem gl_X9_inLowestTerms_L8 {G : eb_G} (hG : eb_ok G) {n : Nat} {v0 : Int32} {v1 : Int32} {v2 : Int32} {K : Int32 → eb_S → Option (Int32 × eb_S)} (hK : ∀ (v3 : Int32) (s : eb_S), eb_go G yX9_inLowestTerms cX9_inLowestTerms 7 (some .int) (1) 0 0 .ireturn (fun r : Int32 => [.int r]) 39 [(0, .int v0), (1, .int v1), (2, .int v2), (3, .int v3)] [] s 0 0 (K v3 s)) : ∀ (m : Nat) (v3 : Int32) (v4 : Int32) (v5 : Int32) (s : eb_S), eb_go G yX9_inLowestTerms cX9_inLowestTerms 7 (some .int) (1) 0 0 .ireturn (fun r : Int32 => [.int r]) 8 [(0, .int v0), (1, .int v1), (2, .int v2), (3, .int v3), (4, .int v4), (5, .int v5)] [] s 0 0 (f_X9_inLowestTerms_L8 n v0 v1 v2 K m v3 v4 v5 s) := by
  intro m
  induction m with
  | zero => intro v3 v4 v5 s; exact eb_none
  | succ m ih =>
    intro v3 v4 v5 s
    rw [f_X9_inLowestTerms_L8.eq_2]
    refine eb_iload (pc := 8) 5 dX9_inLowestTerms_8 rfl ?_
    refine eb_bipush (pc := 10) (v := 100) dX9_inLowestTerms_10 (by decide) ?_
    refine eb_icmp_ge (pc := 12) (tgt := 39) dX9_inLowestTerms_12 (by decide) ?_ ?_
    · refine eb_sub [0, 1, 2, 3] rfl ?_
      exact hK _ _
    · refine eb_iload (pc := 15) 4 dX9_inLowestTerms_15 rfl ?_
      refine eb_if_le (pc := 17) (tgt := 39) dX9_inLowestTerms_17 (by decide) ?_ ?_
      · refine eb_sub [0, 1, 2, 3] rfl ?_
        exact hK _ _
      · refine eb_iload_n (pc := 20) 3 dX9_inLowestTerms_20 rfl rfl ?_
        refine eb_iload (pc := 21) 4 dX9_inLowestTerms_21 rfl ?_
        refine eb_irem (pc := 23) dX9_inLowestTerms_23 ?_
        refine eb_istore (pc := 24) (L' := [(6, .int (v3 - v3 / v4 * v4)), (0, .int v0), (1, .int v1), (2, .int v2), (3, .int v3), (4, .int v4), (5, .int v5)]) dX9_inLowestTerms_24 (by decide) rfl ?_
        refine eb_iload (pc := 26) 5 dX9_inLowestTerms_26 rfl ?_
        refine eb_istore_n (pc := 28) (L' := [(3, .int v4), (6, .int (v3 - v3 / v4 * v4)), (0, .int v0), (1, .int v1), (2, .int v2), (4, .int v4), (5, .int v5)]) dX9_inLowestTerms_28 rfl (by decide) rfl ?_
        refine eb_iload (pc := 29) 1 dX9_inLowestTerms_29 rfl ?_
        refine eb_istore (pc := 31) (L' := [(4, .int (v3 - v3 / v4 * v4)), (3, .int v4), (6, .int (v3 - v3 / v4 * v4)), (0, .int v0), (1, .int v1), (2, .int v2), (5, .int v5)]) dX9_inLowestTerms_31 (by decide) rfl ?_
        refine eb_iinc (pc := 33) (v := v5 + 1) (L' := [(5, .int (v5 + 1)), (4, .int (v3 - v3 / v4 * v4)), (3, .int v4), (6, .int (v3 - v3 / v4 * v4)), (0, .int v0), (1, .int v1), (2, .int v2)]) 6 dX9_inLowestTerms_33 rfl rfl (by decide) rfl ?_
        refine eb_goto (pc := 36) (tgt := 8) dX9_inLowestTerms_36 (by decide) ?_
        refine eb_sub [4, 5, 6, 2, 1, 0] rfl ?_
        exact ih _ _ _ _
set_option maxRecDepth 100000 in
theorem ct_X9_inLowestTerms {G : eb_G} (hG : eb_ok G) (n : Nat) (v0 : Int32) (v1 : Int32) (v2 : Int32) (s : eb_S) : eb_ct G yX9_inLowestTerms cX9_inLowestTerms 7 (some .int) 1 0 0 eb_ei [.int v0, .int v1, .int v2] s (f_X9_inLowestTerms n v0 v1 v2 s) := by
  refine eb_ct_i (by decide) (Nat.le_of_ble_eq_true rfl) (fun v hv => by simp at hv; rcases hv with rfl | rfl | rfl <;> simp [Value.category]) ?_
  show eb_go G yX9_inLowestTerms cX9_inLowestTerms 7 (some .int) (1) 0 0 .ireturn (fun r : Int32 => [.int r]) 0 [(0, .int v0), (1, .int v1), (2, .int v2)] [] s 0 0 _
  unfold f_X9_inLowestTerms
  refine eb_iload_n (pc := 0) 1 dX9_inLowestTerms_0 rfl rfl ?_
  refine eb_istore_n (pc := 1) (L' := [(3, .int v1), (0, .int v0), (1, .int v1), (2, .int v2)]) dX9_inLowestTerms_1 rfl (by decide) rfl ?_
  refine eb_iload_n (pc := 2) 1 dX9_inLowestTerms_2 rfl rfl ?_
  refine eb_istore (pc := 3) (L' := [(4, .int v0), (3, .int v1), (0, .int v0), (1, .int v1), (2, .int v2)]) dX9_inLowestTerms_3 (by decide) rfl ?_
  refine eb_iconst (pc := 5) (v := 0) dX9_inLowestTerms_5 (by decide) ?_
  refine eb_istore (pc := 6) (L' := [(5, .int 0), (4, .int v0), (3, .int v1), (0, .int v0), (1, .int v1), (2, .int v2)]) dX9_inLowestTerms_6 (by decide) rfl ?_
  refine eb_sub [3, 4, 5, 2, 1, 0] rfl ?_
  refine gl_X9_inLowestTerms_L8 hG (fun w1 s2 => ?_) n _ _ _ _
  refine eb_iload_n (pc := 39) 3 dX9_inLowestTerms_39 rfl rfl ?_
  refine eb_iconst (pc := 40) (v := 1) dX9_inLowestTerms_40 (by decide) ?_
  refine eb_icmp_ge (pc := 41) (tgt := 54) dX9_inLowestTerms_41 (by decide) ?_ ?_
  · refine eb_iload_n (pc := 54) 2 dX9_inLowestTerms_54 rfl rfl ?_
    refine eb_if_ne (pc := 55) (tgt := 64) dX9_inLowestTerms_55 (by decide) ?_ ?_
    · refine eb_iload_n (pc := 64) 1 dX9_inLowestTerms_64 rfl rfl ?_
      refine eb_iload_n (pc := 65) 3 dX9_inLowestTerms_65 rfl rfl ?_
      refine eb_idiv (pc := 66) dX9_inLowestTerms_66 ?_
      exact eb_iret (pc := 67) dX9_inLowestTerms_67 (by decide) (by decide)
    · refine eb_iload_n (pc := 58) 0 dX9_inLowestTerms_58 rfl rfl ?_
      refine eb_iload_n (pc := 59) 3 dX9_inLowestTerms_59 rfl rfl ?_
      refine eb_idiv (pc := 60) dX9_inLowestTerms_60 ?_
      refine eb_goto (pc := 61) (tgt := 67) dX9_inLowestTerms_61 (by decide) ?_
      exact eb_iret (pc := 67) dX9_inLowestTerms_67 (by decide) (by decide)
  · refine eb_iload_n (pc := 44) 2 dX9_inLowestTerms_44 rfl rfl ?_
    refine eb_if_ne (pc := 45) (tgt := 52) dX9_inLowestTerms_45 (by decide) ?_ ?_
    · refine eb_iload_n (pc := 52) 1 dX9_inLowestTerms_52 rfl rfl ?_
      exact eb_iret (pc := 53) dX9_inLowestTerms_53 (by decide) (by decide)
    · refine eb_iload_n (pc := 48) 0 dX9_inLowestTerms_48 rfl rfl ?_
      refine eb_goto (pc := 49) (tgt := 53) dX9_inLowestTerms_49 (by decide) ?_
      exact eb_iret (pc := 53) dX9_inLowestTerms_53 (by decide) (by decide)

def f_X9_yardOf_L8 (n : Nat) (v0 : Nat) (v2 : Int32) (K : Int32 → Int32 → Int32 → eb_S → Option (Int32 × eb_S)) : Nat → Int32 → Int32 → Int32 → eb_S → Option (Int32 × eb_S)
  | 0, _, _, _, _ => none
  | m + 1, v3, v4, v5, s => eb_gR s [8] v0 0 fun r1 => eb_gI s [3] r1 7 fun x2 => if x2 ≤ v5 then (some ((-4), s)) else (eb_gR s [8] v0 10 fun r3 => eb_ai s r3 v5 fun x4 => eb_gR s [8] v0 0 fun r5 => eb_gR s [3] r5 8 fun r6 => eb_ai s r6 v5 fun x7 => if (x4 * x7) < v3 then (eb_gR s [8] v0 0 fun r8 => eb_gR s [3] r8 8 fun r9 => eb_ai s r9 v5 fun x10 => f_X9_yardOf_L8 n v0 v2 K m (v3 - (x4 * x7)) (v4 + x10) (v5 + 1) s) else (K v3 v4 v5 s))
def f_X9_yardOf (n : Nat) (v0 : Nat) (v1 : Int32) (v2 : Int32) (s : eb_S) : Option (Int32 × eb_S) := f_X9_yardOf_L8 n v0 v2 (fun (w11 : Int32) (w12 : Int32) (w13 : Int32) (s14 : eb_S) => eb_gR s14 [8] v0 10 fun r15 => eb_ai s14 r15 w13 fun x16 => eb_gR s14 [8] v0 10 fun r17 => eb_ai s14 r17 w13 fun x18 => eb_cl (f_X9_inLowestTerms n ((w12 * x16) + w11) x18 v2 s14) fun x20 s19 => some (x20, s19)) n v1 0 0 s
set_option maxRecDepth 100000 in
theorem gl_X9_yardOf_L8 {G : eb_G} (hG : eb_ok G) {n : Nat} {v0 : Nat} {v2 : Int32} {K : Int32 → Int32 → Int32 → eb_S → Option (Int32 × eb_S)} (hK : ∀ (v3 : Int32) (v4 : Int32) (v5 : Int32) (s : eb_S), eb_go G yX9_yardOf cX9_yardOf 7 (some .int) (2) 0 0 .ireturn (fun r : Int32 => [.int r]) 46 [(0, .ref v0), (2, .int v2), (3, .int v3), (4, .int v4), (5, .int v5)] [] s 0 0 (K v3 v4 v5 s)) : ∀ (m : Nat) (v3 : Int32) (v4 : Int32) (v5 : Int32) (s : eb_S), eb_go G yX9_yardOf cX9_yardOf 7 (some .int) (2) 0 0 .ireturn (fun r : Int32 => [.int r]) 8 [(0, .ref v0), (2, .int v2), (3, .int v3), (4, .int v4), (5, .int v5)] [] s 0 0 (f_X9_yardOf_L8 n v0 v2 K m v3 v4 v5 s) := by
  intro m
  induction m with
  | zero => intro v3 v4 v5 s; exact eb_none
  | succ m ih =>
    intro v3 v4 v5 s
    rw [f_X9_yardOf_L8.eq_2]
    refine eb_iload (pc := 8) 4 dX9_yardOf_8 rfl ?_
    refine eb_aload_n (pc := 10) 0 dX9_yardOf_10 rfl rfl ?_
    refine eb_getR (pc := 11) ef_RX9_10 dX9_yardOf_11 (fun r1 => ?_)
    refine eb_getI (pc := 14) ef_RX9_122 dX9_yardOf_14 (fun x2 => ?_)
    refine eb_icmp_ge (pc := 17) (tgt := 96) dX9_yardOf_17 (by decide) ?_ ?_
    · refine eb_bipush (pc := 96) (v := (-4)) dX9_yardOf_96 (by decide) ?_
      exact eb_iret (pc := 98) dX9_yardOf_98 (by decide) (by decide)
    · refine eb_aload_n (pc := 20) 0 dX9_yardOf_20 rfl rfl ?_
      refine eb_getR (pc := 21) ef_RX9_73 dX9_yardOf_21 (fun r3 => ?_)
      refine eb_iload (pc := 24) 4 dX9_yardOf_24 rfl ?_
      refine eb_iaload (pc := 26) dX9_yardOf_26 (fun x4 => ?_)
      refine eb_aload_n (pc := 27) 0 dX9_yardOf_27 rfl rfl ?_
      refine eb_getR (pc := 28) ef_RX9_10 dX9_yardOf_28 (fun r5 => ?_)
      refine eb_getR (pc := 31) ef_RX9_132 dX9_yardOf_31 (fun r6 => ?_)
      refine eb_iload (pc := 34) 4 dX9_yardOf_34 rfl ?_
      refine eb_iaload (pc := 36) dX9_yardOf_36 (fun x7 => ?_)
      refine eb_imul (pc := 37) dX9_yardOf_37 ?_
      refine eb_istore (pc := 38) (L' := [(6, .int (x4 * x7)), (0, .ref v0), (2, .int v2), (3, .int v3), (4, .int v4), (5, .int v5)]) dX9_yardOf_38 (by decide) rfl ?_
      refine eb_iload (pc := 40) 0 dX9_yardOf_40 rfl ?_
      refine eb_iload_n (pc := 42) 3 dX9_yardOf_42 rfl rfl ?_
      refine eb_icmp_lt (pc := 43) (tgt := 70) dX9_yardOf_43 (by decide) ?_ ?_
      · refine eb_iload_n (pc := 70) 3 dX9_yardOf_70 rfl rfl ?_
        refine eb_iload (pc := 71) 0 dX9_yardOf_71 rfl ?_
        refine eb_isub (pc := 73) dX9_yardOf_73 ?_
        refine eb_istore_n (pc := 74) (L' := [(3, .int (v3 - (x4 * x7))), (6, .int (x4 * x7)), (0, .ref v0), (2, .int v2), (4, .int v4), (5, .int v5)]) dX9_yardOf_74 rfl (by decide) rfl ?_
        refine eb_iload (pc := 75) 4 dX9_yardOf_75 rfl ?_
        refine eb_aload_n (pc := 77) 2 dX9_yardOf_77 rfl rfl ?_
        refine eb_getR (pc := 78) ef_RX9_10 dX9_yardOf_78 (fun r8 => ?_)
        refine eb_getR (pc := 81) ef_RX9_132 dX9_yardOf_81 (fun r9 => ?_)
        refine eb_iload (pc := 84) 5 dX9_yardOf_84 rfl ?_
        refine eb_iaload (pc := 86) dX9_yardOf_86 (fun x10 => ?_)
        refine eb_iadd (pc := 87) dX9_yardOf_87 ?_
        refine eb_istore (pc := 88) (L' := [(4, .int (v4 + x10)), (3, .int (v3 - (x4 * x7))), (6, .int (x4 * x7)), (0, .ref v0), (2, .int v2), (5, .int v5)]) dX9_yardOf_88 (by decide) rfl ?_
        refine eb_iinc (pc := 90) (v := v5 + 1) (L' := [(5, .int (v5 + 1)), (4, .int (v4 + x10)), (3, .int (v3 - (x4 * x7))), (6, .int (x4 * x7)), (0, .ref v0), (2, .int v2)]) 5 dX9_yardOf_90 rfl rfl (by decide) rfl ?_
        refine eb_goto (pc := 93) (tgt := 8) dX9_yardOf_93 (by decide) ?_
        refine eb_sub [4, 5, 2, 1, 0] rfl ?_
        exact ih _ _ _ _
      · refine eb_sub [1, 2, 3, 4, 5] rfl ?_
        exact hK _ _ _ _
set_option maxRecDepth 100000 in
theorem ct_X9_yardOf {G : eb_G} (hG : eb_ok G) (n : Nat) (v0 : Nat) (v1 : Int32) (v2 : Int32) (s : eb_S) : eb_ct G yX9_yardOf cX9_yardOf 7 (some .int) 2 0 0 eb_ei [.ref v0, .int v1, .int v2] s (f_X9_yardOf n v0 v1 v2 s) := by
  refine eb_ct_i (by decide) (Nat.le_of_ble_eq_true rfl) (fun v hv => by simp at hv; rcases hv with rfl | rfl | rfl <;> simp [Value.category]) ?_
  show eb_go G yX9_yardOf cX9_yardOf 7 (some .int) (2) 0 0 .ireturn (fun r : Int32 => [.int r]) 0 [(0, .ref v0), (1, .int v1), (2, .int v2)] [] s 0 0 _
  unfold f_X9_yardOf
  refine eb_iload_n (pc := 0) 1 dX9_yardOf_0 rfl rfl ?_
  refine eb_istore_n (pc := 1) (L' := [(3, .int v1), (0, .ref v0), (1, .int v1), (2, .int v2)]) dX9_yardOf_1 rfl (by decide) rfl ?_
  refine eb_iconst (pc := 2) (v := 0) dX9_yardOf_2 (by decide) ?_
  refine eb_istore (pc := 3) (L' := [(4, .int 0), (3, .int v1), (0, .ref v0), (1, .int v1), (2, .int v2)]) dX9_yardOf_3 (by decide) rfl ?_
  refine eb_iconst (pc := 5) (v := 0) dX9_yardOf_5 (by decide) ?_
  refine eb_istore (pc := 6) (L' := [(5, .int 0), (4, .int 0), (3, .int v1), (0, .ref v0), (1, .int v1), (2, .int v2)]) dX9_yardOf_6 (by decide) rfl ?_
  refine eb_sub [3, 5, 2, 1, 0] rfl ?_
  refine gl_X9_yardOf_L8 hG (fun w11 w12 w13 s14 => ?_) n _ _ _ _
  refine eb_iload (pc := 46) 3 dX9_yardOf_46 rfl ?_
  refine eb_aload_n (pc := 48) 0 dX9_yardOf_48 rfl rfl ?_
  refine eb_getR (pc := 49) ef_RX9_73 dX9_yardOf_49 (fun r15 => ?_)
  refine eb_iload (pc := 52) 4 dX9_yardOf_52 rfl ?_
  refine eb_iaload (pc := 54) dX9_yardOf_54 (fun x16 => ?_)
  refine eb_imul (pc := 55) dX9_yardOf_55 ?_
  refine eb_iload_n (pc := 56) 2 dX9_yardOf_56 rfl rfl ?_
  refine eb_iadd (pc := 57) dX9_yardOf_57 ?_
  refine eb_aload_n (pc := 58) 0 dX9_yardOf_58 rfl rfl ?_
  refine eb_getR (pc := 59) ef_RX9_73 dX9_yardOf_59 (fun r17 => ?_)
  refine eb_iload (pc := 62) 4 dX9_yardOf_62 rfl ?_
  refine eb_iaload (pc := 64) dX9_yardOf_64 (fun x18 => ?_)
  refine eb_iload_n (pc := 65) 1 dX9_yardOf_65 rfl rfl ?_
  refine eb_calli (pc := 66) (eb_runS (pc := 66) (As := [.int ((w12 * x16) + w11), .int x18, .int v2]) (rest := []) ew_535 ew_536 ew_427 rfl ed_X9_inLowestTerms (ct_X9_inLowestTerms hG n _ _ _ _) ew_537 ⟨by decide, by decide⟩ (by decide) (by decide) (Nat.le_of_ble_eq_true rfl) rfl dX9_yardOf_66) (fun x20 s19 => ?_)
  exact eb_iret (pc := 69) dX9_yardOf_69 (by decide) (by decide)

def f_X9_hands_L47 (n : Nat) (v0 : Nat) (v1 : Int32) (v2 : Int32) (v3 : Int32) (v4 : Int32) (K : Int32 → eb_S → Option (Int32 × eb_S)) : Nat → Int32 → Int32 → eb_S → Option (Int32 × eb_S)
  | 0, _, _, _ => none
  | m + 1, v5, v6, s => eb_gR s [8] v0 0 fun r11 => eb_gI s [3] r11 7 fun x12 => if x12 ≤ v6 then (K v5 s) else (eb_gR s [8] v0 0 fun r13 => eb_cl (eb_tg s r13 3 (f_X3_bagLoad n r13 v1 v6 s)) fun x15 s14 => eb_gR s14 [8] v0 0 fun r16 => eb_cl (eb_tg s14 r16 3 (f_X3_steepness r16 v6 s14)) fun x18 s17 => eb_gR s17 [8] v0 0 fun r19 => eb_gR s17 [3] r19 8 fun r20 => eb_ai s17 r20 v6 fun x21 => eb_gR s17 [8] v0 10 fun r22 => eb_wi s17 r22 v6 ((x15 * x18) * v4) fun s23 => f_X9_hands_L47 n v0 v1 v2 v3 v4 K m (v5 + ((x15 * x18) * x21)) (v6 + 1) s23)
def f_X9_hands (n : Nat) (v0 : Nat) (v1 : Int32) (v2 : Int32) (s : eb_S) : Option (Int32 × eb_S) := eb_cl (f_X9_isBag v1 s) fun b2 s1 => if (eb_b b2) = 0 then (some ((-1), s1)) else (eb_cl (f_X9_within v2 0 1 s1) fun b4 s3 => if (eb_b b4) = 0 then (some ((-1), s3)) else (eb_gR s3 [8] v0 0 fun r5 => eb_gR s3 [3] r5 12 fun r6 => eb_ai s3 r6 0 fun x7 => eb_gR s3 [8] v0 0 fun r8 => eb_gR s3 [3] r8 12 fun r9 => eb_ai s3 r9 1 fun x10 => f_X9_hands_L47 n v0 v1 v2 x7 (x7 + x10) (fun (w24 : Int32) (s25 : eb_S) => if w24 = 0 then (eb_cl (f_X9_inLowestTerms n 0 1 v2 s25) fun x29 s28 => some (x29, s28)) else (eb_cl (eb_tg s25 v0 8 (f_X9_yardOf n v0 (x7 * w24) v2 s25)) fun x27 s26 => some (x27, s26))) n 0 0 s3))
set_option maxRecDepth 100000 in
theorem gl_X9_hands_L47 {G : eb_G} (hG : eb_ok G) {n : Nat} {v0 : Nat} {v1 : Int32} {v2 : Int32} {v3 : Int32} {v4 : Int32} {K : Int32 → eb_S → Option (Int32 × eb_S)} (hK : ∀ (v5 : Int32) (s : eb_S), eb_go G yX9_hands cX9_hands 8 (some .int) (3) 0 0 .ireturn (fun r : Int32 => [.int r]) 117 [(0, .ref v0), (2, .int v2), (3, .int v3), (5, .int v5)] [] s 0 0 (K v5 s)) : ∀ (m : Nat) (v5 : Int32) (v6 : Int32) (s : eb_S), eb_go G yX9_hands cX9_hands 8 (some .int) (3) 0 0 .ireturn (fun r : Int32 => [.int r]) 47 [(0, .ref v0), (1, .int v1), (2, .int v2), (3, .int v3), (4, .int v4), (5, .int v5), (6, .int v6)] [] s 0 0 (f_X9_hands_L47 n v0 v1 v2 v3 v4 K m v5 v6 s) := by
  intro m
  induction m with
  | zero => intro v5 v6 s; exact eb_none
  | succ m ih =>
    intro v5 v6 s
    rw [f_X9_hands_L47.eq_2]
    refine eb_iload (pc := 47) 6 dX9_hands_47 rfl ?_
    refine eb_aload_n (pc := 49) 0 dX9_hands_49 rfl rfl ?_
    refine eb_getR (pc := 50) ef_RX9_10 dX9_hands_50 (fun r11 => ?_)
    refine eb_getI (pc := 53) ef_RX9_122 dX9_hands_53 (fun x12 => ?_)
    refine eb_icmp_ge (pc := 56) (tgt := 117) dX9_hands_56 (by decide) ?_ ?_
    · refine eb_sub [0, 2, 3, 5] rfl ?_
      exact hK _ _
    · refine eb_aload_n (pc := 59) 0 dX9_hands_59 rfl rfl ?_
      refine eb_getR (pc := 60) ef_RX9_10 dX9_hands_60 (fun r13 => ?_)
      refine eb_iload_n (pc := 63) 1 dX9_hands_63 rfl rfl ?_
      refine eb_iload (pc := 64) 6 dX9_hands_64 rfl ?_
      refine eb_calli (pc := 66) (eb_runV (pc := 66) (As := [.int v1, .int v6]) (rest := []) (ci := 3) (q0 := (RX3, TX3, 20)) (q := (RX3, TX3, 20)) ew_487 ew_81 ew_82 ew_68 rfl rfl ed_X3_bagLoad (ct_X3_bagLoad hG n _ _ _ _) rfl ew_83 ⟨by decide, by decide⟩ (by decide) (by decide) (Nat.le_of_ble_eq_true rfl) rfl dX9_hands_66) (fun x15 s14 => ?_)
      refine eb_aload_n (pc := 69) 0 dX9_hands_69 rfl rfl ?_
      refine eb_getR (pc := 70) ef_RX9_10 dX9_hands_70 (fun r16 => ?_)
      refine eb_iload (pc := 73) 6 dX9_hands_73 rfl ?_
      refine eb_calli (pc := 75) (eb_runV (pc := 75) (As := [.int v6]) (rest := [.int x15]) (ci := 3) (q0 := (RX3, TX3, 20)) (q := (RX3, TX3, 20)) ew_538 ew_96 ew_97 ew_68 rfl rfl ed_X3_steepness (ct_X3_steepness hG _ _ _) rfl ew_98 ⟨by decide, by decide⟩ (by decide) (by decide) (Nat.le_of_ble_eq_true rfl) rfl dX9_hands_75) (fun x18 s17 => ?_)
      refine eb_imul (pc := 78) dX9_hands_78 ?_
      refine eb_istore (pc := 79) (L' := [(7, .int (x15 * x18)), (0, .ref v0), (1, .int v1), (2, .int v2), (3, .int v3), (4, .int v4), (5, .int v5), (6, .int v6)]) dX9_hands_79 (by decide) rfl ?_
      refine eb_iload (pc := 81) 6 dX9_hands_81 rfl ?_
      refine eb_iload (pc := 83) 0 dX9_hands_83 rfl ?_
      refine eb_aload_n (pc := 85) 1 dX9_hands_85 rfl rfl ?_
      refine eb_getR (pc := 86) ef_RX9_10 dX9_hands_86 (fun r19 => ?_)
      refine eb_getR (pc := 89) ef_RX9_132 dX9_hands_89 (fun r20 => ?_)
      refine eb_iload (pc := 92) 7 dX9_hands_92 rfl ?_
      refine eb_iaload (pc := 94) dX9_hands_94 (fun x21 => ?_)
      refine eb_imul (pc := 95) dX9_hands_95 ?_
      refine eb_iadd (pc := 96) dX9_hands_96 ?_
      refine eb_istore (pc := 97) (L' := [(5, .int (v5 + ((x15 * x18) * x21))), (7, .int (x15 * x18)), (0, .ref v0), (1, .int v1), (2, .int v2), (3, .int v3), (4, .int v4), (6, .int v6)]) dX9_hands_97 (by decide) rfl ?_
      refine eb_aload_n (pc := 99) 2 dX9_hands_99 rfl rfl ?_
      refine eb_getR (pc := 100) ef_RX9_73 dX9_hands_100 (fun r22 => ?_)
      refine eb_iload (pc := 103) 7 dX9_hands_103 rfl ?_
      refine eb_iload (pc := 105) 1 dX9_hands_105 rfl ?_
      refine eb_iload (pc := 107) 6 dX9_hands_107 rfl ?_
      refine eb_imul (pc := 109) dX9_hands_109 ?_
      refine eb_iastore (pc := 110) dX9_hands_110 (fun s23 => ?_)
      refine eb_iinc (pc := 111) (v := v6 + 1) (L' := [(6, .int (v6 + 1)), (5, .int (v5 + ((x15 * x18) * x21))), (7, .int (x15 * x18)), (0, .ref v0), (1, .int v1), (2, .int v2), (3, .int v3), (4, .int v4)]) 7 dX9_hands_111 rfl rfl (by decide) rfl ?_
      refine eb_goto (pc := 114) (tgt := 47) dX9_hands_114 (by decide) ?_
      refine eb_sub [3, 4, 5, 6, 7, 1, 0] rfl ?_
      exact ih _ _ _
set_option maxRecDepth 100000 in
theorem ct_X9_hands {G : eb_G} (hG : eb_ok G) (n : Nat) (v0 : Nat) (v1 : Int32) (v2 : Int32) (s : eb_S) : eb_ct G yX9_hands cX9_hands 8 (some .int) 3 0 0 eb_ei [.ref v0, .int v1, .int v2] s (f_X9_hands n v0 v1 v2 s) := by
  refine eb_ct_i (by decide) (Nat.le_of_ble_eq_true rfl) (fun v hv => by simp at hv; rcases hv with rfl | rfl | rfl <;> simp [Value.category]) ?_
  show eb_go G yX9_hands cX9_hands 8 (some .int) (3) 0 0 .ireturn (fun r : Int32 => [.int r]) 0 [(0, .ref v0), (1, .int v1), (2, .int v2)] [] s 0 0 _
  unfold f_X9_hands
  refine eb_iload_n (pc := 0) 1 dX9_hands_0 rfl rfl ?_
  refine eb_callb (pc := 1) (eb_runS (pc := 1) (As := [.int v1]) (rest := []) ew_451 ew_452 ew_427 rfl ed_X9_isBag (ct_X9_isBag hG _ _) ew_453 ⟨by decide, by decide⟩ (by decide) (by decide) (Nat.le_of_ble_eq_true rfl) rfl dX9_hands_1) (fun b2 s1 => ?_)
  refine eb_if_eq (pc := 4) (tgt := 16) dX9_hands_4 (by decide) ?_ ?_
  · refine eb_iconst (pc := 16) (v := (-1)) dX9_hands_16 (by decide) ?_
    exact eb_iret (pc := 17) dX9_hands_17 (by decide) (by decide)
  · refine eb_iload_n (pc := 7) 2 dX9_hands_7 rfl rfl ?_
    refine eb_iconst (pc := 8) (v := 0) dX9_hands_8 (by decide) ?_
    refine eb_iconst (pc := 9) (v := 1) dX9_hands_9 (by decide) ?_
    refine eb_callb (pc := 10) (eb_runS (pc := 10) (As := [.int v2, .int 0, .int 1]) (rest := []) ew_425 ew_426 ew_427 rfl ed_X9_within (ct_X9_within hG _ _ _ _) ew_428 ⟨by decide, by decide⟩ (by decide) (by decide) (Nat.le_of_ble_eq_true rfl) rfl dX9_hands_10) (fun b4 s3 => ?_)
    refine eb_if_ne (pc := 13) (tgt := 18) dX9_hands_13 (by decide) ?_ ?_
    · refine eb_aload_n (pc := 18) 0 dX9_hands_18 rfl rfl ?_
      refine eb_getR (pc := 19) ef_RX9_10 dX9_hands_19 (fun r5 => ?_)
      refine eb_getR (pc := 22) ef_RX9_144 dX9_hands_22 (fun r6 => ?_)
      refine eb_iconst (pc := 25) (v := 0) dX9_hands_25 (by decide) ?_
      refine eb_iaload (pc := 26) dX9_hands_26 (fun x7 => ?_)
      refine eb_istore_n (pc := 27) (L' := [(3, .int x7), (0, .ref v0), (1, .int v1), (2, .int v2)]) dX9_hands_27 rfl (by decide) rfl ?_
      refine eb_iload_n (pc := 28) 0 dX9_hands_28 rfl rfl ?_
      refine eb_aload_n (pc := 29) 1 dX9_hands_29 rfl rfl ?_
      refine eb_getR (pc := 30) ef_RX9_10 dX9_hands_30 (fun r8 => ?_)
      refine eb_getR (pc := 33) ef_RX9_144 dX9_hands_33 (fun r9 => ?_)
      refine eb_iconst (pc := 36) (v := 1) dX9_hands_36 (by decide) ?_
      refine eb_iaload (pc := 37) dX9_hands_37 (fun x10 => ?_)
      refine eb_iadd (pc := 38) dX9_hands_38 ?_
      refine eb_istore (pc := 39) (L' := [(4, .int (x7 + x10)), (3, .int x7), (0, .ref v0), (1, .int v1), (2, .int v2)]) dX9_hands_39 (by decide) rfl ?_
      refine eb_iconst (pc := 41) (v := 0) dX9_hands_41 (by decide) ?_
      refine eb_istore (pc := 42) (L' := [(5, .int 0), (4, .int (x7 + x10)), (3, .int x7), (0, .ref v0), (1, .int v1), (2, .int v2)]) dX9_hands_42 (by decide) rfl ?_
      refine eb_iconst (pc := 44) (v := 0) dX9_hands_44 (by decide) ?_
      refine eb_istore (pc := 45) (L' := [(6, .int 0), (5, .int 0), (4, .int (x7 + x10)), (3, .int x7), (0, .ref v0), (1, .int v1), (2, .int v2)]) dX9_hands_45 (by decide) rfl ?_
      refine eb_sub [4, 5, 6, 3, 2, 1, 0] rfl ?_
      refine gl_X9_hands_L47 hG (fun w24 s25 => ?_) n _ _ _
      refine eb_iload (pc := 117) 3 dX9_hands_117 rfl ?_
      refine eb_if_ne (pc := 119) (tgt := 131) dX9_hands_119 (by decide) ?_ ?_
      · refine eb_aload_n (pc := 131) 0 dX9_hands_131 rfl rfl ?_
        refine eb_iload_n (pc := 132) 2 dX9_hands_132 rfl rfl ?_
        refine eb_iload (pc := 133) 3 dX9_hands_133 rfl ?_
        refine eb_imul (pc := 135) dX9_hands_135 ?_
        refine eb_iload_n (pc := 136) 1 dX9_hands_136 rfl rfl ?_
        refine eb_calli (pc := 137) (eb_runV (pc := 137) (As := [.int (x7 * w24), .int v2]) (rest := []) (ci := 8) (q0 := (RX9, TX9, 12)) (q := (RX9, TX9, 12)) ew_539 ew_540 ew_541 ew_427 rfl rfl ed_X9_yardOf (ct_X9_yardOf hG n _ _ _ _) rfl ew_542 ⟨by decide, by decide⟩ (by decide) (by decide) (Nat.le_of_ble_eq_true rfl) rfl dX9_hands_137) (fun x27 s26 => ?_)
        exact eb_iret (pc := 140) dX9_hands_140 (by decide) (by decide)
      · refine eb_iconst (pc := 122) (v := 0) dX9_hands_122 (by decide) ?_
        refine eb_iconst (pc := 123) (v := 1) dX9_hands_123 (by decide) ?_
        refine eb_iload_n (pc := 124) 1 dX9_hands_124 rfl rfl ?_
        refine eb_calli (pc := 125) (eb_runS (pc := 125) (As := [.int 0, .int 1, .int v2]) (rest := []) ew_535 ew_536 ew_427 rfl ed_X9_inLowestTerms (ct_X9_inLowestTerms hG n _ _ _ _) ew_537 ⟨by decide, by decide⟩ (by decide) (by decide) (Nat.le_of_ble_eq_true rfl) rfl dX9_hands_125) (fun x29 s28 => ?_)
        refine eb_goto (pc := 128) (tgt := 140) dX9_hands_128 (by decide) ?_
        exact eb_iret (pc := 140) dX9_hands_140 (by decide) (by decide)
    · refine eb_iconst (pc := 16) (v := (-1)) dX9_hands_16 (by decide) ?_
      exact eb_iret (pc := 17) dX9_hands_17 (by decide) (by decide)

def f_X9_buying (n : Nat) (v0 : Nat) (v1 : Int32) (s : eb_S) : Option (Int32 × eb_S) := eb_jn (fun (s1 : eb_S) => eb_gR s1 [8] v0 7 fun r3 => eb_cl (eb_tg s1 r3 1 (f_X1_solve n r3 s1)) fun _u s4 => if 0 ≤ v1 then (eb_gR s4 [8] v0 7 fun r5 => eb_gR s4 [1] r5 1 fun r6 => eb_ai s4 r6 v1 fun x7 => some (x7, s4)) else (eb_gR s4 [8] v0 7 fun r8 => eb_gI s4 [1] r8 0 fun x9 => some (x9, s4))) fun j2 => if v1 = ((-1)) then (j2 s) else (eb_cl (eb_tg s v0 8 (f_X9_isThing v0 v1 s)) fun b11 s10 => if (eb_b b11) = 0 then (some ((-1), s10)) else (j2 s10))
set_option maxRecDepth 100000 in
theorem ct_X9_buying {G : eb_G} (hG : eb_ok G) (n : Nat) (v0 : Nat) (v1 : Int32) (s : eb_S) : eb_ct G yX9_buying cX9_buying 2 (some .int) 6 1 10240 eb_ei [.ref v0, .int v1] s (f_X9_buying n v0 v1 s) := by
  refine eb_ct_i (by decide) (Nat.le_of_ble_eq_true rfl) (fun v hv => by simp at hv; rcases hv with rfl | rfl <;> simp [Value.category]) ?_
  show eb_go G yX9_buying cX9_buying 2 (some .int) (6) 1 10240 .ireturn (fun r : Int32 => [.int r]) 0 [(0, .ref v0), (1, .int v1)] [] s 0 0 _
  unfold f_X9_buying
  refine eb_iload_n (pc := 0) 1 dX9_buying_0 rfl rfl ?_
  refine eb_iconst (pc := 1) (v := (-1)) dX9_buying_1 (by decide) ?_
  refine eb_join (fun j2 : eb_S → Option (Int32 × eb_S) => ∀  (s1 : eb_S), eb_go G yX9_buying cX9_buying 2 (some .int) (6) 1 10240 .ireturn (fun r : Int32 => [.int r]) 15 [(0, .ref v0), (1, .int v1)] [] s1 0 0 (j2  s1)) ?_ (fun j2 hj2 => ?_)
  · intro  s1
    refine eb_aload_n (pc := 15) 0 dX9_buying_15 rfl rfl ?_
    refine eb_getR (pc := 16) ef_RX9_55 dX9_buying_16 (fun r3 => ?_)
    refine eb_callv (pc := 19) (eb_runV (pc := 19) (As := []) (rest := []) (ci := 1) (q0 := (RX1, TX1, 5)) (q := (RX1, TX1, 5)) ew_543 ew_544 ew_545 ew_311 rfl rfl ed_X1_solve (ct_X1_solve hG n _ _) rfl ew_546 ⟨by decide, by decide⟩ (by decide) (by decide) (Nat.le_of_ble_eq_true rfl) rfl dX9_buying_19) (fun _u s4 => ?_)
    refine eb_iload_n (pc := 22) 1 dX9_buying_22 rfl rfl ?_
    refine eb_if_ge (pc := 23) (tgt := 36) dX9_buying_23 (by decide) ?_ ?_
    · refine eb_aload_n (pc := 36) 0 dX9_buying_36 rfl rfl ?_
      refine eb_getR (pc := 37) ef_RX9_55 dX9_buying_37 (fun r5 => ?_)
      refine eb_getR (pc := 40) ef_RX9_252 dX9_buying_40 (fun r6 => ?_)
      refine eb_iload_n (pc := 43) 1 dX9_buying_43 rfl rfl ?_
      refine eb_iaload (pc := 44) dX9_buying_44 (fun x7 => ?_)
      exact eb_iret (pc := 45) dX9_buying_45 (by decide) (by decide)
    · refine eb_aload_n (pc := 26) 0 dX9_buying_26 rfl rfl ?_
      refine eb_getR (pc := 27) ef_RX9_55 dX9_buying_27 (fun r8 => ?_)
      refine eb_getI (pc := 30) ef_RX9_249 dX9_buying_30 (fun x9 => ?_)
      refine eb_goto (pc := 33) (tgt := 45) dX9_buying_33 (by decide) ?_
      exact eb_iret (pc := 45) dX9_buying_45 (by decide) (by decide)
  refine eb_icmp_eq (pc := 2) (tgt := 15) dX9_buying_2 (by decide) ?_ ?_
  · exact hj2 _
  · refine eb_aload_n (pc := 5) 0 dX9_buying_5 rfl rfl ?_
    refine eb_iload_n (pc := 6) 1 dX9_buying_6 rfl rfl ?_
    refine eb_callb (pc := 7) (eb_runV (pc := 7) (As := [.int v1]) (rest := []) (ci := 8) (q0 := (RX9, TX9, 12)) (q := (RX9, TX9, 12)) ew_434 ew_435 ew_436 ew_427 rfl rfl ed_X9_isThing (ct_X9_isThing hG _ _ _) rfl ew_437 ⟨by decide, by decide⟩ (by decide) (by decide) (Nat.le_of_ble_eq_true rfl) rfl dX9_buying_7) (fun b11 s10 => ?_)
    refine eb_if_ne (pc := 10) (tgt := 15) dX9_buying_10 (by decide) ?_ ?_
    · exact hj2 _
    · refine eb_iconst (pc := 13) (v := (-1)) dX9_buying_13 (by decide) ?_
      exact eb_iret (pc := 14) dX9_buying_14 (by decide) (by decide)

def f_X9_paper_L35 (n : Nat) (v0 : Nat) (v1 : Int32) (v2 : Int32) (K : eb_S → Option (Int32 × eb_S)) : Nat → Int32 → eb_S → Option (Int32 × eb_S)
  | 0, _, _ => none
  | m + 1, v3, s => eb_gR s [8] v0 0 fun r8 => eb_gI s [3] r8 7 fun x9 => if x9 ≤ v3 then (K s) else (eb_gR s [8] v0 10 fun r10 => eb_gR s [8] v0 0 fun r11 => eb_cl (eb_tg s r11 3 (f_X3_wetLoad n r11 v1 v3 s)) fun x13 s12 => eb_wi s12 r10 v3 x13 fun s14 => f_X9_paper_L35 n v0 v1 v2 K m (v3 + 1) s14)
def f_X9_paper (n : Nat) (v0 : Nat) (v1 : Int32) (v2 : Int32) (s : eb_S) : Option (Int32 × eb_S) := eb_cl (f_X9_isBag v1 s) fun b2 s1 => if (eb_b b2) = 0 then (some ((-1), s1)) else (eb_cl (f_X9_within v2 0 1 s1) fun b4 s3 => if (eb_b b4) = 0 then (some ((-1), s3)) else (eb_gR s3 [8] v0 0 fun r5 => eb_gR s3 [3] r5 11 fun r6 => eb_ai s3 r6 v1 fun x7 => if x7 = 0 then (some ((-4), s3)) else (f_X9_paper_L35 n v0 v1 v2 (fun  (s15 : eb_S) => eb_gR s15 [8] v0 0 fun r16 => eb_gR s15 [3] r16 11 fun r17 => eb_ai s15 r17 v1 fun x18 => eb_cl (eb_tg s15 v0 8 (f_X9_yardOf n v0 x18 v2 s15)) fun x20 s19 => some (x20, s19)) n 0 s3)))
set_option maxRecDepth 100000 in
theorem gl_X9_paper_L35 {G : eb_G} (hG : eb_ok G) {n : Nat} {v0 : Nat} {v1 : Int32} {v2 : Int32} {K : eb_S → Option (Int32 × eb_S)} (hK : ∀  (s : eb_S), eb_go G yX9_paper cX9_paper 4 (some .int) (3) 0 0 .ireturn (fun r : Int32 => [.int r]) 67 [(0, .ref v0), (1, .int v1), (2, .int v2)] [] s 0 0 (K  s)) : ∀ (m : Nat) (v3 : Int32) (s : eb_S), eb_go G yX9_paper cX9_paper 4 (some .int) (3) 0 0 .ireturn (fun r : Int32 => [.int r]) 35 [(0, .ref v0), (1, .int v1), (2, .int v2), (3, .int v3)] [] s 0 0 (f_X9_paper_L35 n v0 v1 v2 K m v3 s) := by
  intro m
  induction m with
  | zero => intro v3 s; exact eb_none
  | succ m ih =>
    intro v3 s
    rw [f_X9_paper_L35.eq_2]
    refine eb_iload_n (pc := 35) 3 dX9_paper_35 rfl rfl ?_
    refine eb_aload_n (pc := 36) 0 dX9_paper_36 rfl rfl ?_
    refine eb_getR (pc := 37) ef_RX9_10 dX9_paper_37 (fun r8 => ?_)
    refine eb_getI (pc := 40) ef_RX9_122 dX9_paper_40 (fun x9 => ?_)
    refine eb_icmp_ge (pc := 43) (tgt := 67) dX9_paper_43 (by decide) ?_ ?_
    · refine eb_sub [0, 1, 2] rfl ?_
      exact hK _
    · refine eb_aload_n (pc := 46) 0 dX9_paper_46 rfl rfl ?_
      refine eb_getR (pc := 47) ef_RX9_73 dX9_paper_47 (fun r10 => ?_)
      refine eb_iload_n (pc := 50) 3 dX9_paper_50 rfl rfl ?_
      refine eb_aload_n (pc := 51) 0 dX9_paper_51 rfl rfl ?_
      refine eb_getR (pc := 52) ef_RX9_10 dX9_paper_52 (fun r11 => ?_)
      refine eb_iload_n (pc := 55) 1 dX9_paper_55 rfl rfl ?_
      refine eb_iload_n (pc := 56) 3 dX9_paper_56 rfl rfl ?_
      refine eb_calli (pc := 57) (eb_runV (pc := 57) (As := [.int v1, .int v3]) (rest := [.int v3, .ref r10]) (ci := 3) (q0 := (RX3, TX3, 20)) (q := (RX3, TX3, 20)) ew_549 ew_550 ew_551 ew_68 rfl rfl ed_X3_wetLoad (ct_X3_wetLoad hG n _ _ _ _) rfl ew_552 ⟨by decide, by decide⟩ (by decide) (by decide) (Nat.le_of_ble_eq_true rfl) rfl dX9_paper_57) (fun x13 s12 => ?_)
      refine eb_iastore (pc := 60) dX9_paper_60 (fun s14 => ?_)
      refine eb_iinc (pc := 61) (v := v3 + 1) (L' := [(3, .int (v3 + 1)), (0, .ref v0), (1, .int v1), (2, .int v2)]) 3 dX9_paper_61 rfl rfl (by decide) rfl ?_
      refine eb_goto (pc := 64) (tgt := 35) dX9_paper_64 (by decide) ?_
      refine eb_sub [1, 2, 3, 0] rfl ?_
      exact ih _ _
set_option maxRecDepth 100000 in
theorem ct_X9_paper {G : eb_G} (hG : eb_ok G) (n : Nat) (v0 : Nat) (v1 : Int32) (v2 : Int32) (s : eb_S) : eb_ct G yX9_paper cX9_paper 4 (some .int) 3 0 0 eb_ei [.ref v0, .int v1, .int v2] s (f_X9_paper n v0 v1 v2 s) := by
  refine eb_ct_i (by decide) (Nat.le_of_ble_eq_true rfl) (fun v hv => by simp at hv; rcases hv with rfl | rfl | rfl <;> simp [Value.category]) ?_
  show eb_go G yX9_paper cX9_paper 4 (some .int) (3) 0 0 .ireturn (fun r : Int32 => [.int r]) 0 [(0, .ref v0), (1, .int v1), (2, .int v2)] [] s 0 0 _
  unfold f_X9_paper
  refine eb_iload_n (pc := 0) 1 dX9_paper_0 rfl rfl ?_
  refine eb_callb (pc := 1) (eb_runS (pc := 1) (As := [.int v1]) (rest := []) ew_451 ew_452 ew_427 rfl ed_X9_isBag (ct_X9_isBag hG _ _) ew_453 ⟨by decide, by decide⟩ (by decide) (by decide) (Nat.le_of_ble_eq_true rfl) rfl dX9_paper_1) (fun b2 s1 => ?_)
  refine eb_if_eq (pc := 4) (tgt := 16) dX9_paper_4 (by decide) ?_ ?_
  · refine eb_iconst (pc := 16) (v := (-1)) dX9_paper_16 (by decide) ?_
    exact eb_iret (pc := 17) dX9_paper_17 (by decide) (by decide)
  · refine eb_iload_n (pc := 7) 2 dX9_paper_7 rfl rfl ?_
    refine eb_iconst (pc := 8) (v := 0) dX9_paper_8 (by decide) ?_
    refine eb_iconst (pc := 9) (v := 1) dX9_paper_9 (by decide) ?_
    refine eb_callb (pc := 10) (eb_runS (pc := 10) (As := [.int v2, .int 0, .int 1]) (rest := []) ew_425 ew_426 ew_427 rfl ed_X9_within (ct_X9_within hG _ _ _ _) ew_428 ⟨by decide, by decide⟩ (by decide) (by decide) (Nat.le_of_ble_eq_true rfl) rfl dX9_paper_10) (fun b4 s3 => ?_)
    refine eb_if_ne (pc := 13) (tgt := 18) dX9_paper_13 (by decide) ?_ ?_
    · refine eb_aload_n (pc := 18) 0 dX9_paper_18 rfl rfl ?_
      refine eb_getR (pc := 19) ef_RX9_10 dX9_paper_19 (fun r5 => ?_)
      refine eb_getR (pc := 22) ef_RX9_141 dX9_paper_22 (fun r6 => ?_)
      refine eb_iload_n (pc := 25) 1 dX9_paper_25 rfl rfl ?_
      refine eb_iaload (pc := 26) dX9_paper_26 (fun x7 => ?_)
      refine eb_if_ne (pc := 27) (tgt := 33) dX9_paper_27 (by decide) ?_ ?_
      · refine eb_iconst (pc := 33) (v := 0) dX9_paper_33 (by decide) ?_
        refine eb_istore_n (pc := 34) (L' := [(3, .int 0), (0, .ref v0), (1, .int v1), (2, .int v2)]) dX9_paper_34 rfl (by decide) rfl ?_
        refine eb_sub [1, 2, 3, 0] rfl ?_
        refine gl_X9_paper_L35 hG (fun s15 => ?_) n _ _
        refine eb_aload_n (pc := 67) 0 dX9_paper_67 rfl rfl ?_
        refine eb_aload_n (pc := 68) 0 dX9_paper_68 rfl rfl ?_
        refine eb_getR (pc := 69) ef_RX9_10 dX9_paper_69 (fun r16 => ?_)
        refine eb_getR (pc := 72) ef_RX9_141 dX9_paper_72 (fun r17 => ?_)
        refine eb_iload_n (pc := 75) 1 dX9_paper_75 rfl rfl ?_
        refine eb_iaload (pc := 76) dX9_paper_76 (fun x18 => ?_)
        refine eb_iload_n (pc := 77) 2 dX9_paper_77 rfl rfl ?_
        refine eb_calli (pc := 78) (eb_runV (pc := 78) (As := [.int x18, .int v2]) (rest := []) (ci := 8) (q0 := (RX9, TX9, 12)) (q := (RX9, TX9, 12)) ew_539 ew_540 ew_541 ew_427 rfl rfl ed_X9_yardOf (ct_X9_yardOf hG n _ _ _ _) rfl ew_542 ⟨by decide, by decide⟩ (by decide) (by decide) (Nat.le_of_ble_eq_true rfl) rfl dX9_paper_78) (fun x20 s19 => ?_)
        exact eb_iret (pc := 81) dX9_paper_81 (by decide) (by decide)
      · refine eb_bipush (pc := 30) (v := (-4)) dX9_paper_30 (by decide) ?_
        exact eb_iret (pc := 32) dX9_paper_32 (by decide) (by decide)
    · refine eb_iconst (pc := 16) (v := (-1)) dX9_paper_16 (by decide) ?_
      exact eb_iret (pc := 17) dX9_paper_17 (by decide) (by decide)

def f_X9_levelAt (n : Nat) (v0 : Int32) (v1 : Int32) (v2 : Int32) (v3 : Int32) (s : eb_S) : Option (Int32 × eb_S) := eb_cl (f_X9_inLowestTerms n (v1 * v2) (v0 + v1) v3 s) fun x2 s1 => some (x2, s1)
set_option maxRecDepth 100000 in
theorem ct_X9_levelAt {G : eb_G} (hG : eb_ok G) (n : Nat) (v0 : Int32) (v1 : Int32) (v2 : Int32) (v3 : Int32) (s : eb_S) : eb_ct G yX9_levelAt cX9_levelAt 4 (some .int) 2 0 0 eb_ei [.int v0, .int v1, .int v2, .int v3] s (f_X9_levelAt n v0 v1 v2 v3 s) := by
  refine eb_ct_i (by decide) (Nat.le_of_ble_eq_true rfl) (fun v hv => by simp at hv; rcases hv with rfl | rfl | rfl | rfl <;> simp [Value.category]) ?_
  show eb_go G yX9_levelAt cX9_levelAt 4 (some .int) (2) 0 0 .ireturn (fun r : Int32 => [.int r]) 0 [(0, .int v0), (1, .int v1), (2, .int v2), (3, .int v3)] [] s 0 0 _
  unfold f_X9_levelAt
  refine eb_iload_n (pc := 0) 1 dX9_levelAt_0 rfl rfl ?_
  refine eb_iload_n (pc := 1) 2 dX9_levelAt_1 rfl rfl ?_
  refine eb_imul (pc := 2) dX9_levelAt_2 ?_
  refine eb_iload_n (pc := 3) 0 dX9_levelAt_3 rfl rfl ?_
  refine eb_iload_n (pc := 4) 1 dX9_levelAt_4 rfl rfl ?_
  refine eb_iadd (pc := 5) dX9_levelAt_5 ?_
  refine eb_iload_n (pc := 6) 3 dX9_levelAt_6 rfl rfl ?_
  refine eb_calli (pc := 7) (eb_runS (pc := 7) (As := [.int (v1 * v2), .int (v0 + v1), .int v3]) (rest := []) ew_535 ew_536 ew_427 rfl ed_X9_inLowestTerms (ct_X9_inLowestTerms hG n _ _ _ _) ew_537 ⟨by decide, by decide⟩ (by decide) (by decide) (Nat.le_of_ble_eq_true rfl) rfl dX9_levelAt_7) (fun x2 s1 => ?_)
  exact eb_iret (pc := 10) dX9_levelAt_10 (by decide) (by decide)

def f_X9_pole (n : Nat) (v0 : Nat) (v1 : Int32) (v2 : Int32) (v3 : Int32) (v4 : Int32) (s : eb_S) : Option (Int32 × eb_S) := eb_cl (eb_tg s v0 8 (f_X9_isThing v0 v1 s)) fun b2 s1 => if (eb_b b2) = 0 then (some ((-1), s1)) else (eb_cl (eb_tg s1 v0 8 (f_X9_isThing v0 v2 s1)) fun b4 s3 => if (eb_b b4) = 0 then (some ((-1), s3)) else (if v1 = v2 then (some ((-1), s3)) else (eb_cl (f_X9_within v3 1 999 s3) fun b6 s5 => if (eb_b b6) = 0 then (some ((-1), s5)) else (eb_cl (f_X9_within v4 0 1 s5) fun b8 s7 => if (eb_b b8) = 0 then (some ((-1), s7)) else (eb_gR s7 [8] v0 0 fun r9 => eb_gR s7 [3] r9 3 fun r10 => eb_ai s7 r10 v1 fun x11 => eb_gR s7 [8] v0 0 fun r12 => eb_gR s7 [3] r12 3 fun r13 => eb_ai s7 r13 v2 fun x14 => eb_cl (f_X9_levelAt n x11 x14 v3 v4 s7) fun x16 s15 => some (x16, s15))))))
set_option maxRecDepth 100000 in
theorem ct_X9_pole {G : eb_G} (hG : eb_ok G) (n : Nat) (v0 : Nat) (v1 : Int32) (v2 : Int32) (v3 : Int32) (v4 : Int32) (s : eb_S) : eb_ct G yX9_pole cX9_pole 5 (some .int) 3 0 0 eb_ei [.ref v0, .int v1, .int v2, .int v3, .int v4] s (f_X9_pole n v0 v1 v2 v3 v4 s) := by
  refine eb_ct_i (by decide) (Nat.le_of_ble_eq_true rfl) (fun v hv => by simp at hv; rcases hv with rfl | rfl | rfl | rfl | rfl <;> simp [Value.category]) ?_
  show eb_go G yX9_pole cX9_pole 5 (some .int) (3) 0 0 .ireturn (fun r : Int32 => [.int r]) 0 [(0, .ref v0), (1, .int v1), (2, .int v2), (3, .int v3), (4, .int v4)] [] s 0 0 _
  unfold f_X9_pole
  refine eb_aload_n (pc := 0) 0 dX9_pole_0 rfl rfl ?_
  refine eb_iload_n (pc := 1) 1 dX9_pole_1 rfl rfl ?_
  refine eb_callb (pc := 2) (eb_runV (pc := 2) (As := [.int v1]) (rest := []) (ci := 8) (q0 := (RX9, TX9, 12)) (q := (RX9, TX9, 12)) ew_434 ew_435 ew_436 ew_427 rfl rfl ed_X9_isThing (ct_X9_isThing hG _ _ _) rfl ew_437 ⟨by decide, by decide⟩ (by decide) (by decide) (Nat.le_of_ble_eq_true rfl) rfl dX9_pole_2) (fun b2 s1 => ?_)
  refine eb_if_eq (pc := 5) (tgt := 42) dX9_pole_5 (by decide) ?_ ?_
  · refine eb_iconst (pc := 42) (v := (-1)) dX9_pole_42 (by decide) ?_
    exact eb_iret (pc := 43) dX9_pole_43 (by decide) (by decide)
  · refine eb_aload_n (pc := 8) 0 dX9_pole_8 rfl rfl ?_
    refine eb_iload_n (pc := 9) 2 dX9_pole_9 rfl rfl ?_
    refine eb_callb (pc := 10) (eb_runV (pc := 10) (As := [.int v2]) (rest := []) (ci := 8) (q0 := (RX9, TX9, 12)) (q := (RX9, TX9, 12)) ew_434 ew_435 ew_436 ew_427 rfl rfl ed_X9_isThing (ct_X9_isThing hG _ _ _) rfl ew_437 ⟨by decide, by decide⟩ (by decide) (by decide) (Nat.le_of_ble_eq_true rfl) rfl dX9_pole_10) (fun b4 s3 => ?_)
    refine eb_if_eq (pc := 13) (tgt := 42) dX9_pole_13 (by decide) ?_ ?_
    · refine eb_iconst (pc := 42) (v := (-1)) dX9_pole_42 (by decide) ?_
      exact eb_iret (pc := 43) dX9_pole_43 (by decide) (by decide)
    · refine eb_iload_n (pc := 16) 1 dX9_pole_16 rfl rfl ?_
      refine eb_iload_n (pc := 17) 2 dX9_pole_17 rfl rfl ?_
      refine eb_icmp_eq (pc := 18) (tgt := 42) dX9_pole_18 (by decide) ?_ ?_
      · refine eb_iconst (pc := 42) (v := (-1)) dX9_pole_42 (by decide) ?_
        exact eb_iret (pc := 43) dX9_pole_43 (by decide) (by decide)
      · refine eb_iload_n (pc := 21) 3 dX9_pole_21 rfl rfl ?_
        refine eb_iconst (pc := 22) (v := 1) dX9_pole_22 (by decide) ?_
        refine eb_sipush (pc := 23) (v := 999) dX9_pole_23 (by decide) ?_
        refine eb_callb (pc := 26) (eb_runS (pc := 26) (As := [.int v3, .int 1, .int 999]) (rest := []) ew_425 ew_426 ew_427 rfl ed_X9_within (ct_X9_within hG _ _ _ _) ew_428 ⟨by decide, by decide⟩ (by decide) (by decide) (Nat.le_of_ble_eq_true rfl) rfl dX9_pole_26) (fun b6 s5 => ?_)
        refine eb_if_eq (pc := 29) (tgt := 42) dX9_pole_29 (by decide) ?_ ?_
        · refine eb_iconst (pc := 42) (v := (-1)) dX9_pole_42 (by decide) ?_
          exact eb_iret (pc := 43) dX9_pole_43 (by decide) (by decide)
        · refine eb_iload (pc := 32) 4 dX9_pole_32 rfl ?_
          refine eb_iconst (pc := 34) (v := 0) dX9_pole_34 (by decide) ?_
          refine eb_iconst (pc := 35) (v := 1) dX9_pole_35 (by decide) ?_
          refine eb_callb (pc := 36) (eb_runS (pc := 36) (As := [.int v4, .int 0, .int 1]) (rest := []) ew_425 ew_426 ew_427 rfl ed_X9_within (ct_X9_within hG _ _ _ _) ew_428 ⟨by decide, by decide⟩ (by decide) (by decide) (Nat.le_of_ble_eq_true rfl) rfl dX9_pole_36) (fun b8 s7 => ?_)
          refine eb_if_ne (pc := 39) (tgt := 44) dX9_pole_39 (by decide) ?_ ?_
          · refine eb_aload_n (pc := 44) 0 dX9_pole_44 rfl rfl ?_
            refine eb_getR (pc := 45) ef_RX9_10 dX9_pole_45 (fun r9 => ?_)
            refine eb_getR (pc := 48) ef_RX9_100 dX9_pole_48 (fun r10 => ?_)
            refine eb_iload_n (pc := 51) 1 dX9_pole_51 rfl rfl ?_
            refine eb_iaload (pc := 52) dX9_pole_52 (fun x11 => ?_)
            refine eb_aload_n (pc := 53) 0 dX9_pole_53 rfl rfl ?_
            refine eb_getR (pc := 54) ef_RX9_10 dX9_pole_54 (fun r12 => ?_)
            refine eb_getR (pc := 57) ef_RX9_100 dX9_pole_57 (fun r13 => ?_)
            refine eb_iload_n (pc := 60) 2 dX9_pole_60 rfl rfl ?_
            refine eb_iaload (pc := 61) dX9_pole_61 (fun x14 => ?_)
            refine eb_iload_n (pc := 62) 3 dX9_pole_62 rfl rfl ?_
            refine eb_iload (pc := 63) 4 dX9_pole_63 rfl ?_
            refine eb_calli (pc := 65) (eb_runS (pc := 65) (As := [.int x11, .int x14, .int v3, .int v4]) (rest := []) ew_553 ew_554 ew_427 rfl ed_X9_levelAt (ct_X9_levelAt hG n _ _ _ _ _) ew_555 ⟨by decide, by decide⟩ (by decide) (by decide) (Nat.le_of_ble_eq_true rfl) rfl dX9_pole_65) (fun x16 s15 => ?_)
            exact eb_iret (pc := 68) dX9_pole_68 (by decide) (by decide)
          · refine eb_iconst (pc := 42) (v := (-1)) dX9_pole_42 (by decide) ?_
            exact eb_iret (pc := 43) dX9_pole_43 (by decide) (by decide)

def f_X9_isEnd (v0 : Nat) (v1 : Int32) (s : eb_S) : Option (Bool × eb_S) := eb_cl (eb_tg s v0 8 (f_X9_isThing v0 v1 s)) fun b2 s1 => if (eb_b b2) = 0 then (eb_gR s1 [8] v0 0 fun r3 => eb_gI s1 [3] r3 17 fun x4 => eb_cl (f_X9_within v1 10 (((10 : Int32) + x4) - 1) s1) fun b6 s5 => if (eb_b b6) = 0 then (some (false, s5)) else (some (true, s5))) else (some (true, s1))
set_option maxRecDepth 100000 in
theorem ct_X9_isEnd {G : eb_G} (hG : eb_ok G) (v0 : Nat) (v1 : Int32) (s : eb_S) : eb_ct G yX9_isEnd cX9_isEnd 2 (some .boolean) 3 0 0 eb_eb [.ref v0, .int v1] s (f_X9_isEnd v0 v1 s) := by
  refine eb_ct_b (by decide) (Nat.le_of_ble_eq_true rfl) (fun v hv => by simp at hv; rcases hv with rfl | rfl <;> simp [Value.category]) ?_
  show eb_go G yX9_isEnd cX9_isEnd 2 (some .boolean) (3) 0 0 .ireturn (fun r : Bool => [.int (eb_b r)]) 0 [(0, .ref v0), (1, .int v1)] [] s 0 0 _
  unfold f_X9_isEnd
  refine eb_aload_n (pc := 0) 0 dX9_isEnd_0 rfl rfl ?_
  refine eb_iload_n (pc := 1) 1 dX9_isEnd_1 rfl rfl ?_
  refine eb_callb (pc := 2) (eb_runV (pc := 2) (As := [.int v1]) (rest := []) (ci := 8) (q0 := (RX9, TX9, 12)) (q := (RX9, TX9, 12)) ew_434 ew_435 ew_436 ew_427 rfl rfl ed_X9_isThing (ct_X9_isThing hG _ _ _) rfl ew_437 ⟨by decide, by decide⟩ (by decide) (by decide) (Nat.le_of_ble_eq_true rfl) rfl dX9_isEnd_2) (fun b2 s1 => ?_)
  refine eb_if_ne (pc := 5) (tgt := 29) dX9_isEnd_5 (by decide) ?_ ?_
  · refine eb_iconst (pc := 29) (v := 1) dX9_isEnd_29 (by decide) ?_
    refine eb_goto (pc := 30) (tgt := 34) dX9_isEnd_30 (by decide) ?_
    exact eb_bret (pc := 34) (b := true) dX9_isEnd_34 (by decide) (by decide)
  · refine eb_iload_n (pc := 8) 1 dX9_isEnd_8 rfl rfl ?_
    refine eb_bipush (pc := 9) (v := 10) dX9_isEnd_9 (by decide) ?_
    refine eb_bipush (pc := 11) (v := 10) dX9_isEnd_11 (by decide) ?_
    refine eb_aload_n (pc := 13) 0 dX9_isEnd_13 rfl rfl ?_
    refine eb_getR (pc := 14) ef_RX9_10 dX9_isEnd_14 (fun r3 => ?_)
    refine eb_getI (pc := 17) ef_RX9_174 dX9_isEnd_17 (fun x4 => ?_)
    refine eb_iadd (pc := 20) dX9_isEnd_20 ?_
    refine eb_iconst (pc := 21) (v := 1) dX9_isEnd_21 (by decide) ?_
    refine eb_isub (pc := 22) dX9_isEnd_22 ?_
    refine eb_callb (pc := 23) (eb_runS (pc := 23) (As := [.int v1, .int 10, .int (((10 : Int32) + x4) - 1)]) (rest := []) ew_425 ew_426 ew_427 rfl ed_X9_within (ct_X9_within hG _ _ _ _) ew_428 ⟨by decide, by decide⟩ (by decide) (by decide) (Nat.le_of_ble_eq_true rfl) rfl dX9_isEnd_23) (fun b6 s5 => ?_)
    refine eb_if_eq (pc := 26) (tgt := 33) dX9_isEnd_26 (by decide) ?_ ?_
    · refine eb_iconst (pc := 33) (v := 0) dX9_isEnd_33 (by decide) ?_
      exact eb_bret (pc := 34) (b := false) dX9_isEnd_34 (by decide) (by decide)
    · refine eb_iconst (pc := 29) (v := 1) dX9_isEnd_29 (by decide) ?_
      refine eb_goto (pc := 30) (tgt := 34) dX9_isEnd_30 (by decide) ?_
      exact eb_bret (pc := 34) (b := true) dX9_isEnd_34 (by decide) (by decide)

def f_X9_bar (n : Nat) (v0 : Nat) (v1 : Int32) (v2 : Int32) (s : eb_S) : Option (Int32 × eb_S) := eb_cl (eb_tg s v0 8 (f_X9_isEnd v0 v1 s)) fun b2 s1 => if (eb_b b2) = 0 then (some ((-1), s1)) else (eb_cl (eb_tg s1 v0 8 (f_X9_isEnd v0 v2 s1)) fun b4 s3 => if (eb_b b4) = 0 then (some ((-1), s3)) else (if v1 = v2 then (some ((-1), s3)) else (eb_gR s3 [8] v0 0 fun r5 => eb_cl (eb_tg s3 r5 3 (f_X3_hangs n r5 v1 s3)) fun b7 s6 => if (eb_b b7) = 0 then (eb_gR s6 [8] v0 0 fun r8 => eb_cl (eb_tg s6 r8 3 (f_X3_hangs n r8 v2 s6)) fun b10 s9 => if (eb_b b10) = 0 then (eb_gR s9 [8] v0 0 fun r11 => eb_gI s9 [3] r11 17 fun x12 => if 6 ≤ x12 then (some ((-3), s9)) else (eb_gR s9 [8] v0 0 fun r13 => eb_cl (eb_tg s9 r13 3 (f_X3_addBar r13 v1 v2 s9)) fun x15 s14 => some (x15, s14))) else (some ((-2), s9))) else (some ((-2), s6)))))
set_option maxRecDepth 100000 in
theorem ct_X9_bar {G : eb_G} (hG : eb_ok G) (n : Nat) (v0 : Nat) (v1 : Int32) (v2 : Int32) (s : eb_S) : eb_ct G yX9_bar cX9_bar 3 (some .int) 4 0 0 eb_ei [.ref v0, .int v1, .int v2] s (f_X9_bar n v0 v1 v2 s) := by
  refine eb_ct_i (by decide) (Nat.le_of_ble_eq_true rfl) (fun v hv => by simp at hv; rcases hv with rfl | rfl | rfl <;> simp [Value.category]) ?_
  show eb_go G yX9_bar cX9_bar 3 (some .int) (4) 0 0 .ireturn (fun r : Int32 => [.int r]) 0 [(0, .ref v0), (1, .int v1), (2, .int v2)] [] s 0 0 _
  unfold f_X9_bar
  refine eb_aload_n (pc := 0) 0 dX9_bar_0 rfl rfl ?_
  refine eb_iload_n (pc := 1) 1 dX9_bar_1 rfl rfl ?_
  refine eb_callb (pc := 2) (eb_runV (pc := 2) (As := [.int v1]) (rest := []) (ci := 8) (q0 := (RX9, TX9, 12)) (q := (RX9, TX9, 12)) ew_556 ew_557 ew_558 ew_427 rfl rfl ed_X9_isEnd (ct_X9_isEnd hG _ _ _) rfl ew_559 ⟨by decide, by decide⟩ (by decide) (by decide) (Nat.le_of_ble_eq_true rfl) rfl dX9_bar_2) (fun b2 s1 => ?_)
  refine eb_if_eq (pc := 5) (tgt := 21) dX9_bar_5 (by decide) ?_ ?_
  · refine eb_iconst (pc := 21) (v := (-1)) dX9_bar_21 (by decide) ?_
    exact eb_iret (pc := 22) dX9_bar_22 (by decide) (by decide)
  · refine eb_aload_n (pc := 8) 0 dX9_bar_8 rfl rfl ?_
    refine eb_iload_n (pc := 9) 2 dX9_bar_9 rfl rfl ?_
    refine eb_callb (pc := 10) (eb_runV (pc := 10) (As := [.int v2]) (rest := []) (ci := 8) (q0 := (RX9, TX9, 12)) (q := (RX9, TX9, 12)) ew_556 ew_557 ew_558 ew_427 rfl rfl ed_X9_isEnd (ct_X9_isEnd hG _ _ _) rfl ew_559 ⟨by decide, by decide⟩ (by decide) (by decide) (Nat.le_of_ble_eq_true rfl) rfl dX9_bar_10) (fun b4 s3 => ?_)
    refine eb_if_eq (pc := 13) (tgt := 21) dX9_bar_13 (by decide) ?_ ?_
    · refine eb_iconst (pc := 21) (v := (-1)) dX9_bar_21 (by decide) ?_
      exact eb_iret (pc := 22) dX9_bar_22 (by decide) (by decide)
    · refine eb_iload_n (pc := 16) 1 dX9_bar_16 rfl rfl ?_
      refine eb_iload_n (pc := 17) 2 dX9_bar_17 rfl rfl ?_
      refine eb_icmp_ne (pc := 18) (tgt := 23) dX9_bar_18 (by decide) ?_ ?_
      · refine eb_aload_n (pc := 23) 0 dX9_bar_23 rfl rfl ?_
        refine eb_getR (pc := 24) ef_RX9_10 dX9_bar_24 (fun r5 => ?_)
        refine eb_iload_n (pc := 27) 1 dX9_bar_27 rfl rfl ?_
        refine eb_callb (pc := 28) (eb_runV (pc := 28) (As := [.int v1]) (rest := []) (ci := 3) (q0 := (RX3, TX3, 20)) (q := (RX3, TX3, 20)) ew_443 ew_444 ew_445 ew_68 rfl rfl ed_X3_hangs (ct_X3_hangs hG n _ _ _) rfl ew_446 ⟨by decide, by decide⟩ (by decide) (by decide) (Nat.le_of_ble_eq_true rfl) rfl dX9_bar_28) (fun b7 s6 => ?_)
        refine eb_if_ne (pc := 31) (tgt := 45) dX9_bar_31 (by decide) ?_ ?_
        · refine eb_bipush (pc := 45) (v := (-2)) dX9_bar_45 (by decide) ?_
          exact eb_iret (pc := 47) dX9_bar_47 (by decide) (by decide)
        · refine eb_aload_n (pc := 34) 0 dX9_bar_34 rfl rfl ?_
          refine eb_getR (pc := 35) ef_RX9_10 dX9_bar_35 (fun r8 => ?_)
          refine eb_iload_n (pc := 38) 2 dX9_bar_38 rfl rfl ?_
          refine eb_callb (pc := 39) (eb_runV (pc := 39) (As := [.int v2]) (rest := []) (ci := 3) (q0 := (RX3, TX3, 20)) (q := (RX3, TX3, 20)) ew_443 ew_444 ew_445 ew_68 rfl rfl ed_X3_hangs (ct_X3_hangs hG n _ _ _) rfl ew_446 ⟨by decide, by decide⟩ (by decide) (by decide) (Nat.le_of_ble_eq_true rfl) rfl dX9_bar_39) (fun b10 s9 => ?_)
          refine eb_if_eq (pc := 42) (tgt := 48) dX9_bar_42 (by decide) ?_ ?_
          · refine eb_aload_n (pc := 48) 0 dX9_bar_48 rfl rfl ?_
            refine eb_getR (pc := 49) ef_RX9_10 dX9_bar_49 (fun r11 => ?_)
            refine eb_getI (pc := 52) ef_RX9_174 dX9_bar_52 (fun x12 => ?_)
            refine eb_bipush (pc := 55) (v := 6) dX9_bar_55 (by decide) ?_
            refine eb_icmp_ge (pc := 57) (tgt := 72) dX9_bar_57 (by decide) ?_ ?_
            · refine eb_bipush (pc := 72) (v := (-3)) dX9_bar_72 (by decide) ?_
              exact eb_iret (pc := 74) dX9_bar_74 (by decide) (by decide)
            · refine eb_aload_n (pc := 60) 0 dX9_bar_60 rfl rfl ?_
              refine eb_getR (pc := 61) ef_RX9_10 dX9_bar_61 (fun r13 => ?_)
              refine eb_iload_n (pc := 64) 1 dX9_bar_64 rfl rfl ?_
              refine eb_iload_n (pc := 65) 2 dX9_bar_65 rfl rfl ?_
              refine eb_calli (pc := 66) (eb_runV (pc := 66) (As := [.int v1, .int v2]) (rest := []) (ci := 3) (q0 := (RX3, TX3, 20)) (q := (RX3, TX3, 20)) ew_560 ew_561 ew_562 ew_68 rfl rfl ed_X3_addBar (ct_X3_addBar hG _ _ _ _) rfl ew_563 ⟨by decide, by decide⟩ (by decide) (by decide) (Nat.le_of_ble_eq_true rfl) rfl dX9_bar_66) (fun x15 s14 => ?_)
              refine eb_goto (pc := 69) (tgt := 74) dX9_bar_69 (by decide) ?_
              exact eb_iret (pc := 74) dX9_bar_74 (by decide) (by decide)
          · refine eb_bipush (pc := 45) (v := (-2)) dX9_bar_45 (by decide) ?_
            exact eb_iret (pc := 47) dX9_bar_47 (by decide) (by decide)
      · refine eb_iconst (pc := 21) (v := (-1)) dX9_bar_21 (by decide) ?_
        exact eb_iret (pc := 22) dX9_bar_22 (by decide) (by decide)

def f_X9_hung (n : Nat) (v0 : Nat) (v1 : Int32) (v2 : Int32) (s : eb_S) : Option (Int32 × eb_S) := eb_gR s [8] v0 0 fun r1 => eb_gI s [3] r1 17 fun x2 => eb_cl (f_X9_within v1 0 (x2 - 1) s) fun b4 s3 => if (eb_b b4) = 0 then (some ((-1), s3)) else (eb_cl (f_X9_within v2 0 2 s3) fun b6 s5 => if (eb_b b6) = 0 then (some ((-1), s5)) else (eb_gR s5 [8] v0 0 fun r7 => eb_gR s5 [8] v0 0 fun r8 => eb_gR s5 [3] r8 18 fun r9 => eb_ai s5 r9 v1 fun x10 => eb_cl (eb_tg s5 r7 3 (f_X3_endWeight n r7 x10 s5)) fun x12 s11 => eb_gR s11 [8] v0 0 fun r13 => eb_gR s11 [8] v0 0 fun r14 => eb_gR s11 [3] r14 19 fun r15 => eb_ai s11 r15 v1 fun x16 => eb_cl (eb_tg s11 r13 3 (f_X3_endWeight n r13 x16 s11)) fun x18 s17 => if v2 = 2 then (some (x12 + x18, s17)) else (eb_cl (f_X9_levelAt n x12 x18 60 v2 s17) fun x20 s19 => some (x20, s19))))
set_option maxRecDepth 100000 in
theorem ct_X9_hung {G : eb_G} (hG : eb_ok G) (n : Nat) (v0 : Nat) (v1 : Int32) (v2 : Int32) (s : eb_S) : eb_ct G yX9_hung cX9_hung 5 (some .int) 3 0 0 eb_ei [.ref v0, .int v1, .int v2] s (f_X9_hung n v0 v1 v2 s) := by
  refine eb_ct_i (by decide) (Nat.le_of_ble_eq_true rfl) (fun v hv => by simp at hv; rcases hv with rfl | rfl | rfl <;> simp [Value.category]) ?_
  show eb_go G yX9_hung cX9_hung 5 (some .int) (3) 0 0 .ireturn (fun r : Int32 => [.int r]) 0 [(0, .ref v0), (1, .int v1), (2, .int v2)] [] s 0 0 _
  unfold f_X9_hung
  refine eb_iload_n (pc := 0) 1 dX9_hung_0 rfl rfl ?_
  refine eb_iconst (pc := 1) (v := 0) dX9_hung_1 (by decide) ?_
  refine eb_aload_n (pc := 2) 0 dX9_hung_2 rfl rfl ?_
  refine eb_getR (pc := 3) ef_RX9_10 dX9_hung_3 (fun r1 => ?_)
  refine eb_getI (pc := 6) ef_RX9_174 dX9_hung_6 (fun x2 => ?_)
  refine eb_iconst (pc := 9) (v := 1) dX9_hung_9 (by decide) ?_
  refine eb_isub (pc := 10) dX9_hung_10 ?_
  refine eb_callb (pc := 11) (eb_runS (pc := 11) (As := [.int v1, .int 0, .int (x2 - 1)]) (rest := []) ew_425 ew_426 ew_427 rfl ed_X9_within (ct_X9_within hG _ _ _ _) ew_428 ⟨by decide, by decide⟩ (by decide) (by decide) (Nat.le_of_ble_eq_true rfl) rfl dX9_hung_11) (fun b4 s3 => ?_)
  refine eb_if_eq (pc := 14) (tgt := 26) dX9_hung_14 (by decide) ?_ ?_
  · refine eb_iconst (pc := 26) (v := (-1)) dX9_hung_26 (by decide) ?_
    exact eb_iret (pc := 27) dX9_hung_27 (by decide) (by decide)
  · refine eb_iload_n (pc := 17) 2 dX9_hung_17 rfl rfl ?_
    refine eb_iconst (pc := 18) (v := 0) dX9_hung_18 (by decide) ?_
    refine eb_iconst (pc := 19) (v := 2) dX9_hung_19 (by decide) ?_
    refine eb_callb (pc := 20) (eb_runS (pc := 20) (As := [.int v2, .int 0, .int 2]) (rest := []) ew_425 ew_426 ew_427 rfl ed_X9_within (ct_X9_within hG _ _ _ _) ew_428 ⟨by decide, by decide⟩ (by decide) (by decide) (Nat.le_of_ble_eq_true rfl) rfl dX9_hung_20) (fun b6 s5 => ?_)
    refine eb_if_ne (pc := 23) (tgt := 28) dX9_hung_23 (by decide) ?_ ?_
    · refine eb_aload_n (pc := 28) 0 dX9_hung_28 rfl rfl ?_
      refine eb_getR (pc := 29) ef_RX9_10 dX9_hung_29 (fun r7 => ?_)
      refine eb_aload_n (pc := 32) 0 dX9_hung_32 rfl rfl ?_
      refine eb_getR (pc := 33) ef_RX9_10 dX9_hung_33 (fun r8 => ?_)
      refine eb_getR (pc := 36) ef_RX9_268 dX9_hung_36 (fun r9 => ?_)
      refine eb_iload_n (pc := 39) 1 dX9_hung_39 rfl rfl ?_
      refine eb_iaload (pc := 40) dX9_hung_40 (fun x10 => ?_)
      refine eb_calli (pc := 41) (eb_runV (pc := 41) (As := [.int x10]) (rest := []) (ci := 3) (q0 := (RX3, TX3, 20)) (q := (RX3, TX3, 20)) ew_565 ew_566 ew_567 ew_68 rfl rfl ed_X3_endWeight (ct_X3_endWeight hG n _ _ _) rfl ew_568 ⟨by decide, by decide⟩ (by decide) (by decide) (Nat.le_of_ble_eq_true rfl) rfl dX9_hung_41) (fun x12 s11 => ?_)
      refine eb_istore_n (pc := 44) (L' := [(3, .int x12), (0, .ref v0), (1, .int v1), (2, .int v2)]) dX9_hung_44 rfl (by decide) rfl ?_
      refine eb_aload_n (pc := 45) 1 dX9_hung_45 rfl rfl ?_
      refine eb_getR (pc := 46) ef_RX9_10 dX9_hung_46 (fun r13 => ?_)
      refine eb_aload_n (pc := 49) 1 dX9_hung_49 rfl rfl ?_
      refine eb_getR (pc := 50) ef_RX9_10 dX9_hung_50 (fun r14 => ?_)
      refine eb_getR (pc := 53) ef_RX9_274 dX9_hung_53 (fun r15 => ?_)
      refine eb_iload_n (pc := 56) 2 dX9_hung_56 rfl rfl ?_
      refine eb_iaload (pc := 57) dX9_hung_57 (fun x16 => ?_)
      refine eb_calli (pc := 58) (eb_runV (pc := 58) (As := [.int x16]) (rest := []) (ci := 3) (q0 := (RX3, TX3, 20)) (q := (RX3, TX3, 20)) ew_565 ew_566 ew_567 ew_68 rfl rfl ed_X3_endWeight (ct_X3_endWeight hG n _ _ _) rfl ew_568 ⟨by decide, by decide⟩ (by decide) (by decide) (Nat.le_of_ble_eq_true rfl) rfl dX9_hung_58) (fun x18 s17 => ?_)
      refine eb_istore (pc := 61) (L' := [(4, .int x18), (3, .int x12), (0, .ref v0), (1, .int v1), (2, .int v2)]) dX9_hung_61 (by decide) rfl ?_
      refine eb_iload_n (pc := 63) 4 dX9_hung_63 rfl rfl ?_
      refine eb_iconst (pc := 64) (v := 2) dX9_hung_64 (by decide) ?_
      refine eb_icmp_ne (pc := 65) (tgt := 75) dX9_hung_65 (by decide) ?_ ?_
      · refine eb_iload_n (pc := 75) 1 dX9_hung_75 rfl rfl ?_
        refine eb_iload (pc := 76) 0 dX9_hung_76 rfl ?_
        refine eb_bipush (pc := 78) (v := 60) dX9_hung_78 (by decide) ?_
        refine eb_iload_n (pc := 80) 4 dX9_hung_80 rfl rfl ?_
        refine eb_calli (pc := 81) (eb_runS (pc := 81) (As := [.int x12, .int x18, .int 60, .int v2]) (rest := []) ew_553 ew_554 ew_427 rfl ed_X9_levelAt (ct_X9_levelAt hG n _ _ _ _ _) ew_555 ⟨by decide, by decide⟩ (by decide) (by decide) (Nat.le_of_ble_eq_true rfl) rfl dX9_hung_81) (fun x20 s19 => ?_)
        exact eb_iret (pc := 84) dX9_hung_84 (by decide) (by decide)
      · refine eb_iload_n (pc := 68) 1 dX9_hung_68 rfl rfl ?_
        refine eb_iload (pc := 69) 0 dX9_hung_69 rfl ?_
        refine eb_iadd (pc := 71) dX9_hung_71 ?_
        refine eb_goto (pc := 72) (tgt := 84) dX9_hung_72 (by decide) ?_
        exact eb_iret (pc := 84) dX9_hung_84 (by decide) (by decide)
    · refine eb_iconst (pc := 26) (v := (-1)) dX9_hung_26 (by decide) ?_
      exact eb_iret (pc := 27) dX9_hung_27 (by decide) (by decide)

def f_X9_image (v0 : Nat) (s : eb_S) : Option (Int32 × eb_S) := eb_gR s [8] v0 1 fun r1 => eb_gR s [8] v0 0 fun r2 => eb_cl (eb_tg s r1 3 (f_X3_takeAll r1 r2 s)) fun _u s3 => eb_pZ s3 [8] v0 11 1 fun s4 => some (1, s4)
set_option maxRecDepth 100000 in
theorem ct_X9_image {G : eb_G} (hG : eb_ok G) (v0 : Nat) (s : eb_S) : eb_ct G yX9_image cX9_image 1 (some .int) 3 0 0 eb_ei [.ref v0] s (f_X9_image v0 s) := by
  refine eb_ct_i (by decide) (Nat.le_of_ble_eq_true rfl) (fun v hv => by simp at hv; rcases hv with rfl <;> simp [Value.category]) ?_
  show eb_go G yX9_image cX9_image 1 (some .int) (3) 0 0 .ireturn (fun r : Int32 => [.int r]) 0 [(0, .ref v0)] [] s 0 0 _
  unfold f_X9_image
  refine eb_aload_n (pc := 0) 0 dX9_image_0 rfl rfl ?_
  refine eb_getR (pc := 1) ef_RX9_16 dX9_image_1 (fun r1 => ?_)
  refine eb_aload_n (pc := 4) 0 dX9_image_4 rfl rfl ?_
  refine eb_getR (pc := 5) ef_RX9_10 dX9_image_5 (fun r2 => ?_)
  refine eb_callv (pc := 8) (eb_runV (pc := 8) (As := [.ref r2]) (rest := []) (ci := 3) (q0 := (RX3, TX3, 20)) (q := (RX3, TX3, 20)) ew_570 ew_571 ew_572 ew_68 rfl rfl ed_X3_takeAll (ct_X3_takeAll hG _ _ _) rfl ew_573 ⟨by decide, by decide⟩ (by decide) (by decide) (Nat.le_of_ble_eq_true rfl) rfl dX9_image_8) (fun _u s3 => ?_)
  refine eb_aload_n (pc := 11) 0 dX9_image_11 rfl rfl ?_
  refine eb_iconst (pc := 12) (v := 1) dX9_image_12 (by decide) ?_
  refine eb_putZ (pc := 13) ef_RX9_77 eg_RX9_77 dX9_image_13 (fun s4 => ?_)
  refine eb_iconst (pc := 16) (v := 1) dX9_image_16 (by decide) ?_
  exact eb_iret (pc := 17) dX9_image_17 (by decide) (by decide)

def f_X9_restore (v0 : Nat) (s : eb_S) : Option (Int32 × eb_S) := eb_gI s [8] v0 11 fun x1 => if x1 = 0 then (some ((-4), s)) else (eb_gR s [8] v0 0 fun r2 => eb_gR s [8] v0 1 fun r3 => eb_cl (eb_tg s r2 3 (f_X3_takeAll r2 r3 s)) fun _u s4 => some (1, s4))
set_option maxRecDepth 100000 in
theorem ct_X9_restore {G : eb_G} (hG : eb_ok G) (v0 : Nat) (s : eb_S) : eb_ct G yX9_restore cX9_restore 1 (some .int) 3 0 0 eb_ei [.ref v0] s (f_X9_restore v0 s) := by
  refine eb_ct_i (by decide) (Nat.le_of_ble_eq_true rfl) (fun v hv => by simp at hv; rcases hv with rfl <;> simp [Value.category]) ?_
  show eb_go G yX9_restore cX9_restore 1 (some .int) (3) 0 0 .ireturn (fun r : Int32 => [.int r]) 0 [(0, .ref v0)] [] s 0 0 _
  unfold f_X9_restore
  refine eb_aload_n (pc := 0) 0 dX9_restore_0 rfl rfl ?_
  refine eb_getI (pc := 1) ef_RX9_77 dX9_restore_1 (fun x1 => ?_)
  refine eb_if_ne (pc := 4) (tgt := 10) dX9_restore_4 (by decide) ?_ ?_
  · refine eb_aload_n (pc := 10) 0 dX9_restore_10 rfl rfl ?_
    refine eb_getR (pc := 11) ef_RX9_10 dX9_restore_11 (fun r2 => ?_)
    refine eb_aload_n (pc := 14) 0 dX9_restore_14 rfl rfl ?_
    refine eb_getR (pc := 15) ef_RX9_16 dX9_restore_15 (fun r3 => ?_)
    refine eb_callv (pc := 18) (eb_runV (pc := 18) (As := [.ref r3]) (rest := []) (ci := 3) (q0 := (RX3, TX3, 20)) (q := (RX3, TX3, 20)) ew_570 ew_571 ew_572 ew_68 rfl rfl ed_X3_takeAll (ct_X3_takeAll hG _ _ _) rfl ew_573 ⟨by decide, by decide⟩ (by decide) (by decide) (Nat.le_of_ble_eq_true rfl) rfl dX9_restore_18) (fun _u s4 => ?_)
    refine eb_iconst (pc := 21) (v := 1) dX9_restore_21 (by decide) ?_
    exact eb_iret (pc := 22) dX9_restore_22 (by decide) (by decide)
  · refine eb_bipush (pc := 7) (v := (-4)) dX9_restore_7 (by decide) ?_
    exact eb_iret (pc := 9) dX9_restore_9 (by decide) (by decide)

def f_X9_isSheet (v0 : Int32) (s : eb_S) : Option (Bool × eb_S) := eb_cl (f_X9_within v0 0 3 s) fun b2 s1 => some (b2, s1)
set_option maxRecDepth 100000 in
theorem ct_X9_isSheet {G : eb_G} (hG : eb_ok G) (v0 : Int32) (s : eb_S) : eb_ct G yX9_isSheet cX9_isSheet 1 (some .boolean) 2 0 0 eb_eb [.int v0] s (f_X9_isSheet v0 s) := by
  refine eb_ct_b (by decide) (Nat.le_of_ble_eq_true rfl) (fun v hv => by simp at hv; rcases hv with rfl <;> simp [Value.category]) ?_
  show eb_go G yX9_isSheet cX9_isSheet 1 (some .boolean) (2) 0 0 .ireturn (fun r : Bool => [.int (eb_b r)]) 0 [(0, .int v0)] [] s 0 0 _
  unfold f_X9_isSheet
  refine eb_iload_n (pc := 0) 0 dX9_isSheet_0 rfl rfl ?_
  refine eb_iconst (pc := 1) (v := 0) dX9_isSheet_1 (by decide) ?_
  refine eb_iconst (pc := 2) (v := 3) dX9_isSheet_2 (by decide) ?_
  refine eb_callb (pc := 3) (eb_runS (pc := 3) (As := [.int v0, .int 0, .int 3]) (rest := []) ew_425 ew_426 ew_427 rfl ed_X9_within (ct_X9_within hG _ _ _ _) ew_428 ⟨by decide, by decide⟩ (by decide) (by decide) (Nat.le_of_ble_eq_true rfl) rfl dX9_isSheet_3) (fun b2 s1 => ?_)
  exact eb_bret (pc := 6) dX9_isSheet_6 (by decide) (by decide)

def f_X9_refusalOf (v0 : Nat) (v1 : Int32) (v2 : Int32) (v3 : Int32) (v4 : Int32) (s : eb_S) : Option (Int32 × eb_S) := eb_cl (f_X9_isSheet v1 s) fun b2 s1 => if (eb_b b2) = 0 then (some ((-1), s1)) else (eb_cl (f_X9_within v2 0 3 s1) fun b4 s3 => if (eb_b b4) = 0 then (some ((-1), s3)) else (eb_gR s3 [8] v0 9 fun r5 => eb_ar s3 r5 v1 fun r6 => eb_cl (eb_tg s3 r6 6 (f_X7_isMissing r6 s3)) fun b8 s7 => if (eb_b b8) = 0 then (eb_gR s7 [8] v0 9 fun r9 => eb_ar s7 r9 v1 fun r10 => eb_gI s7 [6] r10 0 fun x11 => if x11 = v2 then (eb_gR s7 [8] v0 9 fun r12 => eb_ar s7 r12 v1 fun r13 => eb_cl (eb_tg s7 r13 6 (f_X7_spans r13 v3 v4 s7)) fun b15 s14 => if (eb_b b15) = 0 then (some ((-13), s14)) else (some (0, s14))) else (some ((-12), s7))) else (some ((-11), s7))))
set_option maxRecDepth 100000 in
theorem ct_X9_refusalOf {G : eb_G} (hG : eb_ok G) (v0 : Nat) (v1 : Int32) (v2 : Int32) (v3 : Int32) (v4 : Int32) (s : eb_S) : eb_ct G yX9_refusalOf cX9_refusalOf 5 (some .int) 3 0 0 eb_ei [.ref v0, .int v1, .int v2, .int v3, .int v4] s (f_X9_refusalOf v0 v1 v2 v3 v4 s) := by
  refine eb_ct_i (by decide) (Nat.le_of_ble_eq_true rfl) (fun v hv => by simp at hv; rcases hv with rfl | rfl | rfl | rfl | rfl <;> simp [Value.category]) ?_
  show eb_go G yX9_refusalOf cX9_refusalOf 5 (some .int) (3) 0 0 .ireturn (fun r : Int32 => [.int r]) 0 [(0, .ref v0), (1, .int v1), (2, .int v2), (3, .int v3), (4, .int v4)] [] s 0 0 _
  unfold f_X9_refusalOf
  refine eb_iload_n (pc := 0) 1 dX9_refusalOf_0 rfl rfl ?_
  refine eb_callb (pc := 1) (eb_runS (pc := 1) (As := [.int v1]) (rest := []) ew_574 ew_575 ew_427 rfl ed_X9_isSheet (ct_X9_isSheet hG _ _) ew_576 ⟨by decide, by decide⟩ (by decide) (by decide) (Nat.le_of_ble_eq_true rfl) rfl dX9_refusalOf_1) (fun b2 s1 => ?_)
  refine eb_if_eq (pc := 4) (tgt := 16) dX9_refusalOf_4 (by decide) ?_ ?_
  · refine eb_iconst (pc := 16) (v := (-1)) dX9_refusalOf_16 (by decide) ?_
    exact eb_iret (pc := 17) dX9_refusalOf_17 (by decide) (by decide)
  · refine eb_iload_n (pc := 7) 2 dX9_refusalOf_7 rfl rfl ?_
    refine eb_iconst (pc := 8) (v := 0) dX9_refusalOf_8 (by decide) ?_
    refine eb_iconst (pc := 9) (v := 3) dX9_refusalOf_9 (by decide) ?_
    refine eb_callb (pc := 10) (eb_runS (pc := 10) (As := [.int v2, .int 0, .int 3]) (rest := []) ew_425 ew_426 ew_427 rfl ed_X9_within (ct_X9_within hG _ _ _ _) ew_428 ⟨by decide, by decide⟩ (by decide) (by decide) (Nat.le_of_ble_eq_true rfl) rfl dX9_refusalOf_10) (fun b4 s3 => ?_)
    refine eb_if_ne (pc := 13) (tgt := 18) dX9_refusalOf_13 (by decide) ?_ ?_
    · refine eb_aload_n (pc := 18) 0 dX9_refusalOf_18 rfl rfl ?_
      refine eb_getR (pc := 19) ef_RX9_69 dX9_refusalOf_19 (fun r5 => ?_)
      refine eb_iload_n (pc := 22) 1 dX9_refusalOf_22 rfl rfl ?_
      refine eb_aaload (pc := 23) dX9_refusalOf_23 (fun r6 => ?_)
      refine eb_callb (pc := 24) (eb_runV (pc := 24) (As := []) (rest := []) (ci := 6) (q0 := (RX7, TX7, 3)) (q := (RX7, TX7, 3)) ew_577 ew_578 ew_579 ew_362 rfl rfl ed_X7_isMissing (ct_X7_isMissing hG _ _) rfl ew_580 ⟨by decide, by decide⟩ (by decide) (by decide) (Nat.le_of_ble_eq_true rfl) rfl dX9_refusalOf_24) (fun b8 s7 => ?_)
      refine eb_if_eq (pc := 27) (tgt := 33) dX9_refusalOf_27 (by decide) ?_ ?_
      · refine eb_aload_n (pc := 33) 0 dX9_refusalOf_33 rfl rfl ?_
        refine eb_getR (pc := 34) ef_RX9_69 dX9_refusalOf_34 (fun r9 => ?_)
        refine eb_iload_n (pc := 37) 1 dX9_refusalOf_37 rfl rfl ?_
        refine eb_aaload (pc := 38) dX9_refusalOf_38 (fun r10 => ?_)
        refine eb_getI (pc := 39) ef_RX9_337 dX9_refusalOf_39 (fun x11 => ?_)
        refine eb_iload_n (pc := 42) 2 dX9_refusalOf_42 rfl rfl ?_
        refine eb_icmp_eq (pc := 43) (tgt := 49) dX9_refusalOf_43 (by decide) ?_ ?_
        · refine eb_aload_n (pc := 49) 0 dX9_refusalOf_49 rfl rfl ?_
          refine eb_getR (pc := 50) ef_RX9_69 dX9_refusalOf_50 (fun r12 => ?_)
          refine eb_iload_n (pc := 53) 1 dX9_refusalOf_53 rfl rfl ?_
          refine eb_aaload (pc := 54) dX9_refusalOf_54 (fun r13 => ?_)
          refine eb_iload_n (pc := 55) 3 dX9_refusalOf_55 rfl rfl ?_
          refine eb_iload (pc := 56) 4 dX9_refusalOf_56 rfl ?_
          refine eb_callb (pc := 58) (eb_runV (pc := 58) (As := [.int v3, .int v4]) (rest := []) (ci := 6) (q0 := (RX7, TX7, 3)) (q := (RX7, TX7, 3)) ew_582 ew_583 ew_584 ew_362 rfl rfl ed_X7_spans (ct_X7_spans hG _ _ _ _) rfl ew_585 ⟨by decide, by decide⟩ (by decide) (by decide) (Nat.le_of_ble_eq_true rfl) rfl dX9_refusalOf_58) (fun b15 s14 => ?_)
          refine eb_if_eq (pc := 61) (tgt := 68) dX9_refusalOf_61 (by decide) ?_ ?_
          · refine eb_bipush (pc := 68) (v := (-13)) dX9_refusalOf_68 (by decide) ?_
            exact eb_iret (pc := 70) dX9_refusalOf_70 (by decide) (by decide)
          · refine eb_iconst (pc := 64) (v := 0) dX9_refusalOf_64 (by decide) ?_
            refine eb_goto (pc := 65) (tgt := 70) dX9_refusalOf_65 (by decide) ?_
            exact eb_iret (pc := 70) dX9_refusalOf_70 (by decide) (by decide)
        · refine eb_bipush (pc := 46) (v := (-12)) dX9_refusalOf_46 (by decide) ?_
          exact eb_iret (pc := 48) dX9_refusalOf_48 (by decide) (by decide)
      · refine eb_bipush (pc := 30) (v := (-11)) dX9_refusalOf_30 (by decide) ?_
        exact eb_iret (pc := 32) dX9_refusalOf_32 (by decide) (by decide)
    · refine eb_iconst (pc := 16) (v := (-1)) dX9_refusalOf_16 (by decide) ?_
      exact eb_iret (pc := 17) dX9_refusalOf_17 (by decide) (by decide)

def f_X9_tray (n : Nat) (v0 : Nat) (v1 : Int32) (v2 : Int32) (v3 : Int32) (v4 : Int32) (v5 : Int32) (s : eb_S) : Option (Int32 × eb_S) := eb_cl (f_X9_within v4 0 9999 s) fun b2 s1 => if (eb_b b2) = 0 then (some ((-1), s1)) else (eb_cl (f_X9_within v5 0 2 s1) fun b4 s3 => if (eb_b b4) = 0 then (some ((-1), s3)) else (eb_cl (eb_tg s3 v0 8 (f_X9_refusalOf v0 v1 v2 v3 8 s3)) fun x6 s5 => if 0 ≤ x6 then (eb_gR s5 [8] v0 8 fun r7 => eb_gR s5 [8] v0 9 fun r8 => eb_ar s5 r8 v1 fun r9 => eb_cl (eb_tg s5 r7 2 (f_X2_seat n r7 r9 v3 s5)) fun b11 s10 => if (eb_b b11) = 0 then (some ((-2), s10)) else (eb_lw v5 [(0, eb_gR s10 [8] v0 8 fun r12 => eb_gR s10 [8] v0 8 fun r13 => eb_gI s10 [2] r13 0 fun x14 => eb_cl (eb_tg s10 r12 2 (f_X2_tips n r12 x14 v4 s10)) fun b16 s15 => if (eb_b b16) = 0 then (some (0, s15)) else (some (1, s15))), (1, eb_gR s10 [8] v0 8 fun r17 => eb_cl (eb_tg s10 r17 2 (f_X2_orders n r17 v4 s10)) fun x19 s18 => some (x19, s18))] (eb_gR s10 [8] v0 8 fun r20 => eb_cl (eb_tg s10 r20 2 (f_X2_safe n r20 v4 s10)) fun x22 s21 => some (x22, s21)))) else (some (x6, s5))))
set_option maxRecDepth 100000 in
theorem ct_X9_tray {G : eb_G} (hG : eb_ok G) (n : Nat) (v0 : Nat) (v1 : Int32) (v2 : Int32) (v3 : Int32) (v4 : Int32) (v5 : Int32) (s : eb_S) : eb_ct G yX9_tray cX9_tray 7 (some .int) 4 0 0 eb_ei [.ref v0, .int v1, .int v2, .int v3, .int v4, .int v5] s (f_X9_tray n v0 v1 v2 v3 v4 v5 s) := by
  refine eb_ct_i (by decide) (Nat.le_of_ble_eq_true rfl) (fun v hv => by simp at hv; rcases hv with rfl | rfl | rfl | rfl | rfl | rfl <;> simp [Value.category]) ?_
  show eb_go G yX9_tray cX9_tray 7 (some .int) (4) 0 0 .ireturn (fun r : Int32 => [.int r]) 0 [(0, .ref v0), (1, .int v1), (2, .int v2), (3, .int v3), (4, .int v4), (5, .int v5)] [] s 0 0 _
  unfold f_X9_tray
  refine eb_iload (pc := 0) 4 dX9_tray_0 rfl ?_
  refine eb_iconst (pc := 2) (v := 0) dX9_tray_2 (by decide) ?_
  refine eb_sipush (pc := 3) (v := 9999) dX9_tray_3 (by decide) ?_
  refine eb_callb (pc := 6) (eb_runS (pc := 6) (As := [.int v4, .int 0, .int 9999]) (rest := []) ew_425 ew_426 ew_427 rfl ed_X9_within (ct_X9_within hG _ _ _ _) ew_428 ⟨by decide, by decide⟩ (by decide) (by decide) (Nat.le_of_ble_eq_true rfl) rfl dX9_tray_6) (fun b2 s1 => ?_)
  refine eb_if_eq (pc := 9) (tgt := 22) dX9_tray_9 (by decide) ?_ ?_
  · refine eb_iconst (pc := 22) (v := (-1)) dX9_tray_22 (by decide) ?_
    exact eb_iret (pc := 23) dX9_tray_23 (by decide) (by decide)
  · refine eb_iload (pc := 12) 5 dX9_tray_12 rfl ?_
    refine eb_iconst (pc := 14) (v := 0) dX9_tray_14 (by decide) ?_
    refine eb_iconst (pc := 15) (v := 2) dX9_tray_15 (by decide) ?_
    refine eb_callb (pc := 16) (eb_runS (pc := 16) (As := [.int v5, .int 0, .int 2]) (rest := []) ew_425 ew_426 ew_427 rfl ed_X9_within (ct_X9_within hG _ _ _ _) ew_428 ⟨by decide, by decide⟩ (by decide) (by decide) (Nat.le_of_ble_eq_true rfl) rfl dX9_tray_16) (fun b4 s3 => ?_)
    refine eb_if_ne (pc := 19) (tgt := 24) dX9_tray_19 (by decide) ?_ ?_
    · refine eb_aload_n (pc := 24) 0 dX9_tray_24 rfl rfl ?_
      refine eb_iload_n (pc := 25) 1 dX9_tray_25 rfl rfl ?_
      refine eb_iload_n (pc := 26) 2 dX9_tray_26 rfl rfl ?_
      refine eb_iload_n (pc := 27) 3 dX9_tray_27 rfl rfl ?_
      refine eb_bipush (pc := 28) (v := 8) dX9_tray_28 (by decide) ?_
      refine eb_calli (pc := 30) (eb_runV (pc := 30) (As := [.int v1, .int v2, .int v3, .int 8]) (rest := []) (ci := 8) (q0 := (RX9, TX9, 12)) (q := (RX9, TX9, 12)) ew_586 ew_587 ew_588 ew_427 rfl rfl ed_X9_refusalOf (ct_X9_refusalOf hG _ _ _ _ _ _) rfl ew_589 ⟨by decide, by decide⟩ (by decide) (by decide) (Nat.le_of_ble_eq_true rfl) rfl dX9_tray_30) (fun x6 s5 => ?_)
      refine eb_istore (pc := 33) (L' := [(6, .int x6), (0, .ref v0), (1, .int v1), (2, .int v2), (3, .int v3), (4, .int v4), (5, .int v5)]) dX9_tray_33 (by decide) rfl ?_
      refine eb_iload (pc := 35) 0 dX9_tray_35 rfl ?_
      refine eb_if_ge (pc := 37) (tgt := 43) dX9_tray_37 (by decide) ?_ ?_
      · refine eb_aload_n (pc := 43) 1 dX9_tray_43 rfl rfl ?_
        refine eb_getR (pc := 44) ef_RX9_62 dX9_tray_44 (fun r7 => ?_)
        refine eb_aload_n (pc := 47) 1 dX9_tray_47 rfl rfl ?_
        refine eb_getR (pc := 48) ef_RX9_69 dX9_tray_48 (fun r8 => ?_)
        refine eb_iload_n (pc := 51) 2 dX9_tray_51 rfl rfl ?_
        refine eb_aaload (pc := 52) dX9_tray_52 (fun r9 => ?_)
        refine eb_iload_n (pc := 53) 4 dX9_tray_53 rfl rfl ?_
        refine eb_callb (pc := 54) (eb_runV (pc := 54) (As := [.ref r9, .int v3]) (rest := []) (ci := 2) (q0 := (RX2, TX2, 4)) (q := (RX2, TX2, 4)) ew_590 ew_591 ew_592 ew_349 rfl rfl ed_X2_seat (ct_X2_seat hG n _ _ _ _) rfl ew_593 ⟨by decide, by decide⟩ (by decide) (by decide) (Nat.le_of_ble_eq_true rfl) rfl dX9_tray_54) (fun b11 s10 => ?_)
        refine eb_if_ne (pc := 57) (tgt := 63) dX9_tray_57 (by decide) ?_ ?_
        · refine eb_iload (pc := 63) 6 dX9_tray_63 rfl ?_
          refine eb_lswitch2 (pc := 65) (k0 := 0) (k1 := 1) (t0 := 92) (t1 := 117) (td := 127) dX9_tray_65 (by decide) (by decide) (by decide) (by decide) ?_ ?_ ?_
          · refine eb_aload_n (pc := 92) 1 dX9_tray_92 rfl rfl ?_
            refine eb_getR (pc := 93) ef_RX9_62 dX9_tray_93 (fun r12 => ?_)
            refine eb_aload_n (pc := 96) 1 dX9_tray_96 rfl rfl ?_
            refine eb_getR (pc := 97) ef_RX9_62 dX9_tray_97 (fun r13 => ?_)
            refine eb_getI (pc := 100) ef_RX9_287 dX9_tray_100 (fun x14 => ?_)
            refine eb_iload (pc := 103) 5 dX9_tray_103 rfl ?_
            refine eb_callb (pc := 105) (eb_runV (pc := 105) (As := [.int x14, .int v4]) (rest := []) (ci := 2) (q0 := (RX2, TX2, 4)) (q := (RX2, TX2, 4)) ew_595 ew_347 ew_348 ew_349 rfl rfl ed_X2_tips (ct_X2_tips hG n _ _ _ _) rfl ew_350 ⟨by decide, by decide⟩ (by decide) (by decide) (Nat.le_of_ble_eq_true rfl) rfl dX9_tray_105) (fun b16 s15 => ?_)
            refine eb_if_eq (pc := 108) (tgt := 115) dX9_tray_108 (by decide) ?_ ?_
            · refine eb_iconst (pc := 115) (v := 0) dX9_tray_115 (by decide) ?_
              exact eb_iret (pc := 116) dX9_tray_116 (by decide) (by decide)
            · refine eb_iconst (pc := 111) (v := 1) dX9_tray_111 (by decide) ?_
              refine eb_goto (pc := 112) (tgt := 116) dX9_tray_112 (by decide) ?_
              exact eb_iret (pc := 116) dX9_tray_116 (by decide) (by decide)
          · refine eb_aload_n (pc := 117) 1 dX9_tray_117 rfl rfl ?_
            refine eb_getR (pc := 118) ef_RX9_62 dX9_tray_118 (fun r17 => ?_)
            refine eb_iload (pc := 121) 5 dX9_tray_121 rfl ?_
            refine eb_calli (pc := 123) (eb_runV (pc := 123) (As := [.int v4]) (rest := []) (ci := 2) (q0 := (RX2, TX2, 4)) (q := (RX2, TX2, 4)) ew_596 ew_597 ew_598 ew_349 rfl rfl ed_X2_orders (ct_X2_orders hG n _ _ _) rfl ew_599 ⟨by decide, by decide⟩ (by decide) (by decide) (Nat.le_of_ble_eq_true rfl) rfl dX9_tray_123) (fun x19 s18 => ?_)
            exact eb_iret (pc := 126) dX9_tray_126 (by decide) (by decide)
          · refine eb_aload_n (pc := 127) 1 dX9_tray_127 rfl rfl ?_
            refine eb_getR (pc := 128) ef_RX9_62 dX9_tray_128 (fun r20 => ?_)
            refine eb_iload (pc := 131) 5 dX9_tray_131 rfl ?_
            refine eb_calli (pc := 133) (eb_runV (pc := 133) (As := [.int v4]) (rest := []) (ci := 2) (q0 := (RX2, TX2, 4)) (q := (RX2, TX2, 4)) ew_600 ew_601 ew_602 ew_349 rfl rfl ed_X2_safe (ct_X2_safe hG n _ _ _) rfl ew_603 ⟨by decide, by decide⟩ (by decide) (by decide) (Nat.le_of_ble_eq_true rfl) rfl dX9_tray_133) (fun x22 s21 => ?_)
            exact eb_iret (pc := 136) dX9_tray_136 (by decide) (by decide)
        · refine eb_bipush (pc := 60) (v := (-2)) dX9_tray_60 (by decide) ?_
          exact eb_iret (pc := 62) dX9_tray_62 (by decide) (by decide)
      · refine eb_iload (pc := 40) 0 dX9_tray_40 rfl ?_
        exact eb_iret (pc := 42) dX9_tray_42 (by decide) (by decide)
    · refine eb_iconst (pc := 22) (v := (-1)) dX9_tray_22 (by decide) ?_
      exact eb_iret (pc := 23) dX9_tray_23 (by decide) (by decide)

def f_X9_pulled_L39 (n : Nat) (v0 : Nat) (v1 : Int32) (v3 : Int32) (v4 : Int32) (K : eb_S → Option (Int32 × eb_S)) : Nat → Int32 → eb_S → Option (Int32 × eb_S)
  | 0, _, _ => none
  | m + 1, v6, s => eb_gR s [8] v0 0 fun r7 => eb_gI s [3] r7 7 fun x8 => if x8 ≤ v6 then (K s) else (eb_gR s [8] v0 6 fun r9 => eb_gR s [8] v0 9 fun r10 => eb_ar s r10 v1 fun r11 => eb_gR s [6] r11 2 fun r12 => eb_al s r12 (v3 + v6) fun l13 => eb_cl (eb_tg s r9 5 (f_X5_ask r9 v6 l13 s)) fun _u s14 => f_X9_pulled_L39 n v0 v1 v3 v4 K m (v6 + 1) s14)
def f_X9_pulled (n : Nat) (v0 : Nat) (v1 : Int32) (v2 : Int32) (v3 : Int32) (v4 : Int32) (s : eb_S) : Option (Int32 × eb_S) := eb_cl (f_X9_within v4 0 2 s) fun b2 s1 => if (eb_b b2) = 0 then (some ((-1), s1)) else (eb_gR s1 [8] v0 0 fun r3 => eb_gI s1 [3] r3 7 fun x4 => eb_cl (eb_tg s1 v0 8 (f_X9_refusalOf v0 v1 v2 v3 x4 s1)) fun x6 s5 => if 0 ≤ x6 then (f_X9_pulled_L39 n v0 v1 v3 v4 (fun  (s15 : eb_S) => eb_gR s15 [8] v0 6 fun r16 => eb_cl (eb_tg s15 r16 5 (f_X6_solve n r16 s15)) fun _u s17 => if v4 = 0 then (eb_gR s17 [8] v0 6 fun r25 => eb_gI s17 [5] r25 6 fun x26 => some (x26, s17)) else (eb_gR s17 [8] v0 6 fun r18 => eb_gI s17 [5] r18 6 fun x19 => if x19 = 0 then (some ((-4), s17)) else (if v4 = 1 then (eb_gR s17 [8] v0 6 fun r22 => eb_cl (eb_tg s17 r22 5 (f_X5_firstAsDigits n r22 s17)) fun x24 s23 => some (x24, s23)) else (eb_gR s17 [8] v0 6 fun r20 => eb_gI s17 [5] r20 7 fun x21 => some (x21, s17))))) n 0 s5) else (some (x6, s5)))
set_option maxRecDepth 100000 in
theorem gl_X9_pulled_L39 {G : eb_G} (hG : eb_ok G) {n : Nat} {v0 : Nat} {v1 : Int32} {v3 : Int32} {v4 : Int32} {K : eb_S → Option (Int32 × eb_S)} (hK : ∀  (s : eb_S), eb_go G yX9_pulled cX9_pulled 7 (some .int) (19) 0 0 .ireturn (fun r : Int32 => [.int r]) 80 [(0, .ref v0), (4, .int v4)] [] s 0 0 (K  s)) : ∀ (m : Nat) (v6 : Int32) (s : eb_S), eb_go G yX9_pulled cX9_pulled 7 (some .int) (19) 0 0 .ireturn (fun r : Int32 => [.int r]) 39 [(0, .ref v0), (1, .int v1), (3, .int v3), (4, .int v4), (6, .int v6)] [] s 0 0 (f_X9_pulled_L39 n v0 v1 v3 v4 K m v6 s) := by
  intro m
  induction m with
  | zero => intro v6 s; exact eb_none
  | succ m ih =>
    intro v6 s
    rw [f_X9_pulled_L39.eq_2]
    refine eb_iload (pc := 39) 4 dX9_pulled_39 rfl ?_
    refine eb_aload_n (pc := 41) 0 dX9_pulled_41 rfl rfl ?_
    refine eb_getR (pc := 42) ef_RX9_10 dX9_pulled_42 (fun r7 => ?_)
    refine eb_getI (pc := 45) ef_RX9_122 dX9_pulled_45 (fun x8 => ?_)
    refine eb_icmp_ge (pc := 48) (tgt := 80) dX9_pulled_48 (by decide) ?_ ?_
    · refine eb_sub [0, 3] rfl ?_
      exact hK _
    · refine eb_aload_n (pc := 51) 0 dX9_pulled_51 rfl rfl ?_
      refine eb_getR (pc := 52) ef_RX9_48 dX9_pulled_52 (fun r9 => ?_)
      refine eb_iload (pc := 55) 4 dX9_pulled_55 rfl ?_
      refine eb_aload_n (pc := 57) 0 dX9_pulled_57 rfl rfl ?_
      refine eb_getR (pc := 58) ef_RX9_69 dX9_pulled_58 (fun r10 => ?_)
      refine eb_iload_n (pc := 61) 1 dX9_pulled_61 rfl rfl ?_
      refine eb_aaload (pc := 62) dX9_pulled_62 (fun r11 => ?_)
      refine eb_getR (pc := 63) ef_RX9_299 dX9_pulled_63 (fun r12 => ?_)
      refine eb_iload_n (pc := 66) 2 dX9_pulled_66 rfl rfl ?_
      refine eb_iload (pc := 67) 4 dX9_pulled_67 rfl ?_
      refine eb_iadd (pc := 69) dX9_pulled_69 ?_
      refine eb_laload (pc := 70) dX9_pulled_70 (fun l13 => ?_)
      refine eb_callv (pc := 71) (eb_runV (pc := 71) (As := [.int v6, .long l13]) (rest := []) (ci := 5) (q0 := (RX5, TX5, 9)) (q := (RX5, TX5, 9)) ew_605 ew_606 ew_607 ew_233 rfl rfl ed_X5_ask (ct_X5_ask hG _ _ _ _) rfl ew_608 ⟨by decide, by decide⟩ (by decide) (by decide) (Nat.le_of_ble_eq_true rfl) rfl dX9_pulled_71) (fun _u s14 => ?_)
      refine eb_iinc (pc := 74) (v := v6 + 1) (L' := [(6, .int (v6 + 1)), (0, .ref v0), (1, .int v1), (3, .int v3), (4, .int v4)]) 4 dX9_pulled_74 rfl rfl (by decide) rfl ?_
      refine eb_goto (pc := 77) (tgt := 39) dX9_pulled_77 (by decide) ?_
      refine eb_sub [1, 2, 3, 4, 0] rfl ?_
      exact ih _ _
set_option maxRecDepth 100000 in
theorem ct_X9_pulled {G : eb_G} (hG : eb_ok G) (n : Nat) (v0 : Nat) (v1 : Int32) (v2 : Int32) (v3 : Int32) (v4 : Int32) (s : eb_S) : eb_ct G yX9_pulled cX9_pulled 7 (some .int) 19 0 0 eb_ei [.ref v0, .int v1, .int v2, .int v3, .int v4] s (f_X9_pulled n v0 v1 v2 v3 v4 s) := by
  refine eb_ct_i (by decide) (Nat.le_of_ble_eq_true rfl) (fun v hv => by simp at hv; rcases hv with rfl | rfl | rfl | rfl | rfl <;> simp [Value.category]) ?_
  show eb_go G yX9_pulled cX9_pulled 7 (some .int) (19) 0 0 .ireturn (fun r : Int32 => [.int r]) 0 [(0, .ref v0), (1, .int v1), (2, .int v2), (3, .int v3), (4, .int v4)] [] s 0 0 _
  unfold f_X9_pulled
  refine eb_iload (pc := 0) 4 dX9_pulled_0 rfl ?_
  refine eb_iconst (pc := 2) (v := 0) dX9_pulled_2 (by decide) ?_
  refine eb_iconst (pc := 3) (v := 2) dX9_pulled_3 (by decide) ?_
  refine eb_callb (pc := 4) (eb_runS (pc := 4) (As := [.int v4, .int 0, .int 2]) (rest := []) ew_425 ew_426 ew_427 rfl ed_X9_within (ct_X9_within hG _ _ _ _) ew_428 ⟨by decide, by decide⟩ (by decide) (by decide) (Nat.le_of_ble_eq_true rfl) rfl dX9_pulled_4) (fun b2 s1 => ?_)
  refine eb_if_ne (pc := 7) (tgt := 12) dX9_pulled_7 (by decide) ?_ ?_
  · refine eb_aload_n (pc := 12) 0 dX9_pulled_12 rfl rfl ?_
    refine eb_iload_n (pc := 13) 1 dX9_pulled_13 rfl rfl ?_
    refine eb_iload_n (pc := 14) 2 dX9_pulled_14 rfl rfl ?_
    refine eb_iload_n (pc := 15) 3 dX9_pulled_15 rfl rfl ?_
    refine eb_aload_n (pc := 16) 0 dX9_pulled_16 rfl rfl ?_
    refine eb_getR (pc := 17) ef_RX9_10 dX9_pulled_17 (fun r3 => ?_)
    refine eb_getI (pc := 20) ef_RX9_122 dX9_pulled_20 (fun x4 => ?_)
    refine eb_calli (pc := 23) (eb_runV (pc := 23) (As := [.int v1, .int v2, .int v3, .int x4]) (rest := []) (ci := 8) (q0 := (RX9, TX9, 12)) (q := (RX9, TX9, 12)) ew_586 ew_587 ew_588 ew_427 rfl rfl ed_X9_refusalOf (ct_X9_refusalOf hG _ _ _ _ _ _) rfl ew_589 ⟨by decide, by decide⟩ (by decide) (by decide) (Nat.le_of_ble_eq_true rfl) rfl dX9_pulled_23) (fun x6 s5 => ?_)
    refine eb_istore (pc := 26) (L' := [(5, .int x6), (0, .ref v0), (1, .int v1), (2, .int v2), (3, .int v3), (4, .int v4)]) dX9_pulled_26 (by decide) rfl ?_
    refine eb_iload (pc := 28) 0 dX9_pulled_28 rfl ?_
    refine eb_if_ge (pc := 30) (tgt := 36) dX9_pulled_30 (by decide) ?_ ?_
    · refine eb_iconst (pc := 36) (v := 0) dX9_pulled_36 (by decide) ?_
      refine eb_istore (pc := 37) (L' := [(6, .int 0), (5, .int x6), (0, .ref v0), (1, .int v1), (2, .int v2), (3, .int v3), (4, .int v4)]) dX9_pulled_37 (by decide) rfl ?_
      refine eb_sub [2, 3, 5, 6, 0] rfl ?_
      refine gl_X9_pulled_L39 hG (fun s15 => ?_) n _ _
      refine eb_aload_n (pc := 80) 0 dX9_pulled_80 rfl rfl ?_
      refine eb_getR (pc := 81) ef_RX9_48 dX9_pulled_81 (fun r16 => ?_)
      refine eb_callv (pc := 84) (eb_runU (pc := 84) (n := 0) (As := []) (rest := []) (x2 := ⟨RX5, "solve", "()V"⟩) (owner := RX6) (ci := 5) (q := (RX5, TX5, 9)) ew_609 ew_610 (fun q hq => by cases hq; exact ew_611) ew_505 ew_140 rfl (by decide +kernel) (ct_X6_solve hG n _ _) rfl ew_506 ⟨by decide, by decide⟩ (by decide) (by decide) (Nat.le_of_ble_eq_true rfl) rfl dX9_pulled_84) (fun _u s17 => ?_)
      refine eb_iload (pc := 87) 1 dX9_pulled_87 rfl ?_
      refine eb_if_ne (pc := 89) (tgt := 100) dX9_pulled_89 (by decide) ?_ ?_
      · refine eb_aload_n (pc := 100) 0 dX9_pulled_100 rfl rfl ?_
        refine eb_getR (pc := 101) ef_RX9_48 dX9_pulled_101 (fun r18 => ?_)
        refine eb_getI (pc := 104) ef_RX9_307 dX9_pulled_104 (fun x19 => ?_)
        refine eb_if_ne (pc := 107) (tgt := 113) dX9_pulled_107 (by decide) ?_ ?_
        · refine eb_iload (pc := 113) 1 dX9_pulled_113 rfl ?_
          refine eb_iconst (pc := 115) (v := 1) dX9_pulled_115 (by decide) ?_
          refine eb_icmp_ne (pc := 116) (tgt := 129) dX9_pulled_116 (by decide) ?_ ?_
          · refine eb_aload_n (pc := 129) 0 dX9_pulled_129 rfl rfl ?_
            refine eb_getR (pc := 130) ef_RX9_48 dX9_pulled_130 (fun r20 => ?_)
            refine eb_getI (pc := 133) ef_RX9_313 dX9_pulled_133 (fun x21 => ?_)
            exact eb_iret (pc := 136) dX9_pulled_136 (by decide) (by decide)
          · refine eb_aload_n (pc := 119) 0 dX9_pulled_119 rfl rfl ?_
            refine eb_getR (pc := 120) ef_RX9_48 dX9_pulled_120 (fun r22 => ?_)
            refine eb_calli (pc := 123) (eb_runV (pc := 123) (As := []) (rest := []) (ci := 5) (q0 := (RX5, TX5, 9)) (q := (RX5, TX5, 9)) ew_614 ew_615 ew_616 ew_233 rfl rfl ed_X5_firstAsDigits (ct_X5_firstAsDigits hG n _ _) rfl ew_617 ⟨by decide, by decide⟩ (by decide) (by decide) (Nat.le_of_ble_eq_true rfl) rfl dX9_pulled_123) (fun x24 s23 => ?_)
            refine eb_goto (pc := 126) (tgt := 136) dX9_pulled_126 (by decide) ?_
            exact eb_iret (pc := 136) dX9_pulled_136 (by decide) (by decide)
        · refine eb_bipush (pc := 110) (v := (-4)) dX9_pulled_110 (by decide) ?_
          exact eb_iret (pc := 112) dX9_pulled_112 (by decide) (by decide)
      · refine eb_aload_n (pc := 92) 0 dX9_pulled_92 rfl rfl ?_
        refine eb_getR (pc := 93) ef_RX9_48 dX9_pulled_93 (fun r25 => ?_)
        refine eb_getI (pc := 96) ef_RX9_307 dX9_pulled_96 (fun x26 => ?_)
        exact eb_iret (pc := 99) dX9_pulled_99 (by decide) (by decide)
    · refine eb_iload (pc := 33) 0 dX9_pulled_33 rfl ?_
      exact eb_iret (pc := 35) dX9_pulled_35 (by decide) (by decide)
  · refine eb_iconst (pc := 10) (v := (-1)) dX9_pulled_10 (by decide) ?_
    exact eb_iret (pc := 11) dX9_pulled_11 (by decide) (by decide)

def f_X9_film_L27 (n : Nat) (v0 : Nat) (v1 : Int32) (v3 : Int32) (K : eb_S → Option (Int32 × eb_S)) : Nat → Int32 → eb_S → Option (Int32 × eb_S)
  | 0, _, _ => none
  | m + 1, v5, s => eb_gR s [8] v0 0 fun r5 => eb_gI s [3] r5 7 fun x6 => if x6 ≤ v5 then (K s) else (eb_gR s [8] v0 9 fun r7 => eb_ar s r7 v1 fun r8 => eb_gR s [8] v0 0 fun r9 => eb_cl (eb_tg s r9 3 (f_X3_offOn n r9 v5 s)) fun x11 s10 => eb_cl (eb_tg s10 r8 6 (f_X7_write r8 (v3 + v5) ((x11).toInt64) s10)) fun _u s12 => f_X9_film_L27 n v0 v1 v3 K m (v5 + 1) s12)
def f_X9_film (n : Nat) (v0 : Nat) (v1 : Int32) (v2 : Int32) (v3 : Int32) (s : eb_S) : Option (Int32 × eb_S) := eb_gR s [8] v0 0 fun r1 => eb_gI s [3] r1 7 fun x2 => eb_cl (eb_tg s v0 8 (f_X9_refusalOf v0 v1 v2 v3 x2 s)) fun x4 s3 => if 0 ≤ x4 then (f_X9_film_L27 n v0 v1 v3 (fun  (s13 : eb_S) => eb_gR s13 [8] v0 0 fun r14 => eb_gI s13 [3] r14 7 fun x15 => some (x15, s13)) n 0 s3) else (some (x4, s3))
set_option maxRecDepth 100000 in
theorem gl_X9_film_L27 {G : eb_G} (hG : eb_ok G) {n : Nat} {v0 : Nat} {v1 : Int32} {v3 : Int32} {K : eb_S → Option (Int32 × eb_S)} (hK : ∀  (s : eb_S), eb_go G yX9_film cX9_film 6 (some .int) (4) 0 0 .ireturn (fun r : Int32 => [.int r]) 68 [(0, .ref v0)] [] s 0 0 (K  s)) : ∀ (m : Nat) (v5 : Int32) (s : eb_S), eb_go G yX9_film cX9_film 6 (some .int) (4) 0 0 .ireturn (fun r : Int32 => [.int r]) 27 [(0, .ref v0), (1, .int v1), (3, .int v3), (5, .int v5)] [] s 0 0 (f_X9_film_L27 n v0 v1 v3 K m v5 s) := by
  intro m
  induction m with
  | zero => intro v5 s; exact eb_none
  | succ m ih =>
    intro v5 s
    rw [f_X9_film_L27.eq_2]
    refine eb_iload (pc := 27) 3 dX9_film_27 rfl ?_
    refine eb_aload_n (pc := 29) 0 dX9_film_29 rfl rfl ?_
    refine eb_getR (pc := 30) ef_RX9_10 dX9_film_30 (fun r5 => ?_)
    refine eb_getI (pc := 33) ef_RX9_122 dX9_film_33 (fun x6 => ?_)
    refine eb_icmp_ge (pc := 36) (tgt := 68) dX9_film_36 (by decide) ?_ ?_
    · refine eb_sub [0] rfl ?_
      exact hK _
    · refine eb_aload_n (pc := 39) 0 dX9_film_39 rfl rfl ?_
      refine eb_getR (pc := 40) ef_RX9_69 dX9_film_40 (fun r7 => ?_)
      refine eb_iload_n (pc := 43) 1 dX9_film_43 rfl rfl ?_
      refine eb_aaload (pc := 44) dX9_film_44 (fun r8 => ?_)
      refine eb_iload_n (pc := 45) 2 dX9_film_45 rfl rfl ?_
      refine eb_iload (pc := 46) 3 dX9_film_46 rfl ?_
      refine eb_iadd (pc := 48) dX9_film_48 ?_
      refine eb_aload_n (pc := 49) 0 dX9_film_49 rfl rfl ?_
      refine eb_getR (pc := 50) ef_RX9_10 dX9_film_50 (fun r9 => ?_)
      refine eb_iload (pc := 53) 3 dX9_film_53 rfl ?_
      refine eb_calli (pc := 55) (eb_runV (pc := 55) (As := [.int v5]) (rest := [.int (v3 + v5), .ref r8]) (ci := 3) (q0 := (RX3, TX3, 20)) (q := (RX3, TX3, 20)) ew_493 ew_89 ew_90 ew_68 rfl rfl ed_X3_offOn (ct_X3_offOn hG n _ _ _) rfl ew_91 ⟨by decide, by decide⟩ (by decide) (by decide) (Nat.le_of_ble_eq_true rfl) rfl dX9_film_55) (fun x11 s10 => ?_)
      refine eb_i2l (pc := 58) dX9_film_58 ?_
      refine eb_callv (pc := 59) (eb_runV (pc := 59) (As := [.int (v3 + v5), .long ((x11).toInt64)]) (rest := []) (ci := 6) (q0 := (RX7, TX7, 3)) (q := (RX7, TX7, 3)) ew_618 ew_619 ew_620 ew_362 rfl rfl ed_X7_write (ct_X7_write hG _ _ _ _) rfl ew_621 ⟨by decide, by decide⟩ (by decide) (by decide) (Nat.le_of_ble_eq_true rfl) rfl dX9_film_59) (fun _u s12 => ?_)
      refine eb_iinc (pc := 62) (v := v5 + 1) (L' := [(5, .int (v5 + 1)), (0, .ref v0), (1, .int v1), (3, .int v3)]) 3 dX9_film_62 rfl rfl (by decide) rfl ?_
      refine eb_goto (pc := 65) (tgt := 27) dX9_film_65 (by decide) ?_
      refine eb_sub [1, 2, 3, 0] rfl ?_
      exact ih _ _
set_option maxRecDepth 100000 in
theorem ct_X9_film {G : eb_G} (hG : eb_ok G) (n : Nat) (v0 : Nat) (v1 : Int32) (v2 : Int32) (v3 : Int32) (s : eb_S) : eb_ct G yX9_film cX9_film 6 (some .int) 4 0 0 eb_ei [.ref v0, .int v1, .int v2, .int v3] s (f_X9_film n v0 v1 v2 v3 s) := by
  refine eb_ct_i (by decide) (Nat.le_of_ble_eq_true rfl) (fun v hv => by simp at hv; rcases hv with rfl | rfl | rfl | rfl <;> simp [Value.category]) ?_
  show eb_go G yX9_film cX9_film 6 (some .int) (4) 0 0 .ireturn (fun r : Int32 => [.int r]) 0 [(0, .ref v0), (1, .int v1), (2, .int v2), (3, .int v3)] [] s 0 0 _
  unfold f_X9_film
  refine eb_aload_n (pc := 0) 0 dX9_film_0 rfl rfl ?_
  refine eb_iload_n (pc := 1) 1 dX9_film_1 rfl rfl ?_
  refine eb_iload_n (pc := 2) 2 dX9_film_2 rfl rfl ?_
  refine eb_iload_n (pc := 3) 3 dX9_film_3 rfl rfl ?_
  refine eb_aload_n (pc := 4) 0 dX9_film_4 rfl rfl ?_
  refine eb_getR (pc := 5) ef_RX9_10 dX9_film_5 (fun r1 => ?_)
  refine eb_getI (pc := 8) ef_RX9_122 dX9_film_8 (fun x2 => ?_)
  refine eb_calli (pc := 11) (eb_runV (pc := 11) (As := [.int v1, .int v2, .int v3, .int x2]) (rest := []) (ci := 8) (q0 := (RX9, TX9, 12)) (q := (RX9, TX9, 12)) ew_586 ew_587 ew_588 ew_427 rfl rfl ed_X9_refusalOf (ct_X9_refusalOf hG _ _ _ _ _ _) rfl ew_589 ⟨by decide, by decide⟩ (by decide) (by decide) (Nat.le_of_ble_eq_true rfl) rfl dX9_film_11) (fun x4 s3 => ?_)
  refine eb_istore (pc := 14) (L' := [(4, .int x4), (0, .ref v0), (1, .int v1), (2, .int v2), (3, .int v3)]) dX9_film_14 (by decide) rfl ?_
  refine eb_iload (pc := 16) 0 dX9_film_16 rfl ?_
  refine eb_if_ge (pc := 18) (tgt := 24) dX9_film_18 (by decide) ?_ ?_
  · refine eb_iconst (pc := 24) (v := 0) dX9_film_24 (by decide) ?_
    refine eb_istore (pc := 25) (L' := [(5, .int 0), (4, .int x4), (0, .ref v0), (1, .int v1), (2, .int v2), (3, .int v3)]) dX9_film_25 (by decide) rfl ?_
    refine eb_sub [2, 3, 5, 0] rfl ?_
    refine gl_X9_film_L27 hG (fun s13 => ?_) n _ _
    refine eb_aload_n (pc := 68) 0 dX9_film_68 rfl rfl ?_
    refine eb_getR (pc := 69) ef_RX9_10 dX9_film_69 (fun r14 => ?_)
    refine eb_getI (pc := 72) ef_RX9_122 dX9_film_72 (fun x15 => ?_)
    exact eb_iret (pc := 75) dX9_film_75 (by decide) (by decide)
  · refine eb_iload (pc := 21) 0 dX9_film_21 rfl ?_
    exact eb_iret (pc := 23) dX9_film_23 (by decide) (by decide)

def f_X9_lay_L27 (n : Nat) (v0 : Nat) (v1 : Int32) (v3 : Int32) (K : eb_S → Option (Int32 × eb_S)) : Nat → Int32 → eb_S → Option (Int32 × eb_S)
  | 0, _, _ => none
  | m + 1, v5, s => eb_gR s [8] v0 0 fun r5 => eb_gI s [3] r5 1 fun x6 => if x6 ≤ v5 then (K s) else (eb_gR s [8] v0 9 fun r7 => eb_ar s r7 v1 fun r8 => eb_gR s [6] r8 2 fun r9 => eb_al s r9 (v3 + v5) fun l10 => if (lg_cmp l10 0) < 0 then (some ((-2), s)) else (if (lg_cmp l10 3) < 0 then (f_X9_lay_L27 n v0 v1 v3 K m (v5 + 1) s) else (some ((-2), s))))
def f_X9_lay_L83 (n : Nat) (v0 : Nat) (v1 : Int32) (v3 : Int32) (K : eb_S → Option (Int32 × eb_S)) : Nat → Int32 → eb_S → Option (Int32 × eb_S)
  | 0, _, _ => none
  | m + 1, v5, s => eb_gR s [8] v0 0 fun r12 => eb_gI s [3] r12 1 fun x13 => if x13 ≤ v5 then (K s) else (eb_gR s [8] v0 0 fun r14 => eb_gR s [8] v0 0 fun r15 => eb_gR s [3] r15 6 fun r16 => eb_gR s [8] v0 9 fun r17 => eb_ar s r17 v1 fun r18 => eb_gR s [6] r18 2 fun r19 => eb_al s r19 (v3 + v5) fun l20 => eb_cl (eb_tg s r14 3 (f_X3_put r14 r16 v5 ((l20).toInt32) s)) fun x22 s21 => f_X9_lay_L83 n v0 v1 v3 K m (v5 + 1) s21)
def f_X9_lay (n : Nat) (v0 : Nat) (v1 : Int32) (v2 : Int32) (v3 : Int32) (s : eb_S) : Option (Int32 × eb_S) := eb_gR s [8] v0 0 fun r1 => eb_gI s [3] r1 1 fun x2 => eb_cl (eb_tg s v0 8 (f_X9_refusalOf v0 v1 v2 v3 x2 s)) fun x4 s3 => if 0 ≤ x4 then (f_X9_lay_L27 n v0 v1 v3 (fun  (s11 : eb_S) => f_X9_lay_L83 n v0 v1 v3 (fun  (s23 : eb_S) => eb_gR s23 [8] v0 0 fun r24 => eb_cl (eb_tg s23 r24 3 (f_X3_whyUnlawful n r24 s23)) fun x26 s25 => some (x26, s25)) n 0 s11) n 0 s3) else (some (x4, s3))
set_option maxRecDepth 100000 in
theorem gl_X9_lay_L27 {G : eb_G} (hG : eb_ok G) {n : Nat} {v0 : Nat} {v1 : Int32} {v3 : Int32} {K : eb_S → Option (Int32 × eb_S)} (hK : ∀  (s : eb_S), eb_go G yX9_lay cX9_lay 8 (some .int) (5) 0 0 .ireturn (fun r : Int32 => [.int r]) 80 [(0, .ref v0), (1, .int v1), (3, .int v3)] [] s 0 0 (K  s)) : ∀ (m : Nat) (v5 : Int32) (s : eb_S), eb_go G yX9_lay cX9_lay 8 (some .int) (5) 0 0 .ireturn (fun r : Int32 => [.int r]) 27 [(0, .ref v0), (1, .int v1), (3, .int v3), (5, .int v5)] [] s 0 0 (f_X9_lay_L27 n v0 v1 v3 K m v5 s) := by
  intro m
  induction m with
  | zero => intro v5 s; exact eb_none
  | succ m ih =>
    intro v5 s
    rw [f_X9_lay_L27.eq_2]
    refine eb_iload (pc := 27) 3 dX9_lay_27 rfl ?_
    refine eb_aload_n (pc := 29) 0 dX9_lay_29 rfl rfl ?_
    refine eb_getR (pc := 30) ef_RX9_10 dX9_lay_30 (fun r5 => ?_)
    refine eb_getI (pc := 33) ef_RX9_85 dX9_lay_33 (fun x6 => ?_)
    refine eb_icmp_ge (pc := 36) (tgt := 80) dX9_lay_36 (by decide) ?_ ?_
    · refine eb_sub [0, 1, 2] rfl ?_
      exact hK _
    · refine eb_aload_n (pc := 39) 0 dX9_lay_39 rfl rfl ?_
      refine eb_getR (pc := 40) ef_RX9_69 dX9_lay_40 (fun r7 => ?_)
      refine eb_iload_n (pc := 43) 1 dX9_lay_43 rfl rfl ?_
      refine eb_aaload (pc := 44) dX9_lay_44 (fun r8 => ?_)
      refine eb_getR (pc := 45) ef_RX9_299 dX9_lay_45 (fun r9 => ?_)
      refine eb_iload_n (pc := 48) 2 dX9_lay_48 rfl rfl ?_
      refine eb_iload (pc := 49) 3 dX9_lay_49 rfl ?_
      refine eb_iadd (pc := 51) dX9_lay_51 ?_
      refine eb_laload (pc := 52) dX9_lay_52 (fun l10 => ?_)
      refine eb_lstore (pc := 53) (L' := [(6, .long l10), (0, .ref v0), (1, .int v1), (3, .int v3), (5, .int v5)]) dX9_lay_53 (by decide) rfl ?_
      refine eb_lload (pc := 55) 0 dX9_lay_55 rfl ?_
      refine eb_lconst (pc := 57) (v := 0) dX9_lay_57 (by decide) ?_
      refine eb_lcmp (pc := 58) dX9_lay_58 ?_
      refine eb_if_lt (pc := 59) (tgt := 71) dX9_lay_59 (by decide) ?_ ?_
      · refine eb_bipush (pc := 71) (v := (-2)) dX9_lay_71 (by decide) ?_
        exact eb_iret (pc := 73) dX9_lay_73 (by decide) (by decide)
      · refine eb_lload (pc := 62) 0 dX9_lay_62 rfl ?_
        refine eb_ldc2 (pc := 64) (v := 3) dX9_lay_64 ew_622 ?_
        refine eb_lcmp (pc := 67) dX9_lay_67 ?_
        refine eb_if_lt (pc := 68) (tgt := 74) dX9_lay_68 (by decide) ?_ ?_
        · refine eb_iinc (pc := 74) (v := v5 + 1) (L' := [(5, .int (v5 + 1)), (6, .long l10), (0, .ref v0), (1, .int v1), (3, .int v3)]) 4 dX9_lay_74 rfl rfl (by decide) rfl ?_
          refine eb_goto (pc := 77) (tgt := 27) dX9_lay_77 (by decide) ?_
          refine eb_sub [2, 3, 4, 0] rfl ?_
          exact ih _ _
        · refine eb_bipush (pc := 71) (v := (-2)) dX9_lay_71 (by decide) ?_
          exact eb_iret (pc := 73) dX9_lay_73 (by decide) (by decide)
set_option maxRecDepth 100000 in
theorem gl_X9_lay_L83 {G : eb_G} (hG : eb_ok G) {n : Nat} {v0 : Nat} {v1 : Int32} {v3 : Int32} {K : eb_S → Option (Int32 × eb_S)} (hK : ∀  (s : eb_S), eb_go G yX9_lay cX9_lay 8 (some .int) (5) 0 0 .ireturn (fun r : Int32 => [.int r]) 133 [(0, .ref v0)] [] s 0 0 (K  s)) : ∀ (m : Nat) (v5 : Int32) (s : eb_S), eb_go G yX9_lay cX9_lay 8 (some .int) (5) 0 0 .ireturn (fun r : Int32 => [.int r]) 83 [(0, .ref v0), (1, .int v1), (3, .int v3), (5, .int v5)] [] s 0 0 (f_X9_lay_L83 n v0 v1 v3 K m v5 s) := by
  intro m
  induction m with
  | zero => intro v5 s; exact eb_none
  | succ m ih =>
    intro v5 s
    rw [f_X9_lay_L83.eq_2]
    refine eb_iload (pc := 83) 3 dX9_lay_83 rfl ?_
    refine eb_aload_n (pc := 85) 0 dX9_lay_85 rfl rfl ?_
    refine eb_getR (pc := 86) ef_RX9_10 dX9_lay_86 (fun r12 => ?_)
    refine eb_getI (pc := 89) ef_RX9_85 dX9_lay_89 (fun x13 => ?_)
    refine eb_icmp_ge (pc := 92) (tgt := 133) dX9_lay_92 (by decide) ?_ ?_
    · refine eb_sub [0] rfl ?_
      exact hK _
    · refine eb_aload_n (pc := 95) 0 dX9_lay_95 rfl rfl ?_
      refine eb_getR (pc := 96) ef_RX9_10 dX9_lay_96 (fun r14 => ?_)
      refine eb_aload_n (pc := 99) 0 dX9_lay_99 rfl rfl ?_
      refine eb_getR (pc := 100) ef_RX9_10 dX9_lay_100 (fun r15 => ?_)
      refine eb_getR (pc := 103) ef_RX9_109 dX9_lay_103 (fun r16 => ?_)
      refine eb_iload (pc := 106) 3 dX9_lay_106 rfl ?_
      refine eb_aload_n (pc := 108) 0 dX9_lay_108 rfl rfl ?_
      refine eb_getR (pc := 109) ef_RX9_69 dX9_lay_109 (fun r17 => ?_)
      refine eb_iload_n (pc := 112) 1 dX9_lay_112 rfl rfl ?_
      refine eb_aaload (pc := 113) dX9_lay_113 (fun r18 => ?_)
      refine eb_getR (pc := 114) ef_RX9_299 dX9_lay_114 (fun r19 => ?_)
      refine eb_iload_n (pc := 117) 2 dX9_lay_117 rfl rfl ?_
      refine eb_iload (pc := 118) 3 dX9_lay_118 rfl ?_
      refine eb_iadd (pc := 120) dX9_lay_120 ?_
      refine eb_laload (pc := 121) dX9_lay_121 (fun l20 => ?_)
      refine eb_l2i (pc := 122) dX9_lay_122 ?_
      refine eb_calli (pc := 123) (eb_runV (pc := 123) (As := [.ref r16, .int v5, .int ((l20).toInt32)]) (rest := []) (ci := 3) (q0 := (RX3, TX3, 20)) (q := (RX3, TX3, 20)) ew_447 ew_448 ew_449 ew_68 rfl rfl ed_X3_put (ct_X3_put hG _ _ _ _ _) rfl ew_450 ⟨by decide, by decide⟩ (by decide) (by decide) (Nat.le_of_ble_eq_true rfl) rfl dX9_lay_123) (fun x22 s21 => ?_)
      refine eb_pop (pc := 126) dX9_lay_126 rfl ?_
      refine eb_iinc (pc := 127) (v := v5 + 1) (L' := [(5, .int (v5 + 1)), (0, .ref v0), (1, .int v1), (3, .int v3)]) 3 dX9_lay_127 rfl rfl (by decide) rfl ?_
      refine eb_goto (pc := 130) (tgt := 83) dX9_lay_130 (by decide) ?_
      refine eb_sub [1, 2, 3, 0] rfl ?_
      exact ih _ _
set_option maxRecDepth 100000 in
theorem ct_X9_lay {G : eb_G} (hG : eb_ok G) (n : Nat) (v0 : Nat) (v1 : Int32) (v2 : Int32) (v3 : Int32) (s : eb_S) : eb_ct G yX9_lay cX9_lay 8 (some .int) 5 0 0 eb_ei [.ref v0, .int v1, .int v2, .int v3] s (f_X9_lay n v0 v1 v2 v3 s) := by
  refine eb_ct_i (by decide) (Nat.le_of_ble_eq_true rfl) (fun v hv => by simp at hv; rcases hv with rfl | rfl | rfl | rfl <;> simp [Value.category]) ?_
  show eb_go G yX9_lay cX9_lay 8 (some .int) (5) 0 0 .ireturn (fun r : Int32 => [.int r]) 0 [(0, .ref v0), (1, .int v1), (2, .int v2), (3, .int v3)] [] s 0 0 _
  unfold f_X9_lay
  refine eb_aload_n (pc := 0) 0 dX9_lay_0 rfl rfl ?_
  refine eb_iload_n (pc := 1) 1 dX9_lay_1 rfl rfl ?_
  refine eb_iload_n (pc := 2) 2 dX9_lay_2 rfl rfl ?_
  refine eb_iload_n (pc := 3) 3 dX9_lay_3 rfl rfl ?_
  refine eb_aload_n (pc := 4) 0 dX9_lay_4 rfl rfl ?_
  refine eb_getR (pc := 5) ef_RX9_10 dX9_lay_5 (fun r1 => ?_)
  refine eb_getI (pc := 8) ef_RX9_85 dX9_lay_8 (fun x2 => ?_)
  refine eb_calli (pc := 11) (eb_runV (pc := 11) (As := [.int v1, .int v2, .int v3, .int x2]) (rest := []) (ci := 8) (q0 := (RX9, TX9, 12)) (q := (RX9, TX9, 12)) ew_586 ew_587 ew_588 ew_427 rfl rfl ed_X9_refusalOf (ct_X9_refusalOf hG _ _ _ _ _ _) rfl ew_589 ⟨by decide, by decide⟩ (by decide) (by decide) (Nat.le_of_ble_eq_true rfl) rfl dX9_lay_11) (fun x4 s3 => ?_)
  refine eb_istore (pc := 14) (L' := [(4, .int x4), (0, .ref v0), (1, .int v1), (2, .int v2), (3, .int v3)]) dX9_lay_14 (by decide) rfl ?_
  refine eb_iload (pc := 16) 0 dX9_lay_16 rfl ?_
  refine eb_if_ge (pc := 18) (tgt := 24) dX9_lay_18 (by decide) ?_ ?_
  · refine eb_iconst (pc := 24) (v := 0) dX9_lay_24 (by decide) ?_
    refine eb_istore (pc := 25) (L' := [(5, .int 0), (4, .int x4), (0, .ref v0), (1, .int v1), (2, .int v2), (3, .int v3)]) dX9_lay_25 (by decide) rfl ?_
    refine eb_sub [2, 3, 5, 0] rfl ?_
    refine gl_X9_lay_L27 hG (fun s11 => ?_) n _ _
    refine eb_iconst (pc := 80) (v := 0) dX9_lay_80 (by decide) ?_
    refine eb_istore (pc := 81) (L' := [(5, .int 0), (0, .ref v0), (1, .int v1), (3, .int v3)]) dX9_lay_81 (by decide) rfl ?_
    refine eb_sub [1, 2, 3, 0] rfl ?_
    refine gl_X9_lay_L83 hG (fun s23 => ?_) n _ _
    refine eb_aload_n (pc := 133) 0 dX9_lay_133 rfl rfl ?_
    refine eb_getR (pc := 134) ef_RX9_10 dX9_lay_134 (fun r24 => ?_)
    refine eb_calli (pc := 137) (eb_runV (pc := 137) (As := []) (rest := []) (ci := 3) (q0 := (RX3, TX3, 20)) (q := (RX3, TX3, 20)) ew_488 ew_489 ew_490 ew_68 rfl rfl ed_X3_whyUnlawful (ct_X3_whyUnlawful hG n _ _) rfl ew_491 ⟨by decide, by decide⟩ (by decide) (by decide) (Nat.le_of_ble_eq_true rfl) rfl dX9_lay_137) (fun x26 s25 => ?_)
    exact eb_iret (pc := 140) dX9_lay_140 (by decide) (by decide)
  · refine eb_iload (pc := 21) 0 dX9_lay_21 rfl ?_
    exact eb_iret (pc := 23) dX9_lay_23 (by decide) (by decide)

def f_X9_sheet (n : Nat) (v0 : Nat) (v1 : Int32) (v2 : Int32) (v3 : Int32) (s : eb_S) : Option (Int32 × eb_S) := eb_cl (f_X9_isSheet v1 s) fun b2 s1 => if (eb_b b2) = 0 then (some ((-1), s1)) else (eb_cl (f_X9_within v2 0 3 s1) fun b4 s3 => if (eb_b b4) = 0 then (some ((-1), s3)) else (if v3 ≤ 16 then (if 0 ≤ v3 then (eb_gR s3 [8] v0 9 fun r5 => eb_ar s3 r5 v1 fun r6 => eb_cl (eb_tg s3 r6 6 (f_X7_renew n r6 v2 v3 s3)) fun _u s7 => some (v3, s7)) else (some ((-14), s3))) else (some ((-1), s3))))
set_option maxRecDepth 100000 in
theorem ct_X9_sheet {G : eb_G} (hG : eb_ok G) (n : Nat) (v0 : Nat) (v1 : Int32) (v2 : Int32) (v3 : Int32) (s : eb_S) : eb_ct G yX9_sheet cX9_sheet 4 (some .int) 3 0 0 eb_ei [.ref v0, .int v1, .int v2, .int v3] s (f_X9_sheet n v0 v1 v2 v3 s) := by
  refine eb_ct_i (by decide) (Nat.le_of_ble_eq_true rfl) (fun v hv => by simp at hv; rcases hv with rfl | rfl | rfl | rfl <;> simp [Value.category]) ?_
  show eb_go G yX9_sheet cX9_sheet 4 (some .int) (3) 0 0 .ireturn (fun r : Int32 => [.int r]) 0 [(0, .ref v0), (1, .int v1), (2, .int v2), (3, .int v3)] [] s 0 0 _
  unfold f_X9_sheet
  refine eb_iload_n (pc := 0) 1 dX9_sheet_0 rfl rfl ?_
  refine eb_callb (pc := 1) (eb_runS (pc := 1) (As := [.int v1]) (rest := []) ew_574 ew_575 ew_427 rfl ed_X9_isSheet (ct_X9_isSheet hG _ _) ew_576 ⟨by decide, by decide⟩ (by decide) (by decide) (Nat.le_of_ble_eq_true rfl) rfl dX9_sheet_1) (fun b2 s1 => ?_)
  refine eb_if_eq (pc := 4) (tgt := 22) dX9_sheet_4 (by decide) ?_ ?_
  · refine eb_iconst (pc := 22) (v := (-1)) dX9_sheet_22 (by decide) ?_
    exact eb_iret (pc := 23) dX9_sheet_23 (by decide) (by decide)
  · refine eb_iload_n (pc := 7) 2 dX9_sheet_7 rfl rfl ?_
    refine eb_iconst (pc := 8) (v := 0) dX9_sheet_8 (by decide) ?_
    refine eb_iconst (pc := 9) (v := 3) dX9_sheet_9 (by decide) ?_
    refine eb_callb (pc := 10) (eb_runS (pc := 10) (As := [.int v2, .int 0, .int 3]) (rest := []) ew_425 ew_426 ew_427 rfl ed_X9_within (ct_X9_within hG _ _ _ _) ew_428 ⟨by decide, by decide⟩ (by decide) (by decide) (Nat.le_of_ble_eq_true rfl) rfl dX9_sheet_10) (fun b4 s3 => ?_)
    refine eb_if_eq (pc := 13) (tgt := 22) dX9_sheet_13 (by decide) ?_ ?_
    · refine eb_iconst (pc := 22) (v := (-1)) dX9_sheet_22 (by decide) ?_
      exact eb_iret (pc := 23) dX9_sheet_23 (by decide) (by decide)
    · refine eb_iload_n (pc := 16) 3 dX9_sheet_16 rfl rfl ?_
      refine eb_bipush (pc := 17) (v := 16) dX9_sheet_17 (by decide) ?_
      refine eb_icmp_le (pc := 19) (tgt := 24) dX9_sheet_19 (by decide) ?_ ?_
      · refine eb_iload_n (pc := 24) 3 dX9_sheet_24 rfl rfl ?_
        refine eb_if_ge (pc := 25) (tgt := 31) dX9_sheet_25 (by decide) ?_ ?_
        · refine eb_aload_n (pc := 31) 0 dX9_sheet_31 rfl rfl ?_
          refine eb_getR (pc := 32) ef_RX9_69 dX9_sheet_32 (fun r5 => ?_)
          refine eb_iload_n (pc := 35) 1 dX9_sheet_35 rfl rfl ?_
          refine eb_aaload (pc := 36) dX9_sheet_36 (fun r6 => ?_)
          refine eb_iload_n (pc := 37) 2 dX9_sheet_37 rfl rfl ?_
          refine eb_iload_n (pc := 38) 3 dX9_sheet_38 rfl rfl ?_
          refine eb_callv (pc := 39) (eb_runV (pc := 39) (As := [.int v2, .int v3]) (rest := []) (ci := 6) (q0 := (RX7, TX7, 3)) (q := (RX7, TX7, 3)) ew_623 ew_624 ew_625 ew_362 rfl rfl ed_X7_renew (ct_X7_renew hG n _ _ _ _) rfl ew_626 ⟨by decide, by decide⟩ (by decide) (by decide) (Nat.le_of_ble_eq_true rfl) rfl dX9_sheet_39) (fun _u s7 => ?_)
          refine eb_iload_n (pc := 42) 3 dX9_sheet_42 rfl rfl ?_
          exact eb_iret (pc := 43) dX9_sheet_43 (by decide) (by decide)
        · refine eb_bipush (pc := 28) (v := (-14)) dX9_sheet_28 (by decide) ?_
          exact eb_iret (pc := 30) dX9_sheet_30 (by decide) (by decide)
      · refine eb_iconst (pc := 22) (v := (-1)) dX9_sheet_22 (by decide) ?_
        exact eb_iret (pc := 23) dX9_sheet_23 (by decide) (by decide)

def f_X9_drop (v0 : Nat) (v1 : Int32) (s : eb_S) : Option (Int32 × eb_S) := eb_cl (f_X9_isSheet v1 s) fun b2 s1 => if (eb_b b2) = 0 then (some ((-1), s1)) else (eb_gR s1 [8] v0 9 fun r3 => eb_ar s1 r3 v1 fun r4 => eb_cl (eb_tg s1 r4 6 (f_X7_isMissing r4 s1)) fun b6 s5 => if (eb_b b6) = 0 then (eb_gR s5 [8] v0 9 fun r7 => eb_ar s5 r7 v1 fun r8 => eb_gI s5 [6] r8 1 fun x9 => eb_gR s5 [8] v0 9 fun r10 => eb_ar s5 r10 v1 fun r11 => eb_cl (eb_tg s5 r11 6 (f_X7_lose r11 s5)) fun _u s12 => some (x9, s12)) else (some ((-11), s5)))
set_option maxRecDepth 100000 in
theorem ct_X9_drop {G : eb_G} (hG : eb_ok G) (v0 : Nat) (v1 : Int32) (s : eb_S) : eb_ct G yX9_drop cX9_drop 3 (some .int) 3 0 0 eb_ei [.ref v0, .int v1] s (f_X9_drop v0 v1 s) := by
  refine eb_ct_i (by decide) (Nat.le_of_ble_eq_true rfl) (fun v hv => by simp at hv; rcases hv with rfl | rfl <;> simp [Value.category]) ?_
  show eb_go G yX9_drop cX9_drop 3 (some .int) (3) 0 0 .ireturn (fun r : Int32 => [.int r]) 0 [(0, .ref v0), (1, .int v1)] [] s 0 0 _
  unfold f_X9_drop
  refine eb_iload_n (pc := 0) 1 dX9_drop_0 rfl rfl ?_
  refine eb_callb (pc := 1) (eb_runS (pc := 1) (As := [.int v1]) (rest := []) ew_574 ew_575 ew_427 rfl ed_X9_isSheet (ct_X9_isSheet hG _ _) ew_576 ⟨by decide, by decide⟩ (by decide) (by decide) (Nat.le_of_ble_eq_true rfl) rfl dX9_drop_1) (fun b2 s1 => ?_)
  refine eb_if_ne (pc := 4) (tgt := 9) dX9_drop_4 (by decide) ?_ ?_
  · refine eb_aload_n (pc := 9) 0 dX9_drop_9 rfl rfl ?_
    refine eb_getR (pc := 10) ef_RX9_69 dX9_drop_10 (fun r3 => ?_)
    refine eb_iload_n (pc := 13) 1 dX9_drop_13 rfl rfl ?_
    refine eb_aaload (pc := 14) dX9_drop_14 (fun r4 => ?_)
    refine eb_callb (pc := 15) (eb_runV (pc := 15) (As := []) (rest := []) (ci := 6) (q0 := (RX7, TX7, 3)) (q := (RX7, TX7, 3)) ew_577 ew_578 ew_579 ew_362 rfl rfl ed_X7_isMissing (ct_X7_isMissing hG _ _) rfl ew_580 ⟨by decide, by decide⟩ (by decide) (by decide) (Nat.le_of_ble_eq_true rfl) rfl dX9_drop_15) (fun b6 s5 => ?_)
    refine eb_if_eq (pc := 18) (tgt := 24) dX9_drop_18 (by decide) ?_ ?_
    · refine eb_aload_n (pc := 24) 0 dX9_drop_24 rfl rfl ?_
      refine eb_getR (pc := 25) ef_RX9_69 dX9_drop_25 (fun r7 => ?_)
      refine eb_iload_n (pc := 28) 1 dX9_drop_28 rfl rfl ?_
      refine eb_aaload (pc := 29) dX9_drop_29 (fun r8 => ?_)
      refine eb_getI (pc := 30) ef_RX9_331 dX9_drop_30 (fun x9 => ?_)
      refine eb_istore_n (pc := 33) (L' := [(2, .int x9), (0, .ref v0), (1, .int v1)]) dX9_drop_33 rfl (by decide) rfl ?_
      refine eb_aload_n (pc := 34) 1 dX9_drop_34 rfl rfl ?_
      refine eb_getR (pc := 35) ef_RX9_69 dX9_drop_35 (fun r10 => ?_)
      refine eb_iload_n (pc := 38) 2 dX9_drop_38 rfl rfl ?_
      refine eb_aaload (pc := 39) dX9_drop_39 (fun r11 => ?_)
      refine eb_callv (pc := 40) (eb_runV (pc := 40) (As := []) (rest := []) (ci := 6) (q0 := (RX7, TX7, 3)) (q := (RX7, TX7, 3)) ew_628 ew_629 ew_630 ew_362 rfl rfl ed_X7_lose (ct_X7_lose hG _ _) rfl ew_631 ⟨by decide, by decide⟩ (by decide) (by decide) (Nat.le_of_ble_eq_true rfl) rfl dX9_drop_40) (fun _u s12 => ?_)
      refine eb_iload_n (pc := 43) 0 dX9_drop_43 rfl rfl ?_
      exact eb_iret (pc := 44) dX9_drop_44 (by decide) (by decide)
    · refine eb_bipush (pc := 21) (v := (-11)) dX9_drop_21 (by decide) ?_
      exact eb_iret (pc := 23) dX9_drop_23 (by decide) (by decide)
  · refine eb_iconst (pc := 7) (v := (-1)) dX9_drop_7 (by decide) ?_
    exact eb_iret (pc := 8) dX9_drop_8 (by decide) (by decide)

def f_X9_item (v0 : Nat) (v1 : Int32) (v2 : Int32) (v3 : Int32) (v4 : Int64) (s : eb_S) : Option (Int32 × eb_S) := eb_cl (eb_tg s v0 8 (f_X9_refusalOf v0 v1 v2 v3 1 s)) fun x2 s1 => if 0 ≤ x2 then (eb_gR s1 [8] v0 9 fun r3 => eb_ar s1 r3 v1 fun r4 => eb_cl (eb_tg s1 r4 6 (f_X7_write r4 v3 v4 s1)) fun _u s5 => some (1, s5)) else (some (x2, s1))
set_option maxRecDepth 100000 in
theorem ct_X9_item {G : eb_G} (hG : eb_ok G) (v0 : Nat) (v1 : Int32) (v2 : Int32) (v3 : Int32) (v4 : Int64) (s : eb_S) : eb_ct G yX9_item cX9_item 7 (some .int) 4 0 0 eb_ei [.ref v0, .int v1, .int v2, .int v3, .long v4] s (f_X9_item v0 v1 v2 v3 v4 s) := by
  refine eb_ct_i (by decide) (Nat.le_of_ble_eq_true rfl) (fun v hv => by simp at hv; rcases hv with rfl | rfl | rfl | rfl | rfl <;> simp [Value.category]) ?_
  show eb_go G yX9_item cX9_item 7 (some .int) (4) 0 0 .ireturn (fun r : Int32 => [.int r]) 0 [(0, .ref v0), (1, .int v1), (2, .int v2), (3, .int v3), (4, .long v4)] [] s 0 0 _
  unfold f_X9_item
  refine eb_aload_n (pc := 0) 0 dX9_item_0 rfl rfl ?_
  refine eb_iload_n (pc := 1) 1 dX9_item_1 rfl rfl ?_
  refine eb_iload_n (pc := 2) 2 dX9_item_2 rfl rfl ?_
  refine eb_iload_n (pc := 3) 3 dX9_item_3 rfl rfl ?_
  refine eb_iconst (pc := 4) (v := 1) dX9_item_4 (by decide) ?_
  refine eb_calli (pc := 5) (eb_runV (pc := 5) (As := [.int v1, .int v2, .int v3, .int 1]) (rest := []) (ci := 8) (q0 := (RX9, TX9, 12)) (q := (RX9, TX9, 12)) ew_586 ew_587 ew_588 ew_427 rfl rfl ed_X9_refusalOf (ct_X9_refusalOf hG _ _ _ _ _ _) rfl ew_589 ⟨by decide, by decide⟩ (by decide) (by decide) (Nat.le_of_ble_eq_true rfl) rfl dX9_item_5) (fun x2 s1 => ?_)
  refine eb_istore (pc := 8) (L' := [(6, .int x2), (0, .ref v0), (1, .int v1), (2, .int v2), (3, .int v3), (4, .long v4)]) dX9_item_8 (by decide) rfl ?_
  refine eb_iload (pc := 10) 0 dX9_item_10 rfl ?_
  refine eb_if_ge (pc := 12) (tgt := 18) dX9_item_12 (by decide) ?_ ?_
  · refine eb_aload_n (pc := 18) 1 dX9_item_18 rfl rfl ?_
    refine eb_getR (pc := 19) ef_RX9_69 dX9_item_19 (fun r3 => ?_)
    refine eb_iload_n (pc := 22) 2 dX9_item_22 rfl rfl ?_
    refine eb_aaload (pc := 23) dX9_item_23 (fun r4 => ?_)
    refine eb_iload_n (pc := 24) 4 dX9_item_24 rfl rfl ?_
    refine eb_lload (pc := 25) 5 dX9_item_25 rfl ?_
    refine eb_callv (pc := 27) (eb_runV (pc := 27) (As := [.int v3, .long v4]) (rest := []) (ci := 6) (q0 := (RX7, TX7, 3)) (q := (RX7, TX7, 3)) ew_618 ew_619 ew_620 ew_362 rfl rfl ed_X7_write (ct_X7_write hG _ _ _ _) rfl ew_621 ⟨by decide, by decide⟩ (by decide) (by decide) (Nat.le_of_ble_eq_true rfl) rfl dX9_item_27) (fun _u s5 => ?_)
    refine eb_iconst (pc := 30) (v := 1) dX9_item_30 (by decide) ?_
    exact eb_iret (pc := 31) dX9_item_31 (by decide) (by decide)
  · refine eb_iload (pc := 15) 0 dX9_item_15 rfl ?_
    exact eb_iret (pc := 17) dX9_item_17 (by decide) (by decide)

def f_X9_copy (v0 : Nat) (v1 : Int32) (v2 : Int32) (v3 : Int32) (v4 : Int32) (v5 : Int32) (s : eb_S) : Option (Int32 × eb_S) := eb_cl (f_X9_isSheet v1 s) fun b2 s1 => if (eb_b b2) = 0 then (some ((-1), s1)) else (eb_cl (f_X9_isSheet v3 s1) fun b4 s3 => if (eb_b b4) = 0 then (some ((-1), s3)) else (eb_gR s3 [8] v0 9 fun r5 => eb_ar s3 r5 v1 fun r6 => eb_gR s3 [8] v0 9 fun r7 => eb_ar s3 r7 v3 fun r8 => eb_cl (eb_tg s3 r6 6 (f_X7_isMissing r6 s3)) fun b10 s9 => if (eb_b b10) = 0 then (eb_cl (eb_tg s9 r8 6 (f_X7_isMissing r8 s9)) fun b12 s11 => if (eb_b b12) = 0 then (eb_gI s11 [6] r6 0 fun x13 => eb_gI s11 [6] r8 0 fun x14 => if x13 = x14 then (eb_cl (eb_tg s11 r6 6 (f_X7_spans r6 v2 v5 s11)) fun b16 s15 => if (eb_b b16) = 0 then (some ((-13), s15)) else (eb_cl (eb_tg s15 r8 6 (f_X7_spans r8 v4 v5 s15)) fun b18 s17 => if (eb_b b18) = 0 then (some ((-13), s17)) else (eb_gR s17 [6] r6 2 fun r19 => eb_gR s17 [6] r8 2 fun r20 => eb_cj s17 r19 v2 r20 v4 v5 fun s21 => some (v5, s21)))) else (some ((-12), s11))) else (some ((-11), s11))) else (some ((-11), s9))))
set_option maxRecDepth 100000 in
theorem ct_X9_copy {G : eb_G} (hG : eb_ok G) (v0 : Nat) (v1 : Int32) (v2 : Int32) (v3 : Int32) (v4 : Int32) (v5 : Int32) (s : eb_S) : eb_ct G yX9_copy cX9_copy 8 (some .int) 3 0 0 eb_ei [.ref v0, .int v1, .int v2, .int v3, .int v4, .int v5] s (f_X9_copy v0 v1 v2 v3 v4 v5 s) := by
  refine eb_ct_i (by decide) (Nat.le_of_ble_eq_true rfl) (fun v hv => by simp at hv; rcases hv with rfl | rfl | rfl | rfl | rfl | rfl <;> simp [Value.category]) ?_
  show eb_go G yX9_copy cX9_copy 8 (some .int) (3) 0 0 .ireturn (fun r : Int32 => [.int r]) 0 [(0, .ref v0), (1, .int v1), (2, .int v2), (3, .int v3), (4, .int v4), (5, .int v5)] [] s 0 0 _
  unfold f_X9_copy
  refine eb_iload_n (pc := 0) 1 dX9_copy_0 rfl rfl ?_
  refine eb_callb (pc := 1) (eb_runS (pc := 1) (As := [.int v1]) (rest := []) ew_574 ew_575 ew_427 rfl ed_X9_isSheet (ct_X9_isSheet hG _ _) ew_576 ⟨by decide, by decide⟩ (by decide) (by decide) (Nat.le_of_ble_eq_true rfl) rfl dX9_copy_1) (fun b2 s1 => ?_)
  refine eb_if_eq (pc := 4) (tgt := 14) dX9_copy_4 (by decide) ?_ ?_
  · refine eb_iconst (pc := 14) (v := (-1)) dX9_copy_14 (by decide) ?_
    exact eb_iret (pc := 15) dX9_copy_15 (by decide) (by decide)
  · refine eb_iload_n (pc := 7) 3 dX9_copy_7 rfl rfl ?_
    refine eb_callb (pc := 8) (eb_runS (pc := 8) (As := [.int v3]) (rest := []) ew_574 ew_575 ew_427 rfl ed_X9_isSheet (ct_X9_isSheet hG _ _) ew_576 ⟨by decide, by decide⟩ (by decide) (by decide) (Nat.le_of_ble_eq_true rfl) rfl dX9_copy_8) (fun b4 s3 => ?_)
    refine eb_if_ne (pc := 11) (tgt := 16) dX9_copy_11 (by decide) ?_ ?_
    · refine eb_aload_n (pc := 16) 0 dX9_copy_16 rfl rfl ?_
      refine eb_getR (pc := 17) ef_RX9_69 dX9_copy_17 (fun r5 => ?_)
      refine eb_iload_n (pc := 20) 1 dX9_copy_20 rfl rfl ?_
      refine eb_aaload (pc := 21) dX9_copy_21 (fun r6 => ?_)
      refine eb_astore (pc := 22) (L' := [(6, .ref r6), (0, .ref v0), (1, .int v1), (2, .int v2), (3, .int v3), (4, .int v4), (5, .int v5)]) dX9_copy_22 (by decide) rfl ?_
      refine eb_aload_n (pc := 24) 1 dX9_copy_24 rfl rfl ?_
      refine eb_getR (pc := 25) ef_RX9_69 dX9_copy_25 (fun r7 => ?_)
      refine eb_iload_n (pc := 28) 4 dX9_copy_28 rfl rfl ?_
      refine eb_aaload (pc := 29) dX9_copy_29 (fun r8 => ?_)
      refine eb_astore (pc := 30) (L' := [(7, .ref r8), (6, .ref r6), (0, .ref v0), (1, .int v1), (2, .int v2), (3, .int v3), (4, .int v4), (5, .int v5)]) dX9_copy_30 (by decide) rfl ?_
      refine eb_aload (pc := 32) 1 dX9_copy_32 rfl ?_
      refine eb_callb (pc := 34) (eb_runV (pc := 34) (As := []) (rest := []) (ci := 6) (q0 := (RX7, TX7, 3)) (q := (RX7, TX7, 3)) ew_577 ew_578 ew_579 ew_362 rfl rfl ed_X7_isMissing (ct_X7_isMissing hG _ _) rfl ew_580 ⟨by decide, by decide⟩ (by decide) (by decide) (Nat.le_of_ble_eq_true rfl) rfl dX9_copy_34) (fun b10 s9 => ?_)
      refine eb_if_ne (pc := 37) (tgt := 48) dX9_copy_37 (by decide) ?_ ?_
      · refine eb_bipush (pc := 48) (v := (-11)) dX9_copy_48 (by decide) ?_
        exact eb_iret (pc := 50) dX9_copy_50 (by decide) (by decide)
      · refine eb_aload (pc := 40) 0 dX9_copy_40 rfl ?_
        refine eb_callb (pc := 42) (eb_runV (pc := 42) (As := []) (rest := []) (ci := 6) (q0 := (RX7, TX7, 3)) (q := (RX7, TX7, 3)) ew_577 ew_578 ew_579 ew_362 rfl rfl ed_X7_isMissing (ct_X7_isMissing hG _ _) rfl ew_580 ⟨by decide, by decide⟩ (by decide) (by decide) (Nat.le_of_ble_eq_true rfl) rfl dX9_copy_42) (fun b12 s11 => ?_)
        refine eb_if_eq (pc := 45) (tgt := 51) dX9_copy_45 (by decide) ?_ ?_
        · refine eb_aload (pc := 51) 1 dX9_copy_51 rfl ?_
          refine eb_getI (pc := 53) ef_RX9_337 dX9_copy_53 (fun x13 => ?_)
          refine eb_aload (pc := 56) 0 dX9_copy_56 rfl ?_
          refine eb_getI (pc := 58) ef_RX9_337 dX9_copy_58 (fun x14 => ?_)
          refine eb_icmp_eq (pc := 61) (tgt := 67) dX9_copy_61 (by decide) ?_ ?_
          · refine eb_aload (pc := 67) 1 dX9_copy_67 rfl ?_
            refine eb_iload_n (pc := 69) 4 dX9_copy_69 rfl rfl ?_
            refine eb_iload (pc := 70) 7 dX9_copy_70 rfl ?_
            refine eb_callb (pc := 72) (eb_runV (pc := 72) (As := [.int v2, .int v5]) (rest := []) (ci := 6) (q0 := (RX7, TX7, 3)) (q := (RX7, TX7, 3)) ew_582 ew_583 ew_584 ew_362 rfl rfl ed_X7_spans (ct_X7_spans hG _ _ _ _) rfl ew_585 ⟨by decide, by decide⟩ (by decide) (by decide) (Nat.le_of_ble_eq_true rfl) rfl dX9_copy_72) (fun b16 s15 => ?_)
            refine eb_if_eq (pc := 75) (tgt := 90) dX9_copy_75 (by decide) ?_ ?_
            · refine eb_bipush (pc := 90) (v := (-13)) dX9_copy_90 (by decide) ?_
              exact eb_iret (pc := 92) dX9_copy_92 (by decide) (by decide)
            · refine eb_aload (pc := 78) 0 dX9_copy_78 rfl ?_
              refine eb_iload (pc := 80) 6 dX9_copy_80 rfl ?_
              refine eb_iload (pc := 82) 7 dX9_copy_82 rfl ?_
              refine eb_callb (pc := 84) (eb_runV (pc := 84) (As := [.int v4, .int v5]) (rest := []) (ci := 6) (q0 := (RX7, TX7, 3)) (q := (RX7, TX7, 3)) ew_582 ew_583 ew_584 ew_362 rfl rfl ed_X7_spans (ct_X7_spans hG _ _ _ _) rfl ew_585 ⟨by decide, by decide⟩ (by decide) (by decide) (Nat.le_of_ble_eq_true rfl) rfl dX9_copy_84) (fun b18 s17 => ?_)
              refine eb_if_ne (pc := 87) (tgt := 93) dX9_copy_87 (by decide) ?_ ?_
              · refine eb_aload (pc := 93) 1 dX9_copy_93 rfl ?_
                refine eb_getR (pc := 95) ef_RX9_299 dX9_copy_95 (fun r19 => ?_)
                refine eb_iload_n (pc := 98) 4 dX9_copy_98 rfl rfl ?_
                refine eb_aload (pc := 99) 0 dX9_copy_99 rfl ?_
                refine eb_getR (pc := 101) ef_RX9_299 dX9_copy_101 (fun r20 => ?_)
                refine eb_iload (pc := 104) 6 dX9_copy_104 rfl ?_
                refine eb_iload (pc := 106) 7 dX9_copy_106 rfl ?_
                refine eb_copyj (pc := 108) ew_632 ew_62 ew_63 ew_64 (by decide) (Nat.le_of_ble_eq_true rfl) dX9_copy_108 (fun s21 => ?_)
                refine eb_iload (pc := 111) 7 dX9_copy_111 rfl ?_
                exact eb_iret (pc := 113) dX9_copy_113 (by decide) (by decide)
              · refine eb_bipush (pc := 90) (v := (-13)) dX9_copy_90 (by decide) ?_
                exact eb_iret (pc := 92) dX9_copy_92 (by decide) (by decide)
          · refine eb_bipush (pc := 64) (v := (-12)) dX9_copy_64 (by decide) ?_
            exact eb_iret (pc := 66) dX9_copy_66 (by decide) (by decide)
        · refine eb_bipush (pc := 48) (v := (-11)) dX9_copy_48 (by decide) ?_
          exact eb_iret (pc := 50) dX9_copy_50 (by decide) (by decide)
    · refine eb_iconst (pc := 14) (v := (-1)) dX9_copy_14 (by decide) ?_
      exact eb_iret (pc := 15) dX9_copy_15 (by decide) (by decide)
