def f_X10_in (v0 : Int64) (v2 : Int64) (v4 : Int64) (s : eb_S) : Option (Bool × eb_S) := if (lg_cmp v0 v2) < 0 then (some (false, s)) else (if 0 < (lg_cmp v0 v4) then (some (false, s)) else (some (true, s)))
set_option maxRecDepth 100000 in
theorem ct_X10_in {G : eb_G} (hG : eb_ok G) (v0 : Int64) (v2 : Int64) (v4 : Int64) (s : eb_S) : eb_ct G yX10_in cX10_in 6 (some .boolean) 1 0 0 eb_eb [.long v0, .long v2, .long v4] s (f_X10_in v0 v2 v4 s) := by
  refine eb_ct_b (by decide) (Nat.le_of_ble_eq_true rfl) (fun v hv => by simp at hv; rcases hv with rfl | rfl | rfl <;> simp [Value.category]) ?_
  show eb_go G yX10_in cX10_in 6 (some .boolean) (1) 0 0 .ireturn (fun r : Bool => [.int (eb_b r)]) 0 [(0, .long v0), (2, .long v2), (4, .long v4)] [] s 0 0 _
  unfold f_X10_in
  refine eb_lload_n (pc := 0) 0 dX10_in_0 rfl rfl ?_
  refine eb_lload_n (pc := 1) 1 dX10_in_1 rfl rfl ?_
  refine eb_lcmp (pc := 2) dX10_in_2 ?_
  refine eb_if_lt (pc := 3) (tgt := 17) dX10_in_3 (by decide) ?_ ?_
  · refine eb_iconst (pc := 17) (v := 0) dX10_in_17 (by decide) ?_
    exact eb_bret (pc := 18) (b := false) dX10_in_18 (by decide) (by decide)
  · refine eb_lload_n (pc := 6) 0 dX10_in_6 rfl rfl ?_
    refine eb_lload (pc := 7) 2 dX10_in_7 rfl ?_
    refine eb_lcmp (pc := 9) dX10_in_9 ?_
    refine eb_if_gt (pc := 10) (tgt := 17) dX10_in_10 (by decide) ?_ ?_
    · refine eb_iconst (pc := 17) (v := 0) dX10_in_17 (by decide) ?_
      exact eb_bret (pc := 18) (b := false) dX10_in_18 (by decide) (by decide)
    · refine eb_iconst (pc := 13) (v := 1) dX10_in_13 (by decide) ?_
      refine eb_goto (pc := 14) (tgt := 18) dX10_in_14 (by decide) ?_
      exact eb_bret (pc := 18) (b := true) dX10_in_18 (by decide) (by decide)

def f_X10_init_L233 (n : Nat) (v0 : Nat) (K : eb_S → Option (Unit × eb_S)) : Nat → Int32 → eb_S → Option (Unit × eb_S)
  | 0, _, _ => none
  | m + 1, v1, s => if 4 ≤ v1 then (K s) else (eb_gR s [9] v0 37 fun r88 => eb_wi s r88 v1 ((-1)) fun s89 => f_X10_init_L233 n v0 K m (v1 + 1) s89)
def f_X10_init_L253 (n : Nat) (v0 : Nat) (K : eb_S → Option (Unit × eb_S)) : Nat → Int32 → eb_S → Option (Unit × eb_S)
  | 0, _, _ => none
  | m + 1, v1, s => if 3 ≤ v1 then (K s) else (eb_gR s [9] v0 9 fun r91 => eb_wi s r91 v1 999 fun s92 => f_X10_init_L253 n v0 K m (v1 + 1) s92)
def f_X10_init (n : Nat) (v0 : Nat) (s : eb_S) : Option (Unit × eb_S) := eb_na s 11 10 10 fun r1 s2 => eb_pR s2 [9] v0 1 r1 fun s3 => eb_na s3 11 10 10 fun r4 s5 => eb_pR s5 [9] v0 2 r4 fun s6 => eb_na s6 11 10 10 fun r7 s8 => eb_pR s8 [9] v0 3 r7 fun s9 => eb_na s9 11 10 10 fun r10 s11 => eb_pR s11 [9] v0 4 r10 fun s12 => eb_na s12 11 10 10 fun r13 s14 => eb_pR s14 [9] v0 5 r13 fun s15 => eb_na s15 11 5 5 fun r16 s17 => eb_pR s17 [9] v0 7 r16 fun s18 => eb_na s18 11 5 5 fun r19 s20 => eb_pR s20 [9] v0 8 r19 fun s21 => eb_na s21 11 3 3 fun r22 s23 => eb_pR s23 [9] v0 9 r22 fun s24 => eb_na s24 11 3 3 fun r25 s26 => eb_pR s26 [9] v0 10 r25 fun s27 => eb_na s27 11 2 2 fun r28 s29 => eb_pR s29 [9] v0 11 r28 fun s30 => eb_na s30 11 8 8 fun r31 s32 => eb_pR s32 [9] v0 13 r31 fun s33 => eb_na s33 11 8 8 fun r34 s35 => eb_pR s35 [9] v0 14 r34 fun s36 => eb_na s36 11 8 8 fun r37 s38 => eb_pR s38 [9] v0 15 r37 fun s39 => eb_na s39 11 6 6 fun r40 s41 => eb_pR s41 [9] v0 17 r40 fun s42 => eb_na s42 11 6 6 fun r43 s44 => eb_pR s44 [9] v0 18 r43 fun s45 => eb_na s45 11 80 80 fun r46 s47 => eb_pR s47 [9] v0 19 r46 fun s48 => eb_na s48 11 30 30 fun r49 s50 => eb_pR s50 [9] v0 25 r49 fun s51 => eb_na s51 11 10 10 fun r52 s53 => eb_pR s53 [9] v0 26 r52 fun s54 => eb_na s54 11 10 10 fun r55 s56 => eb_pR s56 [9] v0 29 r55 fun s57 => eb_na s57 11 10 10 fun r58 s59 => eb_pR s59 [9] v0 30 r58 fun s60 => eb_na s60 11 10240 10240 fun r61 s62 => eb_pR s62 [9] v0 33 r61 fun s63 => eb_na s63 11 6 6 fun r64 s65 => eb_pR s65 [9] v0 34 r64 fun s66 => eb_na s66 11 110 110 fun r67 s68 => eb_pR s68 [9] v0 35 r67 fun s69 => eb_na s69 11 4 4 fun r70 s71 => eb_pR s71 [9] v0 37 r70 fun s72 => eb_na s72 11 4 4 fun r73 s74 => eb_pR s74 [9] v0 38 r73 fun s75 => eb_na s75 12 64 64 fun r76 s77 => eb_pR s77 [9] v0 39 r76 fun s78 => eb_na s78 12 16 16 fun r79 s80 => eb_pR s80 [9] v0 40 r79 fun s81 => eb_na s81 11 8 8 fun r82 s83 => eb_pR s83 [9] v0 41 r82 fun s84 => eb_na s84 11 256 256 fun r85 s86 => eb_pR s86 [9] v0 42 r85 fun s87 => f_X10_init_L233 n v0 (fun  (s90 : eb_S) => f_X10_init_L253 n v0 (fun  (s93 : eb_S) => eb_gR s93 [9] v0 11 fun r94 => eb_wi s93 r94 0 2 fun s95 => eb_gR s95 [9] v0 11 fun r96 => eb_wi s95 r96 1 3 fun s97 => some ((), s97)) n 0 s90) n 0 s87
set_option maxRecDepth 100000 in
theorem gl_X10_init_L233 {G : eb_G} (hG : eb_ok G) {n : Nat} {v0 : Nat} {K : eb_S → Option (Unit × eb_S)} (hK : ∀  (s : eb_S), eb_go G yX10_init cX10_init 2 none (1) 29 10952 .return_ (fun _ : Unit => []) 251 [(0, .ref v0)] [] s 29 10952 (K  s)) : ∀ (m : Nat) (v1 : Int32) (s : eb_S), eb_go G yX10_init cX10_init 2 none (1) 29 10952 .return_ (fun _ : Unit => []) 233 [(0, .ref v0), (1, .int v1)] [] s 29 10952 (f_X10_init_L233 n v0 K m v1 s) := by
  intro m
  induction m with
  | zero => intro v1 s; exact eb_none
  | succ m ih =>
    intro v1 s
    rw [f_X10_init_L233.eq_2]
    refine eb_iload_n (pc := 233) 1 dX10_init_233 rfl rfl ?_
    refine eb_iconst (pc := 234) (v := 4) dX10_init_234 (by decide) ?_
    refine eb_icmp_ge (pc := 235) (tgt := 251) dX10_init_235 (by decide) ?_ ?_
    · refine eb_sub [0] rfl ?_
      exact hK _
    · refine eb_aload_n (pc := 238) 0 dX10_init_238 rfl rfl ?_
      refine eb_getR (pc := 239) ef_RX10_79 dX10_init_239 (fun r88 => ?_)
      refine eb_iload_n (pc := 242) 1 dX10_init_242 rfl rfl ?_
      refine eb_iconst (pc := 243) (v := (-1)) dX10_init_243 (by decide) ?_
      refine eb_iastore (pc := 244) dX10_init_244 (fun s89 => ?_)
      refine eb_iinc (pc := 245) (v := v1 + 1) (L' := [(1, .int (v1 + 1)), (0, .ref v0)]) 1 dX10_init_245 rfl rfl (by decide) rfl ?_
      refine eb_goto (pc := 248) (tgt := 233) dX10_init_248 (by decide) ?_
      refine eb_sub [1, 0] rfl ?_
      exact ih _ _
set_option maxRecDepth 100000 in
theorem gl_X10_init_L253 {G : eb_G} (hG : eb_ok G) {n : Nat} {v0 : Nat} {K : eb_S → Option (Unit × eb_S)} (hK : ∀  (s : eb_S), eb_go G yX10_init cX10_init 2 none (1) 29 10952 .return_ (fun _ : Unit => []) 273 [(0, .ref v0)] [] s 29 10952 (K  s)) : ∀ (m : Nat) (v1 : Int32) (s : eb_S), eb_go G yX10_init cX10_init 2 none (1) 29 10952 .return_ (fun _ : Unit => []) 253 [(0, .ref v0), (1, .int v1)] [] s 29 10952 (f_X10_init_L253 n v0 K m v1 s) := by
  intro m
  induction m with
  | zero => intro v1 s; exact eb_none
  | succ m ih =>
    intro v1 s
    rw [f_X10_init_L253.eq_2]
    refine eb_iload_n (pc := 253) 1 dX10_init_253 rfl rfl ?_
    refine eb_iconst (pc := 254) (v := 3) dX10_init_254 (by decide) ?_
    refine eb_icmp_ge (pc := 255) (tgt := 273) dX10_init_255 (by decide) ?_ ?_
    · refine eb_sub [0] rfl ?_
      exact hK _
    · refine eb_aload_n (pc := 258) 0 dX10_init_258 rfl rfl ?_
      refine eb_getR (pc := 259) ef_RX10_31 dX10_init_259 (fun r91 => ?_)
      refine eb_iload_n (pc := 262) 1 dX10_init_262 rfl rfl ?_
      refine eb_sipush (pc := 263) (v := 999) dX10_init_263 (by decide) ?_
      refine eb_iastore (pc := 266) dX10_init_266 (fun s92 => ?_)
      refine eb_iinc (pc := 267) (v := v1 + 1) (L' := [(1, .int (v1 + 1)), (0, .ref v0)]) 1 dX10_init_267 rfl rfl (by decide) rfl ?_
      refine eb_goto (pc := 270) (tgt := 253) dX10_init_270 (by decide) ?_
      refine eb_sub [1, 0] rfl ?_
      exact ih _ _
set_option maxRecDepth 100000 in
theorem ct_X10_init {G : eb_G} (hG : eb_ok G) (n : Nat) (v0 : Nat) (s : eb_S) : eb_ct G yX10_init cX10_init 2 none 1 29 10952 eb_ev [.ref v0] s (f_X10_init n v0 s) := by
  refine eb_ct_v (by decide) (Nat.le_of_ble_eq_true rfl) (fun v hv => by simp at hv; rcases hv with rfl <;> simp [Value.category]) ?_
  show eb_go G yX10_init cX10_init 2 none (1) 29 10952 .return_ (fun _ : Unit => []) 0 [(0, .ref v0)] [] s 0 0 _
  unfold f_X10_init
  refine eb_aload_n (pc := 0) 0 dX10_init_0 rfl rfl ?_
  refine eb_obj (pc := 1) ew_662 ew_59 ew_60 (by decide) (Nat.le_of_ble_eq_true rfl) dX10_init_1 ?_
  refine eb_aload_n (pc := 4) 0 dX10_init_4 rfl rfl ?_
  refine eb_bipush (pc := 5) (v := 10) dX10_init_5 (by decide) ?_
  refine eb_newi (pc := 7) ew_57 dX10_init_7 (by decide) (by decide) (by decide) (fun r1 s2 => ?_)
  refine eb_putR (pc := 9) ef_RX10_7 eg_RX10_7 (fun _ => ⟨rfl, rfl⟩) dX10_init_9 (fun s3 => ?_)
  refine eb_aload_n (pc := 12) 0 dX10_init_12 rfl rfl ?_
  refine eb_bipush (pc := 13) (v := 10) dX10_init_13 (by decide) ?_
  refine eb_newi (pc := 15) ew_57 dX10_init_15 (by decide) (by decide) (by decide) (fun r4 s5 => ?_)
  refine eb_putR (pc := 17) ef_RX10_13 eg_RX10_13 (fun _ => ⟨rfl, rfl⟩) dX10_init_17 (fun s6 => ?_)
  refine eb_aload_n (pc := 20) 0 dX10_init_20 rfl rfl ?_
  refine eb_bipush (pc := 21) (v := 10) dX10_init_21 (by decide) ?_
  refine eb_newi (pc := 23) ew_57 dX10_init_23 (by decide) (by decide) (by decide) (fun r7 s8 => ?_)
  refine eb_putR (pc := 25) ef_RX10_16 eg_RX10_16 (fun _ => ⟨rfl, rfl⟩) dX10_init_25 (fun s9 => ?_)
  refine eb_aload_n (pc := 28) 0 dX10_init_28 rfl rfl ?_
  refine eb_bipush (pc := 29) (v := 10) dX10_init_29 (by decide) ?_
  refine eb_newi (pc := 31) ew_57 dX10_init_31 (by decide) (by decide) (by decide) (fun r10 s11 => ?_)
  refine eb_putR (pc := 33) ef_RX10_19 eg_RX10_19 (fun _ => ⟨rfl, rfl⟩) dX10_init_33 (fun s12 => ?_)
  refine eb_aload_n (pc := 36) 0 dX10_init_36 rfl rfl ?_
  refine eb_bipush (pc := 37) (v := 10) dX10_init_37 (by decide) ?_
  refine eb_newi (pc := 39) ew_57 dX10_init_39 (by decide) (by decide) (by decide) (fun r13 s14 => ?_)
  refine eb_putR (pc := 41) ef_RX10_22 eg_RX10_22 (fun _ => ⟨rfl, rfl⟩) dX10_init_41 (fun s15 => ?_)
  refine eb_aload_n (pc := 44) 0 dX10_init_44 rfl rfl ?_
  refine eb_iconst (pc := 45) (v := 5) dX10_init_45 (by decide) ?_
  refine eb_newi (pc := 46) ew_57 dX10_init_46 (by decide) (by decide) (by decide) (fun r16 s17 => ?_)
  refine eb_putR (pc := 48) ef_RX10_25 eg_RX10_25 (fun _ => ⟨rfl, rfl⟩) dX10_init_48 (fun s18 => ?_)
  refine eb_aload_n (pc := 51) 0 dX10_init_51 rfl rfl ?_
  refine eb_iconst (pc := 52) (v := 5) dX10_init_52 (by decide) ?_
  refine eb_newi (pc := 53) ew_57 dX10_init_53 (by decide) (by decide) (by decide) (fun r19 s20 => ?_)
  refine eb_putR (pc := 55) ef_RX10_28 eg_RX10_28 (fun _ => ⟨rfl, rfl⟩) dX10_init_55 (fun s21 => ?_)
  refine eb_aload_n (pc := 58) 0 dX10_init_58 rfl rfl ?_
  refine eb_iconst (pc := 59) (v := 3) dX10_init_59 (by decide) ?_
  refine eb_newi (pc := 60) ew_57 dX10_init_60 (by decide) (by decide) (by decide) (fun r22 s23 => ?_)
  refine eb_putR (pc := 62) ef_RX10_31 eg_RX10_31 (fun _ => ⟨rfl, rfl⟩) dX10_init_62 (fun s24 => ?_)
  refine eb_aload_n (pc := 65) 0 dX10_init_65 rfl rfl ?_
  refine eb_iconst (pc := 66) (v := 3) dX10_init_66 (by decide) ?_
  refine eb_newi (pc := 67) ew_57 dX10_init_67 (by decide) (by decide) (by decide) (fun r25 s26 => ?_)
  refine eb_putR (pc := 69) ef_RX10_34 eg_RX10_34 (fun _ => ⟨rfl, rfl⟩) dX10_init_69 (fun s27 => ?_)
  refine eb_aload_n (pc := 72) 0 dX10_init_72 rfl rfl ?_
  refine eb_iconst (pc := 73) (v := 2) dX10_init_73 (by decide) ?_
  refine eb_newi (pc := 74) ew_57 dX10_init_74 (by decide) (by decide) (by decide) (fun r28 s29 => ?_)
  refine eb_putR (pc := 76) ef_RX10_37 eg_RX10_37 (fun _ => ⟨rfl, rfl⟩) dX10_init_76 (fun s30 => ?_)
  refine eb_aload_n (pc := 79) 0 dX10_init_79 rfl rfl ?_
  refine eb_bipush (pc := 80) (v := 8) dX10_init_80 (by decide) ?_
  refine eb_newi (pc := 82) ew_57 dX10_init_82 (by decide) (by decide) (by decide) (fun r31 s32 => ?_)
  refine eb_putR (pc := 84) ef_RX10_40 eg_RX10_40 (fun _ => ⟨rfl, rfl⟩) dX10_init_84 (fun s33 => ?_)
  refine eb_aload_n (pc := 87) 0 dX10_init_87 rfl rfl ?_
  refine eb_bipush (pc := 88) (v := 8) dX10_init_88 (by decide) ?_
  refine eb_newi (pc := 90) ew_57 dX10_init_90 (by decide) (by decide) (by decide) (fun r34 s35 => ?_)
  refine eb_putR (pc := 92) ef_RX10_43 eg_RX10_43 (fun _ => ⟨rfl, rfl⟩) dX10_init_92 (fun s36 => ?_)
  refine eb_aload_n (pc := 95) 0 dX10_init_95 rfl rfl ?_
  refine eb_bipush (pc := 96) (v := 8) dX10_init_96 (by decide) ?_
  refine eb_newi (pc := 98) ew_57 dX10_init_98 (by decide) (by decide) (by decide) (fun r37 s38 => ?_)
  refine eb_putR (pc := 100) ef_RX10_46 eg_RX10_46 (fun _ => ⟨rfl, rfl⟩) dX10_init_100 (fun s39 => ?_)
  refine eb_aload_n (pc := 103) 0 dX10_init_103 rfl rfl ?_
  refine eb_bipush (pc := 104) (v := 6) dX10_init_104 (by decide) ?_
  refine eb_newi (pc := 106) ew_57 dX10_init_106 (by decide) (by decide) (by decide) (fun r40 s41 => ?_)
  refine eb_putR (pc := 108) ef_RX10_49 eg_RX10_49 (fun _ => ⟨rfl, rfl⟩) dX10_init_108 (fun s42 => ?_)
  refine eb_aload_n (pc := 111) 0 dX10_init_111 rfl rfl ?_
  refine eb_bipush (pc := 112) (v := 6) dX10_init_112 (by decide) ?_
  refine eb_newi (pc := 114) ew_57 dX10_init_114 (by decide) (by decide) (by decide) (fun r43 s44 => ?_)
  refine eb_putR (pc := 116) ef_RX10_52 eg_RX10_52 (fun _ => ⟨rfl, rfl⟩) dX10_init_116 (fun s45 => ?_)
  refine eb_aload_n (pc := 119) 0 dX10_init_119 rfl rfl ?_
  refine eb_bipush (pc := 120) (v := 80) dX10_init_120 (by decide) ?_
  refine eb_newi (pc := 122) ew_57 dX10_init_122 (by decide) (by decide) (by decide) (fun r46 s47 => ?_)
  refine eb_putR (pc := 124) ef_RX10_55 eg_RX10_55 (fun _ => ⟨rfl, rfl⟩) dX10_init_124 (fun s48 => ?_)
  refine eb_aload_n (pc := 127) 0 dX10_init_127 rfl rfl ?_
  refine eb_bipush (pc := 128) (v := 30) dX10_init_128 (by decide) ?_
  refine eb_newi (pc := 130) ew_57 dX10_init_130 (by decide) (by decide) (by decide) (fun r49 s50 => ?_)
  refine eb_putR (pc := 132) ef_RX10_58 eg_RX10_58 (fun _ => ⟨rfl, rfl⟩) dX10_init_132 (fun s51 => ?_)
  refine eb_aload_n (pc := 135) 0 dX10_init_135 rfl rfl ?_
  refine eb_bipush (pc := 136) (v := 10) dX10_init_136 (by decide) ?_
  refine eb_newi (pc := 138) ew_57 dX10_init_138 (by decide) (by decide) (by decide) (fun r52 s53 => ?_)
  refine eb_putR (pc := 140) ef_RX10_61 eg_RX10_61 (fun _ => ⟨rfl, rfl⟩) dX10_init_140 (fun s54 => ?_)
  refine eb_aload_n (pc := 143) 0 dX10_init_143 rfl rfl ?_
  refine eb_bipush (pc := 144) (v := 10) dX10_init_144 (by decide) ?_
  refine eb_newi (pc := 146) ew_57 dX10_init_146 (by decide) (by decide) (by decide) (fun r55 s56 => ?_)
  refine eb_putR (pc := 148) ef_RX10_64 eg_RX10_64 (fun _ => ⟨rfl, rfl⟩) dX10_init_148 (fun s57 => ?_)
  refine eb_aload_n (pc := 151) 0 dX10_init_151 rfl rfl ?_
  refine eb_bipush (pc := 152) (v := 10) dX10_init_152 (by decide) ?_
  refine eb_newi (pc := 154) ew_57 dX10_init_154 (by decide) (by decide) (by decide) (fun r58 s59 => ?_)
  refine eb_putR (pc := 156) ef_RX10_67 eg_RX10_67 (fun _ => ⟨rfl, rfl⟩) dX10_init_156 (fun s60 => ?_)
  refine eb_aload_n (pc := 159) 0 dX10_init_159 rfl rfl ?_
  refine eb_sipush (pc := 160) (v := 10240) dX10_init_160 (by decide) ?_
  refine eb_newi (pc := 163) ew_57 dX10_init_163 (by decide) (by decide) (by decide) (fun r61 s62 => ?_)
  refine eb_putR (pc := 165) ef_RX10_70 eg_RX10_70 (fun _ => ⟨rfl, rfl⟩) dX10_init_165 (fun s63 => ?_)
  refine eb_aload_n (pc := 168) 0 dX10_init_168 rfl rfl ?_
  refine eb_bipush (pc := 169) (v := 6) dX10_init_169 (by decide) ?_
  refine eb_newi (pc := 171) ew_57 dX10_init_171 (by decide) (by decide) (by decide) (fun r64 s65 => ?_)
  refine eb_putR (pc := 173) ef_RX10_73 eg_RX10_73 (fun _ => ⟨rfl, rfl⟩) dX10_init_173 (fun s66 => ?_)
  refine eb_aload_n (pc := 176) 0 dX10_init_176 rfl rfl ?_
  refine eb_bipush (pc := 177) (v := 110) dX10_init_177 (by decide) ?_
  refine eb_newi (pc := 179) ew_57 dX10_init_179 (by decide) (by decide) (by decide) (fun r67 s68 => ?_)
  refine eb_putR (pc := 181) ef_RX10_76 eg_RX10_76 (fun _ => ⟨rfl, rfl⟩) dX10_init_181 (fun s69 => ?_)
  refine eb_aload_n (pc := 184) 0 dX10_init_184 rfl rfl ?_
  refine eb_iconst (pc := 185) (v := 4) dX10_init_185 (by decide) ?_
  refine eb_newi (pc := 186) ew_57 dX10_init_186 (by decide) (by decide) (by decide) (fun r70 s71 => ?_)
  refine eb_putR (pc := 188) ef_RX10_79 eg_RX10_79 (fun _ => ⟨rfl, rfl⟩) dX10_init_188 (fun s72 => ?_)
  refine eb_aload_n (pc := 191) 0 dX10_init_191 rfl rfl ?_
  refine eb_iconst (pc := 192) (v := 4) dX10_init_192 (by decide) ?_
  refine eb_newi (pc := 193) ew_57 dX10_init_193 (by decide) (by decide) (by decide) (fun r73 s74 => ?_)
  refine eb_putR (pc := 195) ef_RX10_82 eg_RX10_82 (fun _ => ⟨rfl, rfl⟩) dX10_init_195 (fun s75 => ?_)
  refine eb_aload_n (pc := 198) 0 dX10_init_198 rfl rfl ?_
  refine eb_bipush (pc := 199) (v := 64) dX10_init_199 (by decide) ?_
  refine eb_newl (pc := 201) ew_298 dX10_init_201 (by decide) (by decide) (by decide) (fun r76 s77 => ?_)
  refine eb_putR (pc := 203) ef_RX10_85 eg_RX10_85 (fun _ => ⟨rfl, rfl⟩) dX10_init_203 (fun s78 => ?_)
  refine eb_aload_n (pc := 206) 0 dX10_init_206 rfl rfl ?_
  refine eb_bipush (pc := 207) (v := 16) dX10_init_207 (by decide) ?_
  refine eb_newl (pc := 209) ew_298 dX10_init_209 (by decide) (by decide) (by decide) (fun r79 s80 => ?_)
  refine eb_putR (pc := 211) ef_RX10_89 eg_RX10_89 (fun _ => ⟨rfl, rfl⟩) dX10_init_211 (fun s81 => ?_)
  refine eb_aload_n (pc := 214) 0 dX10_init_214 rfl rfl ?_
  refine eb_bipush (pc := 215) (v := 8) dX10_init_215 (by decide) ?_
  refine eb_newi (pc := 217) ew_57 dX10_init_217 (by decide) (by decide) (by decide) (fun r82 s83 => ?_)
  refine eb_putR (pc := 219) ef_RX10_92 eg_RX10_92 (fun _ => ⟨rfl, rfl⟩) dX10_init_219 (fun s84 => ?_)
  refine eb_aload_n (pc := 222) 0 dX10_init_222 rfl rfl ?_
  refine eb_sipush (pc := 223) (v := 256) dX10_init_223 (by decide) ?_
  refine eb_newi (pc := 226) ew_57 dX10_init_226 (by decide) (by decide) (by decide) (fun r85 s86 => ?_)
  refine eb_putR (pc := 228) ef_RX10_95 eg_RX10_95 (fun _ => ⟨rfl, rfl⟩) dX10_init_228 (fun s87 => ?_)
  refine eb_iconst (pc := 231) (v := 0) dX10_init_231 (by decide) ?_
  refine eb_istore_n (pc := 232) (L' := [(1, .int 0), (0, .ref v0)]) dX10_init_232 rfl (by decide) rfl ?_
  refine eb_sub [1, 0] rfl ?_
  refine gl_X10_init_L233 hG (fun s90 => ?_) n _ _
  refine eb_iconst (pc := 251) (v := 0) dX10_init_251 (by decide) ?_
  refine eb_istore_n (pc := 252) (L' := [(1, .int 0), (0, .ref v0)]) dX10_init_252 rfl (by decide) rfl ?_
  refine eb_sub [1, 0] rfl ?_
  refine gl_X10_init_L253 hG (fun s93 => ?_) n _ _
  refine eb_aload_n (pc := 273) 0 dX10_init_273 rfl rfl ?_
  refine eb_getR (pc := 274) ef_RX10_37 dX10_init_274 (fun r94 => ?_)
  refine eb_iconst (pc := 277) (v := 0) dX10_init_277 (by decide) ?_
  refine eb_iconst (pc := 278) (v := 2) dX10_init_278 (by decide) ?_
  refine eb_iastore (pc := 279) dX10_init_279 (fun s95 => ?_)
  refine eb_aload_n (pc := 280) 0 dX10_init_280 rfl rfl ?_
  refine eb_getR (pc := 281) ef_RX10_37 dX10_init_281 (fun r96 => ?_)
  refine eb_iconst (pc := 284) (v := 1) dX10_init_284 (by decide) ?_
  refine eb_iconst (pc := 285) (v := 3) dX10_init_285 (by decide) ?_
  refine eb_iastore (pc := 286) dX10_init_286 (fun s97 => ?_)
  exact eb_vret (pc := 287) dX10_init_287 (by decide) (by decide)

def f_X10_isThing (v0 : Nat) (v1 : Int64) (s : eb_S) : Option (Bool × eb_S) := eb_gI s [9] v0 0 fun x1 => eb_cl (f_X10_in v1 0 ((x1 - 1).toInt64) s) fun b3 s2 => some (b3, s2)
set_option maxRecDepth 100000 in
theorem ct_X10_isThing {G : eb_G} (hG : eb_ok G) (v0 : Nat) (v1 : Int64) (s : eb_S) : eb_ct G yX10_isThing cX10_isThing 3 (some .boolean) 2 0 0 eb_eb [.ref v0, .long v1] s (f_X10_isThing v0 v1 s) := by
  refine eb_ct_b (by decide) (Nat.le_of_ble_eq_true rfl) (fun v hv => by simp at hv; rcases hv with rfl | rfl <;> simp [Value.category]) ?_
  show eb_go G yX10_isThing cX10_isThing 3 (some .boolean) (2) 0 0 .ireturn (fun r : Bool => [.int (eb_b r)]) 0 [(0, .ref v0), (1, .long v1)] [] s 0 0 _
  unfold f_X10_isThing
  refine eb_lload_n (pc := 0) 1 dX10_isThing_0 rfl rfl ?_
  refine eb_lconst (pc := 1) (v := 0) dX10_isThing_1 (by decide) ?_
  refine eb_aload_n (pc := 2) 0 dX10_isThing_2 rfl rfl ?_
  refine eb_getI (pc := 3) ef_RX10_98 dX10_isThing_3 (fun x1 => ?_)
  refine eb_iconst (pc := 6) (v := 1) dX10_isThing_6 (by decide) ?_
  refine eb_isub (pc := 7) dX10_isThing_7 ?_
  refine eb_i2l (pc := 8) dX10_isThing_8 ?_
  refine eb_callb (pc := 9) (eb_runS (pc := 9) (As := [.long v1, .long 0, .long ((x1 - 1).toInt64)]) (rest := []) ew_664 ew_665 ew_666 rfl ed_X10_in (ct_X10_in hG _ _ _ _) ew_667 ⟨by decide, by decide⟩ (by decide) (by decide) (Nat.le_of_ble_eq_true rfl) rfl dX10_isThing_9) (fun b3 s2 => ?_)
  exact eb_bret (pc := 12) dX10_isThing_12 (by decide) (by decide)

def f_X10_isStretch (v0 : Nat) (v1 : Int32) (s : eb_S) : Option (Bool × eb_S) := eb_gI s [9] v0 6 fun x1 => eb_cl (f_X10_in ((v1).toInt64) 0 ((x1 - 1).toInt64) s) fun b3 s2 => some (b3, s2)
set_option maxRecDepth 100000 in
theorem ct_X10_isStretch {G : eb_G} (hG : eb_ok G) (v0 : Nat) (v1 : Int32) (s : eb_S) : eb_ct G yX10_isStretch cX10_isStretch 2 (some .boolean) 2 0 0 eb_eb [.ref v0, .int v1] s (f_X10_isStretch v0 v1 s) := by
  refine eb_ct_b (by decide) (Nat.le_of_ble_eq_true rfl) (fun v hv => by simp at hv; rcases hv with rfl | rfl <;> simp [Value.category]) ?_
  show eb_go G yX10_isStretch cX10_isStretch 2 (some .boolean) (2) 0 0 .ireturn (fun r : Bool => [.int (eb_b r)]) 0 [(0, .ref v0), (1, .int v1)] [] s 0 0 _
  unfold f_X10_isStretch
  refine eb_iload_n (pc := 0) 1 dX10_isStretch_0 rfl rfl ?_
  refine eb_i2l (pc := 1) dX10_isStretch_1 ?_
  refine eb_lconst (pc := 2) (v := 0) dX10_isStretch_2 (by decide) ?_
  refine eb_aload_n (pc := 3) 0 dX10_isStretch_3 rfl rfl ?_
  refine eb_getI (pc := 4) ef_RX10_106 dX10_isStretch_4 (fun x1 => ?_)
  refine eb_iconst (pc := 7) (v := 1) dX10_isStretch_7 (by decide) ?_
  refine eb_isub (pc := 8) dX10_isStretch_8 ?_
  refine eb_i2l (pc := 9) dX10_isStretch_9 ?_
  refine eb_callb (pc := 10) (eb_runS (pc := 10) (As := [.long ((v1).toInt64), .long 0, .long ((x1 - 1).toInt64)]) (rest := []) ew_664 ew_665 ew_666 rfl ed_X10_in (ct_X10_in hG _ _ _ _) ew_667 ⟨by decide, by decide⟩ (by decide) (by decide) (Nat.le_of_ble_eq_true rfl) rfl dX10_isStretch_10) (fun b3 s2 => ?_)
  exact eb_bret (pc := 13) dX10_isStretch_13 (by decide) (by decide)

def f_X10_isBag (v0 : Int64) (s : eb_S) : Option (Bool × eb_S) := eb_cl (f_X10_in v0 0 2 s) fun b2 s1 => some (b2, s1)
set_option maxRecDepth 100000 in
theorem ct_X10_isBag {G : eb_G} (hG : eb_ok G) (v0 : Int64) (s : eb_S) : eb_ct G yX10_isBag cX10_isBag 2 (some .boolean) 2 0 0 eb_eb [.long v0] s (f_X10_isBag v0 s) := by
  refine eb_ct_b (by decide) (Nat.le_of_ble_eq_true rfl) (fun v hv => by simp at hv; rcases hv with rfl <;> simp [Value.category]) ?_
  show eb_go G yX10_isBag cX10_isBag 2 (some .boolean) (2) 0 0 .ireturn (fun r : Bool => [.int (eb_b r)]) 0 [(0, .long v0)] [] s 0 0 _
  unfold f_X10_isBag
  refine eb_lload_n (pc := 0) 0 dX10_isBag_0 rfl rfl ?_
  refine eb_lconst (pc := 1) (v := 0) dX10_isBag_1 (by decide) ?_
  refine eb_ldc2 (pc := 2) (v := 2) dX10_isBag_2 ew_669 ?_
  refine eb_callb (pc := 5) (eb_runS (pc := 5) (As := [.long v0, .long 0, .long 2]) (rest := []) ew_664 ew_665 ew_666 rfl ed_X10_in (ct_X10_in hG _ _ _ _) ew_667 ⟨by decide, by decide⟩ (by decide) (by decide) (Nat.le_of_ble_eq_true rfl) rfl dX10_isBag_5) (fun b2 s1 => ?_)
  exact eb_bret (pc := 8) dX10_isBag_8 (by decide) (by decide)

def f_X10_comes (v0 : Nat) (v1 : Int32) (v2 : Int32) (v3 : Int32) (s : eb_S) : Option (Unit × eb_S) := eb_gR s [9] v0 1 fun r1 => eb_gI s [9] v0 0 fun x2 => eb_wi s r1 x2 v1 fun s3 => eb_gR s3 [9] v0 2 fun r4 => eb_gI s3 [9] v0 0 fun x5 => eb_wi s3 r4 x5 v2 fun s6 => eb_gR s6 [9] v0 3 fun r7 => eb_gI s6 [9] v0 0 fun x8 => eb_wi s6 r7 x8 v3 fun s9 => eb_gR s9 [9] v0 4 fun r10 => eb_gI s9 [9] v0 0 fun x11 => eb_wi s9 r10 x11 50 fun s12 => eb_gR s12 [9] v0 5 fun r13 => eb_gI s12 [9] v0 0 fun x14 => eb_wi s12 r13 x14 0 fun s15 => eb_gI s15 [9] v0 0 fun x16 => eb_pI s15 [9] v0 0 (x16 + 1) fun s17 => some ((), s17)
set_option maxRecDepth 100000 in
theorem ct_X10_comes {G : eb_G} (hG : eb_ok G) (v0 : Nat) (v1 : Int32) (v2 : Int32) (v3 : Int32) (s : eb_S) : eb_ct G yX10_comes cX10_comes 4 none 1 0 0 eb_ev [.ref v0, .int v1, .int v2, .int v3] s (f_X10_comes v0 v1 v2 v3 s) := by
  refine eb_ct_v (by decide) (Nat.le_of_ble_eq_true rfl) (fun v hv => by simp at hv; rcases hv with rfl | rfl | rfl | rfl <;> simp [Value.category]) ?_
  show eb_go G yX10_comes cX10_comes 4 none (1) 0 0 .return_ (fun _ : Unit => []) 0 [(0, .ref v0), (1, .int v1), (2, .int v2), (3, .int v3)] [] s 0 0 _
  unfold f_X10_comes
  refine eb_aload_n (pc := 0) 0 dX10_comes_0 rfl rfl ?_
  refine eb_getR (pc := 1) ef_RX10_7 dX10_comes_1 (fun r1 => ?_)
  refine eb_aload_n (pc := 4) 0 dX10_comes_4 rfl rfl ?_
  refine eb_getI (pc := 5) ef_RX10_98 dX10_comes_5 (fun x2 => ?_)
  refine eb_iload_n (pc := 8) 1 dX10_comes_8 rfl rfl ?_
  refine eb_iastore (pc := 9) dX10_comes_9 (fun s3 => ?_)
  refine eb_aload_n (pc := 10) 0 dX10_comes_10 rfl rfl ?_
  refine eb_getR (pc := 11) ef_RX10_13 dX10_comes_11 (fun r4 => ?_)
  refine eb_aload_n (pc := 14) 0 dX10_comes_14 rfl rfl ?_
  refine eb_getI (pc := 15) ef_RX10_98 dX10_comes_15 (fun x5 => ?_)
  refine eb_iload_n (pc := 18) 2 dX10_comes_18 rfl rfl ?_
  refine eb_iastore (pc := 19) dX10_comes_19 (fun s6 => ?_)
  refine eb_aload_n (pc := 20) 0 dX10_comes_20 rfl rfl ?_
  refine eb_getR (pc := 21) ef_RX10_16 dX10_comes_21 (fun r7 => ?_)
  refine eb_aload_n (pc := 24) 0 dX10_comes_24 rfl rfl ?_
  refine eb_getI (pc := 25) ef_RX10_98 dX10_comes_25 (fun x8 => ?_)
  refine eb_iload_n (pc := 28) 3 dX10_comes_28 rfl rfl ?_
  refine eb_iastore (pc := 29) dX10_comes_29 (fun s9 => ?_)
  refine eb_aload_n (pc := 30) 0 dX10_comes_30 rfl rfl ?_
  refine eb_getR (pc := 31) ef_RX10_19 dX10_comes_31 (fun r10 => ?_)
  refine eb_aload_n (pc := 34) 0 dX10_comes_34 rfl rfl ?_
  refine eb_getI (pc := 35) ef_RX10_98 dX10_comes_35 (fun x11 => ?_)
  refine eb_bipush (pc := 38) (v := 50) dX10_comes_38 (by decide) ?_
  refine eb_iastore (pc := 40) dX10_comes_40 (fun s12 => ?_)
  refine eb_aload_n (pc := 41) 0 dX10_comes_41 rfl rfl ?_
  refine eb_getR (pc := 42) ef_RX10_22 dX10_comes_42 (fun r13 => ?_)
  refine eb_aload_n (pc := 45) 0 dX10_comes_45 rfl rfl ?_
  refine eb_getI (pc := 46) ef_RX10_98 dX10_comes_46 (fun x14 => ?_)
  refine eb_iconst (pc := 49) (v := 0) dX10_comes_49 (by decide) ?_
  refine eb_iastore (pc := 50) dX10_comes_50 (fun s15 => ?_)
  refine eb_aload_n (pc := 51) 0 dX10_comes_51 rfl rfl ?_
  refine eb_dup (pc := 52) dX10_comes_52 rfl ?_
  refine eb_getI (pc := 53) ef_RX10_98 dX10_comes_53 (fun x16 => ?_)
  refine eb_iconst (pc := 56) (v := 1) dX10_comes_56 (by decide) ?_
  refine eb_iadd (pc := 57) dX10_comes_57 ?_
  refine eb_putI (pc := 58) ef_RX10_98 eg_RX10_98 dX10_comes_58 (fun s17 => ?_)
  exact eb_vret (pc := 61) dX10_comes_61 (by decide) (by decide)

def f_X10_thing (v0 : Nat) (v1 : Int32) (v2 : Int32) (s : eb_S) : Option (Int32 × eb_S) := eb_cl (f_X10_in ((v1).toInt64) 0 3 s) fun b2 s1 => if (eb_b b2) = 0 then (some ((-1), s1)) else (eb_cl (f_X10_in ((v2).toInt64) 1 99 s1) fun b4 s3 => if (eb_b b4) = 0 then (some ((-1), s3)) else (eb_gI s3 [9] v0 0 fun x5 => if x5 = 10 then (some ((-3), s3)) else (eb_cl (eb_tg s3 v0 9 (f_X10_comes v0 v1 v2 5 s3)) fun _u s6 => eb_gI s6 [9] v0 0 fun x7 => some (x7 - 1, s6))))
set_option maxRecDepth 100000 in
theorem ct_X10_thing {G : eb_G} (hG : eb_ok G) (v0 : Nat) (v1 : Int32) (v2 : Int32) (s : eb_S) : eb_ct G yX10_thing cX10_thing 3 (some .int) 2 0 0 eb_ei [.ref v0, .int v1, .int v2] s (f_X10_thing v0 v1 v2 s) := by
  refine eb_ct_i (by decide) (Nat.le_of_ble_eq_true rfl) (fun v hv => by simp at hv; rcases hv with rfl | rfl | rfl <;> simp [Value.category]) ?_
  show eb_go G yX10_thing cX10_thing 3 (some .int) (2) 0 0 .ireturn (fun r : Int32 => [.int r]) 0 [(0, .ref v0), (1, .int v1), (2, .int v2)] [] s 0 0 _
  unfold f_X10_thing
  refine eb_iload_n (pc := 0) 1 dX10_thing_0 rfl rfl ?_
  refine eb_i2l (pc := 1) dX10_thing_1 ?_
  refine eb_lconst (pc := 2) (v := 0) dX10_thing_2 (by decide) ?_
  refine eb_ldc2 (pc := 3) (v := 3) dX10_thing_3 ew_675 ?_
  refine eb_callb (pc := 6) (eb_runS (pc := 6) (As := [.long ((v1).toInt64), .long 0, .long 3]) (rest := []) ew_664 ew_665 ew_666 rfl ed_X10_in (ct_X10_in hG _ _ _ _) ew_667 ⟨by decide, by decide⟩ (by decide) (by decide) (Nat.le_of_ble_eq_true rfl) rfl dX10_thing_6) (fun b2 s1 => ?_)
  refine eb_if_eq (pc := 9) (tgt := 24) dX10_thing_9 (by decide) ?_ ?_
  · refine eb_iconst (pc := 24) (v := (-1)) dX10_thing_24 (by decide) ?_
    exact eb_iret (pc := 25) dX10_thing_25 (by decide) (by decide)
  · refine eb_iload_n (pc := 12) 2 dX10_thing_12 rfl rfl ?_
    refine eb_i2l (pc := 13) dX10_thing_13 ?_
    refine eb_lconst (pc := 14) (v := 1) dX10_thing_14 (by decide) ?_
    refine eb_ldc2 (pc := 15) (v := 99) dX10_thing_15 ew_674 ?_
    refine eb_callb (pc := 18) (eb_runS (pc := 18) (As := [.long ((v2).toInt64), .long 1, .long 99]) (rest := []) ew_664 ew_665 ew_666 rfl ed_X10_in (ct_X10_in hG _ _ _ _) ew_667 ⟨by decide, by decide⟩ (by decide) (by decide) (Nat.le_of_ble_eq_true rfl) rfl dX10_thing_18) (fun b4 s3 => ?_)
    refine eb_if_ne (pc := 21) (tgt := 26) dX10_thing_21 (by decide) ?_ ?_
    · refine eb_aload_n (pc := 26) 0 dX10_thing_26 rfl rfl ?_
      refine eb_getI (pc := 27) ef_RX10_98 dX10_thing_27 (fun x5 => ?_)
      refine eb_bipush (pc := 30) (v := 10) dX10_thing_30 (by decide) ?_
      refine eb_icmp_ne (pc := 32) (tgt := 38) dX10_thing_32 (by decide) ?_ ?_
      · refine eb_aload_n (pc := 38) 0 dX10_thing_38 rfl rfl ?_
        refine eb_iload_n (pc := 39) 1 dX10_thing_39 rfl rfl ?_
        refine eb_iload_n (pc := 40) 2 dX10_thing_40 rfl rfl ?_
        refine eb_iconst (pc := 41) (v := 5) dX10_thing_41 (by decide) ?_
        refine eb_callv (pc := 42) (eb_runV (pc := 42) (As := [.int v1, .int v2, .int 5]) (rest := []) (ci := 9) (q0 := (RX10, TX10, 43)) (q := (RX10, TX10, 43)) ew_670 ew_671 ew_672 ew_666 rfl rfl ed_X10_comes (ct_X10_comes hG _ _ _ _ _) rfl ew_673 ⟨by decide, by decide⟩ (by decide) (by decide) (Nat.le_of_ble_eq_true rfl) rfl dX10_thing_42) (fun _u s6 => ?_)
        refine eb_aload_n (pc := 45) 0 dX10_thing_45 rfl rfl ?_
        refine eb_getI (pc := 46) ef_RX10_98 dX10_thing_46 (fun x7 => ?_)
        refine eb_iconst (pc := 49) (v := 1) dX10_thing_49 (by decide) ?_
        refine eb_isub (pc := 50) dX10_thing_50 ?_
        exact eb_iret (pc := 51) dX10_thing_51 (by decide) (by decide)
      · refine eb_bipush (pc := 35) (v := (-3)) dX10_thing_35 (by decide) ?_
        exact eb_iret (pc := 37) dX10_thing_37 (by decide) (by decide)
    · refine eb_iconst (pc := 24) (v := (-1)) dX10_thing_24 (by decide) ?_
      exact eb_iret (pc := 25) dX10_thing_25 (by decide) (by decide)

def f_X10_hangs_L4 (n : Nat) (v0 : Nat) (v1 : Int32)  : Nat → Int32 → Int32 → eb_S → Option (Bool × eb_S)
  | 0, _, _, _ => none
  | m + 1, v2, v3, s => eb_gI s [9] v0 16 fun x1 => if x1 ≤ v3 then (eb_zb v2 fun b => some (b, s)) else (eb_jn (fun (y2 : Int32) (s3 : eb_S) => f_X10_hangs_L4 n v0 v1 m y2 (v3 + 1) s3) fun j4 => eb_jn (fun (s5 : eb_S) => j4 1 s5) fun j6 => if v2 = 0 then (eb_gR s [9] v0 17 fun r7 => eb_ai s r7 v3 fun x8 => if x8 = v1 then (j6 s) else (eb_gR s [9] v0 18 fun r9 => eb_ai s r9 v3 fun x10 => if x10 = v1 then (j6 s) else (j4 0 s))) else (j6 s))
def f_X10_hangs (n : Nat) (v0 : Nat) (v1 : Int32) (s : eb_S) : Option (Bool × eb_S) := f_X10_hangs_L4 n v0 v1  n 0 0 s
set_option maxRecDepth 100000 in
theorem gl_X10_hangs_L4 {G : eb_G} (hG : eb_ok G) {n : Nat} {v0 : Nat} {v1 : Int32}   : ∀ (m : Nat) (v2 : Int32) (v3 : Int32) (s : eb_S), eb_go G yX10_hangs cX10_hangs 4 (some .boolean) (1) 0 0 .ireturn (fun r : Bool => [.int (eb_b r)]) 4 [(0, .ref v0), (1, .int v1), (2, .int v2), (3, .int v3)] [] s 0 0 (f_X10_hangs_L4 n v0 v1 m v2 v3 s) := by
  intro m
  induction m with
  | zero => intro v2 v3 s; exact eb_none
  | succ m ih =>
    intro v2 v3 s
    rw [f_X10_hangs_L4.eq_2]
    refine eb_iload_n (pc := 4) 3 dX10_hangs_4 rfl rfl ?_
    refine eb_aload_n (pc := 5) 0 dX10_hangs_5 rfl rfl ?_
    refine eb_getI (pc := 6) ef_RX10_119 dX10_hangs_6 (fun x1 => ?_)
    refine eb_icmp_ge (pc := 9) (tgt := 48) dX10_hangs_9 (by decide) ?_ ?_
    · refine eb_iload_n (pc := 48) 2 dX10_hangs_48 rfl rfl ?_
      exact eb_zret (pc := 49) dX10_hangs_49 (by decide) (by decide)
    · refine eb_iload_n (pc := 12) 2 dX10_hangs_12 rfl rfl ?_
      refine eb_join (fun j4 : Int32 → eb_S → Option (Bool × eb_S) => ∀ (y2 : Int32) (s3 : eb_S), eb_go G yX10_hangs cX10_hangs 4 (some .boolean) (1) 0 0 .ireturn (fun r : Bool => [.int (eb_b r)]) 41 [(0, .ref v0), (1, .int v1), (3, .int v3)] [.int y2] s3 0 0 (j4 y2 s3)) ?_ (fun j4 hj4 => ?_)
      · intro y2 s3
        refine eb_istore_n (pc := 41) (L' := [(2, .int y2), (0, .ref v0), (1, .int v1), (3, .int v3)]) dX10_hangs_41 rfl (by decide) rfl ?_
        refine eb_iinc (pc := 42) (v := v3 + 1) (L' := [(3, .int (v3 + 1)), (2, .int y2), (0, .ref v0), (1, .int v1)]) 3 dX10_hangs_42 rfl rfl (by decide) rfl ?_
        refine eb_goto (pc := 45) (tgt := 4) dX10_hangs_45 (by decide) ?_
        refine eb_sub [2, 3, 1, 0] rfl ?_
        exact ih _ _ _
      refine eb_join (fun j6 : eb_S → Option (Bool × eb_S) => ∀  (s5 : eb_S), eb_go G yX10_hangs cX10_hangs 4 (some .boolean) (1) 0 0 .ireturn (fun r : Bool => [.int (eb_b r)]) 36 [(0, .ref v0), (1, .int v1), (3, .int v3)] [] s5 0 0 (j6  s5)) ?_ (fun j6 hj6 => ?_)
      · intro  s5
        refine eb_iconst (pc := 36) (v := 1) dX10_hangs_36 (by decide) ?_
        refine eb_goto (pc := 37) (tgt := 41) dX10_hangs_37 (by decide) ?_
        exact hj4 _ _
      refine eb_if_ne (pc := 13) (tgt := 36) dX10_hangs_13 (by decide) ?_ ?_
      · refine eb_sub [0, 1, 3] rfl ?_
        exact hj6 _
      · refine eb_aload_n (pc := 16) 0 dX10_hangs_16 rfl rfl ?_
        refine eb_getR (pc := 17) ef_RX10_49 dX10_hangs_17 (fun r7 => ?_)
        refine eb_iload_n (pc := 20) 3 dX10_hangs_20 rfl rfl ?_
        refine eb_iaload (pc := 21) dX10_hangs_21 (fun x8 => ?_)
        refine eb_iload_n (pc := 22) 1 dX10_hangs_22 rfl rfl ?_
        refine eb_icmp_eq (pc := 23) (tgt := 36) dX10_hangs_23 (by decide) ?_ ?_
        · refine eb_sub [0, 1, 3] rfl ?_
          exact hj6 _
        · refine eb_aload_n (pc := 26) 0 dX10_hangs_26 rfl rfl ?_
          refine eb_getR (pc := 27) ef_RX10_52 dX10_hangs_27 (fun r9 => ?_)
          refine eb_iload_n (pc := 30) 3 dX10_hangs_30 rfl rfl ?_
          refine eb_iaload (pc := 31) dX10_hangs_31 (fun x10 => ?_)
          refine eb_iload_n (pc := 32) 1 dX10_hangs_32 rfl rfl ?_
          refine eb_icmp_ne (pc := 33) (tgt := 40) dX10_hangs_33 (by decide) ?_ ?_
          · refine eb_iconst (pc := 40) (v := 0) dX10_hangs_40 (by decide) ?_
            refine eb_sub [0, 1, 3] rfl ?_
            exact hj4 _ _
          · refine eb_sub [0, 1, 3] rfl ?_
            exact hj6 _
set_option maxRecDepth 100000 in
theorem ct_X10_hangs {G : eb_G} (hG : eb_ok G) (n : Nat) (v0 : Nat) (v1 : Int32) (s : eb_S) : eb_ct G yX10_hangs cX10_hangs 4 (some .boolean) 1 0 0 eb_eb [.ref v0, .int v1] s (f_X10_hangs n v0 v1 s) := by
  refine eb_ct_b (by decide) (Nat.le_of_ble_eq_true rfl) (fun v hv => by simp at hv; rcases hv with rfl | rfl <;> simp [Value.category]) ?_
  show eb_go G yX10_hangs cX10_hangs 4 (some .boolean) (1) 0 0 .ireturn (fun r : Bool => [.int (eb_b r)]) 0 [(0, .ref v0), (1, .int v1)] [] s 0 0 _
  unfold f_X10_hangs
  refine eb_iconst (pc := 0) (v := 0) dX10_hangs_0 (by decide) ?_
  refine eb_istore_n (pc := 1) (L' := [(2, .int 0), (0, .ref v0), (1, .int v1)]) dX10_hangs_1 rfl (by decide) rfl ?_
  refine eb_iconst (pc := 2) (v := 0) dX10_hangs_2 (by decide) ?_
  refine eb_istore_n (pc := 3) (L' := [(3, .int 0), (2, .int 0), (0, .ref v0), (1, .int v1)]) dX10_hangs_3 rfl (by decide) rfl ?_
  refine eb_sub [2, 3, 1, 0] rfl ?_
  refine gl_X10_hangs_L4 hG  n _ _ _

def f_X10_told (n : Nat) (v0 : Nat) (v1 : Int32) (v2 : Int32) (s : eb_S) : Option (Int32 × eb_S) := eb_cl (eb_tg s v0 9 (f_X10_isThing v0 ((v1).toInt64) s)) fun b2 s1 => if (eb_b b2) = 0 then (some ((-1), s1)) else (eb_sw v2 0 [(eb_gR s1 [9] v0 1 fun r3 => eb_ai s1 r3 v1 fun x4 => some (x4, s1)), (eb_gR s1 [9] v0 2 fun r5 => eb_ai s1 r5 v1 fun x6 => some (x6, s1)), (eb_gR s1 [9] v0 3 fun r7 => eb_ai s1 r7 v1 fun x8 => some (x8, s1)), (eb_gR s1 [9] v0 4 fun r9 => eb_ai s1 r9 v1 fun x10 => some (x10, s1)), (eb_gR s1 [9] v0 5 fun r11 => eb_ai s1 r11 v1 fun x12 => some (x12, s1)), (eb_cl (eb_tg s1 v0 9 (f_X10_hangs n v0 v1 s1)) fun b14 s13 => if (eb_b b14) = 0 then (some (0, s13)) else (some (1, s13)))] (some ((-1), s1)))
set_option maxRecDepth 100000 in
theorem ct_X10_told {G : eb_G} (hG : eb_ok G) (n : Nat) (v0 : Nat) (v1 : Int32) (v2 : Int32) (s : eb_S) : eb_ct G yX10_told cX10_told 3 (some .int) 3 0 0 eb_ei [.ref v0, .int v1, .int v2] s (f_X10_told n v0 v1 v2 s) := by
  refine eb_ct_i (by decide) (Nat.le_of_ble_eq_true rfl) (fun v hv => by simp at hv; rcases hv with rfl | rfl | rfl <;> simp [Value.category]) ?_
  show eb_go G yX10_told cX10_told 3 (some .int) (3) 0 0 .ireturn (fun r : Int32 => [.int r]) 0 [(0, .ref v0), (1, .int v1), (2, .int v2)] [] s 0 0 _
  unfold f_X10_told
  refine eb_aload_n (pc := 0) 0 dX10_told_0 rfl rfl ?_
  refine eb_iload_n (pc := 1) 1 dX10_told_1 rfl rfl ?_
  refine eb_i2l (pc := 2) dX10_told_2 ?_
  refine eb_callb (pc := 3) (eb_runV (pc := 3) (As := [.long ((v1).toInt64)]) (rest := []) (ci := 9) (q0 := (RX10, TX10, 43)) (q := (RX10, TX10, 43)) ew_677 ew_678 ew_679 ew_666 rfl rfl ed_X10_isThing (ct_X10_isThing hG _ _ _) rfl ew_680 ⟨by decide, by decide⟩ (by decide) (by decide) (Nat.le_of_ble_eq_true rfl) rfl dX10_told_3) (fun b2 s1 => ?_)
  refine eb_if_ne (pc := 6) (tgt := 11) dX10_told_6 (by decide) ?_ ?_
  · refine eb_iload_n (pc := 11) 2 dX10_told_11 rfl rfl ?_
    refine eb_tswitch (pc := 12) (i0 := 0) (tgs := [52, 59, 66, 73, 80, 87]) (td := 101) dX10_told_12 rfl rfl rfl rfl (by decide) ⟨?_, ?_, ?_, ?_, ?_, ?_, trivial⟩ ?_
    · refine eb_aload_n (pc := 52) 0 dX10_told_52 rfl rfl ?_
      refine eb_getR (pc := 53) ef_RX10_7 dX10_told_53 (fun r3 => ?_)
      refine eb_iload_n (pc := 56) 1 dX10_told_56 rfl rfl ?_
      refine eb_iaload (pc := 57) dX10_told_57 (fun x4 => ?_)
      exact eb_iret (pc := 58) dX10_told_58 (by decide) (by decide)
    · refine eb_aload_n (pc := 59) 0 dX10_told_59 rfl rfl ?_
      refine eb_getR (pc := 60) ef_RX10_13 dX10_told_60 (fun r5 => ?_)
      refine eb_iload_n (pc := 63) 1 dX10_told_63 rfl rfl ?_
      refine eb_iaload (pc := 64) dX10_told_64 (fun x6 => ?_)
      exact eb_iret (pc := 65) dX10_told_65 (by decide) (by decide)
    · refine eb_aload_n (pc := 66) 0 dX10_told_66 rfl rfl ?_
      refine eb_getR (pc := 67) ef_RX10_16 dX10_told_67 (fun r7 => ?_)
      refine eb_iload_n (pc := 70) 1 dX10_told_70 rfl rfl ?_
      refine eb_iaload (pc := 71) dX10_told_71 (fun x8 => ?_)
      exact eb_iret (pc := 72) dX10_told_72 (by decide) (by decide)
    · refine eb_aload_n (pc := 73) 0 dX10_told_73 rfl rfl ?_
      refine eb_getR (pc := 74) ef_RX10_19 dX10_told_74 (fun r9 => ?_)
      refine eb_iload_n (pc := 77) 1 dX10_told_77 rfl rfl ?_
      refine eb_iaload (pc := 78) dX10_told_78 (fun x10 => ?_)
      exact eb_iret (pc := 79) dX10_told_79 (by decide) (by decide)
    · refine eb_aload_n (pc := 80) 0 dX10_told_80 rfl rfl ?_
      refine eb_getR (pc := 81) ef_RX10_22 dX10_told_81 (fun r11 => ?_)
      refine eb_iload_n (pc := 84) 1 dX10_told_84 rfl rfl ?_
      refine eb_iaload (pc := 85) dX10_told_85 (fun x12 => ?_)
      exact eb_iret (pc := 86) dX10_told_86 (by decide) (by decide)
    · refine eb_aload_n (pc := 87) 0 dX10_told_87 rfl rfl ?_
      refine eb_iload_n (pc := 88) 1 dX10_told_88 rfl rfl ?_
      refine eb_callb (pc := 89) (eb_runV (pc := 89) (As := [.int v1]) (rest := []) (ci := 9) (q0 := (RX10, TX10, 43)) (q := (RX10, TX10, 43)) ew_681 ew_682 ew_683 ew_666 rfl rfl ed_X10_hangs (ct_X10_hangs hG n _ _ _) rfl ew_684 ⟨by decide, by decide⟩ (by decide) (by decide) (Nat.le_of_ble_eq_true rfl) rfl dX10_told_89) (fun b14 s13 => ?_)
      refine eb_if_eq (pc := 92) (tgt := 99) dX10_told_92 (by decide) ?_ ?_
      · refine eb_iconst (pc := 99) (v := 0) dX10_told_99 (by decide) ?_
        exact eb_iret (pc := 100) dX10_told_100 (by decide) (by decide)
      · refine eb_iconst (pc := 95) (v := 1) dX10_told_95 (by decide) ?_
        refine eb_goto (pc := 96) (tgt := 100) dX10_told_96 (by decide) ?_
        exact eb_iret (pc := 100) dX10_told_100 (by decide) (by decide)
    · refine eb_iconst (pc := 101) (v := (-1)) dX10_told_101 (by decide) ?_
      exact eb_iret (pc := 102) dX10_told_102 (by decide) (by decide)
  · refine eb_iconst (pc := 9) (v := (-1)) dX10_told_9 (by decide) ?_
    exact eb_iret (pc := 10) dX10_told_10 (by decide) (by decide)

def f_X10_set (n : Nat) (v0 : Nat) (v1 : Int32) (v2 : Int32) (v3 : Int32) (s : eb_S) : Option (Int32 × eb_S) := eb_cl (eb_tg s v0 9 (f_X10_isThing v0 ((v1).toInt64) s)) fun b2 s1 => if (eb_b b2) = 0 then (some ((-1), s1)) else (eb_cl (f_X10_in ((v2).toInt64) 1 4 s1) fun b4 s3 => if (eb_b b4) = 0 then (some ((-1), s3)) else (eb_jn (fun (y5 : Int64) (s6 : eb_S) => eb_jn (fun (y8 : Int64) (s9 : eb_S) => eb_cl (f_X10_in ((v3).toInt64) y5 y8 s9) fun b12 s11 => if (eb_b b12) = 0 then (some ((-1), s11)) else (eb_cl (eb_tg s11 v0 9 (f_X10_told n v0 v1 v2 s11)) fun x14 s13 => eb_gR s13 [9] v0 2 fun r15 => eb_jn (fun (y16 : Int32) (s17 : eb_S) => eb_wi s17 r15 v1 y16 fun s19 => eb_gR s19 [9] v0 3 fun r20 => eb_jn (fun (y21 : Int32) (s22 : eb_S) => eb_wi s22 r20 v1 y21 fun s24 => eb_gR s24 [9] v0 4 fun r25 => eb_jn (fun (y26 : Int32) (s27 : eb_S) => eb_wi s27 r25 v1 y26 fun s29 => eb_gR s29 [9] v0 5 fun r30 => if v2 = 4 then (eb_wi s29 r30 v1 v3 fun s34 => some (x14, s34)) else (eb_gR s29 [9] v0 5 fun r31 => eb_ai s29 r31 v1 fun x32 => eb_wi s29 r30 v1 x32 fun s33 => some (x14, s33))) fun j28 => if v2 = 3 then (j28 v3 s24) else (eb_gR s24 [9] v0 4 fun r35 => eb_ai s24 r35 v1 fun x36 => j28 x36 s24)) fun j23 => if v2 = 2 then (j23 v3 s19) else (eb_gR s19 [9] v0 3 fun r37 => eb_ai s19 r37 v1 fun x38 => j23 x38 s19)) fun j18 => if v2 = 1 then (j18 v3 s13) else (eb_gR s13 [9] v0 2 fun r39 => eb_ai s13 r39 v1 fun x40 => j18 x40 s13))) fun j10 => if v2 = 1 then (j10 99 s6) else (if v2 = 2 then (j10 5 s6) else (if v2 = 3 then (j10 100 s6) else (j10 2 s6)))) fun j7 => if v2 = 1 then (j7 1 s3) else (j7 0 s3)))
set_option maxRecDepth 100000 in
theorem ct_X10_set {G : eb_G} (hG : eb_ok G) (n : Nat) (v0 : Nat) (v1 : Int32) (v2 : Int32) (v3 : Int32) (s : eb_S) : eb_ct G yX10_set cX10_set 5 (some .int) 4 0 0 eb_ei [.ref v0, .int v1, .int v2, .int v3] s (f_X10_set n v0 v1 v2 v3 s) := by
  refine eb_ct_i (by decide) (Nat.le_of_ble_eq_true rfl) (fun v hv => by simp at hv; rcases hv with rfl | rfl | rfl | rfl <;> simp [Value.category]) ?_
  show eb_go G yX10_set cX10_set 5 (some .int) (4) 0 0 .ireturn (fun r : Int32 => [.int r]) 0 [(0, .ref v0), (1, .int v1), (2, .int v2), (3, .int v3)] [] s 0 0 _
  unfold f_X10_set
  refine eb_aload_n (pc := 0) 0 dX10_set_0 rfl rfl ?_
  refine eb_iload_n (pc := 1) 1 dX10_set_1 rfl rfl ?_
  refine eb_i2l (pc := 2) dX10_set_2 ?_
  refine eb_callb (pc := 3) (eb_runV (pc := 3) (As := [.long ((v1).toInt64)]) (rest := []) (ci := 9) (q0 := (RX10, TX10, 43)) (q := (RX10, TX10, 43)) ew_677 ew_678 ew_679 ew_666 rfl rfl ed_X10_isThing (ct_X10_isThing hG _ _ _) rfl ew_680 ⟨by decide, by decide⟩ (by decide) (by decide) (Nat.le_of_ble_eq_true rfl) rfl dX10_set_3) (fun b2 s1 => ?_)
  refine eb_if_eq (pc := 6) (tgt := 75) dX10_set_6 (by decide) ?_ ?_
  · refine eb_iconst (pc := 75) (v := (-1)) dX10_set_75 (by decide) ?_
    exact eb_iret (pc := 76) dX10_set_76 (by decide) (by decide)
  · refine eb_iload_n (pc := 9) 2 dX10_set_9 rfl rfl ?_
    refine eb_i2l (pc := 10) dX10_set_10 ?_
    refine eb_lconst (pc := 11) (v := 1) dX10_set_11 (by decide) ?_
    refine eb_ldc2 (pc := 12) (v := 4) dX10_set_12 ew_691 ?_
    refine eb_callb (pc := 15) (eb_runS (pc := 15) (As := [.long ((v2).toInt64), .long 1, .long 4]) (rest := []) ew_664 ew_665 ew_666 rfl ed_X10_in (ct_X10_in hG _ _ _ _) ew_667 ⟨by decide, by decide⟩ (by decide) (by decide) (Nat.le_of_ble_eq_true rfl) rfl dX10_set_15) (fun b4 s3 => ?_)
    refine eb_if_eq (pc := 18) (tgt := 75) dX10_set_18 (by decide) ?_ ?_
    · refine eb_iconst (pc := 75) (v := (-1)) dX10_set_75 (by decide) ?_
      exact eb_iret (pc := 76) dX10_set_76 (by decide) (by decide)
    · refine eb_iload_n (pc := 21) 3 dX10_set_21 rfl rfl ?_
      refine eb_i2l (pc := 22) dX10_set_22 ?_
      refine eb_iload_n (pc := 23) 2 dX10_set_23 rfl rfl ?_
      refine eb_iconst (pc := 24) (v := 1) dX10_set_24 (by decide) ?_
      refine eb_join (fun j7 : Int64 → eb_S → Option (Int32 × eb_S) => ∀ (y5 : Int64) (s6 : eb_S), eb_go G yX10_set cX10_set 5 (some .int) (4) 0 0 .ireturn (fun r : Int32 => [.int r]) 33 [(0, .ref v0), (1, .int v1), (2, .int v2), (3, .int v3)] [.long y5, .long ((v3).toInt64)] s6 0 0 (j7 y5 s6)) ?_ (fun j7 hj7 => ?_)
      · intro y5 s6
        refine eb_iload_n (pc := 33) 2 dX10_set_33 rfl rfl ?_
        refine eb_iconst (pc := 34) (v := 1) dX10_set_34 (by decide) ?_
        refine eb_join (fun j10 : Int64 → eb_S → Option (Int32 × eb_S) => ∀ (y8 : Int64) (s9 : eb_S), eb_go G yX10_set cX10_set 5 (some .int) (4) 0 0 .ireturn (fun r : Int32 => [.int r]) 69 [(0, .ref v0), (1, .int v1), (2, .int v2), (3, .int v3)] [.long y8, .long y5, .long ((v3).toInt64)] s9 0 0 (j10 y8 s9)) ?_ (fun j10 hj10 => ?_)
        · intro y8 s9
          refine eb_callb (pc := 69) (eb_runS (pc := 69) (As := [.long ((v3).toInt64), .long y5, .long y8]) (rest := []) ew_664 ew_665 ew_666 rfl ed_X10_in (ct_X10_in hG _ _ _ _) ew_667 ⟨by decide, by decide⟩ (by decide) (by decide) (Nat.le_of_ble_eq_true rfl) rfl dX10_set_69) (fun b12 s11 => ?_)
          refine eb_if_ne (pc := 72) (tgt := 77) dX10_set_72 (by decide) ?_ ?_
          · refine eb_aload_n (pc := 77) 0 dX10_set_77 rfl rfl ?_
            refine eb_iload_n (pc := 78) 1 dX10_set_78 rfl rfl ?_
            refine eb_iload_n (pc := 79) 2 dX10_set_79 rfl rfl ?_
            refine eb_calli (pc := 80) (eb_runV (pc := 80) (As := [.int v1, .int v2]) (rest := []) (ci := 9) (q0 := (RX10, TX10, 43)) (q := (RX10, TX10, 43)) ew_685 ew_686 ew_687 ew_666 rfl rfl ed_X10_told (ct_X10_told hG n _ _ _ _) rfl ew_688 ⟨by decide, by decide⟩ (by decide) (by decide) (Nat.le_of_ble_eq_true rfl) rfl dX10_set_80) (fun x14 s13 => ?_)
            refine eb_istore (pc := 83) (L' := [(4, .int x14), (0, .ref v0), (1, .int v1), (2, .int v2), (3, .int v3)]) dX10_set_83 (by decide) rfl ?_
            refine eb_aload_n (pc := 85) 1 dX10_set_85 rfl rfl ?_
            refine eb_getR (pc := 86) ef_RX10_13 dX10_set_86 (fun r15 => ?_)
            refine eb_iload_n (pc := 89) 2 dX10_set_89 rfl rfl ?_
            refine eb_iload_n (pc := 90) 3 dX10_set_90 rfl rfl ?_
            refine eb_iconst (pc := 91) (v := 1) dX10_set_91 (by decide) ?_
            refine eb_join (fun j18 : Int32 → eb_S → Option (Int32 × eb_S) => ∀ (y16 : Int32) (s17 : eb_S), eb_go G yX10_set cX10_set 5 (some .int) (4) 0 0 .ireturn (fun r : Int32 => [.int r]) 105 [(0, .ref v0), (1, .int v1), (2, .int v2), (3, .int v3), (4, .int x14)] [.int y16, .int v1, .ref r15] s17 0 0 (j18 y16 s17)) ?_ (fun j18 hj18 => ?_)
            · intro y16 s17
              refine eb_iastore (pc := 105) dX10_set_105 (fun s19 => ?_)
              refine eb_aload_n (pc := 106) 0 dX10_set_106 rfl rfl ?_
              refine eb_getR (pc := 107) ef_RX10_16 dX10_set_107 (fun r20 => ?_)
              refine eb_iload_n (pc := 110) 1 dX10_set_110 rfl rfl ?_
              refine eb_iload_n (pc := 111) 2 dX10_set_111 rfl rfl ?_
              refine eb_iconst (pc := 112) (v := 2) dX10_set_112 (by decide) ?_
              refine eb_join (fun j23 : Int32 → eb_S → Option (Int32 × eb_S) => ∀ (y21 : Int32) (s22 : eb_S), eb_go G yX10_set cX10_set 5 (some .int) (4) 0 0 .ireturn (fun r : Int32 => [.int r]) 126 [(0, .ref v0), (1, .int v1), (2, .int v2), (3, .int v3), (4, .int x14)] [.int y21, .int v1, .ref r20] s22 0 0 (j23 y21 s22)) ?_ (fun j23 hj23 => ?_)
              · intro y21 s22
                refine eb_iastore (pc := 126) dX10_set_126 (fun s24 => ?_)
                refine eb_aload_n (pc := 127) 0 dX10_set_127 rfl rfl ?_
                refine eb_getR (pc := 128) ef_RX10_19 dX10_set_128 (fun r25 => ?_)
                refine eb_iload_n (pc := 131) 1 dX10_set_131 rfl rfl ?_
                refine eb_iload_n (pc := 132) 2 dX10_set_132 rfl rfl ?_
                refine eb_iconst (pc := 133) (v := 3) dX10_set_133 (by decide) ?_
                refine eb_join (fun j28 : Int32 → eb_S → Option (Int32 × eb_S) => ∀ (y26 : Int32) (s27 : eb_S), eb_go G yX10_set cX10_set 5 (some .int) (4) 0 0 .ireturn (fun r : Int32 => [.int r]) 147 [(0, .ref v0), (1, .int v1), (2, .int v2), (3, .int v3), (4, .int x14)] [.int y26, .int v1, .ref r25] s27 0 0 (j28 y26 s27)) ?_ (fun j28 hj28 => ?_)
                · intro y26 s27
                  refine eb_iastore (pc := 147) dX10_set_147 (fun s29 => ?_)
                  refine eb_aload_n (pc := 148) 0 dX10_set_148 rfl rfl ?_
                  refine eb_getR (pc := 149) ef_RX10_22 dX10_set_149 (fun r30 => ?_)
                  refine eb_iload_n (pc := 152) 1 dX10_set_152 rfl rfl ?_
                  refine eb_iload_n (pc := 153) 2 dX10_set_153 rfl rfl ?_
                  refine eb_iconst (pc := 154) (v := 4) dX10_set_154 (by decide) ?_
                  refine eb_icmp_ne (pc := 155) (tgt := 162) dX10_set_155 (by decide) ?_ ?_
                  · refine eb_aload_n (pc := 162) 0 dX10_set_162 rfl rfl ?_
                    refine eb_getR (pc := 163) ef_RX10_22 dX10_set_163 (fun r31 => ?_)
                    refine eb_iload_n (pc := 166) 1 dX10_set_166 rfl rfl ?_
                    refine eb_iaload (pc := 167) dX10_set_167 (fun x32 => ?_)
                    refine eb_iastore (pc := 168) dX10_set_168 (fun s33 => ?_)
                    refine eb_iload (pc := 169) 4 dX10_set_169 rfl ?_
                    exact eb_iret (pc := 171) dX10_set_171 (by decide) (by decide)
                  · refine eb_iload_n (pc := 158) 3 dX10_set_158 rfl rfl ?_
                    refine eb_goto (pc := 159) (tgt := 168) dX10_set_159 (by decide) ?_
                    refine eb_iastore (pc := 168) dX10_set_168 (fun s34 => ?_)
                    refine eb_iload (pc := 169) 4 dX10_set_169 rfl ?_
                    exact eb_iret (pc := 171) dX10_set_171 (by decide) (by decide)
                refine eb_icmp_ne (pc := 134) (tgt := 141) dX10_set_134 (by decide) ?_ ?_
                · refine eb_aload_n (pc := 141) 0 dX10_set_141 rfl rfl ?_
                  refine eb_getR (pc := 142) ef_RX10_19 dX10_set_142 (fun r35 => ?_)
                  refine eb_iload_n (pc := 145) 1 dX10_set_145 rfl rfl ?_
                  refine eb_iaload (pc := 146) dX10_set_146 (fun x36 => ?_)
                  exact hj28 _ _
                · refine eb_iload_n (pc := 137) 3 dX10_set_137 rfl rfl ?_
                  refine eb_goto (pc := 138) (tgt := 147) dX10_set_138 (by decide) ?_
                  exact hj28 _ _
              refine eb_icmp_ne (pc := 113) (tgt := 120) dX10_set_113 (by decide) ?_ ?_
              · refine eb_aload_n (pc := 120) 0 dX10_set_120 rfl rfl ?_
                refine eb_getR (pc := 121) ef_RX10_16 dX10_set_121 (fun r37 => ?_)
                refine eb_iload_n (pc := 124) 1 dX10_set_124 rfl rfl ?_
                refine eb_iaload (pc := 125) dX10_set_125 (fun x38 => ?_)
                exact hj23 _ _
              · refine eb_iload_n (pc := 116) 3 dX10_set_116 rfl rfl ?_
                refine eb_goto (pc := 117) (tgt := 126) dX10_set_117 (by decide) ?_
                exact hj23 _ _
            refine eb_icmp_ne (pc := 92) (tgt := 99) dX10_set_92 (by decide) ?_ ?_
            · refine eb_aload_n (pc := 99) 1 dX10_set_99 rfl rfl ?_
              refine eb_getR (pc := 100) ef_RX10_13 dX10_set_100 (fun r39 => ?_)
              refine eb_iload_n (pc := 103) 2 dX10_set_103 rfl rfl ?_
              refine eb_iaload (pc := 104) dX10_set_104 (fun x40 => ?_)
              refine eb_sub [1, 2, 3, 4, 0] rfl ?_
              exact hj18 _ _
            · refine eb_iload_n (pc := 95) 4 dX10_set_95 rfl rfl ?_
              refine eb_goto (pc := 96) (tgt := 105) dX10_set_96 (by decide) ?_
              refine eb_sub [1, 2, 3, 4, 0] rfl ?_
              exact hj18 _ _
          · refine eb_iconst (pc := 75) (v := (-1)) dX10_set_75 (by decide) ?_
            exact eb_iret (pc := 76) dX10_set_76 (by decide) (by decide)
        refine eb_icmp_ne (pc := 35) (tgt := 44) dX10_set_35 (by decide) ?_ ?_
        · refine eb_iload_n (pc := 44) 2 dX10_set_44 rfl rfl ?_
          refine eb_iconst (pc := 45) (v := 2) dX10_set_45 (by decide) ?_
          refine eb_icmp_ne (pc := 46) (tgt := 55) dX10_set_46 (by decide) ?_ ?_
          · refine eb_iload_n (pc := 55) 2 dX10_set_55 rfl rfl ?_
            refine eb_iconst (pc := 56) (v := 3) dX10_set_56 (by decide) ?_
            refine eb_icmp_ne (pc := 57) (tgt := 66) dX10_set_57 (by decide) ?_ ?_
            · refine eb_ldc2 (pc := 66) (v := 2) dX10_set_66 ew_669 ?_
              exact hj10 _ _
            · refine eb_ldc2 (pc := 60) (v := 100) dX10_set_60 ew_689 ?_
              refine eb_goto (pc := 63) (tgt := 69) dX10_set_63 (by decide) ?_
              exact hj10 _ _
          · refine eb_ldc2 (pc := 49) (v := 5) dX10_set_49 ew_690 ?_
            refine eb_goto (pc := 52) (tgt := 69) dX10_set_52 (by decide) ?_
            exact hj10 _ _
        · refine eb_ldc2 (pc := 38) (v := 99) dX10_set_38 ew_674 ?_
          refine eb_goto (pc := 41) (tgt := 69) dX10_set_41 (by decide) ?_
          exact hj10 _ _
      refine eb_icmp_ne (pc := 25) (tgt := 32) dX10_set_25 (by decide) ?_ ?_
      · refine eb_lconst (pc := 32) (v := 0) dX10_set_32 (by decide) ?_
        exact hj7 _ _
      · refine eb_lconst (pc := 28) (v := 1) dX10_set_28 (by decide) ?_
        refine eb_goto (pc := 29) (tgt := 33) dX10_set_29 (by decide) ?_
        exact hj7 _ _

def f_X10_stretch (v0 : Nat) (v1 : Int32) (v2 : Int32) (s : eb_S) : Option (Int32 × eb_S) := eb_cl (f_X10_in ((v1).toInt64) 1 99 s) fun b2 s1 => if (eb_b b2) = 0 then (some ((-1), s1)) else (eb_gI s1 [9] v0 6 fun x3 => if x3 = 5 then (some ((-3), s1)) else (eb_gR s1 [9] v0 7 fun r4 => eb_gI s1 [9] v0 6 fun x5 => eb_wi s1 r4 x5 v1 fun s6 => eb_gR s6 [9] v0 8 fun r7 => eb_gI s6 [9] v0 6 fun x8 => eb_jn (fun (y9 : Int32) (s10 : eb_S) => eb_wi s10 r7 x8 y9 fun s12 => eb_gI s12 [9] v0 6 fun x13 => eb_pI s12 [9] v0 6 (x13 + 1) fun s14 => eb_gI s14 [9] v0 6 fun x15 => some (x15 - 1, s14)) fun j11 => if v2 = 0 then (j11 0 s6) else (j11 1 s6)))
set_option maxRecDepth 100000 in
theorem ct_X10_stretch {G : eb_G} (hG : eb_ok G) (v0 : Nat) (v1 : Int32) (v2 : Int32) (s : eb_S) : eb_ct G yX10_stretch cX10_stretch 3 (some .int) 2 0 0 eb_ei [.ref v0, .int v1, .int v2] s (f_X10_stretch v0 v1 v2 s) := by
  refine eb_ct_i (by decide) (Nat.le_of_ble_eq_true rfl) (fun v hv => by simp at hv; rcases hv with rfl | rfl | rfl <;> simp [Value.category]) ?_
  show eb_go G yX10_stretch cX10_stretch 3 (some .int) (2) 0 0 .ireturn (fun r : Int32 => [.int r]) 0 [(0, .ref v0), (1, .int v1), (2, .int v2)] [] s 0 0 _
  unfold f_X10_stretch
  refine eb_iload_n (pc := 0) 1 dX10_stretch_0 rfl rfl ?_
  refine eb_i2l (pc := 1) dX10_stretch_1 ?_
  refine eb_lconst (pc := 2) (v := 1) dX10_stretch_2 (by decide) ?_
  refine eb_ldc2 (pc := 3) (v := 99) dX10_stretch_3 ew_674 ?_
  refine eb_callb (pc := 6) (eb_runS (pc := 6) (As := [.long ((v1).toInt64), .long 1, .long 99]) (rest := []) ew_664 ew_665 ew_666 rfl ed_X10_in (ct_X10_in hG _ _ _ _) ew_667 ⟨by decide, by decide⟩ (by decide) (by decide) (Nat.le_of_ble_eq_true rfl) rfl dX10_stretch_6) (fun b2 s1 => ?_)
  refine eb_if_ne (pc := 9) (tgt := 14) dX10_stretch_9 (by decide) ?_ ?_
  · refine eb_aload_n (pc := 14) 0 dX10_stretch_14 rfl rfl ?_
    refine eb_getI (pc := 15) ef_RX10_106 dX10_stretch_15 (fun x3 => ?_)
    refine eb_iconst (pc := 18) (v := 5) dX10_stretch_18 (by decide) ?_
    refine eb_icmp_ne (pc := 19) (tgt := 25) dX10_stretch_19 (by decide) ?_ ?_
    · refine eb_aload_n (pc := 25) 0 dX10_stretch_25 rfl rfl ?_
      refine eb_getR (pc := 26) ef_RX10_25 dX10_stretch_26 (fun r4 => ?_)
      refine eb_aload_n (pc := 29) 0 dX10_stretch_29 rfl rfl ?_
      refine eb_getI (pc := 30) ef_RX10_106 dX10_stretch_30 (fun x5 => ?_)
      refine eb_iload_n (pc := 33) 1 dX10_stretch_33 rfl rfl ?_
      refine eb_iastore (pc := 34) dX10_stretch_34 (fun s6 => ?_)
      refine eb_aload_n (pc := 35) 0 dX10_stretch_35 rfl rfl ?_
      refine eb_getR (pc := 36) ef_RX10_28 dX10_stretch_36 (fun r7 => ?_)
      refine eb_aload_n (pc := 39) 0 dX10_stretch_39 rfl rfl ?_
      refine eb_getI (pc := 40) ef_RX10_106 dX10_stretch_40 (fun x8 => ?_)
      refine eb_iload_n (pc := 43) 2 dX10_stretch_43 rfl rfl ?_
      refine eb_join (fun j11 : Int32 → eb_S → Option (Int32 × eb_S) => ∀ (y9 : Int32) (s10 : eb_S), eb_go G yX10_stretch cX10_stretch 3 (some .int) (2) 0 0 .ireturn (fun r : Int32 => [.int r]) 52 [(0, .ref v0)] [.int y9, .int x8, .ref r7] s10 0 0 (j11 y9 s10)) ?_ (fun j11 hj11 => ?_)
      · intro y9 s10
        refine eb_iastore (pc := 52) dX10_stretch_52 (fun s12 => ?_)
        refine eb_aload_n (pc := 53) 0 dX10_stretch_53 rfl rfl ?_
        refine eb_dup (pc := 54) dX10_stretch_54 rfl ?_
        refine eb_getI (pc := 55) ef_RX10_106 dX10_stretch_55 (fun x13 => ?_)
        refine eb_iconst (pc := 58) (v := 1) dX10_stretch_58 (by decide) ?_
        refine eb_iadd (pc := 59) dX10_stretch_59 ?_
        refine eb_putI (pc := 60) ef_RX10_106 eg_RX10_106 dX10_stretch_60 (fun s14 => ?_)
        refine eb_aload_n (pc := 63) 0 dX10_stretch_63 rfl rfl ?_
        refine eb_getI (pc := 64) ef_RX10_106 dX10_stretch_64 (fun x15 => ?_)
        refine eb_iconst (pc := 67) (v := 1) dX10_stretch_67 (by decide) ?_
        refine eb_isub (pc := 68) dX10_stretch_68 ?_
        exact eb_iret (pc := 69) dX10_stretch_69 (by decide) (by decide)
      refine eb_if_eq (pc := 44) (tgt := 51) dX10_stretch_44 (by decide) ?_ ?_
      · refine eb_iconst (pc := 51) (v := 0) dX10_stretch_51 (by decide) ?_
        refine eb_sub [0] rfl ?_
        exact hj11 _ _
      · refine eb_iconst (pc := 47) (v := 1) dX10_stretch_47 (by decide) ?_
        refine eb_goto (pc := 48) (tgt := 52) dX10_stretch_48 (by decide) ?_
        refine eb_sub [0] rfl ?_
        exact hj11 _ _
    · refine eb_bipush (pc := 22) (v := (-3)) dX10_stretch_22 (by decide) ?_
      exact eb_iret (pc := 24) dX10_stretch_24 (by decide) (by decide)
  · refine eb_iconst (pc := 12) (v := (-1)) dX10_stretch_12 (by decide) ?_
    exact eb_iret (pc := 13) dX10_stretch_13 (by decide) (by decide)

def f_X10_of (v0 : Nat) (v1 : Int32) (v2 : Int32) (s : eb_S) : Option (Int32 × eb_S) := eb_cl (eb_tg s v0 9 (f_X10_isStretch v0 v1 s)) fun b2 s1 => if (eb_b b2) = 0 then (some ((-1), s1)) else (eb_cl (f_X10_in ((v2).toInt64) 0 1 s1) fun b4 s3 => if (eb_b b4) = 0 then (some ((-1), s3)) else (if v2 = 0 then (eb_gR s3 [9] v0 7 fun r7 => eb_ai s3 r7 v1 fun x8 => some (x8, s3)) else (eb_gR s3 [9] v0 8 fun r5 => eb_ai s3 r5 v1 fun x6 => some (x6, s3))))
set_option maxRecDepth 100000 in
theorem ct_X10_of {G : eb_G} (hG : eb_ok G) (v0 : Nat) (v1 : Int32) (v2 : Int32) (s : eb_S) : eb_ct G yX10_of cX10_of 3 (some .int) 3 0 0 eb_ei [.ref v0, .int v1, .int v2] s (f_X10_of v0 v1 v2 s) := by
  refine eb_ct_i (by decide) (Nat.le_of_ble_eq_true rfl) (fun v hv => by simp at hv; rcases hv with rfl | rfl | rfl <;> simp [Value.category]) ?_
  show eb_go G yX10_of cX10_of 3 (some .int) (3) 0 0 .ireturn (fun r : Int32 => [.int r]) 0 [(0, .ref v0), (1, .int v1), (2, .int v2)] [] s 0 0 _
  unfold f_X10_of
  refine eb_aload_n (pc := 0) 0 dX10_of_0 rfl rfl ?_
  refine eb_iload_n (pc := 1) 1 dX10_of_1 rfl rfl ?_
  refine eb_callb (pc := 2) (eb_runV (pc := 2) (As := [.int v1]) (rest := []) (ci := 9) (q0 := (RX10, TX10, 43)) (q := (RX10, TX10, 43)) ew_692 ew_693 ew_694 ew_666 rfl rfl ed_X10_isStretch (ct_X10_isStretch hG _ _ _) rfl ew_695 ⟨by decide, by decide⟩ (by decide) (by decide) (Nat.le_of_ble_eq_true rfl) rfl dX10_of_2) (fun b2 s1 => ?_)
  refine eb_if_eq (pc := 5) (tgt := 40) dX10_of_5 (by decide) ?_ ?_
  · refine eb_iconst (pc := 40) (v := (-1)) dX10_of_40 (by decide) ?_
    exact eb_iret (pc := 41) dX10_of_41 (by decide) (by decide)
  · refine eb_iload_n (pc := 8) 2 dX10_of_8 rfl rfl ?_
    refine eb_i2l (pc := 9) dX10_of_9 ?_
    refine eb_lconst (pc := 10) (v := 0) dX10_of_10 (by decide) ?_
    refine eb_lconst (pc := 11) (v := 1) dX10_of_11 (by decide) ?_
    refine eb_callb (pc := 12) (eb_runS (pc := 12) (As := [.long ((v2).toInt64), .long 0, .long 1]) (rest := []) ew_664 ew_665 ew_666 rfl ed_X10_in (ct_X10_in hG _ _ _ _) ew_667 ⟨by decide, by decide⟩ (by decide) (by decide) (Nat.le_of_ble_eq_true rfl) rfl dX10_of_12) (fun b4 s3 => ?_)
    refine eb_if_eq (pc := 15) (tgt := 40) dX10_of_15 (by decide) ?_ ?_
    · refine eb_iconst (pc := 40) (v := (-1)) dX10_of_40 (by decide) ?_
      exact eb_iret (pc := 41) dX10_of_41 (by decide) (by decide)
    · refine eb_iload_n (pc := 18) 2 dX10_of_18 rfl rfl ?_
      refine eb_if_ne (pc := 19) (tgt := 31) dX10_of_19 (by decide) ?_ ?_
      · refine eb_aload_n (pc := 31) 0 dX10_of_31 rfl rfl ?_
        refine eb_getR (pc := 32) ef_RX10_28 dX10_of_32 (fun r5 => ?_)
        refine eb_iload_n (pc := 35) 1 dX10_of_35 rfl rfl ?_
        refine eb_iaload (pc := 36) dX10_of_36 (fun x6 => ?_)
        refine eb_goto (pc := 37) (tgt := 41) dX10_of_37 (by decide) ?_
        exact eb_iret (pc := 41) dX10_of_41 (by decide) (by decide)
      · refine eb_aload_n (pc := 22) 0 dX10_of_22 rfl rfl ?_
        refine eb_getR (pc := 23) ef_RX10_25 dX10_of_23 (fun r7 => ?_)
        refine eb_iload_n (pc := 26) 1 dX10_of_26 rfl rfl ?_
        refine eb_iaload (pc := 27) dX10_of_27 (fun x8 => ?_)
        refine eb_goto (pc := 28) (tgt := 41) dX10_of_28 (by decide) ?_
        exact eb_iret (pc := 41) dX10_of_41 (by decide) (by decide)

def f_X10_bag (v0 : Nat) (v1 : Int32) (v2 : Int32) (v3 : Int32) (s : eb_S) : Option (Int32 × eb_S) := eb_cl (f_X10_isBag ((v1).toInt64) s) fun b2 s1 => if (eb_b b2) = 0 then (some ((-1), s1)) else (eb_cl (f_X10_in ((v2).toInt64) 0 1 s1) fun b4 s3 => if (eb_b b4) = 0 then (some ((-1), s3)) else (eb_jn (fun (y5 : Int64) (s6 : eb_S) => eb_cl (f_X10_in ((v3).toInt64) 0 y5 s6) fun b9 s8 => if (eb_b b9) = 0 then (some ((-1), s8)) else (eb_jn (fun (y10 : Int32) (s11 : eb_S) => eb_gR s11 [9] v0 9 fun r13 => eb_jn (fun (y14 : Int32) (s15 : eb_S) => eb_wi s15 r13 v1 y14 fun s17 => eb_gR s17 [9] v0 10 fun r18 => if v2 = 0 then (eb_gR s17 [9] v0 10 fun r20 => eb_ai s17 r20 v1 fun x21 => eb_wi s17 r18 v1 x21 fun s22 => some (y10, s22)) else (eb_wi s17 r18 v1 v3 fun s19 => some (y10, s19))) fun j16 => if v2 = 0 then (j16 v3 s11) else (eb_gR s11 [9] v0 9 fun r23 => eb_ai s11 r23 v1 fun x24 => j16 x24 s11)) fun j12 => if v2 = 0 then (eb_gR s8 [9] v0 9 fun r27 => eb_ai s8 r27 v1 fun x28 => j12 x28 s8) else (eb_gR s8 [9] v0 10 fun r25 => eb_ai s8 r25 v1 fun x26 => j12 x26 s8))) fun j7 => if v2 = 0 then (j7 999 s3) else (j7 9999 s3)))
set_option maxRecDepth 100000 in
theorem ct_X10_bag {G : eb_G} (hG : eb_ok G) (v0 : Nat) (v1 : Int32) (v2 : Int32) (v3 : Int32) (s : eb_S) : eb_ct G yX10_bag cX10_bag 5 (some .int) 3 0 0 eb_ei [.ref v0, .int v1, .int v2, .int v3] s (f_X10_bag v0 v1 v2 v3 s) := by
  refine eb_ct_i (by decide) (Nat.le_of_ble_eq_true rfl) (fun v hv => by simp at hv; rcases hv with rfl | rfl | rfl | rfl <;> simp [Value.category]) ?_
  show eb_go G yX10_bag cX10_bag 5 (some .int) (3) 0 0 .ireturn (fun r : Int32 => [.int r]) 0 [(0, .ref v0), (1, .int v1), (2, .int v2), (3, .int v3)] [] s 0 0 _
  unfold f_X10_bag
  refine eb_iload_n (pc := 0) 1 dX10_bag_0 rfl rfl ?_
  refine eb_i2l (pc := 1) dX10_bag_1 ?_
  refine eb_callb (pc := 2) (eb_runS (pc := 2) (As := [.long ((v1).toInt64)]) (rest := []) ew_696 ew_697 ew_666 rfl ed_X10_isBag (ct_X10_isBag hG _ _) ew_698 ⟨by decide, by decide⟩ (by decide) (by decide) (Nat.le_of_ble_eq_true rfl) rfl dX10_bag_2) (fun b2 s1 => ?_)
  refine eb_if_eq (pc := 5) (tgt := 40) dX10_bag_5 (by decide) ?_ ?_
  · refine eb_iconst (pc := 40) (v := (-1)) dX10_bag_40 (by decide) ?_
    exact eb_iret (pc := 41) dX10_bag_41 (by decide) (by decide)
  · refine eb_iload_n (pc := 8) 2 dX10_bag_8 rfl rfl ?_
    refine eb_i2l (pc := 9) dX10_bag_9 ?_
    refine eb_lconst (pc := 10) (v := 0) dX10_bag_10 (by decide) ?_
    refine eb_lconst (pc := 11) (v := 1) dX10_bag_11 (by decide) ?_
    refine eb_callb (pc := 12) (eb_runS (pc := 12) (As := [.long ((v2).toInt64), .long 0, .long 1]) (rest := []) ew_664 ew_665 ew_666 rfl ed_X10_in (ct_X10_in hG _ _ _ _) ew_667 ⟨by decide, by decide⟩ (by decide) (by decide) (Nat.le_of_ble_eq_true rfl) rfl dX10_bag_12) (fun b4 s3 => ?_)
    refine eb_if_eq (pc := 15) (tgt := 40) dX10_bag_15 (by decide) ?_ ?_
    · refine eb_iconst (pc := 40) (v := (-1)) dX10_bag_40 (by decide) ?_
      exact eb_iret (pc := 41) dX10_bag_41 (by decide) (by decide)
    · refine eb_iload_n (pc := 18) 3 dX10_bag_18 rfl rfl ?_
      refine eb_i2l (pc := 19) dX10_bag_19 ?_
      refine eb_lconst (pc := 20) (v := 0) dX10_bag_20 (by decide) ?_
      refine eb_iload_n (pc := 21) 2 dX10_bag_21 rfl rfl ?_
      refine eb_join (fun j7 : Int64 → eb_S → Option (Int32 × eb_S) => ∀ (y5 : Int64) (s6 : eb_S), eb_go G yX10_bag cX10_bag 5 (some .int) (3) 0 0 .ireturn (fun r : Int32 => [.int r]) 34 [(0, .ref v0), (1, .int v1), (2, .int v2), (3, .int v3)] [.long y5, .long 0, .long ((v3).toInt64)] s6 0 0 (j7 y5 s6)) ?_ (fun j7 hj7 => ?_)
      · intro y5 s6
        refine eb_callb (pc := 34) (eb_runS (pc := 34) (As := [.long ((v3).toInt64), .long 0, .long y5]) (rest := []) ew_664 ew_665 ew_666 rfl ed_X10_in (ct_X10_in hG _ _ _ _) ew_667 ⟨by decide, by decide⟩ (by decide) (by decide) (Nat.le_of_ble_eq_true rfl) rfl dX10_bag_34) (fun b9 s8 => ?_)
        refine eb_if_ne (pc := 37) (tgt := 42) dX10_bag_37 (by decide) ?_ ?_
        · refine eb_iload_n (pc := 42) 2 dX10_bag_42 rfl rfl ?_
          refine eb_join (fun j12 : Int32 → eb_S → Option (Int32 × eb_S) => ∀ (y10 : Int32) (s11 : eb_S), eb_go G yX10_bag cX10_bag 5 (some .int) (3) 0 0 .ireturn (fun r : Int32 => [.int r]) 61 [(0, .ref v0), (1, .int v1), (2, .int v2), (3, .int v3)] [.int y10] s11 0 0 (j12 y10 s11)) ?_ (fun j12 hj12 => ?_)
          · intro y10 s11
            refine eb_istore (pc := 61) (L' := [(4, .int y10), (0, .ref v0), (1, .int v1), (2, .int v2), (3, .int v3)]) dX10_bag_61 (by decide) rfl ?_
            refine eb_aload_n (pc := 63) 1 dX10_bag_63 rfl rfl ?_
            refine eb_getR (pc := 64) ef_RX10_31 dX10_bag_64 (fun r13 => ?_)
            refine eb_iload_n (pc := 67) 2 dX10_bag_67 rfl rfl ?_
            refine eb_iload_n (pc := 68) 3 dX10_bag_68 rfl rfl ?_
            refine eb_join (fun j16 : Int32 → eb_S → Option (Int32 × eb_S) => ∀ (y14 : Int32) (s15 : eb_S), eb_go G yX10_bag cX10_bag 5 (some .int) (3) 0 0 .ireturn (fun r : Int32 => [.int r]) 82 [(0, .ref v0), (1, .int v1), (2, .int v2), (3, .int v3), (4, .int y10)] [.int y14, .int v1, .ref r13] s15 0 0 (j16 y14 s15)) ?_ (fun j16 hj16 => ?_)
            · intro y14 s15
              refine eb_iastore (pc := 82) dX10_bag_82 (fun s17 => ?_)
              refine eb_aload_n (pc := 83) 0 dX10_bag_83 rfl rfl ?_
              refine eb_getR (pc := 84) ef_RX10_34 dX10_bag_84 (fun r18 => ?_)
              refine eb_iload_n (pc := 87) 1 dX10_bag_87 rfl rfl ?_
              refine eb_iload_n (pc := 88) 2 dX10_bag_88 rfl rfl ?_
              refine eb_if_ne (pc := 89) (tgt := 101) dX10_bag_89 (by decide) ?_ ?_
              · refine eb_iload_n (pc := 101) 3 dX10_bag_101 rfl rfl ?_
                refine eb_iastore (pc := 102) dX10_bag_102 (fun s19 => ?_)
                refine eb_iload (pc := 103) 4 dX10_bag_103 rfl ?_
                exact eb_iret (pc := 105) dX10_bag_105 (by decide) (by decide)
              · refine eb_aload_n (pc := 92) 0 dX10_bag_92 rfl rfl ?_
                refine eb_getR (pc := 93) ef_RX10_34 dX10_bag_93 (fun r20 => ?_)
                refine eb_iload_n (pc := 96) 1 dX10_bag_96 rfl rfl ?_
                refine eb_iaload (pc := 97) dX10_bag_97 (fun x21 => ?_)
                refine eb_goto (pc := 98) (tgt := 102) dX10_bag_98 (by decide) ?_
                refine eb_iastore (pc := 102) dX10_bag_102 (fun s22 => ?_)
                refine eb_iload (pc := 103) 4 dX10_bag_103 rfl ?_
                exact eb_iret (pc := 105) dX10_bag_105 (by decide) (by decide)
            refine eb_if_ne (pc := 69) (tgt := 76) dX10_bag_69 (by decide) ?_ ?_
            · refine eb_aload_n (pc := 76) 1 dX10_bag_76 rfl rfl ?_
              refine eb_getR (pc := 77) ef_RX10_31 dX10_bag_77 (fun r23 => ?_)
              refine eb_iload_n (pc := 80) 2 dX10_bag_80 rfl rfl ?_
              refine eb_iaload (pc := 81) dX10_bag_81 (fun x24 => ?_)
              refine eb_sub [1, 2, 3, 4, 0] rfl ?_
              exact hj16 _ _
            · refine eb_iload_n (pc := 72) 4 dX10_bag_72 rfl rfl ?_
              refine eb_goto (pc := 73) (tgt := 82) dX10_bag_73 (by decide) ?_
              refine eb_sub [1, 2, 3, 4, 0] rfl ?_
              exact hj16 _ _
          refine eb_if_ne (pc := 43) (tgt := 55) dX10_bag_43 (by decide) ?_ ?_
          · refine eb_aload_n (pc := 55) 0 dX10_bag_55 rfl rfl ?_
            refine eb_getR (pc := 56) ef_RX10_34 dX10_bag_56 (fun r25 => ?_)
            refine eb_iload_n (pc := 59) 1 dX10_bag_59 rfl rfl ?_
            refine eb_iaload (pc := 60) dX10_bag_60 (fun x26 => ?_)
            exact hj12 _ _
          · refine eb_aload_n (pc := 46) 0 dX10_bag_46 rfl rfl ?_
            refine eb_getR (pc := 47) ef_RX10_31 dX10_bag_47 (fun r27 => ?_)
            refine eb_iload_n (pc := 50) 1 dX10_bag_50 rfl rfl ?_
            refine eb_iaload (pc := 51) dX10_bag_51 (fun x28 => ?_)
            refine eb_goto (pc := 52) (tgt := 61) dX10_bag_52 (by decide) ?_
            exact hj12 _ _
        · refine eb_iconst (pc := 40) (v := (-1)) dX10_bag_40 (by decide) ?_
          exact eb_iret (pc := 41) dX10_bag_41 (by decide) (by decide)
      refine eb_if_ne (pc := 22) (tgt := 31) dX10_bag_22 (by decide) ?_ ?_
      · refine eb_ldc2 (pc := 31) (v := 9999) dX10_bag_31 ew_699 ?_
        exact hj7 _ _
      · refine eb_ldc2 (pc := 25) (v := 999) dX10_bag_25 ew_700 ?_
        refine eb_goto (pc := 28) (tgt := 34) dX10_bag_28 (by decide) ?_
        exact hj7 _ _

def f_X10_arm (v0 : Nat) (v1 : Int32) (v2 : Int32) (s : eb_S) : Option (Int32 × eb_S) := eb_cl (f_X10_in ((v1).toInt64) 0 1 s) fun b2 s1 => if (eb_b b2) = 0 then (some ((-1), s1)) else (eb_cl (f_X10_in ((v2).toInt64) 1 9 s1) fun b4 s3 => if (eb_b b4) = 0 then (some ((-1), s3)) else (eb_gR s3 [9] v0 11 fun r5 => eb_ai s3 r5 v1 fun x6 => eb_gR s3 [9] v0 11 fun r7 => eb_wi s3 r7 v1 v2 fun s8 => some (x6, s8)))
set_option maxRecDepth 100000 in
theorem ct_X10_arm {G : eb_G} (hG : eb_ok G) (v0 : Nat) (v1 : Int32) (v2 : Int32) (s : eb_S) : eb_ct G yX10_arm cX10_arm 4 (some .int) 2 0 0 eb_ei [.ref v0, .int v1, .int v2] s (f_X10_arm v0 v1 v2 s) := by
  refine eb_ct_i (by decide) (Nat.le_of_ble_eq_true rfl) (fun v hv => by simp at hv; rcases hv with rfl | rfl | rfl <;> simp [Value.category]) ?_
  show eb_go G yX10_arm cX10_arm 4 (some .int) (2) 0 0 .ireturn (fun r : Int32 => [.int r]) 0 [(0, .ref v0), (1, .int v1), (2, .int v2)] [] s 0 0 _
  unfold f_X10_arm
  refine eb_iload_n (pc := 0) 1 dX10_arm_0 rfl rfl ?_
  refine eb_i2l (pc := 1) dX10_arm_1 ?_
  refine eb_lconst (pc := 2) (v := 0) dX10_arm_2 (by decide) ?_
  refine eb_lconst (pc := 3) (v := 1) dX10_arm_3 (by decide) ?_
  refine eb_callb (pc := 4) (eb_runS (pc := 4) (As := [.long ((v1).toInt64), .long 0, .long 1]) (rest := []) ew_664 ew_665 ew_666 rfl ed_X10_in (ct_X10_in hG _ _ _ _) ew_667 ⟨by decide, by decide⟩ (by decide) (by decide) (Nat.le_of_ble_eq_true rfl) rfl dX10_arm_4) (fun b2 s1 => ?_)
  refine eb_if_eq (pc := 7) (tgt := 22) dX10_arm_7 (by decide) ?_ ?_
  · refine eb_iconst (pc := 22) (v := (-1)) dX10_arm_22 (by decide) ?_
    exact eb_iret (pc := 23) dX10_arm_23 (by decide) (by decide)
  · refine eb_iload_n (pc := 10) 2 dX10_arm_10 rfl rfl ?_
    refine eb_i2l (pc := 11) dX10_arm_11 ?_
    refine eb_lconst (pc := 12) (v := 1) dX10_arm_12 (by decide) ?_
    refine eb_ldc2 (pc := 13) (v := 9) dX10_arm_13 ew_701 ?_
    refine eb_callb (pc := 16) (eb_runS (pc := 16) (As := [.long ((v2).toInt64), .long 1, .long 9]) (rest := []) ew_664 ew_665 ew_666 rfl ed_X10_in (ct_X10_in hG _ _ _ _) ew_667 ⟨by decide, by decide⟩ (by decide) (by decide) (Nat.le_of_ble_eq_true rfl) rfl dX10_arm_16) (fun b4 s3 => ?_)
    refine eb_if_ne (pc := 19) (tgt := 24) dX10_arm_19 (by decide) ?_ ?_
    · refine eb_aload_n (pc := 24) 0 dX10_arm_24 rfl rfl ?_
      refine eb_getR (pc := 25) ef_RX10_37 dX10_arm_25 (fun r5 => ?_)
      refine eb_iload_n (pc := 28) 1 dX10_arm_28 rfl rfl ?_
      refine eb_iaload (pc := 29) dX10_arm_29 (fun x6 => ?_)
      refine eb_istore_n (pc := 30) (L' := [(3, .int x6), (0, .ref v0), (1, .int v1), (2, .int v2)]) dX10_arm_30 rfl (by decide) rfl ?_
      refine eb_aload_n (pc := 31) 1 dX10_arm_31 rfl rfl ?_
      refine eb_getR (pc := 32) ef_RX10_37 dX10_arm_32 (fun r7 => ?_)
      refine eb_iload_n (pc := 35) 2 dX10_arm_35 rfl rfl ?_
      refine eb_iload_n (pc := 36) 3 dX10_arm_36 rfl rfl ?_
      refine eb_iastore (pc := 37) dX10_arm_37 (fun s8 => ?_)
      refine eb_iload_n (pc := 38) 0 dX10_arm_38 rfl rfl ?_
      exact eb_iret (pc := 39) dX10_arm_39 (by decide) (by decide)
    · refine eb_iconst (pc := 22) (v := (-1)) dX10_arm_22 (by decide) ?_
      exact eb_iret (pc := 23) dX10_arm_23 (by decide) (by decide)

def f_X10_rule (v0 : Nat) (v1 : Int32) (v2 : Int32) (v3 : Int32) (s : eb_S) : Option (Int32 × eb_S) := eb_cl (eb_tg s v0 9 (f_X10_isThing v0 ((v1).toInt64) s)) fun b2 s1 => if (eb_b b2) = 0 then (some ((-1), s1)) else (eb_cl (eb_tg s1 v0 9 (f_X10_isThing v0 ((v2).toInt64) s1)) fun b4 s3 => if (eb_b b4) = 0 then (some ((-1), s3)) else (if v1 = v2 then (some ((-1), s3)) else (eb_cl (f_X10_in ((v3).toInt64) 0 1 s3) fun b6 s5 => if (eb_b b6) = 0 then (some ((-1), s5)) else (eb_gI s5 [9] v0 12 fun x7 => if x7 = 8 then (some ((-3), s5)) else (eb_gR s5 [9] v0 13 fun r8 => eb_gI s5 [9] v0 12 fun x9 => eb_wi s5 r8 x9 v1 fun s10 => eb_gR s10 [9] v0 14 fun r11 => eb_gI s10 [9] v0 12 fun x12 => eb_wi s10 r11 x12 v2 fun s13 => eb_gR s13 [9] v0 15 fun r14 => eb_gI s13 [9] v0 12 fun x15 => eb_wi s13 r14 x15 v3 fun s16 => eb_gI s16 [9] v0 12 fun x17 => eb_pI s16 [9] v0 12 (x17 + 1) fun s18 => eb_gI s18 [9] v0 12 fun x19 => some (x19 - 1, s18))))))
set_option maxRecDepth 100000 in
theorem ct_X10_rule {G : eb_G} (hG : eb_ok G) (v0 : Nat) (v1 : Int32) (v2 : Int32) (v3 : Int32) (s : eb_S) : eb_ct G yX10_rule cX10_rule 4 (some .int) 3 0 0 eb_ei [.ref v0, .int v1, .int v2, .int v3] s (f_X10_rule v0 v1 v2 v3 s) := by
  refine eb_ct_i (by decide) (Nat.le_of_ble_eq_true rfl) (fun v hv => by simp at hv; rcases hv with rfl | rfl | rfl | rfl <;> simp [Value.category]) ?_
  show eb_go G yX10_rule cX10_rule 4 (some .int) (3) 0 0 .ireturn (fun r : Int32 => [.int r]) 0 [(0, .ref v0), (1, .int v1), (2, .int v2), (3, .int v3)] [] s 0 0 _
  unfold f_X10_rule
  refine eb_aload_n (pc := 0) 0 dX10_rule_0 rfl rfl ?_
  refine eb_iload_n (pc := 1) 1 dX10_rule_1 rfl rfl ?_
  refine eb_i2l (pc := 2) dX10_rule_2 ?_
  refine eb_callb (pc := 3) (eb_runV (pc := 3) (As := [.long ((v1).toInt64)]) (rest := []) (ci := 9) (q0 := (RX10, TX10, 43)) (q := (RX10, TX10, 43)) ew_677 ew_678 ew_679 ew_666 rfl rfl ed_X10_isThing (ct_X10_isThing hG _ _ _) rfl ew_680 ⟨by decide, by decide⟩ (by decide) (by decide) (Nat.le_of_ble_eq_true rfl) rfl dX10_rule_3) (fun b2 s1 => ?_)
  refine eb_if_eq (pc := 6) (tgt := 33) dX10_rule_6 (by decide) ?_ ?_
  · refine eb_iconst (pc := 33) (v := (-1)) dX10_rule_33 (by decide) ?_
    exact eb_iret (pc := 34) dX10_rule_34 (by decide) (by decide)
  · refine eb_aload_n (pc := 9) 0 dX10_rule_9 rfl rfl ?_
    refine eb_iload_n (pc := 10) 2 dX10_rule_10 rfl rfl ?_
    refine eb_i2l (pc := 11) dX10_rule_11 ?_
    refine eb_callb (pc := 12) (eb_runV (pc := 12) (As := [.long ((v2).toInt64)]) (rest := []) (ci := 9) (q0 := (RX10, TX10, 43)) (q := (RX10, TX10, 43)) ew_677 ew_678 ew_679 ew_666 rfl rfl ed_X10_isThing (ct_X10_isThing hG _ _ _) rfl ew_680 ⟨by decide, by decide⟩ (by decide) (by decide) (Nat.le_of_ble_eq_true rfl) rfl dX10_rule_12) (fun b4 s3 => ?_)
    refine eb_if_eq (pc := 15) (tgt := 33) dX10_rule_15 (by decide) ?_ ?_
    · refine eb_iconst (pc := 33) (v := (-1)) dX10_rule_33 (by decide) ?_
      exact eb_iret (pc := 34) dX10_rule_34 (by decide) (by decide)
    · refine eb_iload_n (pc := 18) 1 dX10_rule_18 rfl rfl ?_
      refine eb_iload_n (pc := 19) 2 dX10_rule_19 rfl rfl ?_
      refine eb_icmp_eq (pc := 20) (tgt := 33) dX10_rule_20 (by decide) ?_ ?_
      · refine eb_iconst (pc := 33) (v := (-1)) dX10_rule_33 (by decide) ?_
        exact eb_iret (pc := 34) dX10_rule_34 (by decide) (by decide)
      · refine eb_iload_n (pc := 23) 3 dX10_rule_23 rfl rfl ?_
        refine eb_i2l (pc := 24) dX10_rule_24 ?_
        refine eb_lconst (pc := 25) (v := 0) dX10_rule_25 (by decide) ?_
        refine eb_lconst (pc := 26) (v := 1) dX10_rule_26 (by decide) ?_
        refine eb_callb (pc := 27) (eb_runS (pc := 27) (As := [.long ((v3).toInt64), .long 0, .long 1]) (rest := []) ew_664 ew_665 ew_666 rfl ed_X10_in (ct_X10_in hG _ _ _ _) ew_667 ⟨by decide, by decide⟩ (by decide) (by decide) (Nat.le_of_ble_eq_true rfl) rfl dX10_rule_27) (fun b6 s5 => ?_)
        refine eb_if_ne (pc := 30) (tgt := 35) dX10_rule_30 (by decide) ?_ ?_
        · refine eb_aload_n (pc := 35) 0 dX10_rule_35 rfl rfl ?_
          refine eb_getI (pc := 36) ef_RX10_152 dX10_rule_36 (fun x7 => ?_)
          refine eb_bipush (pc := 39) (v := 8) dX10_rule_39 (by decide) ?_
          refine eb_icmp_ne (pc := 41) (tgt := 47) dX10_rule_41 (by decide) ?_ ?_
          · refine eb_aload_n (pc := 47) 0 dX10_rule_47 rfl rfl ?_
            refine eb_getR (pc := 48) ef_RX10_40 dX10_rule_48 (fun r8 => ?_)
            refine eb_aload_n (pc := 51) 0 dX10_rule_51 rfl rfl ?_
            refine eb_getI (pc := 52) ef_RX10_152 dX10_rule_52 (fun x9 => ?_)
            refine eb_iload_n (pc := 55) 1 dX10_rule_55 rfl rfl ?_
            refine eb_iastore (pc := 56) dX10_rule_56 (fun s10 => ?_)
            refine eb_aload_n (pc := 57) 0 dX10_rule_57 rfl rfl ?_
            refine eb_getR (pc := 58) ef_RX10_43 dX10_rule_58 (fun r11 => ?_)
            refine eb_aload_n (pc := 61) 0 dX10_rule_61 rfl rfl ?_
            refine eb_getI (pc := 62) ef_RX10_152 dX10_rule_62 (fun x12 => ?_)
            refine eb_iload_n (pc := 65) 2 dX10_rule_65 rfl rfl ?_
            refine eb_iastore (pc := 66) dX10_rule_66 (fun s13 => ?_)
            refine eb_aload_n (pc := 67) 0 dX10_rule_67 rfl rfl ?_
            refine eb_getR (pc := 68) ef_RX10_46 dX10_rule_68 (fun r14 => ?_)
            refine eb_aload_n (pc := 71) 0 dX10_rule_71 rfl rfl ?_
            refine eb_getI (pc := 72) ef_RX10_152 dX10_rule_72 (fun x15 => ?_)
            refine eb_iload_n (pc := 75) 3 dX10_rule_75 rfl rfl ?_
            refine eb_iastore (pc := 76) dX10_rule_76 (fun s16 => ?_)
            refine eb_aload_n (pc := 77) 0 dX10_rule_77 rfl rfl ?_
            refine eb_dup (pc := 78) dX10_rule_78 rfl ?_
            refine eb_getI (pc := 79) ef_RX10_152 dX10_rule_79 (fun x17 => ?_)
            refine eb_iconst (pc := 82) (v := 1) dX10_rule_82 (by decide) ?_
            refine eb_iadd (pc := 83) dX10_rule_83 ?_
            refine eb_putI (pc := 84) ef_RX10_152 eg_RX10_152 dX10_rule_84 (fun s18 => ?_)
            refine eb_aload_n (pc := 87) 0 dX10_rule_87 rfl rfl ?_
            refine eb_getI (pc := 88) ef_RX10_152 dX10_rule_88 (fun x19 => ?_)
            refine eb_iconst (pc := 91) (v := 1) dX10_rule_91 (by decide) ?_
            refine eb_isub (pc := 92) dX10_rule_92 ?_
            exact eb_iret (pc := 93) dX10_rule_93 (by decide) (by decide)
          · refine eb_bipush (pc := 44) (v := (-3)) dX10_rule_44 (by decide) ?_
            exact eb_iret (pc := 46) dX10_rule_46 (by decide) (by decide)
        · refine eb_iconst (pc := 33) (v := (-1)) dX10_rule_33 (by decide) ?_
          exact eb_iret (pc := 34) dX10_rule_34 (by decide) (by decide)

def f_X10_off (v0 : Nat) (s : eb_S) : Option (Int32 × eb_S) := eb_gI s [9] v0 12 fun x1 => if x1 = 0 then (some ((-4), s)) else (eb_gI s [9] v0 12 fun x2 => eb_pI s [9] v0 12 (x2 - 1) fun s3 => eb_gI s3 [9] v0 12 fun x4 => some (x4, s3))
set_option maxRecDepth 100000 in
theorem ct_X10_off {G : eb_G} (hG : eb_ok G) (v0 : Nat) (s : eb_S) : eb_ct G yX10_off cX10_off 1 (some .int) 1 0 0 eb_ei [.ref v0] s (f_X10_off v0 s) := by
  refine eb_ct_i (by decide) (Nat.le_of_ble_eq_true rfl) (fun v hv => by simp at hv; rcases hv with rfl <;> simp [Value.category]) ?_
  show eb_go G yX10_off cX10_off 1 (some .int) (1) 0 0 .ireturn (fun r : Int32 => [.int r]) 0 [(0, .ref v0)] [] s 0 0 _
  unfold f_X10_off
  refine eb_aload_n (pc := 0) 0 dX10_off_0 rfl rfl ?_
  refine eb_getI (pc := 1) ef_RX10_152 dX10_off_1 (fun x1 => ?_)
  refine eb_if_ne (pc := 4) (tgt := 10) dX10_off_4 (by decide) ?_ ?_
  · refine eb_aload_n (pc := 10) 0 dX10_off_10 rfl rfl ?_
    refine eb_dup (pc := 11) dX10_off_11 rfl ?_
    refine eb_getI (pc := 12) ef_RX10_152 dX10_off_12 (fun x2 => ?_)
    refine eb_iconst (pc := 15) (v := 1) dX10_off_15 (by decide) ?_
    refine eb_isub (pc := 16) dX10_off_16 ?_
    refine eb_putI (pc := 17) ef_RX10_152 eg_RX10_152 dX10_off_17 (fun s3 => ?_)
    refine eb_aload_n (pc := 20) 0 dX10_off_20 rfl rfl ?_
    refine eb_getI (pc := 21) ef_RX10_152 dX10_off_21 (fun x4 => ?_)
    exact eb_iret (pc := 24) dX10_off_24 (by decide) (by decide)
  · refine eb_bipush (pc := 7) (v := (-4)) dX10_off_7 (by decide) ?_
    exact eb_iret (pc := 9) dX10_off_9 (by decide) (by decide)

def f_X10_wayTo_L4 (n : Nat) (v0 : Nat) (v1 : Int32)  : Nat → Int32 → Int32 → eb_S → Option (Int32 × eb_S)
  | 0, _, _, _ => none
  | m + 1, v2, v3, s => if v1 ≤ v3 then (some (v2, s)) else (eb_gR s [9] v0 7 fun r1 => eb_ai s r1 v3 fun x2 => f_X10_wayTo_L4 n v0 v1 m (v2 + x2) (v3 + 1) s)
def f_X10_wayTo (n : Nat) (v0 : Nat) (v1 : Int32) (s : eb_S) : Option (Int32 × eb_S) := f_X10_wayTo_L4 n v0 v1  n 0 0 s
set_option maxRecDepth 100000 in
theorem gl_X10_wayTo_L4 {G : eb_G} (hG : eb_ok G) {n : Nat} {v0 : Nat} {v1 : Int32}   : ∀ (m : Nat) (v2 : Int32) (v3 : Int32) (s : eb_S), eb_go G yX10_wayTo cX10_wayTo 4 (some .int) (1) 0 0 .ireturn (fun r : Int32 => [.int r]) 4 [(0, .ref v0), (1, .int v1), (2, .int v2), (3, .int v3)] [] s 0 0 (f_X10_wayTo_L4 n v0 v1 m v2 v3 s) := by
  intro m
  induction m with
  | zero => intro v2 v3 s; exact eb_none
  | succ m ih =>
    intro v2 v3 s
    rw [f_X10_wayTo_L4.eq_2]
    refine eb_iload_n (pc := 4) 3 dX10_wayTo_4 rfl rfl ?_
    refine eb_iload_n (pc := 5) 1 dX10_wayTo_5 rfl rfl ?_
    refine eb_icmp_ge (pc := 6) (tgt := 24) dX10_wayTo_6 (by decide) ?_ ?_
    · refine eb_iload_n (pc := 24) 2 dX10_wayTo_24 rfl rfl ?_
      exact eb_iret (pc := 25) dX10_wayTo_25 (by decide) (by decide)
    · refine eb_iload_n (pc := 9) 2 dX10_wayTo_9 rfl rfl ?_
      refine eb_aload_n (pc := 10) 0 dX10_wayTo_10 rfl rfl ?_
      refine eb_getR (pc := 11) ef_RX10_25 dX10_wayTo_11 (fun r1 => ?_)
      refine eb_iload_n (pc := 14) 3 dX10_wayTo_14 rfl rfl ?_
      refine eb_iaload (pc := 15) dX10_wayTo_15 (fun x2 => ?_)
      refine eb_iadd (pc := 16) dX10_wayTo_16 ?_
      refine eb_istore_n (pc := 17) (L' := [(2, .int (v2 + x2)), (0, .ref v0), (1, .int v1), (3, .int v3)]) dX10_wayTo_17 rfl (by decide) rfl ?_
      refine eb_iinc (pc := 18) (v := v3 + 1) (L' := [(3, .int (v3 + 1)), (2, .int (v2 + x2)), (0, .ref v0), (1, .int v1)]) 3 dX10_wayTo_18 rfl rfl (by decide) rfl ?_
      refine eb_goto (pc := 21) (tgt := 4) dX10_wayTo_21 (by decide) ?_
      refine eb_sub [2, 3, 1, 0] rfl ?_
      exact ih _ _ _
set_option maxRecDepth 100000 in
theorem ct_X10_wayTo {G : eb_G} (hG : eb_ok G) (n : Nat) (v0 : Nat) (v1 : Int32) (s : eb_S) : eb_ct G yX10_wayTo cX10_wayTo 4 (some .int) 1 0 0 eb_ei [.ref v0, .int v1] s (f_X10_wayTo n v0 v1 s) := by
  refine eb_ct_i (by decide) (Nat.le_of_ble_eq_true rfl) (fun v hv => by simp at hv; rcases hv with rfl | rfl <;> simp [Value.category]) ?_
  show eb_go G yX10_wayTo cX10_wayTo 4 (some .int) (1) 0 0 .ireturn (fun r : Int32 => [.int r]) 0 [(0, .ref v0), (1, .int v1)] [] s 0 0 _
  unfold f_X10_wayTo
  refine eb_iconst (pc := 0) (v := 0) dX10_wayTo_0 (by decide) ?_
  refine eb_istore_n (pc := 1) (L' := [(2, .int 0), (0, .ref v0), (1, .int v1)]) dX10_wayTo_1 rfl (by decide) rfl ?_
  refine eb_iconst (pc := 2) (v := 0) dX10_wayTo_2 (by decide) ?_
  refine eb_istore_n (pc := 3) (L' := [(3, .int 0), (2, .int 0), (0, .ref v0), (1, .int v1)]) dX10_wayTo_3 rfl (by decide) rfl ?_
  refine eb_sub [2, 3, 1, 0] rfl ?_
  refine gl_X10_wayTo_L4 hG  n _ _ _

def f_X10_count (n : Nat) (v0 : Nat) (v1 : Int32) (s : eb_S) : Option (Int32 × eb_S) := eb_sw v1 0 [(eb_gI s [9] v0 0 fun x1 => some (x1, s)), (eb_gI s [9] v0 6 fun x2 => some (x2, s)), (eb_gI s [9] v0 12 fun x3 => some (x3, s)), (eb_gI s [9] v0 16 fun x4 => some (x4, s)), (eb_gI s [9] v0 6 fun x5 => eb_cl (eb_tg s v0 9 (f_X10_wayTo n v0 x5 s)) fun x7 s6 => some (x7, s6)), (eb_gR s [9] v0 11 fun r8 => eb_ai s r8 0 fun x9 => some (x9, s)), (eb_gR s [9] v0 11 fun r10 => eb_ai s r10 1 fun x11 => some (x11, s))] (some ((-1), s))
set_option maxRecDepth 100000 in
theorem ct_X10_count {G : eb_G} (hG : eb_ok G) (n : Nat) (v0 : Nat) (v1 : Int32) (s : eb_S) : eb_ct G yX10_count cX10_count 2 (some .int) 2 0 0 eb_ei [.ref v0, .int v1] s (f_X10_count n v0 v1 s) := by
  refine eb_ct_i (by decide) (Nat.le_of_ble_eq_true rfl) (fun v hv => by simp at hv; rcases hv with rfl | rfl <;> simp [Value.category]) ?_
  show eb_go G yX10_count cX10_count 2 (some .int) (2) 0 0 .ireturn (fun r : Int32 => [.int r]) 0 [(0, .ref v0), (1, .int v1)] [] s 0 0 _
  unfold f_X10_count
  refine eb_iload_n (pc := 0) 1 dX10_count_0 rfl rfl ?_
  refine eb_tswitch (pc := 1) (i0 := 0) (tgs := [44, 49, 54, 59, 64, 73, 80]) (td := 87) dX10_count_1 rfl rfl rfl rfl (by decide) ⟨?_, ?_, ?_, ?_, ?_, ?_, ?_, trivial⟩ ?_
  · refine eb_aload_n (pc := 44) 0 dX10_count_44 rfl rfl ?_
    refine eb_getI (pc := 45) ef_RX10_98 dX10_count_45 (fun x1 => ?_)
    exact eb_iret (pc := 48) dX10_count_48 (by decide) (by decide)
  · refine eb_aload_n (pc := 49) 0 dX10_count_49 rfl rfl ?_
    refine eb_getI (pc := 50) ef_RX10_106 dX10_count_50 (fun x2 => ?_)
    exact eb_iret (pc := 53) dX10_count_53 (by decide) (by decide)
  · refine eb_aload_n (pc := 54) 0 dX10_count_54 rfl rfl ?_
    refine eb_getI (pc := 55) ef_RX10_152 dX10_count_55 (fun x3 => ?_)
    exact eb_iret (pc := 58) dX10_count_58 (by decide) (by decide)
  · refine eb_aload_n (pc := 59) 0 dX10_count_59 rfl rfl ?_
    refine eb_getI (pc := 60) ef_RX10_119 dX10_count_60 (fun x4 => ?_)
    exact eb_iret (pc := 63) dX10_count_63 (by decide) (by decide)
  · refine eb_aload_n (pc := 64) 0 dX10_count_64 rfl rfl ?_
    refine eb_aload_n (pc := 65) 0 dX10_count_65 rfl rfl ?_
    refine eb_getI (pc := 66) ef_RX10_106 dX10_count_66 (fun x5 => ?_)
    refine eb_calli (pc := 69) (eb_runV (pc := 69) (As := [.int x5]) (rest := []) (ci := 9) (q0 := (RX10, TX10, 43)) (q := (RX10, TX10, 43)) ew_703 ew_704 ew_705 ew_666 rfl rfl ed_X10_wayTo (ct_X10_wayTo hG n _ _ _) rfl ew_706 ⟨by decide, by decide⟩ (by decide) (by decide) (Nat.le_of_ble_eq_true rfl) rfl dX10_count_69) (fun x7 s6 => ?_)
    exact eb_iret (pc := 72) dX10_count_72 (by decide) (by decide)
  · refine eb_aload_n (pc := 73) 0 dX10_count_73 rfl rfl ?_
    refine eb_getR (pc := 74) ef_RX10_37 dX10_count_74 (fun r8 => ?_)
    refine eb_iconst (pc := 77) (v := 0) dX10_count_77 (by decide) ?_
    refine eb_iaload (pc := 78) dX10_count_78 (fun x9 => ?_)
    exact eb_iret (pc := 79) dX10_count_79 (by decide) (by decide)
  · refine eb_aload_n (pc := 80) 0 dX10_count_80 rfl rfl ?_
    refine eb_getR (pc := 81) ef_RX10_37 dX10_count_81 (fun r10 => ?_)
    refine eb_iconst (pc := 84) (v := 1) dX10_count_84 (by decide) ?_
    refine eb_iaload (pc := 85) dX10_count_85 (fun x11 => ?_)
    exact eb_iret (pc := 86) dX10_count_86 (by decide) (by decide)
  · refine eb_iconst (pc := 87) (v := (-1)) dX10_count_87 (by decide) ?_
    exact eb_iret (pc := 88) dX10_count_88 (by decide) (by decide)

def f_X10_type (v0 : Nat) (v1 : Int32) (s : eb_S) : Option (Int32 × eb_S) := eb_cl (f_X10_in ((v1).toInt64) 32 126 s) fun b2 s1 => if (eb_b b2) = 0 then (some ((-1), s1)) else (eb_gI s1 [9] v0 20 fun x3 => if x3 = 80 then (some ((-3), s1)) else (eb_gR s1 [9] v0 19 fun r4 => eb_gI s1 [9] v0 20 fun x5 => eb_wi s1 r4 x5 v1 fun s6 => eb_gI s6 [9] v0 20 fun x7 => eb_pI s6 [9] v0 20 (x7 + 1) fun s8 => eb_gI s8 [9] v0 20 fun x9 => some (x9, s8)))
set_option maxRecDepth 100000 in
theorem ct_X10_type {G : eb_G} (hG : eb_ok G) (v0 : Nat) (v1 : Int32) (s : eb_S) : eb_ct G yX10_type cX10_type 2 (some .int) 2 0 0 eb_ei [.ref v0, .int v1] s (f_X10_type v0 v1 s) := by
  refine eb_ct_i (by decide) (Nat.le_of_ble_eq_true rfl) (fun v hv => by simp at hv; rcases hv with rfl | rfl <;> simp [Value.category]) ?_
  show eb_go G yX10_type cX10_type 2 (some .int) (2) 0 0 .ireturn (fun r : Int32 => [.int r]) 0 [(0, .ref v0), (1, .int v1)] [] s 0 0 _
  unfold f_X10_type
  refine eb_iload_n (pc := 0) 1 dX10_type_0 rfl rfl ?_
  refine eb_i2l (pc := 1) dX10_type_1 ?_
  refine eb_ldc2 (pc := 2) (v := 32) dX10_type_2 ew_709 ?_
  refine eb_ldc2 (pc := 5) (v := 126) dX10_type_5 ew_708 ?_
  refine eb_callb (pc := 8) (eb_runS (pc := 8) (As := [.long ((v1).toInt64), .long 32, .long 126]) (rest := []) ew_664 ew_665 ew_666 rfl ed_X10_in (ct_X10_in hG _ _ _ _) ew_667 ⟨by decide, by decide⟩ (by decide) (by decide) (Nat.le_of_ble_eq_true rfl) rfl dX10_type_8) (fun b2 s1 => ?_)
  refine eb_if_ne (pc := 11) (tgt := 16) dX10_type_11 (by decide) ?_ ?_
  · refine eb_aload_n (pc := 16) 0 dX10_type_16 rfl rfl ?_
    refine eb_getI (pc := 17) ef_RX10_163 dX10_type_17 (fun x3 => ?_)
    refine eb_bipush (pc := 20) (v := 80) dX10_type_20 (by decide) ?_
    refine eb_icmp_ne (pc := 22) (tgt := 28) dX10_type_22 (by decide) ?_ ?_
    · refine eb_aload_n (pc := 28) 0 dX10_type_28 rfl rfl ?_
      refine eb_getR (pc := 29) ef_RX10_55 dX10_type_29 (fun r4 => ?_)
      refine eb_aload_n (pc := 32) 0 dX10_type_32 rfl rfl ?_
      refine eb_getI (pc := 33) ef_RX10_163 dX10_type_33 (fun x5 => ?_)
      refine eb_iload_n (pc := 36) 1 dX10_type_36 rfl rfl ?_
      refine eb_iastore (pc := 37) dX10_type_37 (fun s6 => ?_)
      refine eb_aload_n (pc := 38) 0 dX10_type_38 rfl rfl ?_
      refine eb_dup (pc := 39) dX10_type_39 rfl ?_
      refine eb_getI (pc := 40) ef_RX10_163 dX10_type_40 (fun x7 => ?_)
      refine eb_iconst (pc := 43) (v := 1) dX10_type_43 (by decide) ?_
      refine eb_iadd (pc := 44) dX10_type_44 ?_
      refine eb_putI (pc := 45) ef_RX10_163 eg_RX10_163 dX10_type_45 (fun s8 => ?_)
      refine eb_aload_n (pc := 48) 0 dX10_type_48 rfl rfl ?_
      refine eb_getI (pc := 49) ef_RX10_163 dX10_type_49 (fun x9 => ?_)
      exact eb_iret (pc := 52) dX10_type_52 (by decide) (by decide)
    · refine eb_bipush (pc := 25) (v := (-3)) dX10_type_25 (by decide) ?_
      exact eb_iret (pc := 27) dX10_type_27 (by decide) (by decide)
  · refine eb_iconst (pc := 14) (v := (-1)) dX10_type_14 (by decide) ?_
    exact eb_iret (pc := 15) dX10_type_15 (by decide) (by decide)

def f_X10_here_L0 (n : Nat) (v0 : Nat) (K : eb_S → Option (Int32 × eb_S)) : Nat → eb_S → Option (Int32 × eb_S)
  | 0, _ => none
  | m + 1, s => eb_gI s [9] v0 21 fun x1 => eb_gI s [9] v0 20 fun x2 => if x2 ≤ x1 then (K s) else (eb_gR s [9] v0 19 fun r3 => eb_gI s [9] v0 21 fun x4 => eb_ai s r3 x4 fun x5 => if x5 = 32 then (eb_gI s [9] v0 21 fun x6 => eb_pI s [9] v0 21 (x6 + 1) fun s7 => f_X10_here_L0 n v0 K m s7) else (K s))
def f_X10_here (n : Nat) (v0 : Nat) (s : eb_S) : Option (Int32 × eb_S) := f_X10_here_L0 n v0 (fun  (s8 : eb_S) => eb_gI s8 [9] v0 21 fun x9 => eb_gI s8 [9] v0 20 fun x10 => if x10 ≤ x9 then (some (0, s8)) else (eb_gR s8 [9] v0 19 fun r11 => eb_gI s8 [9] v0 21 fun x12 => eb_ai s8 r11 x12 fun x13 => some (x13, s8))) n  s
set_option maxRecDepth 100000 in
theorem gl_X10_here_L0 {G : eb_G} (hG : eb_ok G) {n : Nat} {v0 : Nat} {K : eb_S → Option (Int32 × eb_S)} (hK : ∀  (s : eb_S), eb_go G yX10_here cX10_here 1 (some .int) (1) 0 0 .ireturn (fun r : Int32 => [.int r]) 38 [(0, .ref v0)] [] s 0 0 (K  s)) : ∀ (m : Nat)  (s : eb_S), eb_go G yX10_here cX10_here 1 (some .int) (1) 0 0 .ireturn (fun r : Int32 => [.int r]) 0 [(0, .ref v0)] [] s 0 0 (f_X10_here_L0 n v0 K m  s) := by
  intro m
  induction m with
  | zero => intro  s; exact eb_none
  | succ m ih =>
    intro  s
    rw [f_X10_here_L0.eq_2]
    refine eb_aload_n (pc := 0) 0 dX10_here_0 rfl rfl ?_
    refine eb_getI (pc := 1) ef_RX10_166 dX10_here_1 (fun x1 => ?_)
    refine eb_aload_n (pc := 4) 0 dX10_here_4 rfl rfl ?_
    refine eb_getI (pc := 5) ef_RX10_163 dX10_here_5 (fun x2 => ?_)
    refine eb_icmp_ge (pc := 8) (tgt := 38) dX10_here_8 (by decide) ?_ ?_
    · exact hK _
    · refine eb_aload_n (pc := 11) 0 dX10_here_11 rfl rfl ?_
      refine eb_getR (pc := 12) ef_RX10_55 dX10_here_12 (fun r3 => ?_)
      refine eb_aload_n (pc := 15) 0 dX10_here_15 rfl rfl ?_
      refine eb_getI (pc := 16) ef_RX10_166 dX10_here_16 (fun x4 => ?_)
      refine eb_iaload (pc := 19) dX10_here_19 (fun x5 => ?_)
      refine eb_bipush (pc := 20) (v := 32) dX10_here_20 (by decide) ?_
      refine eb_icmp_ne (pc := 22) (tgt := 38) dX10_here_22 (by decide) ?_ ?_
      · exact hK _
      · refine eb_aload_n (pc := 25) 0 dX10_here_25 rfl rfl ?_
        refine eb_dup (pc := 26) dX10_here_26 rfl ?_
        refine eb_getI (pc := 27) ef_RX10_166 dX10_here_27 (fun x6 => ?_)
        refine eb_iconst (pc := 30) (v := 1) dX10_here_30 (by decide) ?_
        refine eb_iadd (pc := 31) dX10_here_31 ?_
        refine eb_putI (pc := 32) ef_RX10_166 eg_RX10_166 dX10_here_32 (fun s7 => ?_)
        refine eb_goto (pc := 35) (tgt := 0) dX10_here_35 (by decide) ?_
        exact ih _
set_option maxRecDepth 100000 in
theorem ct_X10_here {G : eb_G} (hG : eb_ok G) (n : Nat) (v0 : Nat) (s : eb_S) : eb_ct G yX10_here cX10_here 1 (some .int) 1 0 0 eb_ei [.ref v0] s (f_X10_here n v0 s) := by
  refine eb_ct_i (by decide) (Nat.le_of_ble_eq_true rfl) (fun v hv => by simp at hv; rcases hv with rfl <;> simp [Value.category]) ?_
  show eb_go G yX10_here cX10_here 1 (some .int) (1) 0 0 .ireturn (fun r : Int32 => [.int r]) 0 [(0, .ref v0)] [] s 0 0 _
  unfold f_X10_here
  refine gl_X10_here_L0 hG (fun s8 => ?_) n _
  refine eb_aload_n (pc := 38) 0 dX10_here_38 rfl rfl ?_
  refine eb_getI (pc := 39) ef_RX10_166 dX10_here_39 (fun x9 => ?_)
  refine eb_aload_n (pc := 42) 0 dX10_here_42 rfl rfl ?_
  refine eb_getI (pc := 43) ef_RX10_163 dX10_here_43 (fun x10 => ?_)
  refine eb_icmp_ge (pc := 46) (tgt := 61) dX10_here_46 (by decide) ?_ ?_
  · refine eb_iconst (pc := 61) (v := 0) dX10_here_61 (by decide) ?_
    exact eb_iret (pc := 62) dX10_here_62 (by decide) (by decide)
  · refine eb_aload_n (pc := 49) 0 dX10_here_49 rfl rfl ?_
    refine eb_getR (pc := 50) ef_RX10_55 dX10_here_50 (fun r11 => ?_)
    refine eb_aload_n (pc := 53) 0 dX10_here_53 rfl rfl ?_
    refine eb_getI (pc := 54) ef_RX10_166 dX10_here_54 (fun x12 => ?_)
    refine eb_iaload (pc := 57) dX10_here_57 (fun x13 => ?_)
    refine eb_goto (pc := 58) (tgt := 62) dX10_here_58 (by decide) ?_
    exact eb_iret (pc := 62) dX10_here_62 (by decide) (by decide)

def f_X10_has (n : Nat) (v0 : Nat) (v1 : Int32) (s : eb_S) : Option (Bool × eb_S) := eb_gI s [9] v0 22 fun x1 => eb_jn (fun (y2 : Int32) (s3 : eb_S) => eb_gI s3 [9] v0 21 fun x5 => eb_jn (fun (y6 : Int32) (s7 : eb_S) => eb_pI s7 [9] v0 21 (x5 + y6) fun s9 => eb_zb y2 fun b => some (b, s9)) fun j8 => if y2 = 0 then (j8 0 s3) else (j8 1 s3)) fun j4 => eb_jn (fun (s10 : eb_S) => j4 0 s10) fun j11 => if x1 = 0 then (eb_cl (eb_tg s v0 9 (f_X10_here n v0 s)) fun x13 s12 => if x13 = v1 then (j4 1 s12) else (j11 s12)) else (j11 s)
set_option maxRecDepth 100000 in
theorem ct_X10_has {G : eb_G} (hG : eb_ok G) (n : Nat) (v0 : Nat) (v1 : Int32) (s : eb_S) : eb_ct G yX10_has cX10_has 3 (some .boolean) 2 0 0 eb_eb [.ref v0, .int v1] s (f_X10_has n v0 v1 s) := by
  refine eb_ct_b (by decide) (Nat.le_of_ble_eq_true rfl) (fun v hv => by simp at hv; rcases hv with rfl | rfl <;> simp [Value.category]) ?_
  show eb_go G yX10_has cX10_has 3 (some .boolean) (2) 0 0 .ireturn (fun r : Bool => [.int (eb_b r)]) 0 [(0, .ref v0), (1, .int v1)] [] s 0 0 _
  unfold f_X10_has
  refine eb_aload_n (pc := 0) 0 dX10_has_0 rfl rfl ?_
  refine eb_getI (pc := 1) ef_RX10_169 dX10_has_1 (fun x1 => ?_)
  refine eb_join (fun j4 : Int32 → eb_S → Option (Bool × eb_S) => ∀ (y2 : Int32) (s3 : eb_S), eb_go G yX10_has cX10_has 3 (some .boolean) (2) 0 0 .ireturn (fun r : Bool => [.int (eb_b r)]) 20 [(0, .ref v0)] [.int y2] s3 0 0 (j4 y2 s3)) ?_ (fun j4 hj4 => ?_)
  · intro y2 s3
    refine eb_istore_n (pc := 20) (L' := [(2, .int y2), (0, .ref v0)]) dX10_has_20 rfl (by decide) rfl ?_
    refine eb_aload_n (pc := 21) 1 dX10_has_21 rfl rfl ?_
    refine eb_dup (pc := 22) dX10_has_22 rfl ?_
    refine eb_getI (pc := 23) ef_RX10_166 dX10_has_23 (fun x5 => ?_)
    refine eb_iload_n (pc := 26) 0 dX10_has_26 rfl rfl ?_
    refine eb_join (fun j8 : Int32 → eb_S → Option (Bool × eb_S) => ∀ (y6 : Int32) (s7 : eb_S), eb_go G yX10_has cX10_has 3 (some .boolean) (2) 0 0 .ireturn (fun r : Bool => [.int (eb_b r)]) 35 [(2, .int y2)] [.int y6, .int x5, .ref v0] s7 0 0 (j8 y6 s7)) ?_ (fun j8 hj8 => ?_)
    · intro y6 s7
      refine eb_iadd (pc := 35) dX10_has_35 ?_
      refine eb_putI (pc := 36) ef_RX10_166 eg_RX10_166 dX10_has_36 (fun s9 => ?_)
      refine eb_iload_n (pc := 39) 0 dX10_has_39 rfl rfl ?_
      exact eb_zret (pc := 40) dX10_has_40 (by decide) (by decide)
    refine eb_if_eq (pc := 27) (tgt := 34) dX10_has_27 (by decide) ?_ ?_
    · refine eb_iconst (pc := 34) (v := 0) dX10_has_34 (by decide) ?_
      refine eb_sub [0] rfl ?_
      exact hj8 _ _
    · refine eb_iconst (pc := 30) (v := 1) dX10_has_30 (by decide) ?_
      refine eb_goto (pc := 31) (tgt := 35) dX10_has_31 (by decide) ?_
      refine eb_sub [0] rfl ?_
      exact hj8 _ _
  refine eb_join (fun j11 : eb_S → Option (Bool × eb_S) => ∀  (s10 : eb_S), eb_go G yX10_has cX10_has 3 (some .boolean) (2) 0 0 .ireturn (fun r : Bool => [.int (eb_b r)]) 19 [(0, .ref v0)] [] s10 0 0 (j11  s10)) ?_ (fun j11 hj11 => ?_)
  · intro  s10
    refine eb_iconst (pc := 19) (v := 0) dX10_has_19 (by decide) ?_
    exact hj4 _ _
  refine eb_if_ne (pc := 4) (tgt := 19) dX10_has_4 (by decide) ?_ ?_
  · refine eb_sub [0] rfl ?_
    exact hj11 _
  · refine eb_aload_n (pc := 7) 0 dX10_has_7 rfl rfl ?_
    refine eb_calli (pc := 8) (eb_runV (pc := 8) (As := []) (rest := []) (ci := 9) (q0 := (RX10, TX10, 43)) (q := (RX10, TX10, 43)) ew_712 ew_713 ew_714 ew_666 rfl rfl ed_X10_here (ct_X10_here hG n _ _) rfl ew_715 ⟨by decide, by decide⟩ (by decide) (by decide) (Nat.le_of_ble_eq_true rfl) rfl dX10_has_8) (fun x13 s12 => ?_)
    refine eb_iload_n (pc := 11) 1 dX10_has_11 rfl rfl ?_
    refine eb_icmp_ne (pc := 12) (tgt := 19) dX10_has_12 (by decide) ?_ ?_
    · refine eb_sub [0] rfl ?_
      exact hj11 _
    · refine eb_iconst (pc := 15) (v := 1) dX10_has_15 (by decide) ?_
      refine eb_goto (pc := 16) (tgt := 20) dX10_has_16 (by decide) ?_
      refine eb_sub [0] rfl ?_
      exact hj4 _ _

def f_X10_number_L38 (n : Nat) (v0 : Nat) (v1 : Int32) (K : Int32 → eb_S → Option (Int32 × eb_S)) : Nat → Int32 → eb_S → Option (Int32 × eb_S)
  | 0, _, _ => none
  | m + 1, v2, s => eb_gI s [9] v0 21 fun x10 => eb_gI s [9] v0 20 fun x11 => if x11 ≤ x10 then (K v2 s) else (eb_gR s [9] v0 19 fun r12 => eb_gI s [9] v0 21 fun x13 => eb_ai s r12 x13 fun x14 => eb_cl (f_X10_in ((x14).toInt64) 48 57 s) fun b16 s15 => if (eb_b b16) = 0 then (K v2 s15) else (eb_jn (fun (y17 : Int32) (s18 : eb_S) => eb_gI s18 [9] v0 21 fun x20 => eb_pI s18 [9] v0 21 (x20 + 1) fun s21 => f_X10_number_L38 n v0 v1 K m y17 s21) fun j19 => if v2 ≤ 999 then (eb_gR s15 [9] v0 19 fun r22 => eb_gI s15 [9] v0 21 fun x23 => eb_ai s15 r22 x23 fun x24 => j19 ((((10 : Int32) * v2) + x24) - 48) s15) else (j19 v2 s15)))
def f_X10_number (n : Nat) (v0 : Nat) (s : eb_S) : Option (Int32 × eb_S) := eb_gI s [9] v0 22 fun x1 => eb_jn (fun (s2 : eb_S) => eb_pZ s2 [9] v0 22 1 fun s4 => some (0, s4)) fun j3 => if x1 = 0 then (eb_cl (eb_tg s v0 9 (f_X10_here n v0 s)) fun x6 s5 => eb_cl (f_X10_in ((x6).toInt64) 48 57 s5) fun b8 s7 => if (eb_b b8) = 0 then (j3 s7) else (eb_gI s7 [9] v0 21 fun x9 => f_X10_number_L38 n v0 x9 (fun (w25 : Int32) (s26 : eb_S) => eb_gI s26 [9] v0 21 fun x27 => eb_jn (fun (y28 : Int32) (s29 : eb_S) => eb_pZ s29 [9] v0 22 y28 fun s31 => eb_gI s31 [9] v0 22 fun x32 => eb_jn (fun (y33 : Int32) (s34 : eb_S) => eb_pI s34 [9] v0 21 y33 fun s36 => some (w25, s36)) fun j35 => if x32 = 0 then (eb_gI s31 [9] v0 21 fun x37 => j35 x37 s31) else (j35 x9 s31)) fun j30 => eb_jn (fun (s38 : eb_S) => j30 1 s38) fun j39 => if 2 < (x27 - x9) then (j39 s26) else (if w25 = 0 then (j39 s26) else (j30 0 s26))) n 0 s7)) else (j3 s)
set_option maxRecDepth 100000 in
theorem gl_X10_number_L38 {G : eb_G} (hG : eb_ok G) {n : Nat} {v0 : Nat} {v1 : Int32} {K : Int32 → eb_S → Option (Int32 × eb_S)} (hK : ∀ (v2 : Int32) (s : eb_S), eb_go G yX10_number cX10_number 3 (some .int) (2) 0 0 .ireturn (fun r : Int32 => [.int r]) 113 [(0, .ref v0), (1, .int v1), (2, .int v2)] [] s 0 0 (K v2 s)) : ∀ (m : Nat) (v2 : Int32) (s : eb_S), eb_go G yX10_number cX10_number 3 (some .int) (2) 0 0 .ireturn (fun r : Int32 => [.int r]) 38 [(0, .ref v0), (1, .int v1), (2, .int v2)] [] s 0 0 (f_X10_number_L38 n v0 v1 K m v2 s) := by
  intro m
  induction m with
  | zero => intro v2 s; exact eb_none
  | succ m ih =>
    intro v2 s
    rw [f_X10_number_L38.eq_2]
    refine eb_aload_n (pc := 38) 0 dX10_number_38 rfl rfl ?_
    refine eb_getI (pc := 39) ef_RX10_166 dX10_number_39 (fun x10 => ?_)
    refine eb_aload_n (pc := 42) 0 dX10_number_42 rfl rfl ?_
    refine eb_getI (pc := 43) ef_RX10_163 dX10_number_43 (fun x11 => ?_)
    refine eb_icmp_ge (pc := 46) (tgt := 113) dX10_number_46 (by decide) ?_ ?_
    · exact hK _ _
    · refine eb_aload_n (pc := 49) 0 dX10_number_49 rfl rfl ?_
      refine eb_getR (pc := 50) ef_RX10_55 dX10_number_50 (fun r12 => ?_)
      refine eb_aload_n (pc := 53) 0 dX10_number_53 rfl rfl ?_
      refine eb_getI (pc := 54) ef_RX10_166 dX10_number_54 (fun x13 => ?_)
      refine eb_iaload (pc := 57) dX10_number_57 (fun x14 => ?_)
      refine eb_i2l (pc := 58) dX10_number_58 ?_
      refine eb_ldc2 (pc := 59) (v := 48) dX10_number_59 ew_717 ?_
      refine eb_ldc2 (pc := 62) (v := 57) dX10_number_62 ew_716 ?_
      refine eb_callb (pc := 65) (eb_runS (pc := 65) (As := [.long ((x14).toInt64), .long 48, .long 57]) (rest := []) ew_664 ew_665 ew_666 rfl ed_X10_in (ct_X10_in hG _ _ _ _) ew_667 ⟨by decide, by decide⟩ (by decide) (by decide) (Nat.le_of_ble_eq_true rfl) rfl dX10_number_65) (fun b16 s15 => ?_)
      refine eb_if_eq (pc := 68) (tgt := 113) dX10_number_68 (by decide) ?_ ?_
      · exact hK _ _
      · refine eb_iload_n (pc := 71) 2 dX10_number_71 rfl rfl ?_
        refine eb_sipush (pc := 72) (v := 999) dX10_number_72 (by decide) ?_
        refine eb_join (fun j19 : Int32 → eb_S → Option (Int32 × eb_S) => ∀ (y17 : Int32) (s18 : eb_S), eb_go G yX10_number cX10_number 3 (some .int) (2) 0 0 .ireturn (fun r : Int32 => [.int r]) 99 [(0, .ref v0), (1, .int v1)] [.int y17] s18 0 0 (j19 y17 s18)) ?_ (fun j19 hj19 => ?_)
        · intro y17 s18
          refine eb_istore_n (pc := 99) (L' := [(2, .int y17), (0, .ref v0), (1, .int v1)]) dX10_number_99 rfl (by decide) rfl ?_
          refine eb_aload_n (pc := 100) 1 dX10_number_100 rfl rfl ?_
          refine eb_dup (pc := 101) dX10_number_101 rfl ?_
          refine eb_getI (pc := 102) ef_RX10_166 dX10_number_102 (fun x20 => ?_)
          refine eb_iconst (pc := 105) (v := 1) dX10_number_105 (by decide) ?_
          refine eb_iadd (pc := 106) dX10_number_106 ?_
          refine eb_putI (pc := 107) ef_RX10_166 eg_RX10_166 dX10_number_107 (fun s21 => ?_)
          refine eb_goto (pc := 110) (tgt := 38) dX10_number_110 (by decide) ?_
          refine eb_sub [1, 2, 0] rfl ?_
          exact ih _ _
        refine eb_icmp_le (pc := 75) (tgt := 82) dX10_number_75 (by decide) ?_ ?_
        · refine eb_bipush (pc := 82) (v := 10) dX10_number_82 (by decide) ?_
          refine eb_iload_n (pc := 84) 2 dX10_number_84 rfl rfl ?_
          refine eb_imul (pc := 85) dX10_number_85 ?_
          refine eb_aload_n (pc := 86) 0 dX10_number_86 rfl rfl ?_
          refine eb_getR (pc := 87) ef_RX10_55 dX10_number_87 (fun r22 => ?_)
          refine eb_aload_n (pc := 90) 0 dX10_number_90 rfl rfl ?_
          refine eb_getI (pc := 91) ef_RX10_166 dX10_number_91 (fun x23 => ?_)
          refine eb_iaload (pc := 94) dX10_number_94 (fun x24 => ?_)
          refine eb_iadd (pc := 95) dX10_number_95 ?_
          refine eb_bipush (pc := 96) (v := 48) dX10_number_96 (by decide) ?_
          refine eb_isub (pc := 98) dX10_number_98 ?_
          refine eb_sub [0, 1] rfl ?_
          exact hj19 _ _
        · refine eb_iload_n (pc := 78) 2 dX10_number_78 rfl rfl ?_
          refine eb_goto (pc := 79) (tgt := 99) dX10_number_79 (by decide) ?_
          refine eb_sub [0, 1] rfl ?_
          exact hj19 _ _
set_option maxRecDepth 100000 in
theorem ct_X10_number {G : eb_G} (hG : eb_ok G) (n : Nat) (v0 : Nat) (s : eb_S) : eb_ct G yX10_number cX10_number 3 (some .int) 2 0 0 eb_ei [.ref v0] s (f_X10_number n v0 s) := by
  refine eb_ct_i (by decide) (Nat.le_of_ble_eq_true rfl) (fun v hv => by simp at hv; rcases hv with rfl <;> simp [Value.category]) ?_
  show eb_go G yX10_number cX10_number 3 (some .int) (2) 0 0 .ireturn (fun r : Int32 => [.int r]) 0 [(0, .ref v0)] [] s 0 0 _
  unfold f_X10_number
  refine eb_aload_n (pc := 0) 0 dX10_number_0 rfl rfl ?_
  refine eb_getI (pc := 1) ef_RX10_169 dX10_number_1 (fun x1 => ?_)
  refine eb_join (fun j3 : eb_S → Option (Int32 × eb_S) => ∀  (s2 : eb_S), eb_go G yX10_number cX10_number 3 (some .int) (2) 0 0 .ireturn (fun r : Int32 => [.int r]) 24 [(0, .ref v0)] [] s2 0 0 (j3  s2)) ?_ (fun j3 hj3 => ?_)
  · intro  s2
    refine eb_aload_n (pc := 24) 0 dX10_number_24 rfl rfl ?_
    refine eb_iconst (pc := 25) (v := 1) dX10_number_25 (by decide) ?_
    refine eb_putZ (pc := 26) ef_RX10_169 eg_RX10_169 dX10_number_26 (fun s4 => ?_)
    refine eb_iconst (pc := 29) (v := 0) dX10_number_29 (by decide) ?_
    exact eb_iret (pc := 30) dX10_number_30 (by decide) (by decide)
  refine eb_if_ne (pc := 4) (tgt := 24) dX10_number_4 (by decide) ?_ ?_
  · exact hj3 _
  · refine eb_aload_n (pc := 7) 0 dX10_number_7 rfl rfl ?_
    refine eb_calli (pc := 8) (eb_runV (pc := 8) (As := []) (rest := []) (ci := 9) (q0 := (RX10, TX10, 43)) (q := (RX10, TX10, 43)) ew_712 ew_713 ew_714 ew_666 rfl rfl ed_X10_here (ct_X10_here hG n _ _) rfl ew_715 ⟨by decide, by decide⟩ (by decide) (by decide) (Nat.le_of_ble_eq_true rfl) rfl dX10_number_8) (fun x6 s5 => ?_)
    refine eb_i2l (pc := 11) dX10_number_11 ?_
    refine eb_ldc2 (pc := 12) (v := 48) dX10_number_12 ew_717 ?_
    refine eb_ldc2 (pc := 15) (v := 57) dX10_number_15 ew_716 ?_
    refine eb_callb (pc := 18) (eb_runS (pc := 18) (As := [.long ((x6).toInt64), .long 48, .long 57]) (rest := []) ew_664 ew_665 ew_666 rfl ed_X10_in (ct_X10_in hG _ _ _ _) ew_667 ⟨by decide, by decide⟩ (by decide) (by decide) (Nat.le_of_ble_eq_true rfl) rfl dX10_number_18) (fun b8 s7 => ?_)
    refine eb_if_ne (pc := 21) (tgt := 31) dX10_number_21 (by decide) ?_ ?_
    · refine eb_aload_n (pc := 31) 0 dX10_number_31 rfl rfl ?_
      refine eb_getI (pc := 32) ef_RX10_166 dX10_number_32 (fun x9 => ?_)
      refine eb_istore_n (pc := 35) (L' := [(1, .int x9), (0, .ref v0)]) dX10_number_35 rfl (by decide) rfl ?_
      refine eb_iconst (pc := 36) (v := 0) dX10_number_36 (by decide) ?_
      refine eb_istore_n (pc := 37) (L' := [(2, .int 0), (1, .int x9), (0, .ref v0)]) dX10_number_37 rfl (by decide) rfl ?_
      refine eb_sub [2, 1, 0] rfl ?_
      refine gl_X10_number_L38 hG (fun w25 s26 => ?_) n _ _
      refine eb_aload_n (pc := 113) 0 dX10_number_113 rfl rfl ?_
      refine eb_aload_n (pc := 114) 0 dX10_number_114 rfl rfl ?_
      refine eb_getI (pc := 115) ef_RX10_166 dX10_number_115 (fun x27 => ?_)
      refine eb_iload_n (pc := 118) 1 dX10_number_118 rfl rfl ?_
      refine eb_isub (pc := 119) dX10_number_119 ?_
      refine eb_iconst (pc := 120) (v := 2) dX10_number_120 (by decide) ?_
      refine eb_join (fun j30 : Int32 → eb_S → Option (Int32 × eb_S) => ∀ (y28 : Int32) (s29 : eb_S), eb_go G yX10_number cX10_number 3 (some .int) (2) 0 0 .ireturn (fun r : Int32 => [.int r]) 133 [(0, .ref v0), (1, .int x9), (2, .int w25)] [.int y28, .ref v0] s29 0 0 (j30 y28 s29)) ?_ (fun j30 hj30 => ?_)
      · intro y28 s29
        refine eb_putZ (pc := 133) ef_RX10_169 eg_RX10_169 dX10_number_133 (fun s31 => ?_)
        refine eb_aload_n (pc := 136) 0 dX10_number_136 rfl rfl ?_
        refine eb_aload_n (pc := 137) 0 dX10_number_137 rfl rfl ?_
        refine eb_getI (pc := 138) ef_RX10_169 dX10_number_138 (fun x32 => ?_)
        refine eb_join (fun j35 : Int32 → eb_S → Option (Int32 × eb_S) => ∀ (y33 : Int32) (s34 : eb_S), eb_go G yX10_number cX10_number 3 (some .int) (2) 0 0 .ireturn (fun r : Int32 => [.int r]) 152 [(2, .int w25)] [.int y33, .ref v0] s34 0 0 (j35 y33 s34)) ?_ (fun j35 hj35 => ?_)
        · intro y33 s34
          refine eb_putI (pc := 152) ef_RX10_166 eg_RX10_166 dX10_number_152 (fun s36 => ?_)
          refine eb_iload_n (pc := 155) 0 dX10_number_155 rfl rfl ?_
          exact eb_iret (pc := 156) dX10_number_156 (by decide) (by decide)
        refine eb_if_eq (pc := 141) (tgt := 148) dX10_number_141 (by decide) ?_ ?_
        · refine eb_aload_n (pc := 148) 0 dX10_number_148 rfl rfl ?_
          refine eb_getI (pc := 149) ef_RX10_166 dX10_number_149 (fun x37 => ?_)
          refine eb_sub [2] rfl ?_
          exact hj35 _ _
        · refine eb_iload_n (pc := 144) 1 dX10_number_144 rfl rfl ?_
          refine eb_goto (pc := 145) (tgt := 152) dX10_number_145 (by decide) ?_
          refine eb_sub [2] rfl ?_
          exact hj35 _ _
      refine eb_join (fun j39 : eb_S → Option (Int32 × eb_S) => ∀  (s38 : eb_S), eb_go G yX10_number cX10_number 3 (some .int) (2) 0 0 .ireturn (fun r : Int32 => [.int r]) 128 [(0, .ref v0), (1, .int x9), (2, .int w25)] [.ref v0] s38 0 0 (j39  s38)) ?_ (fun j39 hj39 => ?_)
      · intro  s38
        refine eb_iconst (pc := 128) (v := 1) dX10_number_128 (by decide) ?_
        refine eb_goto (pc := 129) (tgt := 133) dX10_number_129 (by decide) ?_
        exact hj30 _ _
      refine eb_icmp_gt (pc := 121) (tgt := 128) dX10_number_121 (by decide) ?_ ?_
      · exact hj39 _
      · refine eb_iload_n (pc := 124) 2 dX10_number_124 rfl rfl ?_
        refine eb_if_ne (pc := 125) (tgt := 132) dX10_number_125 (by decide) ?_ ?_
        · refine eb_iconst (pc := 132) (v := 0) dX10_number_132 (by decide) ?_
          exact hj30 _ _
        · exact hj39 _
    · exact hj3 _

def f_X10_readThing (n : Nat) (v0 : Nat) (s : eb_S) : Option (Unit × eb_S) := eb_gI s [9] v0 22 fun x1 => eb_jn (fun (y2 : Int32) (s3 : eb_S) => eb_jn (fun (y5 : Int32) (s6 : eb_S) => eb_gI s6 [9] v0 22 fun x8 => eb_jn (fun (y9 : Int32) (s10 : eb_S) => eb_pZ s10 [9] v0 22 y9 fun s12 => eb_gI s12 [9] v0 21 fun x13 => eb_gI s12 [9] v0 22 fun x14 => eb_jn (fun (y15 : Int32) (s16 : eb_S) => eb_pI s16 [9] v0 21 (x13 + y15) fun s18 => eb_gR s18 [9] v0 25 fun r19 => eb_gI s18 [9] v0 23 fun x20 => eb_wi s18 r19 ((3 : Int32) * x20) y5 fun s21 => eb_gR s21 [9] v0 25 fun r22 => eb_gI s21 [9] v0 23 fun x23 => eb_cl (eb_tg s21 v0 9 (f_X10_number n v0 s21)) fun x25 s24 => eb_wi s24 r22 (((3 : Int32) * x23) + 1) x25 fun s26 => eb_gR s26 [9] v0 25 fun r27 => eb_gI s26 [9] v0 23 fun x28 => eb_wi s26 r27 (((3 : Int32) * x28) + 2) 5 fun s29 => eb_cl (eb_tg s29 v0 9 (f_X10_has n v0 64 s29)) fun b31 s30 => eb_jn (fun (s32 : eb_S) => eb_gI s32 [9] v0 23 fun x34 => eb_pI s32 [9] v0 23 (x34 + 1) fun s35 => some ((), s35)) fun j33 => if (eb_b b31) = 0 then (j33 s30) else (eb_cl (eb_tg s30 v0 9 (f_X10_here n v0 s30)) fun x37 s36 => eb_cl (f_X10_in ((x37).toInt64) 48 53 s36) fun b39 s38 => eb_jn (fun (y40 : Int32) (s41 : eb_S) => eb_pZ s41 [9] v0 22 y40 fun s43 => eb_gR s43 [9] v0 25 fun r44 => eb_gI s43 [9] v0 23 fun x45 => eb_cl (eb_tg s43 v0 9 (f_X10_here n v0 s43)) fun x47 s46 => eb_wi s46 r44 (((3 : Int32) * x45) + 2) (x47 - 48) fun s48 => eb_gI s48 [9] v0 21 fun x49 => eb_gI s48 [9] v0 22 fun x50 => eb_jn (fun (y51 : Int32) (s52 : eb_S) => eb_pI s52 [9] v0 21 (x49 + y51) fun s54 => j33 s54) fun j53 => if x50 = 0 then (j53 1 s48) else (j53 0 s48)) fun j42 => if (eb_b b39) = 0 then (j42 1 s38) else (j42 0 s38))) fun j17 => if x14 = 0 then (j17 1 s12) else (j17 0 s12)) fun j11 => eb_jn (fun (s55 : eb_S) => j11 1 s55) fun j56 => if x8 = 0 then (if 0 ≤ y5 then (j11 0 s6) else (j56 s6)) else (j56 s6)) fun j7 => if y2 = 112 then (j7 0 s3) else (if y2 = 105 then (j7 1 s3) else (if y2 = 115 then (j7 2 s3) else (if y2 = 102 then (j7 3 s3) else (j7 ((-4)) s3))))) fun j4 => if x1 = 0 then (eb_cl (eb_tg s v0 9 (f_X10_here n v0 s)) fun x58 s57 => j4 x58 s57) else (j4 0 s)
set_option maxRecDepth 100000 in
theorem ct_X10_readThing {G : eb_G} (hG : eb_ok G) (n : Nat) (v0 : Nat) (s : eb_S) : eb_ct G yX10_readThing cX10_readThing 3 none 3 0 0 eb_ev [.ref v0] s (f_X10_readThing n v0 s) := by
  refine eb_ct_v (by decide) (Nat.le_of_ble_eq_true rfl) (fun v hv => by simp at hv; rcases hv with rfl <;> simp [Value.category]) ?_
  show eb_go G yX10_readThing cX10_readThing 3 none (3) 0 0 .return_ (fun _ : Unit => []) 0 [(0, .ref v0)] [] s 0 0 _
  unfold f_X10_readThing
  refine eb_aload_n (pc := 0) 0 dX10_readThing_0 rfl rfl ?_
  refine eb_getI (pc := 1) ef_RX10_169 dX10_readThing_1 (fun x1 => ?_)
  refine eb_join (fun j4 : Int32 → eb_S → Option (Unit × eb_S) => ∀ (y2 : Int32) (s3 : eb_S), eb_go G yX10_readThing cX10_readThing 3 none (3) 0 0 .return_ (fun _ : Unit => []) 15 [(0, .ref v0)] [.int y2] s3 0 0 (j4 y2 s3)) ?_ (fun j4 hj4 => ?_)
  · intro y2 s3
    refine eb_istore_n (pc := 15) (L' := [(1, .int y2), (0, .ref v0)]) dX10_readThing_15 rfl (by decide) rfl ?_
    refine eb_iload_n (pc := 16) 0 dX10_readThing_16 rfl rfl ?_
    refine eb_bipush (pc := 17) (v := 112) dX10_readThing_17 (by decide) ?_
    refine eb_join (fun j7 : Int32 → eb_S → Option (Unit × eb_S) => ∀ (y5 : Int32) (s6 : eb_S), eb_go G yX10_readThing cX10_readThing 3 none (3) 0 0 .return_ (fun _ : Unit => []) 58 [(0, .ref v0)] [.int y5] s6 0 0 (j7 y5 s6)) ?_ (fun j7 hj7 => ?_)
    · intro y5 s6
      refine eb_istore_n (pc := 58) (L' := [(2, .int y5), (0, .ref v0)]) dX10_readThing_58 rfl (by decide) rfl ?_
      refine eb_aload_n (pc := 59) 1 dX10_readThing_59 rfl rfl ?_
      refine eb_aload_n (pc := 60) 1 dX10_readThing_60 rfl rfl ?_
      refine eb_getI (pc := 61) ef_RX10_169 dX10_readThing_61 (fun x8 => ?_)
      refine eb_join (fun j11 : Int32 → eb_S → Option (Unit × eb_S) => ∀ (y9 : Int32) (s10 : eb_S), eb_go G yX10_readThing cX10_readThing 3 none (3) 0 0 .return_ (fun _ : Unit => []) 76 [(0, .ref v0), (2, .int y5)] [.int y9, .ref v0] s10 0 0 (j11 y9 s10)) ?_ (fun j11 hj11 => ?_)
      · intro y9 s10
        refine eb_putZ (pc := 76) ef_RX10_169 eg_RX10_169 dX10_readThing_76 (fun s12 => ?_)
        refine eb_aload_n (pc := 79) 0 dX10_readThing_79 rfl rfl ?_
        refine eb_dup (pc := 80) dX10_readThing_80 rfl ?_
        refine eb_getI (pc := 81) ef_RX10_166 dX10_readThing_81 (fun x13 => ?_)
        refine eb_aload_n (pc := 84) 0 dX10_readThing_84 rfl rfl ?_
        refine eb_getI (pc := 85) ef_RX10_169 dX10_readThing_85 (fun x14 => ?_)
        refine eb_join (fun j17 : Int32 → eb_S → Option (Unit × eb_S) => ∀ (y15 : Int32) (s16 : eb_S), eb_go G yX10_readThing cX10_readThing 3 none (3) 0 0 .return_ (fun _ : Unit => []) 96 [(0, .ref v0), (2, .int y5)] [.int y15, .int x13, .ref v0] s16 0 0 (j17 y15 s16)) ?_ (fun j17 hj17 => ?_)
        · intro y15 s16
          refine eb_iadd (pc := 96) dX10_readThing_96 ?_
          refine eb_putI (pc := 97) ef_RX10_166 eg_RX10_166 dX10_readThing_97 (fun s18 => ?_)
          refine eb_aload_n (pc := 100) 0 dX10_readThing_100 rfl rfl ?_
          refine eb_getR (pc := 101) ef_RX10_58 dX10_readThing_101 (fun r19 => ?_)
          refine eb_iconst (pc := 104) (v := 3) dX10_readThing_104 (by decide) ?_
          refine eb_aload_n (pc := 105) 0 dX10_readThing_105 rfl rfl ?_
          refine eb_getI (pc := 106) ef_RX10_181 dX10_readThing_106 (fun x20 => ?_)
          refine eb_imul (pc := 109) dX10_readThing_109 ?_
          refine eb_iload_n (pc := 110) 1 dX10_readThing_110 rfl rfl ?_
          refine eb_iastore (pc := 111) dX10_readThing_111 (fun s21 => ?_)
          refine eb_aload_n (pc := 112) 0 dX10_readThing_112 rfl rfl ?_
          refine eb_getR (pc := 113) ef_RX10_58 dX10_readThing_113 (fun r22 => ?_)
          refine eb_iconst (pc := 116) (v := 3) dX10_readThing_116 (by decide) ?_
          refine eb_aload_n (pc := 117) 0 dX10_readThing_117 rfl rfl ?_
          refine eb_getI (pc := 118) ef_RX10_181 dX10_readThing_118 (fun x23 => ?_)
          refine eb_imul (pc := 121) dX10_readThing_121 ?_
          refine eb_iconst (pc := 122) (v := 1) dX10_readThing_122 (by decide) ?_
          refine eb_iadd (pc := 123) dX10_readThing_123 ?_
          refine eb_aload_n (pc := 124) 0 dX10_readThing_124 rfl rfl ?_
          refine eb_calli (pc := 125) (eb_runV (pc := 125) (As := []) (rest := [.int (((3 : Int32) * x23) + 1), .ref r22]) (ci := 9) (q0 := (RX10, TX10, 43)) (q := (RX10, TX10, 43)) ew_719 ew_720 ew_721 ew_666 rfl rfl ed_X10_number (ct_X10_number hG n _ _) rfl ew_722 ⟨by decide, by decide⟩ (by decide) (by decide) (Nat.le_of_ble_eq_true rfl) rfl dX10_readThing_125) (fun x25 s24 => ?_)
          refine eb_iastore (pc := 128) dX10_readThing_128 (fun s26 => ?_)
          refine eb_aload_n (pc := 129) 0 dX10_readThing_129 rfl rfl ?_
          refine eb_getR (pc := 130) ef_RX10_58 dX10_readThing_130 (fun r27 => ?_)
          refine eb_iconst (pc := 133) (v := 3) dX10_readThing_133 (by decide) ?_
          refine eb_aload_n (pc := 134) 0 dX10_readThing_134 rfl rfl ?_
          refine eb_getI (pc := 135) ef_RX10_181 dX10_readThing_135 (fun x28 => ?_)
          refine eb_imul (pc := 138) dX10_readThing_138 ?_
          refine eb_iconst (pc := 139) (v := 2) dX10_readThing_139 (by decide) ?_
          refine eb_iadd (pc := 140) dX10_readThing_140 ?_
          refine eb_iconst (pc := 141) (v := 5) dX10_readThing_141 (by decide) ?_
          refine eb_iastore (pc := 142) dX10_readThing_142 (fun s29 => ?_)
          refine eb_aload_n (pc := 143) 0 dX10_readThing_143 rfl rfl ?_
          refine eb_bipush (pc := 144) (v := 64) dX10_readThing_144 (by decide) ?_
          refine eb_callb (pc := 146) (eb_runV (pc := 146) (As := [.int 64]) (rest := []) (ci := 9) (q0 := (RX10, TX10, 43)) (q := (RX10, TX10, 43)) ew_723 ew_724 ew_725 ew_666 rfl rfl ed_X10_has (ct_X10_has hG n _ _ _) rfl ew_726 ⟨by decide, by decide⟩ (by decide) (by decide) (Nat.le_of_ble_eq_true rfl) rfl dX10_readThing_146) (fun b31 s30 => ?_)
          refine eb_join (fun j33 : eb_S → Option (Unit × eb_S) => ∀  (s32 : eb_S), eb_go G yX10_readThing cX10_readThing 3 none (3) 0 0 .return_ (fun _ : Unit => []) 219 [(0, .ref v0)] [] s32 0 0 (j33  s32)) ?_ (fun j33 hj33 => ?_)
          · intro  s32
            refine eb_aload_n (pc := 219) 0 dX10_readThing_219 rfl rfl ?_
            refine eb_dup (pc := 220) dX10_readThing_220 rfl ?_
            refine eb_getI (pc := 221) ef_RX10_181 dX10_readThing_221 (fun x34 => ?_)
            refine eb_iconst (pc := 224) (v := 1) dX10_readThing_224 (by decide) ?_
            refine eb_iadd (pc := 225) dX10_readThing_225 ?_
            refine eb_putI (pc := 226) ef_RX10_181 eg_RX10_181 dX10_readThing_226 (fun s35 => ?_)
            exact eb_vret (pc := 229) dX10_readThing_229 (by decide) (by decide)
          refine eb_if_eq (pc := 149) (tgt := 219) dX10_readThing_149 (by decide) ?_ ?_
          · refine eb_sub [0] rfl ?_
            exact hj33 _
          · refine eb_aload_n (pc := 152) 0 dX10_readThing_152 rfl rfl ?_
            refine eb_aload_n (pc := 153) 0 dX10_readThing_153 rfl rfl ?_
            refine eb_calli (pc := 154) (eb_runV (pc := 154) (As := []) (rest := [.ref v0]) (ci := 9) (q0 := (RX10, TX10, 43)) (q := (RX10, TX10, 43)) ew_712 ew_713 ew_714 ew_666 rfl rfl ed_X10_here (ct_X10_here hG n _ _) rfl ew_715 ⟨by decide, by decide⟩ (by decide) (by decide) (Nat.le_of_ble_eq_true rfl) rfl dX10_readThing_154) (fun x37 s36 => ?_)
            refine eb_i2l (pc := 157) dX10_readThing_157 ?_
            refine eb_ldc2 (pc := 158) (v := 48) dX10_readThing_158 ew_717 ?_
            refine eb_ldc2 (pc := 161) (v := 53) dX10_readThing_161 ew_727 ?_
            refine eb_callb (pc := 164) (eb_runS (pc := 164) (As := [.long ((x37).toInt64), .long 48, .long 53]) (rest := [.ref v0]) ew_664 ew_665 ew_666 rfl ed_X10_in (ct_X10_in hG _ _ _ _) ew_667 ⟨by decide, by decide⟩ (by decide) (by decide) (Nat.le_of_ble_eq_true rfl) rfl dX10_readThing_164) (fun b39 s38 => ?_)
            refine eb_join (fun j42 : Int32 → eb_S → Option (Unit × eb_S) => ∀ (y40 : Int32) (s41 : eb_S), eb_go G yX10_readThing cX10_readThing 3 none (3) 0 0 .return_ (fun _ : Unit => []) 175 [(0, .ref v0)] [.int y40, .ref v0] s41 0 0 (j42 y40 s41)) ?_ (fun j42 hj42 => ?_)
            · intro y40 s41
              refine eb_putZ (pc := 175) ef_RX10_169 eg_RX10_169 dX10_readThing_175 (fun s43 => ?_)
              refine eb_aload_n (pc := 178) 0 dX10_readThing_178 rfl rfl ?_
              refine eb_getR (pc := 179) ef_RX10_58 dX10_readThing_179 (fun r44 => ?_)
              refine eb_iconst (pc := 182) (v := 3) dX10_readThing_182 (by decide) ?_
              refine eb_aload_n (pc := 183) 0 dX10_readThing_183 rfl rfl ?_
              refine eb_getI (pc := 184) ef_RX10_181 dX10_readThing_184 (fun x45 => ?_)
              refine eb_imul (pc := 187) dX10_readThing_187 ?_
              refine eb_iconst (pc := 188) (v := 2) dX10_readThing_188 (by decide) ?_
              refine eb_iadd (pc := 189) dX10_readThing_189 ?_
              refine eb_aload_n (pc := 190) 0 dX10_readThing_190 rfl rfl ?_
              refine eb_calli (pc := 191) (eb_runV (pc := 191) (As := []) (rest := [.int (((3 : Int32) * x45) + 2), .ref r44]) (ci := 9) (q0 := (RX10, TX10, 43)) (q := (RX10, TX10, 43)) ew_712 ew_713 ew_714 ew_666 rfl rfl ed_X10_here (ct_X10_here hG n _ _) rfl ew_715 ⟨by decide, by decide⟩ (by decide) (by decide) (Nat.le_of_ble_eq_true rfl) rfl dX10_readThing_191) (fun x47 s46 => ?_)
              refine eb_bipush (pc := 194) (v := 48) dX10_readThing_194 (by decide) ?_
              refine eb_isub (pc := 196) dX10_readThing_196 ?_
              refine eb_iastore (pc := 197) dX10_readThing_197 (fun s48 => ?_)
              refine eb_aload_n (pc := 198) 0 dX10_readThing_198 rfl rfl ?_
              refine eb_dup (pc := 199) dX10_readThing_199 rfl ?_
              refine eb_getI (pc := 200) ef_RX10_166 dX10_readThing_200 (fun x49 => ?_)
              refine eb_aload_n (pc := 203) 0 dX10_readThing_203 rfl rfl ?_
              refine eb_getI (pc := 204) ef_RX10_169 dX10_readThing_204 (fun x50 => ?_)
              refine eb_join (fun j53 : Int32 → eb_S → Option (Unit × eb_S) => ∀ (y51 : Int32) (s52 : eb_S), eb_go G yX10_readThing cX10_readThing 3 none (3) 0 0 .return_ (fun _ : Unit => []) 215 [(0, .ref v0)] [.int y51, .int x49, .ref v0] s52 0 0 (j53 y51 s52)) ?_ (fun j53 hj53 => ?_)
              · intro y51 s52
                refine eb_iadd (pc := 215) dX10_readThing_215 ?_
                refine eb_putI (pc := 216) ef_RX10_166 eg_RX10_166 dX10_readThing_216 (fun s54 => ?_)
                exact hj33 _
              refine eb_if_eq (pc := 207) (tgt := 214) dX10_readThing_207 (by decide) ?_ ?_
              · refine eb_iconst (pc := 214) (v := 1) dX10_readThing_214 (by decide) ?_
                exact hj53 _ _
              · refine eb_iconst (pc := 210) (v := 0) dX10_readThing_210 (by decide) ?_
                refine eb_goto (pc := 211) (tgt := 215) dX10_readThing_211 (by decide) ?_
                exact hj53 _ _
            refine eb_if_ne (pc := 167) (tgt := 174) dX10_readThing_167 (by decide) ?_ ?_
            · refine eb_iconst (pc := 174) (v := 0) dX10_readThing_174 (by decide) ?_
              refine eb_sub [0] rfl ?_
              exact hj42 _ _
            · refine eb_iconst (pc := 170) (v := 1) dX10_readThing_170 (by decide) ?_
              refine eb_goto (pc := 171) (tgt := 175) dX10_readThing_171 (by decide) ?_
              refine eb_sub [0] rfl ?_
              exact hj42 _ _
        refine eb_if_eq (pc := 88) (tgt := 95) dX10_readThing_88 (by decide) ?_ ?_
        · refine eb_iconst (pc := 95) (v := 1) dX10_readThing_95 (by decide) ?_
          exact hj17 _ _
        · refine eb_iconst (pc := 91) (v := 0) dX10_readThing_91 (by decide) ?_
          refine eb_goto (pc := 92) (tgt := 96) dX10_readThing_92 (by decide) ?_
          exact hj17 _ _
      refine eb_join (fun j56 : eb_S → Option (Unit × eb_S) => ∀  (s55 : eb_S), eb_go G yX10_readThing cX10_readThing 3 none (3) 0 0 .return_ (fun _ : Unit => []) 71 [(0, .ref v0), (2, .int y5)] [.ref v0] s55 0 0 (j56  s55)) ?_ (fun j56 hj56 => ?_)
      · intro  s55
        refine eb_iconst (pc := 71) (v := 1) dX10_readThing_71 (by decide) ?_
        refine eb_goto (pc := 72) (tgt := 76) dX10_readThing_72 (by decide) ?_
        exact hj11 _ _
      refine eb_if_ne (pc := 64) (tgt := 71) dX10_readThing_64 (by decide) ?_ ?_
      · refine eb_sub [1, 0] rfl ?_
        exact hj56 _
      · refine eb_iload_n (pc := 67) 0 dX10_readThing_67 rfl rfl ?_
        refine eb_if_ge (pc := 68) (tgt := 75) dX10_readThing_68 (by decide) ?_ ?_
        · refine eb_iconst (pc := 75) (v := 0) dX10_readThing_75 (by decide) ?_
          refine eb_sub [1, 0] rfl ?_
          exact hj11 _ _
        · refine eb_sub [1, 0] rfl ?_
          exact hj56 _
    refine eb_icmp_ne (pc := 19) (tgt := 26) dX10_readThing_19 (by decide) ?_ ?_
    · refine eb_iload_n (pc := 26) 0 dX10_readThing_26 rfl rfl ?_
      refine eb_bipush (pc := 27) (v := 105) dX10_readThing_27 (by decide) ?_
      refine eb_icmp_ne (pc := 29) (tgt := 36) dX10_readThing_29 (by decide) ?_ ?_
      · refine eb_iload_n (pc := 36) 0 dX10_readThing_36 rfl rfl ?_
        refine eb_bipush (pc := 37) (v := 115) dX10_readThing_37 (by decide) ?_
        refine eb_icmp_ne (pc := 39) (tgt := 46) dX10_readThing_39 (by decide) ?_ ?_
        · refine eb_iload_n (pc := 46) 0 dX10_readThing_46 rfl rfl ?_
          refine eb_bipush (pc := 47) (v := 102) dX10_readThing_47 (by decide) ?_
          refine eb_icmp_ne (pc := 49) (tgt := 56) dX10_readThing_49 (by decide) ?_ ?_
          · refine eb_bipush (pc := 56) (v := (-4)) dX10_readThing_56 (by decide) ?_
            refine eb_sub [1] rfl ?_
            exact hj7 _ _
          · refine eb_iconst (pc := 52) (v := 3) dX10_readThing_52 (by decide) ?_
            refine eb_goto (pc := 53) (tgt := 58) dX10_readThing_53 (by decide) ?_
            refine eb_sub [1] rfl ?_
            exact hj7 _ _
        · refine eb_iconst (pc := 42) (v := 2) dX10_readThing_42 (by decide) ?_
          refine eb_goto (pc := 43) (tgt := 58) dX10_readThing_43 (by decide) ?_
          refine eb_sub [1] rfl ?_
          exact hj7 _ _
      · refine eb_iconst (pc := 32) (v := 1) dX10_readThing_32 (by decide) ?_
        refine eb_goto (pc := 33) (tgt := 58) dX10_readThing_33 (by decide) ?_
        refine eb_sub [1] rfl ?_
        exact hj7 _ _
    · refine eb_iconst (pc := 22) (v := 0) dX10_readThing_22 (by decide) ?_
      refine eb_goto (pc := 23) (tgt := 58) dX10_readThing_23 (by decide) ?_
      refine eb_sub [1] rfl ?_
      exact hj7 _ _
  refine eb_if_eq (pc := 4) (tgt := 11) dX10_readThing_4 (by decide) ?_ ?_
  · refine eb_aload_n (pc := 11) 0 dX10_readThing_11 rfl rfl ?_
    refine eb_calli (pc := 12) (eb_runV (pc := 12) (As := []) (rest := []) (ci := 9) (q0 := (RX10, TX10, 43)) (q := (RX10, TX10, 43)) ew_712 ew_713 ew_714 ew_666 rfl rfl ed_X10_here (ct_X10_here hG n _ _) rfl ew_715 ⟨by decide, by decide⟩ (by decide) (by decide) (Nat.le_of_ble_eq_true rfl) rfl dX10_readThing_12) (fun x58 s57 => ?_)
    exact hj4 _ _
  · refine eb_iconst (pc := 7) (v := 0) dX10_readThing_7 (by decide) ?_
    refine eb_goto (pc := 8) (tgt := 15) dX10_readThing_8 (by decide) ?_
    exact hj4 _ _

def f_X10_market_L22 (n : Nat) (v0 : Nat) (K : eb_S → Option (Int32 × eb_S)) : Nat → Int32 → eb_S → Option (Int32 × eb_S)
  | 0, _, _ => none
  | m + 1, v1, s => if v1 = 0 then (K s) else (eb_cl (eb_tg s v0 9 (f_X10_readThing n v0 s)) fun _u s5 => eb_gI s5 [9] v0 23 fun x6 => eb_jn (fun (y7 : Int32) (s8 : eb_S) => f_X10_market_L22 n v0 K m y7 s8) fun j9 => eb_jn (fun (s10 : eb_S) => j9 0 s10) fun j11 => if 10 ≤ x6 then (j11 s5) else (eb_cl (eb_tg s5 v0 9 (f_X10_has n v0 44 s5)) fun b13 s12 => if (eb_b b13) = 0 then (j11 s12) else (j9 1 s12)))
def f_X10_market_L64 (n : Nat) (v0 : Nat) (K : eb_S → Option (Int32 × eb_S)) : Nat → Int32 → eb_S → Option (Int32 × eb_S)
  | 0, _, _ => none
  | m + 1, v1, s => if v1 = 0 then (K s) else (eb_gR s [9] v0 26 fun r17 => eb_gI s [9] v0 24 fun x18 => eb_cl (eb_tg s v0 9 (f_X10_number n v0 s)) fun x20 s19 => eb_wi s19 r17 ((2 : Int32) * x18) x20 fun s21 => eb_gR s21 [9] v0 26 fun r22 => eb_gI s21 [9] v0 24 fun x23 => eb_cl (eb_tg s21 v0 9 (f_X10_has n v0 117 s21)) fun b25 s24 => eb_jn (fun (y26 : Int32) (s27 : eb_S) => eb_wi s27 r22 (((2 : Int32) * x23) + 1) y26 fun s29 => eb_gI s29 [9] v0 24 fun x30 => eb_pI s29 [9] v0 24 (x30 + 1) fun s31 => eb_gI s31 [9] v0 24 fun x32 => eb_jn (fun (y33 : Int32) (s34 : eb_S) => f_X10_market_L64 n v0 K m y33 s34) fun j35 => eb_jn (fun (s36 : eb_S) => j35 0 s36) fun j37 => if 5 ≤ x32 then (j37 s31) else (eb_cl (eb_tg s31 v0 9 (f_X10_has n v0 44 s31)) fun b39 s38 => if (eb_b b39) = 0 then (j37 s38) else (j35 1 s38))) fun j28 => if (eb_b b25) = 0 then (j28 0 s24) else (j28 1 s24))
def f_X10_market_L196 (n : Nat) (v0 : Nat) (K : eb_S → Option (Int32 × eb_S)) : Nat → Int32 → eb_S → Option (Int32 × eb_S)
  | 0, _, _ => none
  | m + 1, v2, s => eb_gI s [9] v0 23 fun x49 => if x49 ≤ v2 then (K s) else (eb_gR s [9] v0 25 fun r50 => eb_ai s r50 ((3 : Int32) * v2) fun x51 => eb_gR s [9] v0 25 fun r52 => eb_ai s r52 (((3 : Int32) * v2) + 1) fun x53 => eb_gR s [9] v0 25 fun r54 => eb_ai s r54 (((3 : Int32) * v2) + 2) fun x55 => eb_cl (eb_tg s v0 9 (f_X10_comes v0 x51 x53 x55 s)) fun _u s56 => f_X10_market_L196 n v0 K m (v2 + 1) s56)
def f_X10_market_L252 (n : Nat) (v0 : Nat) (K : eb_S → Option (Int32 × eb_S)) : Nat → Int32 → eb_S → Option (Int32 × eb_S)
  | 0, _, _ => none
  | m + 1, v2, s => eb_gI s [9] v0 6 fun x60 => if x60 ≤ v2 then (K s) else (eb_gR s [9] v0 7 fun r61 => eb_gR s [9] v0 26 fun r62 => eb_ai s r62 ((2 : Int32) * v2) fun x63 => eb_wi s r61 v2 x63 fun s64 => eb_gR s64 [9] v0 8 fun r65 => eb_gR s64 [9] v0 26 fun r66 => eb_ai s64 r66 (((2 : Int32) * v2) + 1) fun x67 => eb_wi s64 r65 v2 x67 fun s68 => f_X10_market_L252 n v0 K m (v2 + 1) s68)
def f_X10_market (n : Nat) (v0 : Nat) (s : eb_S) : Option (Int32 × eb_S) := eb_pI s [9] v0 21 0 fun s1 => eb_pZ s1 [9] v0 22 0 fun s2 => eb_pI s2 [9] v0 23 0 fun s3 => eb_pI s3 [9] v0 24 0 fun s4 => f_X10_market_L22 n v0 (fun  (s14 : eb_S) => eb_cl (eb_tg s14 v0 9 (f_X10_has n v0 59 s14)) fun b16 s15 => f_X10_market_L64 n v0 (fun  (s40 : eb_S) => eb_gI s40 [9] v0 22 fun x41 => eb_jn (fun (y42 : Int32) (s43 : eb_S) => eb_pZ s43 [9] v0 22 y42 fun s45 => eb_pI s45 [9] v0 20 0 fun s46 => eb_gI s46 [9] v0 22 fun x47 => if x47 = 0 then (eb_pI s46 [9] v0 0 0 fun s48 => f_X10_market_L196 n v0 (fun  (s57 : eb_S) => eb_gI s57 [9] v0 24 fun x58 => eb_pI s57 [9] v0 6 x58 fun s59 => f_X10_market_L252 n v0 (fun  (s69 : eb_S) => eb_pI s69 [9] v0 12 0 fun s70 => eb_pI s70 [9] v0 16 0 fun s71 => eb_gI s71 [9] v0 0 fun x72 => some (x72, s71)) n 0 s59) n 0 s48) else (eb_gI s46 [9] v0 21 fun x73 => some (((-20) : Int32) - x73, s46))) fun j44 => eb_jn (fun (s74 : eb_S) => j44 1 s74) fun j75 => if x41 = 0 then (eb_cl (eb_tg s40 v0 9 (f_X10_here n v0 s40)) fun x77 s76 => if x77 = 0 then (j44 0 s76) else (j75 s76)) else (j75 s40)) n (eb_b b16) s15) n 1 s4
set_option maxRecDepth 100000 in
theorem gl_X10_market_L22 {G : eb_G} (hG : eb_ok G) {n : Nat} {v0 : Nat} {K : eb_S → Option (Int32 × eb_S)} (hK : ∀  (s : eb_S), eb_go G yX10_market cX10_market 3 (some .int) (4) 0 0 .ireturn (fun r : Int32 => [.int r]) 57 [(0, .ref v0)] [] s 0 0 (K  s)) : ∀ (m : Nat) (v1 : Int32) (s : eb_S), eb_go G yX10_market cX10_market 3 (some .int) (4) 0 0 .ireturn (fun r : Int32 => [.int r]) 22 [(0, .ref v0), (1, .int v1)] [] s 0 0 (f_X10_market_L22 n v0 K m v1 s) := by
  intro m
  induction m with
  | zero => intro v1 s; exact eb_none
  | succ m ih =>
    intro v1 s
    rw [f_X10_market_L22.eq_2]
    refine eb_iload_n (pc := 22) 1 dX10_market_22 rfl rfl ?_
    refine eb_if_eq (pc := 23) (tgt := 57) dX10_market_23 (by decide) ?_ ?_
    · refine eb_sub [0] rfl ?_
      exact hK _
    · refine eb_aload_n (pc := 26) 0 dX10_market_26 rfl rfl ?_
      refine eb_callv (pc := 27) (eb_runV (pc := 27) (As := []) (rest := []) (ci := 9) (q0 := (RX10, TX10, 43)) (q := (RX10, TX10, 43)) ew_729 ew_730 ew_731 ew_666 rfl rfl ed_X10_readThing (ct_X10_readThing hG n _ _) rfl ew_732 ⟨by decide, by decide⟩ (by decide) (by decide) (Nat.le_of_ble_eq_true rfl) rfl dX10_market_27) (fun _u s5 => ?_)
      refine eb_aload_n (pc := 30) 0 dX10_market_30 rfl rfl ?_
      refine eb_getI (pc := 31) ef_RX10_181 dX10_market_31 (fun x6 => ?_)
      refine eb_bipush (pc := 34) (v := 10) dX10_market_34 (by decide) ?_
      refine eb_join (fun j9 : Int32 → eb_S → Option (Int32 × eb_S) => ∀ (y7 : Int32) (s8 : eb_S), eb_go G yX10_market cX10_market 3 (some .int) (4) 0 0 .ireturn (fun r : Int32 => [.int r]) 53 [(0, .ref v0)] [.int y7] s8 0 0 (j9 y7 s8)) ?_ (fun j9 hj9 => ?_)
      · intro y7 s8
        refine eb_istore_n (pc := 53) (L' := [(1, .int y7), (0, .ref v0)]) dX10_market_53 rfl (by decide) rfl ?_
        refine eb_goto (pc := 54) (tgt := 22) dX10_market_54 (by decide) ?_
        refine eb_sub [1, 0] rfl ?_
        exact ih _ _
      refine eb_join (fun j11 : eb_S → Option (Int32 × eb_S) => ∀  (s10 : eb_S), eb_go G yX10_market cX10_market 3 (some .int) (4) 0 0 .ireturn (fun r : Int32 => [.int r]) 52 [(0, .ref v0)] [] s10 0 0 (j11  s10)) ?_ (fun j11 hj11 => ?_)
      · intro  s10
        refine eb_iconst (pc := 52) (v := 0) dX10_market_52 (by decide) ?_
        exact hj9 _ _
      refine eb_icmp_ge (pc := 36) (tgt := 52) dX10_market_36 (by decide) ?_ ?_
      · refine eb_sub [0] rfl ?_
        exact hj11 _
      · refine eb_aload_n (pc := 39) 0 dX10_market_39 rfl rfl ?_
        refine eb_bipush (pc := 40) (v := 44) dX10_market_40 (by decide) ?_
        refine eb_callb (pc := 42) (eb_runV (pc := 42) (As := [.int 44]) (rest := []) (ci := 9) (q0 := (RX10, TX10, 43)) (q := (RX10, TX10, 43)) ew_723 ew_724 ew_725 ew_666 rfl rfl ed_X10_has (ct_X10_has hG n _ _ _) rfl ew_726 ⟨by decide, by decide⟩ (by decide) (by decide) (Nat.le_of_ble_eq_true rfl) rfl dX10_market_42) (fun b13 s12 => ?_)
        refine eb_if_eq (pc := 45) (tgt := 52) dX10_market_45 (by decide) ?_ ?_
        · refine eb_sub [0] rfl ?_
          exact hj11 _
        · refine eb_iconst (pc := 48) (v := 1) dX10_market_48 (by decide) ?_
          refine eb_goto (pc := 49) (tgt := 53) dX10_market_49 (by decide) ?_
          refine eb_sub [0] rfl ?_
          exact hj9 _ _
set_option maxRecDepth 100000 in
theorem gl_X10_market_L64 {G : eb_G} (hG : eb_ok G) {n : Nat} {v0 : Nat} {K : eb_S → Option (Int32 × eb_S)} (hK : ∀  (s : eb_S), eb_go G yX10_market cX10_market 3 (some .int) (4) 0 0 .ireturn (fun r : Int32 => [.int r]) 146 [(0, .ref v0)] [] s 0 0 (K  s)) : ∀ (m : Nat) (v1 : Int32) (s : eb_S), eb_go G yX10_market cX10_market 3 (some .int) (4) 0 0 .ireturn (fun r : Int32 => [.int r]) 64 [(0, .ref v0), (1, .int v1)] [] s 0 0 (f_X10_market_L64 n v0 K m v1 s) := by
  intro m
  induction m with
  | zero => intro v1 s; exact eb_none
  | succ m ih =>
    intro v1 s
    rw [f_X10_market_L64.eq_2]
    refine eb_iload_n (pc := 64) 1 dX10_market_64 rfl rfl ?_
    refine eb_if_eq (pc := 65) (tgt := 146) dX10_market_65 (by decide) ?_ ?_
    · refine eb_sub [0] rfl ?_
      exact hK _
    · refine eb_aload_n (pc := 68) 0 dX10_market_68 rfl rfl ?_
      refine eb_getR (pc := 69) ef_RX10_61 dX10_market_69 (fun r17 => ?_)
      refine eb_iconst (pc := 72) (v := 2) dX10_market_72 (by decide) ?_
      refine eb_aload_n (pc := 73) 0 dX10_market_73 rfl rfl ?_
      refine eb_getI (pc := 74) ef_RX10_192 dX10_market_74 (fun x18 => ?_)
      refine eb_imul (pc := 77) dX10_market_77 ?_
      refine eb_aload_n (pc := 78) 0 dX10_market_78 rfl rfl ?_
      refine eb_calli (pc := 79) (eb_runV (pc := 79) (As := []) (rest := [.int ((2 : Int32) * x18), .ref r17]) (ci := 9) (q0 := (RX10, TX10, 43)) (q := (RX10, TX10, 43)) ew_719 ew_720 ew_721 ew_666 rfl rfl ed_X10_number (ct_X10_number hG n _ _) rfl ew_722 ⟨by decide, by decide⟩ (by decide) (by decide) (Nat.le_of_ble_eq_true rfl) rfl dX10_market_79) (fun x20 s19 => ?_)
      refine eb_iastore (pc := 82) dX10_market_82 (fun s21 => ?_)
      refine eb_aload_n (pc := 83) 0 dX10_market_83 rfl rfl ?_
      refine eb_getR (pc := 84) ef_RX10_61 dX10_market_84 (fun r22 => ?_)
      refine eb_iconst (pc := 87) (v := 2) dX10_market_87 (by decide) ?_
      refine eb_aload_n (pc := 88) 0 dX10_market_88 rfl rfl ?_
      refine eb_getI (pc := 89) ef_RX10_192 dX10_market_89 (fun x23 => ?_)
      refine eb_imul (pc := 92) dX10_market_92 ?_
      refine eb_iconst (pc := 93) (v := 1) dX10_market_93 (by decide) ?_
      refine eb_iadd (pc := 94) dX10_market_94 ?_
      refine eb_aload_n (pc := 95) 0 dX10_market_95 rfl rfl ?_
      refine eb_bipush (pc := 96) (v := 117) dX10_market_96 (by decide) ?_
      refine eb_callb (pc := 98) (eb_runV (pc := 98) (As := [.int 117]) (rest := [.int (((2 : Int32) * x23) + 1), .ref r22]) (ci := 9) (q0 := (RX10, TX10, 43)) (q := (RX10, TX10, 43)) ew_723 ew_724 ew_725 ew_666 rfl rfl ed_X10_has (ct_X10_has hG n _ _ _) rfl ew_726 ⟨by decide, by decide⟩ (by decide) (by decide) (Nat.le_of_ble_eq_true rfl) rfl dX10_market_98) (fun b25 s24 => ?_)
      refine eb_join (fun j28 : Int32 → eb_S → Option (Int32 × eb_S) => ∀ (y26 : Int32) (s27 : eb_S), eb_go G yX10_market cX10_market 3 (some .int) (4) 0 0 .ireturn (fun r : Int32 => [.int r]) 109 [(0, .ref v0)] [.int y26, .int (((2 : Int32) * x23) + 1), .ref r22] s27 0 0 (j28 y26 s27)) ?_ (fun j28 hj28 => ?_)
      · intro y26 s27
        refine eb_iastore (pc := 109) dX10_market_109 (fun s29 => ?_)
        refine eb_aload_n (pc := 110) 0 dX10_market_110 rfl rfl ?_
        refine eb_dup (pc := 111) dX10_market_111 rfl ?_
        refine eb_getI (pc := 112) ef_RX10_192 dX10_market_112 (fun x30 => ?_)
        refine eb_iconst (pc := 115) (v := 1) dX10_market_115 (by decide) ?_
        refine eb_iadd (pc := 116) dX10_market_116 ?_
        refine eb_putI (pc := 117) ef_RX10_192 eg_RX10_192 dX10_market_117 (fun s31 => ?_)
        refine eb_aload_n (pc := 120) 0 dX10_market_120 rfl rfl ?_
        refine eb_getI (pc := 121) ef_RX10_192 dX10_market_121 (fun x32 => ?_)
        refine eb_iconst (pc := 124) (v := 5) dX10_market_124 (by decide) ?_
        refine eb_join (fun j35 : Int32 → eb_S → Option (Int32 × eb_S) => ∀ (y33 : Int32) (s34 : eb_S), eb_go G yX10_market cX10_market 3 (some .int) (4) 0 0 .ireturn (fun r : Int32 => [.int r]) 142 [(0, .ref v0)] [.int y33] s34 0 0 (j35 y33 s34)) ?_ (fun j35 hj35 => ?_)
        · intro y33 s34
          refine eb_istore_n (pc := 142) (L' := [(1, .int y33), (0, .ref v0)]) dX10_market_142 rfl (by decide) rfl ?_
          refine eb_goto (pc := 143) (tgt := 64) dX10_market_143 (by decide) ?_
          refine eb_sub [1, 0] rfl ?_
          exact ih _ _
        refine eb_join (fun j37 : eb_S → Option (Int32 × eb_S) => ∀  (s36 : eb_S), eb_go G yX10_market cX10_market 3 (some .int) (4) 0 0 .ireturn (fun r : Int32 => [.int r]) 141 [(0, .ref v0)] [] s36 0 0 (j37  s36)) ?_ (fun j37 hj37 => ?_)
        · intro  s36
          refine eb_iconst (pc := 141) (v := 0) dX10_market_141 (by decide) ?_
          exact hj35 _ _
        refine eb_icmp_ge (pc := 125) (tgt := 141) dX10_market_125 (by decide) ?_ ?_
        · exact hj37 _
        · refine eb_aload_n (pc := 128) 0 dX10_market_128 rfl rfl ?_
          refine eb_bipush (pc := 129) (v := 44) dX10_market_129 (by decide) ?_
          refine eb_callb (pc := 131) (eb_runV (pc := 131) (As := [.int 44]) (rest := []) (ci := 9) (q0 := (RX10, TX10, 43)) (q := (RX10, TX10, 43)) ew_723 ew_724 ew_725 ew_666 rfl rfl ed_X10_has (ct_X10_has hG n _ _ _) rfl ew_726 ⟨by decide, by decide⟩ (by decide) (by decide) (Nat.le_of_ble_eq_true rfl) rfl dX10_market_131) (fun b39 s38 => ?_)
          refine eb_if_eq (pc := 134) (tgt := 141) dX10_market_134 (by decide) ?_ ?_
          · exact hj37 _
          · refine eb_iconst (pc := 137) (v := 1) dX10_market_137 (by decide) ?_
            refine eb_goto (pc := 138) (tgt := 142) dX10_market_138 (by decide) ?_
            exact hj35 _ _
      refine eb_if_eq (pc := 101) (tgt := 108) dX10_market_101 (by decide) ?_ ?_
      · refine eb_iconst (pc := 108) (v := 0) dX10_market_108 (by decide) ?_
        refine eb_sub [0] rfl ?_
        exact hj28 _ _
      · refine eb_iconst (pc := 104) (v := 1) dX10_market_104 (by decide) ?_
        refine eb_goto (pc := 105) (tgt := 109) dX10_market_105 (by decide) ?_
        refine eb_sub [0] rfl ?_
        exact hj28 _ _
set_option maxRecDepth 100000 in
theorem gl_X10_market_L196 {G : eb_G} (hG : eb_ok G) {n : Nat} {v0 : Nat} {K : eb_S → Option (Int32 × eb_S)} (hK : ∀  (s : eb_S), eb_go G yX10_market cX10_market 3 (some .int) (4) 0 0 .ireturn (fun r : Int32 => [.int r]) 242 [(0, .ref v0)] [] s 0 0 (K  s)) : ∀ (m : Nat) (v2 : Int32) (s : eb_S), eb_go G yX10_market cX10_market 3 (some .int) (4) 0 0 .ireturn (fun r : Int32 => [.int r]) 196 [(0, .ref v0), (2, .int v2)] [] s 0 0 (f_X10_market_L196 n v0 K m v2 s) := by
  intro m
  induction m with
  | zero => intro v2 s; exact eb_none
  | succ m ih =>
    intro v2 s
    rw [f_X10_market_L196.eq_2]
    refine eb_iload_n (pc := 196) 1 dX10_market_196 rfl rfl ?_
    refine eb_aload_n (pc := 197) 0 dX10_market_197 rfl rfl ?_
    refine eb_getI (pc := 198) ef_RX10_181 dX10_market_198 (fun x49 => ?_)
    refine eb_icmp_ge (pc := 201) (tgt := 242) dX10_market_201 (by decide) ?_ ?_
    · refine eb_sub [0] rfl ?_
      exact hK _
    · refine eb_aload_n (pc := 204) 0 dX10_market_204 rfl rfl ?_
      refine eb_aload_n (pc := 205) 0 dX10_market_205 rfl rfl ?_
      refine eb_getR (pc := 206) ef_RX10_58 dX10_market_206 (fun r50 => ?_)
      refine eb_iconst (pc := 209) (v := 3) dX10_market_209 (by decide) ?_
      refine eb_iload_n (pc := 210) 1 dX10_market_210 rfl rfl ?_
      refine eb_imul (pc := 211) dX10_market_211 ?_
      refine eb_iaload (pc := 212) dX10_market_212 (fun x51 => ?_)
      refine eb_aload_n (pc := 213) 0 dX10_market_213 rfl rfl ?_
      refine eb_getR (pc := 214) ef_RX10_58 dX10_market_214 (fun r52 => ?_)
      refine eb_iconst (pc := 217) (v := 3) dX10_market_217 (by decide) ?_
      refine eb_iload_n (pc := 218) 1 dX10_market_218 rfl rfl ?_
      refine eb_imul (pc := 219) dX10_market_219 ?_
      refine eb_iconst (pc := 220) (v := 1) dX10_market_220 (by decide) ?_
      refine eb_iadd (pc := 221) dX10_market_221 ?_
      refine eb_iaload (pc := 222) dX10_market_222 (fun x53 => ?_)
      refine eb_aload_n (pc := 223) 0 dX10_market_223 rfl rfl ?_
      refine eb_getR (pc := 224) ef_RX10_58 dX10_market_224 (fun r54 => ?_)
      refine eb_iconst (pc := 227) (v := 3) dX10_market_227 (by decide) ?_
      refine eb_iload_n (pc := 228) 1 dX10_market_228 rfl rfl ?_
      refine eb_imul (pc := 229) dX10_market_229 ?_
      refine eb_iconst (pc := 230) (v := 2) dX10_market_230 (by decide) ?_
      refine eb_iadd (pc := 231) dX10_market_231 ?_
      refine eb_iaload (pc := 232) dX10_market_232 (fun x55 => ?_)
      refine eb_callv (pc := 233) (eb_runV (pc := 233) (As := [.int x51, .int x53, .int x55]) (rest := []) (ci := 9) (q0 := (RX10, TX10, 43)) (q := (RX10, TX10, 43)) ew_670 ew_671 ew_672 ew_666 rfl rfl ed_X10_comes (ct_X10_comes hG _ _ _ _ _) rfl ew_673 ⟨by decide, by decide⟩ (by decide) (by decide) (Nat.le_of_ble_eq_true rfl) rfl dX10_market_233) (fun _u s56 => ?_)
      refine eb_iinc (pc := 236) (v := v2 + 1) (L' := [(2, .int (v2 + 1)), (0, .ref v0)]) 1 dX10_market_236 rfl rfl (by decide) rfl ?_
      refine eb_goto (pc := 239) (tgt := 196) dX10_market_239 (by decide) ?_
      refine eb_sub [1, 0] rfl ?_
      exact ih _ _
set_option maxRecDepth 100000 in
theorem gl_X10_market_L252 {G : eb_G} (hG : eb_ok G) {n : Nat} {v0 : Nat} {K : eb_S → Option (Int32 × eb_S)} (hK : ∀  (s : eb_S), eb_go G yX10_market cX10_market 3 (some .int) (4) 0 0 .ireturn (fun r : Int32 => [.int r]) 296 [(0, .ref v0)] [] s 0 0 (K  s)) : ∀ (m : Nat) (v2 : Int32) (s : eb_S), eb_go G yX10_market cX10_market 3 (some .int) (4) 0 0 .ireturn (fun r : Int32 => [.int r]) 252 [(0, .ref v0), (2, .int v2)] [] s 0 0 (f_X10_market_L252 n v0 K m v2 s) := by
  intro m
  induction m with
  | zero => intro v2 s; exact eb_none
  | succ m ih =>
    intro v2 s
    rw [f_X10_market_L252.eq_2]
    refine eb_iload_n (pc := 252) 1 dX10_market_252 rfl rfl ?_
    refine eb_aload_n (pc := 253) 0 dX10_market_253 rfl rfl ?_
    refine eb_getI (pc := 254) ef_RX10_106 dX10_market_254 (fun x60 => ?_)
    refine eb_icmp_ge (pc := 257) (tgt := 296) dX10_market_257 (by decide) ?_ ?_
    · refine eb_sub [0] rfl ?_
      exact hK _
    · refine eb_aload_n (pc := 260) 0 dX10_market_260 rfl rfl ?_
      refine eb_getR (pc := 261) ef_RX10_25 dX10_market_261 (fun r61 => ?_)
      refine eb_iload_n (pc := 264) 1 dX10_market_264 rfl rfl ?_
      refine eb_aload_n (pc := 265) 0 dX10_market_265 rfl rfl ?_
      refine eb_getR (pc := 266) ef_RX10_61 dX10_market_266 (fun r62 => ?_)
      refine eb_iconst (pc := 269) (v := 2) dX10_market_269 (by decide) ?_
      refine eb_iload_n (pc := 270) 1 dX10_market_270 rfl rfl ?_
      refine eb_imul (pc := 271) dX10_market_271 ?_
      refine eb_iaload (pc := 272) dX10_market_272 (fun x63 => ?_)
      refine eb_iastore (pc := 273) dX10_market_273 (fun s64 => ?_)
      refine eb_aload_n (pc := 274) 0 dX10_market_274 rfl rfl ?_
      refine eb_getR (pc := 275) ef_RX10_28 dX10_market_275 (fun r65 => ?_)
      refine eb_iload_n (pc := 278) 1 dX10_market_278 rfl rfl ?_
      refine eb_aload_n (pc := 279) 0 dX10_market_279 rfl rfl ?_
      refine eb_getR (pc := 280) ef_RX10_61 dX10_market_280 (fun r66 => ?_)
      refine eb_iconst (pc := 283) (v := 2) dX10_market_283 (by decide) ?_
      refine eb_iload_n (pc := 284) 1 dX10_market_284 rfl rfl ?_
      refine eb_imul (pc := 285) dX10_market_285 ?_
      refine eb_iconst (pc := 286) (v := 1) dX10_market_286 (by decide) ?_
      refine eb_iadd (pc := 287) dX10_market_287 ?_
      refine eb_iaload (pc := 288) dX10_market_288 (fun x67 => ?_)
      refine eb_iastore (pc := 289) dX10_market_289 (fun s68 => ?_)
      refine eb_iinc (pc := 290) (v := v2 + 1) (L' := [(2, .int (v2 + 1)), (0, .ref v0)]) 1 dX10_market_290 rfl rfl (by decide) rfl ?_
      refine eb_goto (pc := 293) (tgt := 252) dX10_market_293 (by decide) ?_
      refine eb_sub [1, 0] rfl ?_
      exact ih _ _
set_option maxRecDepth 100000 in
theorem ct_X10_market {G : eb_G} (hG : eb_ok G) (n : Nat) (v0 : Nat) (s : eb_S) : eb_ct G yX10_market cX10_market 3 (some .int) 4 0 0 eb_ei [.ref v0] s (f_X10_market n v0 s) := by
  refine eb_ct_i (by decide) (Nat.le_of_ble_eq_true rfl) (fun v hv => by simp at hv; rcases hv with rfl <;> simp [Value.category]) ?_
  show eb_go G yX10_market cX10_market 3 (some .int) (4) 0 0 .ireturn (fun r : Int32 => [.int r]) 0 [(0, .ref v0)] [] s 0 0 _
  unfold f_X10_market
  refine eb_aload_n (pc := 0) 0 dX10_market_0 rfl rfl ?_
  refine eb_iconst (pc := 1) (v := 0) dX10_market_1 (by decide) ?_
  refine eb_putI (pc := 2) ef_RX10_166 eg_RX10_166 dX10_market_2 (fun s1 => ?_)
  refine eb_aload_n (pc := 5) 0 dX10_market_5 rfl rfl ?_
  refine eb_iconst (pc := 6) (v := 0) dX10_market_6 (by decide) ?_
  refine eb_putZ (pc := 7) ef_RX10_169 eg_RX10_169 dX10_market_7 (fun s2 => ?_)
  refine eb_aload_n (pc := 10) 0 dX10_market_10 rfl rfl ?_
  refine eb_iconst (pc := 11) (v := 0) dX10_market_11 (by decide) ?_
  refine eb_putI (pc := 12) ef_RX10_181 eg_RX10_181 dX10_market_12 (fun s3 => ?_)
  refine eb_aload_n (pc := 15) 0 dX10_market_15 rfl rfl ?_
  refine eb_iconst (pc := 16) (v := 0) dX10_market_16 (by decide) ?_
  refine eb_putI (pc := 17) ef_RX10_192 eg_RX10_192 dX10_market_17 (fun s4 => ?_)
  refine eb_iconst (pc := 20) (v := 1) dX10_market_20 (by decide) ?_
  refine eb_istore_n (pc := 21) (L' := [(1, .int 1), (0, .ref v0)]) dX10_market_21 rfl (by decide) rfl ?_
  refine eb_sub [1, 0] rfl ?_
  refine gl_X10_market_L22 hG (fun s14 => ?_) n _ _
  refine eb_aload_n (pc := 57) 0 dX10_market_57 rfl rfl ?_
  refine eb_bipush (pc := 58) (v := 59) dX10_market_58 (by decide) ?_
  refine eb_callb (pc := 60) (eb_runV (pc := 60) (As := [.int 59]) (rest := []) (ci := 9) (q0 := (RX10, TX10, 43)) (q := (RX10, TX10, 43)) ew_723 ew_724 ew_725 ew_666 rfl rfl ed_X10_has (ct_X10_has hG n _ _ _) rfl ew_726 ⟨by decide, by decide⟩ (by decide) (by decide) (Nat.le_of_ble_eq_true rfl) rfl dX10_market_60) (fun b16 s15 => ?_)
  refine eb_istore_n (pc := 63) (L' := [(1, .int (eb_b b16)), (0, .ref v0)]) dX10_market_63 rfl (by decide) rfl ?_
  refine eb_sub [1, 0] rfl ?_
  refine gl_X10_market_L64 hG (fun s40 => ?_) n _ _
  refine eb_aload_n (pc := 146) 0 dX10_market_146 rfl rfl ?_
  refine eb_aload_n (pc := 147) 0 dX10_market_147 rfl rfl ?_
  refine eb_getI (pc := 148) ef_RX10_169 dX10_market_148 (fun x41 => ?_)
  refine eb_join (fun j44 : Int32 → eb_S → Option (Int32 × eb_S) => ∀ (y42 : Int32) (s43 : eb_S), eb_go G yX10_market cX10_market 3 (some .int) (4) 0 0 .ireturn (fun r : Int32 => [.int r]) 166 [(0, .ref v0)] [.int y42, .ref v0] s43 0 0 (j44 y42 s43)) ?_ (fun j44 hj44 => ?_)
  · intro y42 s43
    refine eb_putZ (pc := 166) ef_RX10_169 eg_RX10_169 dX10_market_166 (fun s45 => ?_)
    refine eb_aload_n (pc := 169) 0 dX10_market_169 rfl rfl ?_
    refine eb_iconst (pc := 170) (v := 0) dX10_market_170 (by decide) ?_
    refine eb_putI (pc := 171) ef_RX10_163 eg_RX10_163 dX10_market_171 (fun s46 => ?_)
    refine eb_aload_n (pc := 174) 0 dX10_market_174 rfl rfl ?_
    refine eb_getI (pc := 175) ef_RX10_169 dX10_market_175 (fun x47 => ?_)
    refine eb_if_eq (pc := 178) (tgt := 189) dX10_market_178 (by decide) ?_ ?_
    · refine eb_aload_n (pc := 189) 0 dX10_market_189 rfl rfl ?_
      refine eb_iconst (pc := 190) (v := 0) dX10_market_190 (by decide) ?_
      refine eb_putI (pc := 191) ef_RX10_98 eg_RX10_98 dX10_market_191 (fun s48 => ?_)
      refine eb_iconst (pc := 194) (v := 0) dX10_market_194 (by decide) ?_
      refine eb_istore_n (pc := 195) (L' := [(2, .int 0), (0, .ref v0)]) dX10_market_195 rfl (by decide) rfl ?_
      refine eb_sub [1, 0] rfl ?_
      refine gl_X10_market_L196 hG (fun s57 => ?_) n _ _
      refine eb_aload_n (pc := 242) 0 dX10_market_242 rfl rfl ?_
      refine eb_aload_n (pc := 243) 0 dX10_market_243 rfl rfl ?_
      refine eb_getI (pc := 244) ef_RX10_192 dX10_market_244 (fun x58 => ?_)
      refine eb_putI (pc := 247) ef_RX10_106 eg_RX10_106 dX10_market_247 (fun s59 => ?_)
      refine eb_iconst (pc := 250) (v := 0) dX10_market_250 (by decide) ?_
      refine eb_istore_n (pc := 251) (L' := [(2, .int 0), (0, .ref v0)]) dX10_market_251 rfl (by decide) rfl ?_
      refine eb_sub [1, 0] rfl ?_
      refine gl_X10_market_L252 hG (fun s69 => ?_) n _ _
      refine eb_aload_n (pc := 296) 0 dX10_market_296 rfl rfl ?_
      refine eb_iconst (pc := 297) (v := 0) dX10_market_297 (by decide) ?_
      refine eb_putI (pc := 298) ef_RX10_152 eg_RX10_152 dX10_market_298 (fun s70 => ?_)
      refine eb_aload_n (pc := 301) 0 dX10_market_301 rfl rfl ?_
      refine eb_iconst (pc := 302) (v := 0) dX10_market_302 (by decide) ?_
      refine eb_putI (pc := 303) ef_RX10_119 eg_RX10_119 dX10_market_303 (fun s71 => ?_)
      refine eb_aload_n (pc := 306) 0 dX10_market_306 rfl rfl ?_
      refine eb_getI (pc := 307) ef_RX10_98 dX10_market_307 (fun x72 => ?_)
      exact eb_iret (pc := 310) dX10_market_310 (by decide) (by decide)
    · refine eb_bipush (pc := 181) (v := (-20)) dX10_market_181 (by decide) ?_
      refine eb_aload_n (pc := 183) 0 dX10_market_183 rfl rfl ?_
      refine eb_getI (pc := 184) ef_RX10_166 dX10_market_184 (fun x73 => ?_)
      refine eb_isub (pc := 187) dX10_market_187 ?_
      exact eb_iret (pc := 188) dX10_market_188 (by decide) (by decide)
  refine eb_join (fun j75 : eb_S → Option (Int32 × eb_S) => ∀  (s74 : eb_S), eb_go G yX10_market cX10_market 3 (some .int) (4) 0 0 .ireturn (fun r : Int32 => [.int r]) 161 [(0, .ref v0)] [.ref v0] s74 0 0 (j75  s74)) ?_ (fun j75 hj75 => ?_)
  · intro  s74
    refine eb_iconst (pc := 161) (v := 1) dX10_market_161 (by decide) ?_
    refine eb_goto (pc := 162) (tgt := 166) dX10_market_162 (by decide) ?_
    exact hj44 _ _
  refine eb_if_ne (pc := 151) (tgt := 161) dX10_market_151 (by decide) ?_ ?_
  · exact hj75 _
  · refine eb_aload_n (pc := 154) 0 dX10_market_154 rfl rfl ?_
    refine eb_calli (pc := 155) (eb_runV (pc := 155) (As := []) (rest := [.ref v0]) (ci := 9) (q0 := (RX10, TX10, 43)) (q := (RX10, TX10, 43)) ew_712 ew_713 ew_714 ew_666 rfl rfl ed_X10_here (ct_X10_here hG n _ _) rfl ew_715 ⟨by decide, by decide⟩ (by decide) (by decide) (Nat.le_of_ble_eq_true rfl) rfl dX10_market_155) (fun x77 s76 => ?_)
    refine eb_if_eq (pc := 158) (tgt := 165) dX10_market_158 (by decide) ?_ ?_
    · refine eb_iconst (pc := 165) (v := 0) dX10_market_165 (by decide) ?_
      exact hj44 _ _
    · exact hj75 _

def f_X10_loadOf (v0 : Nat) (v1 : Int32) (v2 : Int32) (s : eb_S) : Option (Int32 × eb_S) := eb_gR s [9] v0 3 fun r1 => eb_ai s r1 v1 fun x2 => if v2 < x2 then (eb_gR s [9] v0 1 fun r3 => eb_ai s r3 v1 fun x4 => eb_jn (fun (y5 : Int32) (s6 : eb_S) => eb_gR s6 [9] v0 2 fun r8 => eb_ai s6 r8 v1 fun x9 => if x9 ≤ y5 then (some (0, s6)) else (eb_gR s6 [9] v0 2 fun r10 => eb_ai s6 r10 v1 fun x11 => some (x11 - y5, s6))) fun j7 => if x4 = 1 then (j7 v2 s) else (eb_gR s [9] v0 1 fun r12 => eb_ai s r12 v1 fun x13 => if x13 = 3 then (j7 ((2 : Int32) * v2) s) else (j7 0 s))) else (some (0, s))
set_option maxRecDepth 100000 in
theorem ct_X10_loadOf {G : eb_G} (hG : eb_ok G) (v0 : Nat) (v1 : Int32) (v2 : Int32) (s : eb_S) : eb_ct G yX10_loadOf cX10_loadOf 4 (some .int) 1 0 0 eb_ei [.ref v0, .int v1, .int v2] s (f_X10_loadOf v0 v1 v2 s) := by
  refine eb_ct_i (by decide) (Nat.le_of_ble_eq_true rfl) (fun v hv => by simp at hv; rcases hv with rfl | rfl | rfl <;> simp [Value.category]) ?_
  show eb_go G yX10_loadOf cX10_loadOf 4 (some .int) (1) 0 0 .ireturn (fun r : Int32 => [.int r]) 0 [(0, .ref v0), (1, .int v1), (2, .int v2)] [] s 0 0 _
  unfold f_X10_loadOf
  refine eb_aload_n (pc := 0) 0 dX10_loadOf_0 rfl rfl ?_
  refine eb_getR (pc := 1) ef_RX10_16 dX10_loadOf_1 (fun r1 => ?_)
  refine eb_iload_n (pc := 4) 1 dX10_loadOf_4 rfl rfl ?_
  refine eb_iaload (pc := 5) dX10_loadOf_5 (fun x2 => ?_)
  refine eb_iload_n (pc := 6) 2 dX10_loadOf_6 rfl rfl ?_
  refine eb_icmp_gt (pc := 7) (tgt := 12) dX10_loadOf_7 (by decide) ?_ ?_
  · refine eb_aload_n (pc := 12) 0 dX10_loadOf_12 rfl rfl ?_
    refine eb_getR (pc := 13) ef_RX10_7 dX10_loadOf_13 (fun r3 => ?_)
    refine eb_iload_n (pc := 16) 1 dX10_loadOf_16 rfl rfl ?_
    refine eb_iaload (pc := 17) dX10_loadOf_17 (fun x4 => ?_)
    refine eb_iconst (pc := 18) (v := 1) dX10_loadOf_18 (by decide) ?_
    refine eb_join (fun j7 : Int32 → eb_S → Option (Int32 × eb_S) => ∀ (y5 : Int32) (s6 : eb_S), eb_go G yX10_loadOf cX10_loadOf 4 (some .int) (1) 0 0 .ireturn (fun r : Int32 => [.int r]) 43 [(0, .ref v0), (1, .int v1)] [.int y5] s6 0 0 (j7 y5 s6)) ?_ (fun j7 hj7 => ?_)
    · intro y5 s6
      refine eb_istore_n (pc := 43) (L' := [(3, .int y5), (0, .ref v0), (1, .int v1)]) dX10_loadOf_43 rfl (by decide) rfl ?_
      refine eb_aload_n (pc := 44) 1 dX10_loadOf_44 rfl rfl ?_
      refine eb_getR (pc := 45) ef_RX10_13 dX10_loadOf_45 (fun r8 => ?_)
      refine eb_iload_n (pc := 48) 2 dX10_loadOf_48 rfl rfl ?_
      refine eb_iaload (pc := 49) dX10_loadOf_49 (fun x9 => ?_)
      refine eb_iload_n (pc := 50) 0 dX10_loadOf_50 rfl rfl ?_
      refine eb_icmp_le (pc := 51) (tgt := 65) dX10_loadOf_51 (by decide) ?_ ?_
      · refine eb_iconst (pc := 65) (v := 0) dX10_loadOf_65 (by decide) ?_
        exact eb_iret (pc := 66) dX10_loadOf_66 (by decide) (by decide)
      · refine eb_aload_n (pc := 54) 1 dX10_loadOf_54 rfl rfl ?_
        refine eb_getR (pc := 55) ef_RX10_13 dX10_loadOf_55 (fun r10 => ?_)
        refine eb_iload_n (pc := 58) 2 dX10_loadOf_58 rfl rfl ?_
        refine eb_iaload (pc := 59) dX10_loadOf_59 (fun x11 => ?_)
        refine eb_iload_n (pc := 60) 0 dX10_loadOf_60 rfl rfl ?_
        refine eb_isub (pc := 61) dX10_loadOf_61 ?_
        refine eb_goto (pc := 62) (tgt := 66) dX10_loadOf_62 (by decide) ?_
        exact eb_iret (pc := 66) dX10_loadOf_66 (by decide) (by decide)
    refine eb_icmp_ne (pc := 19) (tgt := 26) dX10_loadOf_19 (by decide) ?_ ?_
    · refine eb_aload_n (pc := 26) 0 dX10_loadOf_26 rfl rfl ?_
      refine eb_getR (pc := 27) ef_RX10_7 dX10_loadOf_27 (fun r12 => ?_)
      refine eb_iload_n (pc := 30) 1 dX10_loadOf_30 rfl rfl ?_
      refine eb_iaload (pc := 31) dX10_loadOf_31 (fun x13 => ?_)
      refine eb_iconst (pc := 32) (v := 3) dX10_loadOf_32 (by decide) ?_
      refine eb_icmp_ne (pc := 33) (tgt := 42) dX10_loadOf_33 (by decide) ?_ ?_
      · refine eb_iconst (pc := 42) (v := 0) dX10_loadOf_42 (by decide) ?_
        refine eb_sub [0, 1] rfl ?_
        exact hj7 _ _
      · refine eb_iconst (pc := 36) (v := 2) dX10_loadOf_36 (by decide) ?_
        refine eb_iload_n (pc := 37) 2 dX10_loadOf_37 rfl rfl ?_
        refine eb_imul (pc := 38) dX10_loadOf_38 ?_
        refine eb_goto (pc := 39) (tgt := 43) dX10_loadOf_39 (by decide) ?_
        refine eb_sub [0, 1] rfl ?_
        exact hj7 _ _
    · refine eb_iload_n (pc := 22) 2 dX10_loadOf_22 rfl rfl ?_
      refine eb_goto (pc := 23) (tgt := 43) dX10_loadOf_23 (by decide) ?_
      refine eb_sub [0, 1] rfl ?_
      exact hj7 _ _
  · refine eb_iconst (pc := 10) (v := 0) dX10_loadOf_10 (by decide) ?_
    exact eb_iret (pc := 11) dX10_loadOf_11 (by decide) (by decide)

def f_X10_loads_L6 (n : Nat) (v0 : Nat) (v1 : Nat) (v2 : Int32) (v3 : Int32)  : Nat → Int32 → Int32 → eb_S → Option (Int32 × eb_S)
  | 0, _, _, _ => none
  | m + 1, v4, v5, s => eb_gI s [9] v0 0 fun x1 => if x1 ≤ v5 then (some (v4, s)) else (eb_ai s v1 v5 fun x2 => eb_jn (fun (y3 : Int32) (s4 : eb_S) => f_X10_loads_L6 n v0 v1 v2 v3 m (v4 + y3) (v5 + 1) s4) fun j5 => if x2 = v2 then (eb_cl (eb_tg s v0 9 (f_X10_loadOf v0 v5 v3 s)) fun x7 s6 => j5 x7 s6) else (j5 0 s))
def f_X10_loads (n : Nat) (v0 : Nat) (v1 : Nat) (v2 : Int32) (v3 : Int32) (s : eb_S) : Option (Int32 × eb_S) := f_X10_loads_L6 n v0 v1 v2 v3  n 0 0 s
set_option maxRecDepth 100000 in
theorem gl_X10_loads_L6 {G : eb_G} (hG : eb_ok G) {n : Nat} {v0 : Nat} {v1 : Nat} {v2 : Int32} {v3 : Int32}   : ∀ (m : Nat) (v4 : Int32) (v5 : Int32) (s : eb_S), eb_go G yX10_loads cX10_loads 6 (some .int) (2) 0 0 .ireturn (fun r : Int32 => [.int r]) 6 [(0, .ref v0), (1, .ref v1), (2, .int v2), (3, .int v3), (4, .int v4), (5, .int v5)] [] s 0 0 (f_X10_loads_L6 n v0 v1 v2 v3 m v4 v5 s) := by
  intro m
  induction m with
  | zero => intro v4 v5 s; exact eb_none
  | succ m ih =>
    intro v4 v5 s
    rw [f_X10_loads_L6.eq_2]
    refine eb_iload (pc := 6) 5 dX10_loads_6 rfl ?_
    refine eb_aload_n (pc := 8) 0 dX10_loads_8 rfl rfl ?_
    refine eb_getI (pc := 9) ef_RX10_98 dX10_loads_9 (fun x1 => ?_)
    refine eb_icmp_ge (pc := 12) (tgt := 45) dX10_loads_12 (by decide) ?_ ?_
    · refine eb_iload (pc := 45) 4 dX10_loads_45 rfl ?_
      exact eb_iret (pc := 47) dX10_loads_47 (by decide) (by decide)
    · refine eb_iload (pc := 15) 4 dX10_loads_15 rfl ?_
      refine eb_aload_n (pc := 17) 1 dX10_loads_17 rfl rfl ?_
      refine eb_iload (pc := 18) 5 dX10_loads_18 rfl ?_
      refine eb_iaload (pc := 20) dX10_loads_20 (fun x2 => ?_)
      refine eb_iload_n (pc := 21) 2 dX10_loads_21 rfl rfl ?_
      refine eb_join (fun j5 : Int32 → eb_S → Option (Int32 × eb_S) => ∀ (y3 : Int32) (s4 : eb_S), eb_go G yX10_loads cX10_loads 6 (some .int) (2) 0 0 .ireturn (fun r : Int32 => [.int r]) 36 [(0, .ref v0), (1, .ref v1), (2, .int v2), (3, .int v3), (5, .int v5)] [.int y3, .int v4] s4 0 0 (j5 y3 s4)) ?_ (fun j5 hj5 => ?_)
      · intro y3 s4
        refine eb_iadd (pc := 36) dX10_loads_36 ?_
        refine eb_istore (pc := 37) (L' := [(4, .int (v4 + y3)), (0, .ref v0), (1, .ref v1), (2, .int v2), (3, .int v3), (5, .int v5)]) dX10_loads_37 (by decide) rfl ?_
        refine eb_iinc (pc := 39) (v := v5 + 1) (L' := [(5, .int (v5 + 1)), (4, .int (v4 + y3)), (0, .ref v0), (1, .ref v1), (2, .int v2), (3, .int v3)]) 5 dX10_loads_39 rfl rfl (by decide) rfl ?_
        refine eb_goto (pc := 42) (tgt := 6) dX10_loads_42 (by decide) ?_
        refine eb_sub [2, 3, 4, 5, 1, 0] rfl ?_
        exact ih _ _ _
      refine eb_icmp_ne (pc := 22) (tgt := 35) dX10_loads_22 (by decide) ?_ ?_
      · refine eb_iconst (pc := 35) (v := 0) dX10_loads_35 (by decide) ?_
        refine eb_sub [0, 1, 2, 3, 5] rfl ?_
        exact hj5 _ _
      · refine eb_aload_n (pc := 25) 0 dX10_loads_25 rfl rfl ?_
        refine eb_iload (pc := 26) 5 dX10_loads_26 rfl ?_
        refine eb_iload_n (pc := 28) 3 dX10_loads_28 rfl rfl ?_
        refine eb_calli (pc := 29) (eb_runV (pc := 29) (As := [.int v5, .int v3]) (rest := [.int v4]) (ci := 9) (q0 := (RX10, TX10, 43)) (q := (RX10, TX10, 43)) ew_733 ew_734 ew_735 ew_666 rfl rfl ed_X10_loadOf (ct_X10_loadOf hG _ _ _ _) rfl ew_736 ⟨by decide, by decide⟩ (by decide) (by decide) (Nat.le_of_ble_eq_true rfl) rfl dX10_loads_29) (fun x7 s6 => ?_)
        refine eb_goto (pc := 32) (tgt := 36) dX10_loads_32 (by decide) ?_
        refine eb_sub [0, 1, 2, 3, 5] rfl ?_
        exact hj5 _ _
set_option maxRecDepth 100000 in
theorem ct_X10_loads {G : eb_G} (hG : eb_ok G) (n : Nat) (v0 : Nat) (v1 : Nat) (v2 : Int32) (v3 : Int32) (s : eb_S) : eb_ct G yX10_loads cX10_loads 6 (some .int) 2 0 0 eb_ei [.ref v0, .ref v1, .int v2, .int v3] s (f_X10_loads n v0 v1 v2 v3 s) := by
  refine eb_ct_i (by decide) (Nat.le_of_ble_eq_true rfl) (fun v hv => by simp at hv; rcases hv with rfl | rfl | rfl | rfl <;> simp [Value.category]) ?_
  show eb_go G yX10_loads cX10_loads 6 (some .int) (2) 0 0 .ireturn (fun r : Int32 => [.int r]) 0 [(0, .ref v0), (1, .ref v1), (2, .int v2), (3, .int v3)] [] s 0 0 _
  unfold f_X10_loads
  refine eb_iconst (pc := 0) (v := 0) dX10_loads_0 (by decide) ?_
  refine eb_istore (pc := 1) (L' := [(4, .int 0), (0, .ref v0), (1, .ref v1), (2, .int v2), (3, .int v3)]) dX10_loads_1 (by decide) rfl ?_
  refine eb_iconst (pc := 3) (v := 0) dX10_loads_3 (by decide) ?_
  refine eb_istore (pc := 4) (L' := [(5, .int 0), (4, .int 0), (0, .ref v0), (1, .ref v1), (2, .int v2), (3, .int v3)]) dX10_loads_4 (by decide) rfl ?_
  refine eb_sub [2, 3, 4, 5, 1, 0] rfl ?_
  refine gl_X10_loads_L6 hG  n _ _ _

def f_X10_load (n : Nat) (v0 : Nat) (v1 : Int32) (v2 : Int32) (s : eb_S) : Option (Int32 × eb_S) := eb_cl (f_X10_isBag ((v1).toInt64) s) fun b2 s1 => if (eb_b b2) = 0 then (some ((-1), s1)) else (eb_cl (eb_tg s1 v0 9 (f_X10_isStretch v0 v2 s1)) fun b4 s3 => if (eb_b b4) = 0 then (some ((-1), s3)) else (eb_gR s3 [9] v0 5 fun r5 => eb_cl (eb_tg s3 v0 9 (f_X10_loads n v0 r5 v1 v2 s3)) fun x7 s6 => some (x7, s6)))
set_option maxRecDepth 100000 in
theorem ct_X10_load {G : eb_G} (hG : eb_ok G) (n : Nat) (v0 : Nat) (v1 : Int32) (v2 : Int32) (s : eb_S) : eb_ct G yX10_load cX10_load 3 (some .int) 3 0 0 eb_ei [.ref v0, .int v1, .int v2] s (f_X10_load n v0 v1 v2 s) := by
  refine eb_ct_i (by decide) (Nat.le_of_ble_eq_true rfl) (fun v hv => by simp at hv; rcases hv with rfl | rfl | rfl <;> simp [Value.category]) ?_
  show eb_go G yX10_load cX10_load 3 (some .int) (3) 0 0 .ireturn (fun r : Int32 => [.int r]) 0 [(0, .ref v0), (1, .int v1), (2, .int v2)] [] s 0 0 _
  unfold f_X10_load
  refine eb_iload_n (pc := 0) 1 dX10_load_0 rfl rfl ?_
  refine eb_i2l (pc := 1) dX10_load_1 ?_
  refine eb_callb (pc := 2) (eb_runS (pc := 2) (As := [.long ((v1).toInt64)]) (rest := []) ew_696 ew_697 ew_666 rfl ed_X10_isBag (ct_X10_isBag hG _ _) ew_698 ⟨by decide, by decide⟩ (by decide) (by decide) (Nat.le_of_ble_eq_true rfl) rfl dX10_load_2) (fun b2 s1 => ?_)
  refine eb_if_eq (pc := 5) (tgt := 29) dX10_load_5 (by decide) ?_ ?_
  · refine eb_iconst (pc := 29) (v := (-1)) dX10_load_29 (by decide) ?_
    exact eb_iret (pc := 30) dX10_load_30 (by decide) (by decide)
  · refine eb_aload_n (pc := 8) 0 dX10_load_8 rfl rfl ?_
    refine eb_iload_n (pc := 9) 2 dX10_load_9 rfl rfl ?_
    refine eb_callb (pc := 10) (eb_runV (pc := 10) (As := [.int v2]) (rest := []) (ci := 9) (q0 := (RX10, TX10, 43)) (q := (RX10, TX10, 43)) ew_692 ew_693 ew_694 ew_666 rfl rfl ed_X10_isStretch (ct_X10_isStretch hG _ _ _) rfl ew_695 ⟨by decide, by decide⟩ (by decide) (by decide) (Nat.le_of_ble_eq_true rfl) rfl dX10_load_10) (fun b4 s3 => ?_)
    refine eb_if_eq (pc := 13) (tgt := 29) dX10_load_13 (by decide) ?_ ?_
    · refine eb_iconst (pc := 29) (v := (-1)) dX10_load_29 (by decide) ?_
      exact eb_iret (pc := 30) dX10_load_30 (by decide) (by decide)
    · refine eb_aload_n (pc := 16) 0 dX10_load_16 rfl rfl ?_
      refine eb_aload_n (pc := 17) 0 dX10_load_17 rfl rfl ?_
      refine eb_getR (pc := 18) ef_RX10_22 dX10_load_18 (fun r5 => ?_)
      refine eb_iload_n (pc := 21) 1 dX10_load_21 rfl rfl ?_
      refine eb_iload_n (pc := 22) 2 dX10_load_22 rfl rfl ?_
      refine eb_calli (pc := 23) (eb_runV (pc := 23) (As := [.ref r5, .int v1, .int v2]) (rest := []) (ci := 9) (q0 := (RX10, TX10, 43)) (q := (RX10, TX10, 43)) ew_737 ew_738 ew_739 ew_666 rfl rfl ed_X10_loads (ct_X10_loads hG n _ _ _ _ _) rfl ew_740 ⟨by decide, by decide⟩ (by decide) (by decide) (Nat.le_of_ble_eq_true rfl) rfl dX10_load_23) (fun x7 s6 => ?_)
      refine eb_goto (pc := 26) (tgt := 30) dX10_load_26 (by decide) ?_
      exact eb_iret (pc := 30) dX10_load_30 (by decide) (by decide)

def f_X10_doHold_L12 (n : Nat) (v0 : Nat) (v1 : Nat) (v3 : Int32) (K : Int32 → eb_S → Option (Bool × eb_S)) : Nat → Int32 → Int32 → eb_S → Option (Bool × eb_S)
  | 0, _, _, _ => none
  | m + 1, v2, v4, s => eb_gI s [9] v0 6 fun x1 => if x1 ≤ v4 then (K v2 s) else (eb_jn (fun (y2 : Int32) (s3 : eb_S) => f_X10_doHold_L12 n v0 v1 v3 K m y2 (v4 + 1) s3) fun j4 => eb_jn (fun (s5 : eb_S) => j4 0 s5) fun j6 => if v2 = 0 then (j6 s) else (eb_cl (eb_tg s v0 9 (f_X10_loads n v0 v1 v3 v4 s)) fun x8 s7 => eb_gR s7 [9] v0 9 fun r9 => eb_ai s7 r9 v3 fun x10 => if x10 < x8 then (j6 s7) else (j4 1 s7)))
def f_X10_doHold_L4 (n : Nat) (v0 : Nat) (v1 : Nat)  : Nat → Int32 → Int32 → eb_S → Option (Bool × eb_S)
  | 0, _, _, _ => none
  | m + 1, v2, v3, s => if 3 ≤ v3 then (eb_zb v2 fun b => some (b, s)) else (f_X10_doHold_L12 n v0 v1 v3 (fun (w11 : Int32) (s12 : eb_S) => f_X10_doHold_L4 n v0 v1 m w11 (v3 + 1) s12) n v2 0 s)
def f_X10_doHold (n : Nat) (v0 : Nat) (v1 : Nat) (s : eb_S) : Option (Bool × eb_S) := f_X10_doHold_L4 n v0 v1  n 1 0 s
set_option maxRecDepth 100000 in
theorem gl_X10_doHold_L12 {G : eb_G} (hG : eb_ok G) {n : Nat} {v0 : Nat} {v1 : Nat} {v3 : Int32} {K : Int32 → eb_S → Option (Bool × eb_S)} (hK : ∀ (v2 : Int32) (s : eb_S), eb_go G yX10_doHold cX10_doHold 5 (some .boolean) (3) 0 0 .ireturn (fun r : Bool => [.int (eb_b r)]) 54 [(0, .ref v0), (1, .ref v1), (2, .int v2), (3, .int v3)] [] s 0 0 (K v2 s)) : ∀ (m : Nat) (v2 : Int32) (v4 : Int32) (s : eb_S), eb_go G yX10_doHold cX10_doHold 5 (some .boolean) (3) 0 0 .ireturn (fun r : Bool => [.int (eb_b r)]) 12 [(0, .ref v0), (1, .ref v1), (2, .int v2), (3, .int v3), (4, .int v4)] [] s 0 0 (f_X10_doHold_L12 n v0 v1 v3 K m v2 v4 s) := by
  intro m
  induction m with
  | zero => intro v2 v4 s; exact eb_none
  | succ m ih =>
    intro v2 v4 s
    rw [f_X10_doHold_L12.eq_2]
    refine eb_iload (pc := 12) 4 dX10_doHold_12 rfl ?_
    refine eb_aload_n (pc := 14) 0 dX10_doHold_14 rfl rfl ?_
    refine eb_getI (pc := 15) ef_RX10_106 dX10_doHold_15 (fun x1 => ?_)
    refine eb_icmp_ge (pc := 18) (tgt := 54) dX10_doHold_18 (by decide) ?_ ?_
    · refine eb_sub [0, 1, 2, 3] rfl ?_
      exact hK _ _
    · refine eb_iload_n (pc := 21) 2 dX10_doHold_21 rfl rfl ?_
      refine eb_join (fun j4 : Int32 → eb_S → Option (Bool × eb_S) => ∀ (y2 : Int32) (s3 : eb_S), eb_go G yX10_doHold cX10_doHold 5 (some .boolean) (3) 0 0 .ireturn (fun r : Bool => [.int (eb_b r)]) 47 [(0, .ref v0), (1, .ref v1), (3, .int v3), (4, .int v4)] [.int y2] s3 0 0 (j4 y2 s3)) ?_ (fun j4 hj4 => ?_)
      · intro y2 s3
        refine eb_istore_n (pc := 47) (L' := [(2, .int y2), (0, .ref v0), (1, .ref v1), (3, .int v3), (4, .int v4)]) dX10_doHold_47 rfl (by decide) rfl ?_
        refine eb_iinc (pc := 48) (v := v4 + 1) (L' := [(4, .int (v4 + 1)), (2, .int y2), (0, .ref v0), (1, .ref v1), (3, .int v3)]) 4 dX10_doHold_48 rfl rfl (by decide) rfl ?_
        refine eb_goto (pc := 51) (tgt := 12) dX10_doHold_51 (by decide) ?_
        refine eb_sub [2, 3, 1, 4, 0] rfl ?_
        exact ih _ _ _
      refine eb_join (fun j6 : eb_S → Option (Bool × eb_S) => ∀  (s5 : eb_S), eb_go G yX10_doHold cX10_doHold 5 (some .boolean) (3) 0 0 .ireturn (fun r : Bool => [.int (eb_b r)]) 46 [(0, .ref v0), (1, .ref v1), (3, .int v3), (4, .int v4)] [] s5 0 0 (j6  s5)) ?_ (fun j6 hj6 => ?_)
      · intro  s5
        refine eb_iconst (pc := 46) (v := 0) dX10_doHold_46 (by decide) ?_
        exact hj4 _ _
      refine eb_if_eq (pc := 22) (tgt := 46) dX10_doHold_22 (by decide) ?_ ?_
      · refine eb_sub [0, 1, 3, 4] rfl ?_
        exact hj6 _
      · refine eb_aload_n (pc := 25) 0 dX10_doHold_25 rfl rfl ?_
        refine eb_aload_n (pc := 26) 1 dX10_doHold_26 rfl rfl ?_
        refine eb_iload_n (pc := 27) 3 dX10_doHold_27 rfl rfl ?_
        refine eb_iload (pc := 28) 4 dX10_doHold_28 rfl ?_
        refine eb_calli (pc := 30) (eb_runV (pc := 30) (As := [.ref v1, .int v3, .int v4]) (rest := []) (ci := 9) (q0 := (RX10, TX10, 43)) (q := (RX10, TX10, 43)) ew_737 ew_738 ew_739 ew_666 rfl rfl ed_X10_loads (ct_X10_loads hG n _ _ _ _ _) rfl ew_740 ⟨by decide, by decide⟩ (by decide) (by decide) (Nat.le_of_ble_eq_true rfl) rfl dX10_doHold_30) (fun x8 s7 => ?_)
        refine eb_aload_n (pc := 33) 0 dX10_doHold_33 rfl rfl ?_
        refine eb_getR (pc := 34) ef_RX10_31 dX10_doHold_34 (fun r9 => ?_)
        refine eb_iload_n (pc := 37) 3 dX10_doHold_37 rfl rfl ?_
        refine eb_iaload (pc := 38) dX10_doHold_38 (fun x10 => ?_)
        refine eb_icmp_gt (pc := 39) (tgt := 46) dX10_doHold_39 (by decide) ?_ ?_
        · refine eb_sub [0, 1, 3, 4] rfl ?_
          exact hj6 _
        · refine eb_iconst (pc := 42) (v := 1) dX10_doHold_42 (by decide) ?_
          refine eb_goto (pc := 43) (tgt := 47) dX10_doHold_43 (by decide) ?_
          refine eb_sub [0, 1, 3, 4] rfl ?_
          exact hj4 _ _
set_option maxRecDepth 100000 in
theorem gl_X10_doHold_L4 {G : eb_G} (hG : eb_ok G) {n : Nat} {v0 : Nat} {v1 : Nat}   : ∀ (m : Nat) (v2 : Int32) (v3 : Int32) (s : eb_S), eb_go G yX10_doHold cX10_doHold 5 (some .boolean) (3) 0 0 .ireturn (fun r : Bool => [.int (eb_b r)]) 4 [(0, .ref v0), (1, .ref v1), (2, .int v2), (3, .int v3)] [] s 0 0 (f_X10_doHold_L4 n v0 v1 m v2 v3 s) := by
  intro m
  induction m with
  | zero => intro v2 v3 s; exact eb_none
  | succ m ih =>
    intro v2 v3 s
    rw [f_X10_doHold_L4.eq_2]
    refine eb_iload_n (pc := 4) 3 dX10_doHold_4 rfl rfl ?_
    refine eb_iconst (pc := 5) (v := 3) dX10_doHold_5 (by decide) ?_
    refine eb_icmp_ge (pc := 6) (tgt := 60) dX10_doHold_6 (by decide) ?_ ?_
    · refine eb_iload_n (pc := 60) 2 dX10_doHold_60 rfl rfl ?_
      exact eb_zret (pc := 61) dX10_doHold_61 (by decide) (by decide)
    · refine eb_iconst (pc := 9) (v := 0) dX10_doHold_9 (by decide) ?_
      refine eb_istore (pc := 10) (L' := [(4, .int 0), (0, .ref v0), (1, .ref v1), (2, .int v2), (3, .int v3)]) dX10_doHold_10 (by decide) rfl ?_
      refine eb_sub [1, 2, 3, 4, 0] rfl ?_
      refine gl_X10_doHold_L12 hG (fun w11 s12 => ?_) n _ _ _
      refine eb_iinc (pc := 54) (v := v3 + 1) (L' := [(3, .int (v3 + 1)), (0, .ref v0), (1, .ref v1), (2, .int w11)]) 3 dX10_doHold_54 rfl rfl (by decide) rfl ?_
      refine eb_goto (pc := 57) (tgt := 4) dX10_doHold_57 (by decide) ?_
      refine eb_sub [1, 2, 3, 0] rfl ?_
      exact ih _ _ _
set_option maxRecDepth 100000 in
theorem ct_X10_doHold {G : eb_G} (hG : eb_ok G) (n : Nat) (v0 : Nat) (v1 : Nat) (s : eb_S) : eb_ct G yX10_doHold cX10_doHold 5 (some .boolean) 3 0 0 eb_eb [.ref v0, .ref v1] s (f_X10_doHold n v0 v1 s) := by
  refine eb_ct_b (by decide) (Nat.le_of_ble_eq_true rfl) (fun v hv => by simp at hv; rcases hv with rfl | rfl <;> simp [Value.category]) ?_
  show eb_go G yX10_doHold cX10_doHold 5 (some .boolean) (3) 0 0 .ireturn (fun r : Bool => [.int (eb_b r)]) 0 [(0, .ref v0), (1, .ref v1)] [] s 0 0 _
  unfold f_X10_doHold
  refine eb_iconst (pc := 0) (v := 1) dX10_doHold_0 (by decide) ?_
  refine eb_istore_n (pc := 1) (L' := [(2, .int 1), (0, .ref v0), (1, .ref v1)]) dX10_doHold_1 rfl (by decide) rfl ?_
  refine eb_iconst (pc := 2) (v := 0) dX10_doHold_2 (by decide) ?_
  refine eb_istore_n (pc := 3) (L' := [(3, .int 0), (2, .int 1), (0, .ref v0), (1, .ref v1)]) dX10_doHold_3 rfl (by decide) rfl ?_
  refine eb_sub [2, 3, 1, 0] rfl ?_
  refine gl_X10_doHold_L4 hG  n _ _ _

def f_X10_areLaws_L4 (n : Nat) (v0 : Nat) (v1 : Nat)  : Nat → Int32 → Int32 → eb_S → Option (Bool × eb_S)
  | 0, _, _, _ => none
  | m + 1, v2, v3, s => eb_gI s [9] v0 12 fun x1 => if x1 ≤ v3 then (eb_zb v2 fun b => some (b, s)) else (eb_jn (fun (y2 : Int32) (s3 : eb_S) => f_X10_areLaws_L4 n v0 v1 m y2 (v3 + 1) s3) fun j4 => eb_jn (fun (s5 : eb_S) => j4 0 s5) fun j6 => if v2 = 0 then (j6 s) else (eb_gR s [9] v0 13 fun r7 => eb_ai s r7 v3 fun x8 => eb_ai s v1 x8 fun x9 => eb_gR s [9] v0 14 fun r10 => eb_ai s r10 v3 fun x11 => eb_ai s v1 x11 fun x12 => eb_jn (fun (y13 : Int32) (s14 : eb_S) => eb_gR s14 [9] v0 15 fun r16 => eb_ai s14 r16 v3 fun x17 => eb_jn (fun (y18 : Int32) (s19 : eb_S) => if y13 = y18 then (j4 1 s19) else (j6 s19)) fun j20 => if x17 = 1 then (j20 1 s14) else (j20 0 s14)) fun j15 => if x9 = x12 then (j15 1 s) else (j15 0 s)))
def f_X10_areLaws (n : Nat) (v0 : Nat) (v1 : Nat) (s : eb_S) : Option (Bool × eb_S) := f_X10_areLaws_L4 n v0 v1  n 1 0 s
set_option maxRecDepth 100000 in
theorem gl_X10_areLaws_L4 {G : eb_G} (hG : eb_ok G) {n : Nat} {v0 : Nat} {v1 : Nat}   : ∀ (m : Nat) (v2 : Int32) (v3 : Int32) (s : eb_S), eb_go G yX10_areLaws cX10_areLaws 4 (some .boolean) (1) 0 0 .ireturn (fun r : Bool => [.int (eb_b r)]) 4 [(0, .ref v0), (1, .ref v1), (2, .int v2), (3, .int v3)] [] s 0 0 (f_X10_areLaws_L4 n v0 v1 m v2 v3 s) := by
  intro m
  induction m with
  | zero => intro v2 v3 s; exact eb_none
  | succ m ih =>
    intro v2 v3 s
    rw [f_X10_areLaws_L4.eq_2]
    refine eb_iload_n (pc := 4) 3 dX10_areLaws_4 rfl rfl ?_
    refine eb_aload_n (pc := 5) 0 dX10_areLaws_5 rfl rfl ?_
    refine eb_getI (pc := 6) ef_RX10_152 dX10_areLaws_6 (fun x1 => ?_)
    refine eb_icmp_ge (pc := 9) (tgt := 70) dX10_areLaws_9 (by decide) ?_ ?_
    · refine eb_iload_n (pc := 70) 2 dX10_areLaws_70 rfl rfl ?_
      exact eb_zret (pc := 71) dX10_areLaws_71 (by decide) (by decide)
    · refine eb_iload_n (pc := 12) 2 dX10_areLaws_12 rfl rfl ?_
      refine eb_join (fun j4 : Int32 → eb_S → Option (Bool × eb_S) => ∀ (y2 : Int32) (s3 : eb_S), eb_go G yX10_areLaws cX10_areLaws 4 (some .boolean) (1) 0 0 .ireturn (fun r : Bool => [.int (eb_b r)]) 63 [(0, .ref v0), (1, .ref v1), (3, .int v3)] [.int y2] s3 0 0 (j4 y2 s3)) ?_ (fun j4 hj4 => ?_)
      · intro y2 s3
        refine eb_istore_n (pc := 63) (L' := [(2, .int y2), (0, .ref v0), (1, .ref v1), (3, .int v3)]) dX10_areLaws_63 rfl (by decide) rfl ?_
        refine eb_iinc (pc := 64) (v := v3 + 1) (L' := [(3, .int (v3 + 1)), (2, .int y2), (0, .ref v0), (1, .ref v1)]) 3 dX10_areLaws_64 rfl rfl (by decide) rfl ?_
        refine eb_goto (pc := 67) (tgt := 4) dX10_areLaws_67 (by decide) ?_
        refine eb_sub [2, 3, 1, 0] rfl ?_
        exact ih _ _ _
      refine eb_join (fun j6 : eb_S → Option (Bool × eb_S) => ∀  (s5 : eb_S), eb_go G yX10_areLaws cX10_areLaws 4 (some .boolean) (1) 0 0 .ireturn (fun r : Bool => [.int (eb_b r)]) 62 [(0, .ref v0), (1, .ref v1), (3, .int v3)] [] s5 0 0 (j6  s5)) ?_ (fun j6 hj6 => ?_)
      · intro  s5
        refine eb_iconst (pc := 62) (v := 0) dX10_areLaws_62 (by decide) ?_
        exact hj4 _ _
      refine eb_if_eq (pc := 13) (tgt := 62) dX10_areLaws_13 (by decide) ?_ ?_
      · refine eb_sub [0, 1, 3] rfl ?_
        exact hj6 _
      · refine eb_aload_n (pc := 16) 1 dX10_areLaws_16 rfl rfl ?_
        refine eb_aload_n (pc := 17) 0 dX10_areLaws_17 rfl rfl ?_
        refine eb_getR (pc := 18) ef_RX10_40 dX10_areLaws_18 (fun r7 => ?_)
        refine eb_iload_n (pc := 21) 3 dX10_areLaws_21 rfl rfl ?_
        refine eb_iaload (pc := 22) dX10_areLaws_22 (fun x8 => ?_)
        refine eb_iaload (pc := 23) dX10_areLaws_23 (fun x9 => ?_)
        refine eb_aload_n (pc := 24) 1 dX10_areLaws_24 rfl rfl ?_
        refine eb_aload_n (pc := 25) 0 dX10_areLaws_25 rfl rfl ?_
        refine eb_getR (pc := 26) ef_RX10_43 dX10_areLaws_26 (fun r10 => ?_)
        refine eb_iload_n (pc := 29) 3 dX10_areLaws_29 rfl rfl ?_
        refine eb_iaload (pc := 30) dX10_areLaws_30 (fun x11 => ?_)
        refine eb_iaload (pc := 31) dX10_areLaws_31 (fun x12 => ?_)
        refine eb_join (fun j15 : Int32 → eb_S → Option (Bool × eb_S) => ∀ (y13 : Int32) (s14 : eb_S), eb_go G yX10_areLaws cX10_areLaws 4 (some .boolean) (1) 0 0 .ireturn (fun r : Bool => [.int (eb_b r)]) 40 [(0, .ref v0), (1, .ref v1), (3, .int v3)] [.int y13] s14 0 0 (j15 y13 s14)) ?_ (fun j15 hj15 => ?_)
        · intro y13 s14
          refine eb_aload_n (pc := 40) 0 dX10_areLaws_40 rfl rfl ?_
          refine eb_getR (pc := 41) ef_RX10_46 dX10_areLaws_41 (fun r16 => ?_)
          refine eb_iload_n (pc := 44) 2 dX10_areLaws_44 rfl rfl ?_
          refine eb_iaload (pc := 45) dX10_areLaws_45 (fun x17 => ?_)
          refine eb_iconst (pc := 46) (v := 1) dX10_areLaws_46 (by decide) ?_
          refine eb_join (fun j20 : Int32 → eb_S → Option (Bool × eb_S) => ∀ (y18 : Int32) (s19 : eb_S), eb_go G yX10_areLaws cX10_areLaws 4 (some .boolean) (1) 0 0 .ireturn (fun r : Bool => [.int (eb_b r)]) 55 [(0, .ref v0), (1, .ref v1), (3, .int v3)] [.int y18, .int y13] s19 0 0 (j20 y18 s19)) ?_ (fun j20 hj20 => ?_)
          · intro y18 s19
            refine eb_icmp_ne (pc := 55) (tgt := 62) dX10_areLaws_55 (by decide) ?_ ?_
            · exact hj6 _
            · refine eb_iconst (pc := 58) (v := 1) dX10_areLaws_58 (by decide) ?_
              refine eb_goto (pc := 59) (tgt := 63) dX10_areLaws_59 (by decide) ?_
              exact hj4 _ _
          refine eb_icmp_ne (pc := 47) (tgt := 54) dX10_areLaws_47 (by decide) ?_ ?_
          · refine eb_iconst (pc := 54) (v := 0) dX10_areLaws_54 (by decide) ?_
            exact hj20 _ _
          · refine eb_iconst (pc := 50) (v := 1) dX10_areLaws_50 (by decide) ?_
            refine eb_goto (pc := 51) (tgt := 55) dX10_areLaws_51 (by decide) ?_
            exact hj20 _ _
        refine eb_icmp_ne (pc := 32) (tgt := 39) dX10_areLaws_32 (by decide) ?_ ?_
        · refine eb_iconst (pc := 39) (v := 0) dX10_areLaws_39 (by decide) ?_
          refine eb_sub [0, 1, 3] rfl ?_
          exact hj15 _ _
        · refine eb_iconst (pc := 35) (v := 1) dX10_areLaws_35 (by decide) ?_
          refine eb_goto (pc := 36) (tgt := 40) dX10_areLaws_36 (by decide) ?_
          refine eb_sub [0, 1, 3] rfl ?_
          exact hj15 _ _
set_option maxRecDepth 100000 in
theorem ct_X10_areLaws {G : eb_G} (hG : eb_ok G) (n : Nat) (v0 : Nat) (v1 : Nat) (s : eb_S) : eb_ct G yX10_areLaws cX10_areLaws 4 (some .boolean) 1 0 0 eb_eb [.ref v0, .ref v1] s (f_X10_areLaws n v0 v1 s) := by
  refine eb_ct_b (by decide) (Nat.le_of_ble_eq_true rfl) (fun v hv => by simp at hv; rcases hv with rfl | rfl <;> simp [Value.category]) ?_
  show eb_go G yX10_areLaws cX10_areLaws 4 (some .boolean) (1) 0 0 .ireturn (fun r : Bool => [.int (eb_b r)]) 0 [(0, .ref v0), (1, .ref v1)] [] s 0 0 _
  unfold f_X10_areLaws
  refine eb_iconst (pc := 0) (v := 1) dX10_areLaws_0 (by decide) ?_
  refine eb_istore_n (pc := 1) (L' := [(2, .int 1), (0, .ref v0), (1, .ref v1)]) dX10_areLaws_1 rfl (by decide) rfl ?_
  refine eb_iconst (pc := 2) (v := 0) dX10_areLaws_2 (by decide) ?_
  refine eb_istore_n (pc := 3) (L' := [(3, .int 0), (2, .int 1), (0, .ref v0), (1, .ref v1)]) dX10_areLaws_3 rfl (by decide) rfl ?_
  refine eb_sub [2, 3, 1, 0] rfl ?_
  refine gl_X10_areLaws_L4 hG  n _ _ _

def f_X10_areSoft_L15 (n : Nat) (v0 : Nat) (v1 : Nat) (v3 : Int32) (K : Int32 → eb_S → Option (Bool × eb_S)) : Nat → Int32 → Int32 → eb_S → Option (Bool × eb_S)
  | 0, _, _, _ => none
  | m + 1, v2, v4, s => eb_gI s [9] v0 0 fun x2 => if x2 ≤ v4 then (K v2 s) else (eb_gR s [9] v0 1 fun r3 => eb_ai s r3 v3 fun x4 => if x4 = 2 then (eb_jn (fun (y5 : Int32) (s6 : eb_S) => f_X10_areSoft_L15 n v0 v1 v3 K m y5 (v4 + 1) s6) fun j7 => eb_jn (fun (s8 : eb_S) => j7 0 s8) fun j9 => if v2 = 0 then (j9 s) else (eb_ai s v1 v3 fun x10 => eb_ai s v1 v4 fun x11 => eb_jn (fun (s12 : eb_S) => j7 1 s12) fun j13 => if x10 = x11 then (eb_gR s [9] v0 2 fun r14 => eb_ai s r14 v4 fun x15 => eb_gR s [9] v0 2 fun r16 => eb_ai s r16 v3 fun x17 => if x17 < x15 then (j9 s) else (j13 s)) else (j13 s))) else (K v2 s))
def f_X10_areSoft_L4 (n : Nat) (v0 : Nat) (v1 : Nat)  : Nat → Int32 → Int32 → eb_S → Option (Bool × eb_S)
  | 0, _, _, _ => none
  | m + 1, v2, v3, s => eb_gI s [9] v0 0 fun x1 => if x1 ≤ v3 then (eb_zb v2 fun b => some (b, s)) else (f_X10_areSoft_L15 n v0 v1 v3 (fun (w18 : Int32) (s19 : eb_S) => f_X10_areSoft_L4 n v0 v1 m w18 (v3 + 1) s19) n v2 0 s)
def f_X10_areSoft (n : Nat) (v0 : Nat) (v1 : Nat) (s : eb_S) : Option (Bool × eb_S) := f_X10_areSoft_L4 n v0 v1  n 1 0 s
set_option maxRecDepth 100000 in
theorem gl_X10_areSoft_L15 {G : eb_G} (hG : eb_ok G) {n : Nat} {v0 : Nat} {v1 : Nat} {v3 : Int32} {K : Int32 → eb_S → Option (Bool × eb_S)} (hK : ∀ (v2 : Int32) (s : eb_S), eb_go G yX10_areSoft cX10_areSoft 5 (some .boolean) (1) 0 0 .ireturn (fun r : Bool => [.int (eb_b r)]) 76 [(0, .ref v0), (1, .ref v1), (2, .int v2), (3, .int v3)] [] s 0 0 (K v2 s)) : ∀ (m : Nat) (v2 : Int32) (v4 : Int32) (s : eb_S), eb_go G yX10_areSoft cX10_areSoft 5 (some .boolean) (1) 0 0 .ireturn (fun r : Bool => [.int (eb_b r)]) 15 [(0, .ref v0), (1, .ref v1), (2, .int v2), (3, .int v3), (4, .int v4)] [] s 0 0 (f_X10_areSoft_L15 n v0 v1 v3 K m v2 v4 s) := by
  intro m
  induction m with
  | zero => intro v2 v4 s; exact eb_none
  | succ m ih =>
    intro v2 v4 s
    rw [f_X10_areSoft_L15.eq_2]
    refine eb_iload (pc := 15) 4 dX10_areSoft_15 rfl ?_
    refine eb_aload_n (pc := 17) 0 dX10_areSoft_17 rfl rfl ?_
    refine eb_getI (pc := 18) ef_RX10_98 dX10_areSoft_18 (fun x2 => ?_)
    refine eb_icmp_ge (pc := 21) (tgt := 76) dX10_areSoft_21 (by decide) ?_ ?_
    · refine eb_sub [0, 1, 2, 3] rfl ?_
      exact hK _ _
    · refine eb_aload_n (pc := 24) 0 dX10_areSoft_24 rfl rfl ?_
      refine eb_getR (pc := 25) ef_RX10_7 dX10_areSoft_25 (fun r3 => ?_)
      refine eb_iload_n (pc := 28) 3 dX10_areSoft_28 rfl rfl ?_
      refine eb_iaload (pc := 29) dX10_areSoft_29 (fun x4 => ?_)
      refine eb_iconst (pc := 30) (v := 2) dX10_areSoft_30 (by decide) ?_
      refine eb_icmp_ne (pc := 31) (tgt := 76) dX10_areSoft_31 (by decide) ?_ ?_
      · refine eb_sub [0, 1, 2, 3] rfl ?_
        exact hK _ _
      · refine eb_iload_n (pc := 34) 2 dX10_areSoft_34 rfl rfl ?_
        refine eb_join (fun j7 : Int32 → eb_S → Option (Bool × eb_S) => ∀ (y5 : Int32) (s6 : eb_S), eb_go G yX10_areSoft cX10_areSoft 5 (some .boolean) (1) 0 0 .ireturn (fun r : Bool => [.int (eb_b r)]) 69 [(0, .ref v0), (1, .ref v1), (3, .int v3), (4, .int v4)] [.int y5] s6 0 0 (j7 y5 s6)) ?_ (fun j7 hj7 => ?_)
        · intro y5 s6
          refine eb_istore_n (pc := 69) (L' := [(2, .int y5), (0, .ref v0), (1, .ref v1), (3, .int v3), (4, .int v4)]) dX10_areSoft_69 rfl (by decide) rfl ?_
          refine eb_iinc (pc := 70) (v := v4 + 1) (L' := [(4, .int (v4 + 1)), (2, .int y5), (0, .ref v0), (1, .ref v1), (3, .int v3)]) 4 dX10_areSoft_70 rfl rfl (by decide) rfl ?_
          refine eb_goto (pc := 73) (tgt := 15) dX10_areSoft_73 (by decide) ?_
          refine eb_sub [2, 3, 1, 4, 0] rfl ?_
          exact ih _ _ _
        refine eb_join (fun j9 : eb_S → Option (Bool × eb_S) => ∀  (s8 : eb_S), eb_go G yX10_areSoft cX10_areSoft 5 (some .boolean) (1) 0 0 .ireturn (fun r : Bool => [.int (eb_b r)]) 68 [(0, .ref v0), (1, .ref v1), (3, .int v3), (4, .int v4)] [] s8 0 0 (j9  s8)) ?_ (fun j9 hj9 => ?_)
        · intro  s8
          refine eb_iconst (pc := 68) (v := 0) dX10_areSoft_68 (by decide) ?_
          exact hj7 _ _
        refine eb_if_eq (pc := 35) (tgt := 68) dX10_areSoft_35 (by decide) ?_ ?_
        · refine eb_sub [0, 1, 3, 4] rfl ?_
          exact hj9 _
        · refine eb_aload_n (pc := 38) 1 dX10_areSoft_38 rfl rfl ?_
          refine eb_iload_n (pc := 39) 3 dX10_areSoft_39 rfl rfl ?_
          refine eb_iaload (pc := 40) dX10_areSoft_40 (fun x10 => ?_)
          refine eb_aload_n (pc := 41) 1 dX10_areSoft_41 rfl rfl ?_
          refine eb_iload (pc := 42) 4 dX10_areSoft_42 rfl ?_
          refine eb_iaload (pc := 44) dX10_areSoft_44 (fun x11 => ?_)
          refine eb_join (fun j13 : eb_S → Option (Bool × eb_S) => ∀  (s12 : eb_S), eb_go G yX10_areSoft cX10_areSoft 5 (some .boolean) (1) 0 0 .ireturn (fun r : Bool => [.int (eb_b r)]) 64 [(0, .ref v0), (1, .ref v1), (3, .int v3), (4, .int v4)] [] s12 0 0 (j13  s12)) ?_ (fun j13 hj13 => ?_)
          · intro  s12
            refine eb_iconst (pc := 64) (v := 1) dX10_areSoft_64 (by decide) ?_
            refine eb_goto (pc := 65) (tgt := 69) dX10_areSoft_65 (by decide) ?_
            exact hj7 _ _
          refine eb_icmp_ne (pc := 45) (tgt := 64) dX10_areSoft_45 (by decide) ?_ ?_
          · refine eb_sub [0, 1, 3, 4] rfl ?_
            exact hj13 _
          · refine eb_aload_n (pc := 48) 0 dX10_areSoft_48 rfl rfl ?_
            refine eb_getR (pc := 49) ef_RX10_13 dX10_areSoft_49 (fun r14 => ?_)
            refine eb_iload (pc := 52) 4 dX10_areSoft_52 rfl ?_
            refine eb_iaload (pc := 54) dX10_areSoft_54 (fun x15 => ?_)
            refine eb_aload_n (pc := 55) 0 dX10_areSoft_55 rfl rfl ?_
            refine eb_getR (pc := 56) ef_RX10_13 dX10_areSoft_56 (fun r16 => ?_)
            refine eb_iload_n (pc := 59) 3 dX10_areSoft_59 rfl rfl ?_
            refine eb_iaload (pc := 60) dX10_areSoft_60 (fun x17 => ?_)
            refine eb_icmp_gt (pc := 61) (tgt := 68) dX10_areSoft_61 (by decide) ?_ ?_
            · refine eb_sub [0, 1, 3, 4] rfl ?_
              exact hj9 _
            · refine eb_sub [0, 1, 3, 4] rfl ?_
              exact hj13 _
set_option maxRecDepth 100000 in
theorem gl_X10_areSoft_L4 {G : eb_G} (hG : eb_ok G) {n : Nat} {v0 : Nat} {v1 : Nat}   : ∀ (m : Nat) (v2 : Int32) (v3 : Int32) (s : eb_S), eb_go G yX10_areSoft cX10_areSoft 5 (some .boolean) (1) 0 0 .ireturn (fun r : Bool => [.int (eb_b r)]) 4 [(0, .ref v0), (1, .ref v1), (2, .int v2), (3, .int v3)] [] s 0 0 (f_X10_areSoft_L4 n v0 v1 m v2 v3 s) := by
  intro m
  induction m with
  | zero => intro v2 v3 s; exact eb_none
  | succ m ih =>
    intro v2 v3 s
    rw [f_X10_areSoft_L4.eq_2]
    refine eb_iload_n (pc := 4) 3 dX10_areSoft_4 rfl rfl ?_
    refine eb_aload_n (pc := 5) 0 dX10_areSoft_5 rfl rfl ?_
    refine eb_getI (pc := 6) ef_RX10_98 dX10_areSoft_6 (fun x1 => ?_)
    refine eb_icmp_ge (pc := 9) (tgt := 82) dX10_areSoft_9 (by decide) ?_ ?_
    · refine eb_iload_n (pc := 82) 2 dX10_areSoft_82 rfl rfl ?_
      exact eb_zret (pc := 83) dX10_areSoft_83 (by decide) (by decide)
    · refine eb_iconst (pc := 12) (v := 0) dX10_areSoft_12 (by decide) ?_
      refine eb_istore (pc := 13) (L' := [(4, .int 0), (0, .ref v0), (1, .ref v1), (2, .int v2), (3, .int v3)]) dX10_areSoft_13 (by decide) rfl ?_
      refine eb_sub [1, 2, 3, 4, 0] rfl ?_
      refine gl_X10_areSoft_L15 hG (fun w18 s19 => ?_) n _ _ _
      refine eb_iinc (pc := 76) (v := v3 + 1) (L' := [(3, .int (v3 + 1)), (0, .ref v0), (1, .ref v1), (2, .int w18)]) 3 dX10_areSoft_76 rfl rfl (by decide) rfl ?_
      refine eb_goto (pc := 79) (tgt := 4) dX10_areSoft_79 (by decide) ?_
      refine eb_sub [1, 2, 3, 0] rfl ?_
      exact ih _ _ _
set_option maxRecDepth 100000 in
theorem ct_X10_areSoft {G : eb_G} (hG : eb_ok G) (n : Nat) (v0 : Nat) (v1 : Nat) (s : eb_S) : eb_ct G yX10_areSoft cX10_areSoft 5 (some .boolean) 1 0 0 eb_eb [.ref v0, .ref v1] s (f_X10_areSoft n v0 v1 s) := by
  refine eb_ct_b (by decide) (Nat.le_of_ble_eq_true rfl) (fun v hv => by simp at hv; rcases hv with rfl | rfl <;> simp [Value.category]) ?_
  show eb_go G yX10_areSoft cX10_areSoft 5 (some .boolean) (1) 0 0 .ireturn (fun r : Bool => [.int (eb_b r)]) 0 [(0, .ref v0), (1, .ref v1)] [] s 0 0 _
  unfold f_X10_areSoft
  refine eb_iconst (pc := 0) (v := 1) dX10_areSoft_0 (by decide) ?_
  refine eb_istore_n (pc := 1) (L' := [(2, .int 1), (0, .ref v0), (1, .ref v1)]) dX10_areSoft_1 rfl (by decide) rfl ?_
  refine eb_iconst (pc := 2) (v := 0) dX10_areSoft_2 (by decide) ?_
  refine eb_istore_n (pc := 3) (L' := [(3, .int 0), (2, .int 1), (0, .ref v0), (1, .ref v1)]) dX10_areSoft_3 rfl (by decide) rfl ?_
  refine eb_sub [2, 3, 1, 0] rfl ?_
  refine gl_X10_areSoft_L4 hG  n _ _ _

def f_X10_whyNot (n : Nat) (v0 : Nat) (v1 : Nat) (s : eb_S) : Option (Int32 × eb_S) := eb_cl (eb_tg s v0 9 (f_X10_doHold n v0 v1 s)) fun b2 s1 => if (eb_b b2) = 0 then (some (1, s1)) else (eb_cl (eb_tg s1 v0 9 (f_X10_areLaws n v0 v1 s1)) fun b4 s3 => if (eb_b b4) = 0 then (some (2, s3)) else (eb_cl (eb_tg s3 v0 9 (f_X10_areSoft n v0 v1 s3)) fun b6 s5 => if (eb_b b6) = 0 then (some (3, s5)) else (some (0, s5))))
set_option maxRecDepth 100000 in
theorem ct_X10_whyNot {G : eb_G} (hG : eb_ok G) (n : Nat) (v0 : Nat) (v1 : Nat) (s : eb_S) : eb_ct G yX10_whyNot cX10_whyNot 2 (some .int) 4 0 0 eb_ei [.ref v0, .ref v1] s (f_X10_whyNot n v0 v1 s) := by
  refine eb_ct_i (by decide) (Nat.le_of_ble_eq_true rfl) (fun v hv => by simp at hv; rcases hv with rfl | rfl <;> simp [Value.category]) ?_
  show eb_go G yX10_whyNot cX10_whyNot 2 (some .int) (4) 0 0 .ireturn (fun r : Int32 => [.int r]) 0 [(0, .ref v0), (1, .ref v1)] [] s 0 0 _
  unfold f_X10_whyNot
  refine eb_aload_n (pc := 0) 0 dX10_whyNot_0 rfl rfl ?_
  refine eb_aload_n (pc := 1) 1 dX10_whyNot_1 rfl rfl ?_
  refine eb_callb (pc := 2) (eb_runV (pc := 2) (As := [.ref v1]) (rest := []) (ci := 9) (q0 := (RX10, TX10, 43)) (q := (RX10, TX10, 43)) ew_741 ew_742 ew_743 ew_666 rfl rfl ed_X10_doHold (ct_X10_doHold hG n _ _ _) rfl ew_744 ⟨by decide, by decide⟩ (by decide) (by decide) (Nat.le_of_ble_eq_true rfl) rfl dX10_whyNot_2) (fun b2 s1 => ?_)
  refine eb_if_ne (pc := 5) (tgt := 12) dX10_whyNot_5 (by decide) ?_ ?_
  · refine eb_aload_n (pc := 12) 0 dX10_whyNot_12 rfl rfl ?_
    refine eb_aload_n (pc := 13) 1 dX10_whyNot_13 rfl rfl ?_
    refine eb_callb (pc := 14) (eb_runV (pc := 14) (As := [.ref v1]) (rest := []) (ci := 9) (q0 := (RX10, TX10, 43)) (q := (RX10, TX10, 43)) ew_745 ew_746 ew_747 ew_666 rfl rfl ed_X10_areLaws (ct_X10_areLaws hG n _ _ _) rfl ew_748 ⟨by decide, by decide⟩ (by decide) (by decide) (Nat.le_of_ble_eq_true rfl) rfl dX10_whyNot_14) (fun b4 s3 => ?_)
    refine eb_if_ne (pc := 17) (tgt := 24) dX10_whyNot_17 (by decide) ?_ ?_
    · refine eb_aload_n (pc := 24) 0 dX10_whyNot_24 rfl rfl ?_
      refine eb_aload_n (pc := 25) 1 dX10_whyNot_25 rfl rfl ?_
      refine eb_callb (pc := 26) (eb_runV (pc := 26) (As := [.ref v1]) (rest := []) (ci := 9) (q0 := (RX10, TX10, 43)) (q := (RX10, TX10, 43)) ew_749 ew_750 ew_751 ew_666 rfl rfl ed_X10_areSoft (ct_X10_areSoft hG n _ _ _) rfl ew_752 ⟨by decide, by decide⟩ (by decide) (by decide) (Nat.le_of_ble_eq_true rfl) rfl dX10_whyNot_26) (fun b6 s5 => ?_)
      refine eb_if_ne (pc := 29) (tgt := 36) dX10_whyNot_29 (by decide) ?_ ?_
      · refine eb_iconst (pc := 36) (v := 0) dX10_whyNot_36 (by decide) ?_
        exact eb_iret (pc := 37) dX10_whyNot_37 (by decide) (by decide)
      · refine eb_iconst (pc := 32) (v := 3) dX10_whyNot_32 (by decide) ?_
        refine eb_goto (pc := 33) (tgt := 37) dX10_whyNot_33 (by decide) ?_
        exact eb_iret (pc := 37) dX10_whyNot_37 (by decide) (by decide)
    · refine eb_iconst (pc := 20) (v := 2) dX10_whyNot_20 (by decide) ?_
      refine eb_goto (pc := 21) (tgt := 37) dX10_whyNot_21 (by decide) ?_
      exact eb_iret (pc := 37) dX10_whyNot_37 (by decide) (by decide)
  · refine eb_iconst (pc := 8) (v := 1) dX10_whyNot_8 (by decide) ?_
    refine eb_goto (pc := 9) (tgt := 37) dX10_whyNot_9 (by decide) ?_
    exact eb_iret (pc := 37) dX10_whyNot_37 (by decide) (by decide)

def f_X10_isLawful (n : Nat) (v0 : Nat) (v1 : Nat) (s : eb_S) : Option (Bool × eb_S) := eb_cl (eb_tg s v0 9 (f_X10_areLaws n v0 v1 s)) fun b2 s1 => if (eb_b b2) = 0 then (some (false, s1)) else (eb_cl (eb_tg s1 v0 9 (f_X10_areSoft n v0 v1 s1)) fun b4 s3 => if (eb_b b4) = 0 then (some (false, s3)) else (eb_cl (eb_tg s3 v0 9 (f_X10_doHold n v0 v1 s3)) fun b6 s5 => if (eb_b b6) = 0 then (some (false, s5)) else (some (true, s5))))
set_option maxRecDepth 100000 in
theorem ct_X10_isLawful {G : eb_G} (hG : eb_ok G) (n : Nat) (v0 : Nat) (v1 : Nat) (s : eb_S) : eb_ct G yX10_isLawful cX10_isLawful 2 (some .boolean) 4 0 0 eb_eb [.ref v0, .ref v1] s (f_X10_isLawful n v0 v1 s) := by
  refine eb_ct_b (by decide) (Nat.le_of_ble_eq_true rfl) (fun v hv => by simp at hv; rcases hv with rfl | rfl <;> simp [Value.category]) ?_
  show eb_go G yX10_isLawful cX10_isLawful 2 (some .boolean) (4) 0 0 .ireturn (fun r : Bool => [.int (eb_b r)]) 0 [(0, .ref v0), (1, .ref v1)] [] s 0 0 _
  unfold f_X10_isLawful
  refine eb_aload_n (pc := 0) 0 dX10_isLawful_0 rfl rfl ?_
  refine eb_aload_n (pc := 1) 1 dX10_isLawful_1 rfl rfl ?_
  refine eb_callb (pc := 2) (eb_runV (pc := 2) (As := [.ref v1]) (rest := []) (ci := 9) (q0 := (RX10, TX10, 43)) (q := (RX10, TX10, 43)) ew_745 ew_746 ew_747 ew_666 rfl rfl ed_X10_areLaws (ct_X10_areLaws hG n _ _ _) rfl ew_748 ⟨by decide, by decide⟩ (by decide) (by decide) (Nat.le_of_ble_eq_true rfl) rfl dX10_isLawful_2) (fun b2 s1 => ?_)
  refine eb_if_eq (pc := 5) (tgt := 28) dX10_isLawful_5 (by decide) ?_ ?_
  · refine eb_iconst (pc := 28) (v := 0) dX10_isLawful_28 (by decide) ?_
    exact eb_bret (pc := 29) (b := false) dX10_isLawful_29 (by decide) (by decide)
  · refine eb_aload_n (pc := 8) 0 dX10_isLawful_8 rfl rfl ?_
    refine eb_aload_n (pc := 9) 1 dX10_isLawful_9 rfl rfl ?_
    refine eb_callb (pc := 10) (eb_runV (pc := 10) (As := [.ref v1]) (rest := []) (ci := 9) (q0 := (RX10, TX10, 43)) (q := (RX10, TX10, 43)) ew_749 ew_750 ew_751 ew_666 rfl rfl ed_X10_areSoft (ct_X10_areSoft hG n _ _ _) rfl ew_752 ⟨by decide, by decide⟩ (by decide) (by decide) (Nat.le_of_ble_eq_true rfl) rfl dX10_isLawful_10) (fun b4 s3 => ?_)
    refine eb_if_eq (pc := 13) (tgt := 28) dX10_isLawful_13 (by decide) ?_ ?_
    · refine eb_iconst (pc := 28) (v := 0) dX10_isLawful_28 (by decide) ?_
      exact eb_bret (pc := 29) (b := false) dX10_isLawful_29 (by decide) (by decide)
    · refine eb_aload_n (pc := 16) 0 dX10_isLawful_16 rfl rfl ?_
      refine eb_aload_n (pc := 17) 1 dX10_isLawful_17 rfl rfl ?_
      refine eb_callb (pc := 18) (eb_runV (pc := 18) (As := [.ref v1]) (rest := []) (ci := 9) (q0 := (RX10, TX10, 43)) (q := (RX10, TX10, 43)) ew_741 ew_742 ew_743 ew_666 rfl rfl ed_X10_doHold (ct_X10_doHold hG n _ _ _) rfl ew_744 ⟨by decide, by decide⟩ (by decide) (by decide) (Nat.le_of_ble_eq_true rfl) rfl dX10_isLawful_18) (fun b6 s5 => ?_)
      refine eb_if_eq (pc := 21) (tgt := 28) dX10_isLawful_21 (by decide) ?_ ?_
      · refine eb_iconst (pc := 28) (v := 0) dX10_isLawful_28 (by decide) ?_
        exact eb_bret (pc := 29) (b := false) dX10_isLawful_29 (by decide) (by decide)
      · refine eb_iconst (pc := 24) (v := 1) dX10_isLawful_24 (by decide) ?_
        refine eb_goto (pc := 25) (tgt := 29) dX10_isLawful_25 (by decide) ?_
        exact eb_bret (pc := 29) (b := true) dX10_isLawful_29 (by decide) (by decide)

def f_X10_lawful (n : Nat) (v0 : Nat) (s : eb_S) : Option (Int32 × eb_S) := eb_gR s [9] v0 5 fun r1 => eb_cl (eb_tg s v0 9 (f_X10_whyNot n v0 r1 s)) fun x3 s2 => some (x3, s2)
set_option maxRecDepth 100000 in
theorem ct_X10_lawful {G : eb_G} (hG : eb_ok G) (n : Nat) (v0 : Nat) (s : eb_S) : eb_ct G yX10_lawful cX10_lawful 1 (some .int) 5 0 0 eb_ei [.ref v0] s (f_X10_lawful n v0 s) := by
  refine eb_ct_i (by decide) (Nat.le_of_ble_eq_true rfl) (fun v hv => by simp at hv; rcases hv with rfl <;> simp [Value.category]) ?_
  show eb_go G yX10_lawful cX10_lawful 1 (some .int) (5) 0 0 .ireturn (fun r : Int32 => [.int r]) 0 [(0, .ref v0)] [] s 0 0 _
  unfold f_X10_lawful
  refine eb_aload_n (pc := 0) 0 dX10_lawful_0 rfl rfl ?_
  refine eb_aload_n (pc := 1) 0 dX10_lawful_1 rfl rfl ?_
  refine eb_getR (pc := 2) ef_RX10_22 dX10_lawful_2 (fun r1 => ?_)
  refine eb_calli (pc := 5) (eb_runV (pc := 5) (As := [.ref r1]) (rest := []) (ci := 9) (q0 := (RX10, TX10, 43)) (q := (RX10, TX10, 43)) ew_753 ew_754 ew_755 ew_666 rfl rfl ed_X10_whyNot (ct_X10_whyNot hG n _ _ _) rfl ew_756 ⟨by decide, by decide⟩ (by decide) (by decide) (Nat.le_of_ble_eq_true rfl) rfl dX10_lawful_5) (fun x3 s2 => ?_)
  exact eb_iret (pc := 8) dX10_lawful_8 (by decide) (by decide)

def f_X10_offOf (n : Nat) (v0 : Nat) (v1 : Nat) (v2 : Int32) (s : eb_S) : Option (Int32 × eb_S) := eb_cl (eb_tg s v0 9 (f_X10_loads n v0 v1 0 v2 s)) fun x2 s1 => eb_gR s1 [9] v0 11 fun r3 => eb_ai s1 r3 1 fun x4 => eb_cl (eb_tg s1 v0 9 (f_X10_loads n v0 v1 1 v2 s1)) fun x6 s5 => eb_gR s5 [9] v0 11 fun r7 => eb_ai s5 r7 0 fun x8 => some ((x2 * x4) - (x6 * x8), s5)
set_option maxRecDepth 100000 in
theorem ct_X10_offOf {G : eb_G} (hG : eb_ok G) (n : Nat) (v0 : Nat) (v1 : Nat) (v2 : Int32) (s : eb_S) : eb_ct G yX10_offOf cX10_offOf 3 (some .int) 3 0 0 eb_ei [.ref v0, .ref v1, .int v2] s (f_X10_offOf n v0 v1 v2 s) := by
  refine eb_ct_i (by decide) (Nat.le_of_ble_eq_true rfl) (fun v hv => by simp at hv; rcases hv with rfl | rfl | rfl <;> simp [Value.category]) ?_
  show eb_go G yX10_offOf cX10_offOf 3 (some .int) (3) 0 0 .ireturn (fun r : Int32 => [.int r]) 0 [(0, .ref v0), (1, .ref v1), (2, .int v2)] [] s 0 0 _
  unfold f_X10_offOf
  refine eb_aload_n (pc := 0) 0 dX10_offOf_0 rfl rfl ?_
  refine eb_aload_n (pc := 1) 1 dX10_offOf_1 rfl rfl ?_
  refine eb_iconst (pc := 2) (v := 0) dX10_offOf_2 (by decide) ?_
  refine eb_iload_n (pc := 3) 2 dX10_offOf_3 rfl rfl ?_
  refine eb_calli (pc := 4) (eb_runV (pc := 4) (As := [.ref v1, .int 0, .int v2]) (rest := []) (ci := 9) (q0 := (RX10, TX10, 43)) (q := (RX10, TX10, 43)) ew_737 ew_738 ew_739 ew_666 rfl rfl ed_X10_loads (ct_X10_loads hG n _ _ _ _ _) rfl ew_740 ⟨by decide, by decide⟩ (by decide) (by decide) (Nat.le_of_ble_eq_true rfl) rfl dX10_offOf_4) (fun x2 s1 => ?_)
  refine eb_aload_n (pc := 7) 0 dX10_offOf_7 rfl rfl ?_
  refine eb_getR (pc := 8) ef_RX10_37 dX10_offOf_8 (fun r3 => ?_)
  refine eb_iconst (pc := 11) (v := 1) dX10_offOf_11 (by decide) ?_
  refine eb_iaload (pc := 12) dX10_offOf_12 (fun x4 => ?_)
  refine eb_imul (pc := 13) dX10_offOf_13 ?_
  refine eb_aload_n (pc := 14) 0 dX10_offOf_14 rfl rfl ?_
  refine eb_aload_n (pc := 15) 1 dX10_offOf_15 rfl rfl ?_
  refine eb_iconst (pc := 16) (v := 1) dX10_offOf_16 (by decide) ?_
  refine eb_iload_n (pc := 17) 2 dX10_offOf_17 rfl rfl ?_
  refine eb_calli (pc := 18) (eb_runV (pc := 18) (As := [.ref v1, .int 1, .int v2]) (rest := [.int (x2 * x4)]) (ci := 9) (q0 := (RX10, TX10, 43)) (q := (RX10, TX10, 43)) ew_737 ew_738 ew_739 ew_666 rfl rfl ed_X10_loads (ct_X10_loads hG n _ _ _ _ _) rfl ew_740 ⟨by decide, by decide⟩ (by decide) (by decide) (Nat.le_of_ble_eq_true rfl) rfl dX10_offOf_18) (fun x6 s5 => ?_)
  refine eb_aload_n (pc := 21) 0 dX10_offOf_21 rfl rfl ?_
  refine eb_getR (pc := 22) ef_RX10_37 dX10_offOf_22 (fun r7 => ?_)
  refine eb_iconst (pc := 25) (v := 0) dX10_offOf_25 (by decide) ?_
  refine eb_iaload (pc := 26) dX10_offOf_26 (fun x8 => ?_)
  refine eb_imul (pc := 27) dX10_offOf_27 ?_
  refine eb_isub (pc := 28) dX10_offOf_28 ?_
  exact eb_iret (pc := 29) dX10_offOf_29 (by decide) (by decide)

def f_X10_plain (v0 : Nat) (v1 : Int32) (s : eb_S) : Option (Int32 × eb_S) := if 0 ≤ v1 then (some (v1, s)) else (some (-v1, s))
set_option maxRecDepth 100000 in
theorem ct_X10_plain {G : eb_G} (hG : eb_ok G) (v0 : Nat) (v1 : Int32) (s : eb_S) : eb_ct G yX10_plain cX10_plain 2 (some .int) 1 0 0 eb_ei [.ref v0, .int v1] s (f_X10_plain v0 v1 s) := by
  refine eb_ct_i (by decide) (Nat.le_of_ble_eq_true rfl) (fun v hv => by simp at hv; rcases hv with rfl | rfl <;> simp [Value.category]) ?_
  show eb_go G yX10_plain cX10_plain 2 (some .int) (1) 0 0 .ireturn (fun r : Int32 => [.int r]) 0 [(0, .ref v0), (1, .int v1)] [] s 0 0 _
  unfold f_X10_plain
  refine eb_iload_n (pc := 0) 1 dX10_plain_0 rfl rfl ?_
  refine eb_if_ge (pc := 1) (tgt := 9) dX10_plain_1 (by decide) ?_ ?_
  · refine eb_iload_n (pc := 9) 1 dX10_plain_9 rfl rfl ?_
    exact eb_iret (pc := 10) dX10_plain_10 (by decide) (by decide)
  · refine eb_iload_n (pc := 4) 1 dX10_plain_4 rfl rfl ?_
    refine eb_ineg (pc := 5) dX10_plain_5 ?_
    refine eb_goto (pc := 6) (tgt := 10) dX10_plain_6 (by decide) ?_
    exact eb_iret (pc := 10) dX10_plain_10 (by decide) (by decide)

def f_X10_pull (n : Nat) (v0 : Nat) (v1 : Int32) (s : eb_S) : Option (Int32 × eb_S) := eb_cl (eb_tg s v0 9 (f_X10_isStretch v0 v1 s)) fun b2 s1 => if (eb_b b2) = 0 then (some ((-10000001), s1)) else (eb_gR s1 [9] v0 5 fun r3 => eb_cl (eb_tg s1 v0 9 (f_X10_offOf n v0 r3 v1 s1)) fun x5 s4 => some (x5, s4))
set_option maxRecDepth 100000 in
theorem ct_X10_pull {G : eb_G} (hG : eb_ok G) (n : Nat) (v0 : Nat) (v1 : Int32) (s : eb_S) : eb_ct G yX10_pull cX10_pull 2 (some .int) 4 0 0 eb_ei [.ref v0, .int v1] s (f_X10_pull n v0 v1 s) := by
  refine eb_ct_i (by decide) (Nat.le_of_ble_eq_true rfl) (fun v hv => by simp at hv; rcases hv with rfl | rfl <;> simp [Value.category]) ?_
  show eb_go G yX10_pull cX10_pull 2 (some .int) (4) 0 0 .ireturn (fun r : Int32 => [.int r]) 0 [(0, .ref v0), (1, .int v1)] [] s 0 0 _
  unfold f_X10_pull
  refine eb_aload_n (pc := 0) 0 dX10_pull_0 rfl rfl ?_
  refine eb_iload_n (pc := 1) 1 dX10_pull_1 rfl rfl ?_
  refine eb_callb (pc := 2) (eb_runV (pc := 2) (As := [.int v1]) (rest := []) (ci := 9) (q0 := (RX10, TX10, 43)) (q := (RX10, TX10, 43)) ew_692 ew_693 ew_694 ew_666 rfl rfl ed_X10_isStretch (ct_X10_isStretch hG _ _ _) rfl ew_695 ⟨by decide, by decide⟩ (by decide) (by decide) (Nat.le_of_ble_eq_true rfl) rfl dX10_pull_2) (fun b2 s1 => ?_)
  refine eb_if_eq (pc := 5) (tgt := 20) dX10_pull_5 (by decide) ?_ ?_
  · refine eb_ldc (pc := 20) (v := (-10000001)) dX10_pull_20 ew_757 ?_
    exact eb_iret (pc := 22) dX10_pull_22 (by decide) (by decide)
  · refine eb_aload_n (pc := 8) 0 dX10_pull_8 rfl rfl ?_
    refine eb_aload_n (pc := 9) 0 dX10_pull_9 rfl rfl ?_
    refine eb_getR (pc := 10) ef_RX10_22 dX10_pull_10 (fun r3 => ?_)
    refine eb_iload_n (pc := 13) 1 dX10_pull_13 rfl rfl ?_
    refine eb_calli (pc := 14) (eb_runV (pc := 14) (As := [.ref r3, .int v1]) (rest := []) (ci := 9) (q0 := (RX10, TX10, 43)) (q := (RX10, TX10, 43)) ew_758 ew_759 ew_760 ew_666 rfl rfl ed_X10_offOf (ct_X10_offOf hG n _ _ _ _) rfl ew_761 ⟨by decide, by decide⟩ (by decide) (by decide) (Nat.le_of_ble_eq_true rfl) rfl dX10_pull_14) (fun x5 s4 => ?_)
    refine eb_goto (pc := 17) (tgt := 22) dX10_pull_17 (by decide) ?_
    exact eb_iret (pc := 22) dX10_pull_22 (by decide) (by decide)

def f_X10_unevens_L12 (n : Nat) (v0 : Nat) (v1 : Nat)  : Nat → Int32 → eb_S → Option (Unit × eb_S)
  | 0, _, _ => none
  | m + 1, v2, s => eb_gI s [9] v0 6 fun x3 => if x3 ≤ v2 then (some ((), s)) else (eb_cl (eb_tg s v0 9 (f_X10_offOf n v0 v1 v2 s)) fun x5 s4 => eb_cl (eb_tg s4 v0 9 (f_X10_plain v0 x5 s4)) fun x7 s6 => eb_gI s6 [9] v0 27 fun x8 => eb_jn (fun (y9 : Int32) (s10 : eb_S) => eb_pI s10 [9] v0 27 y9 fun s12 => eb_gI s12 [9] v0 28 fun x13 => eb_gR s12 [9] v0 7 fun r14 => eb_ai s12 r14 v2 fun x15 => eb_gR s12 [9] v0 8 fun r16 => eb_ai s12 r16 v2 fun x17 => eb_pI s12 [9] v0 28 (x13 + ((x7 * x15) * ((1 : Int32) + x17))) fun s18 => f_X10_unevens_L12 n v0 v1 m (v2 + 1) s18) fun j11 => if x7 ≤ x8 then (eb_gI s6 [9] v0 27 fun x19 => j11 x19 s6) else (j11 x7 s6))
def f_X10_unevens (n : Nat) (v0 : Nat) (v1 : Nat) (s : eb_S) : Option (Unit × eb_S) := eb_pI s [9] v0 27 0 fun s1 => eb_pI s1 [9] v0 28 0 fun s2 => f_X10_unevens_L12 n v0 v1  n 0 s2
set_option maxRecDepth 100000 in
theorem gl_X10_unevens_L12 {G : eb_G} (hG : eb_ok G) {n : Nat} {v0 : Nat} {v1 : Nat}   : ∀ (m : Nat) (v2 : Int32) (s : eb_S), eb_go G yX10_unevens cX10_unevens 4 none (4) 0 0 .return_ (fun _ : Unit => []) 12 [(0, .ref v0), (1, .ref v1), (2, .int v2)] [] s 0 0 (f_X10_unevens_L12 n v0 v1 m v2 s) := by
  intro m
  induction m with
  | zero => intro v2 s; exact eb_none
  | succ m ih =>
    intro v2 s
    rw [f_X10_unevens_L12.eq_2]
    refine eb_iload_n (pc := 12) 2 dX10_unevens_12 rfl rfl ?_
    refine eb_aload_n (pc := 13) 0 dX10_unevens_13 rfl rfl ?_
    refine eb_getI (pc := 14) ef_RX10_106 dX10_unevens_14 (fun x3 => ?_)
    refine eb_icmp_ge (pc := 17) (tgt := 83) dX10_unevens_17 (by decide) ?_ ?_
    · exact eb_vret (pc := 83) dX10_unevens_83 (by decide) (by decide)
    · refine eb_aload_n (pc := 20) 0 dX10_unevens_20 rfl rfl ?_
      refine eb_aload_n (pc := 21) 0 dX10_unevens_21 rfl rfl ?_
      refine eb_aload_n (pc := 22) 1 dX10_unevens_22 rfl rfl ?_
      refine eb_iload_n (pc := 23) 2 dX10_unevens_23 rfl rfl ?_
      refine eb_calli (pc := 24) (eb_runV (pc := 24) (As := [.ref v1, .int v2]) (rest := [.ref v0]) (ci := 9) (q0 := (RX10, TX10, 43)) (q := (RX10, TX10, 43)) ew_758 ew_759 ew_760 ew_666 rfl rfl ed_X10_offOf (ct_X10_offOf hG n _ _ _ _) rfl ew_761 ⟨by decide, by decide⟩ (by decide) (by decide) (Nat.le_of_ble_eq_true rfl) rfl dX10_unevens_24) (fun x5 s4 => ?_)
      refine eb_calli (pc := 27) (eb_runV (pc := 27) (As := [.int x5]) (rest := []) (ci := 9) (q0 := (RX10, TX10, 43)) (q := (RX10, TX10, 43)) ew_764 ew_765 ew_766 ew_666 rfl rfl ed_X10_plain (ct_X10_plain hG _ _ _) rfl ew_767 ⟨by decide, by decide⟩ (by decide) (by decide) (Nat.le_of_ble_eq_true rfl) rfl dX10_unevens_27) (fun x7 s6 => ?_)
      refine eb_istore_n (pc := 30) (L' := [(3, .int x7), (0, .ref v0), (1, .ref v1), (2, .int v2)]) dX10_unevens_30 rfl (by decide) rfl ?_
      refine eb_aload_n (pc := 31) 1 dX10_unevens_31 rfl rfl ?_
      refine eb_iload_n (pc := 32) 0 dX10_unevens_32 rfl rfl ?_
      refine eb_aload_n (pc := 33) 1 dX10_unevens_33 rfl rfl ?_
      refine eb_getI (pc := 34) ef_RX10_224 dX10_unevens_34 (fun x8 => ?_)
      refine eb_join (fun j11 : Int32 → eb_S → Option (Unit × eb_S) => ∀ (y9 : Int32) (s10 : eb_S), eb_go G yX10_unevens cX10_unevens 4 none (4) 0 0 .return_ (fun _ : Unit => []) 48 [(0, .ref v0), (1, .ref v1), (2, .int v2), (3, .int x7)] [.int y9, .ref v0] s10 0 0 (j11 y9 s10)) ?_ (fun j11 hj11 => ?_)
      · intro y9 s10
        refine eb_putI (pc := 48) ef_RX10_224 eg_RX10_224 dX10_unevens_48 (fun s12 => ?_)
        refine eb_aload_n (pc := 51) 0 dX10_unevens_51 rfl rfl ?_
        refine eb_dup (pc := 52) dX10_unevens_52 rfl ?_
        refine eb_getI (pc := 53) ef_RX10_227 dX10_unevens_53 (fun x13 => ?_)
        refine eb_iload_n (pc := 56) 3 dX10_unevens_56 rfl rfl ?_
        refine eb_aload_n (pc := 57) 0 dX10_unevens_57 rfl rfl ?_
        refine eb_getR (pc := 58) ef_RX10_25 dX10_unevens_58 (fun r14 => ?_)
        refine eb_iload_n (pc := 61) 2 dX10_unevens_61 rfl rfl ?_
        refine eb_iaload (pc := 62) dX10_unevens_62 (fun x15 => ?_)
        refine eb_imul (pc := 63) dX10_unevens_63 ?_
        refine eb_iconst (pc := 64) (v := 1) dX10_unevens_64 (by decide) ?_
        refine eb_aload_n (pc := 65) 0 dX10_unevens_65 rfl rfl ?_
        refine eb_getR (pc := 66) ef_RX10_28 dX10_unevens_66 (fun r16 => ?_)
        refine eb_iload_n (pc := 69) 2 dX10_unevens_69 rfl rfl ?_
        refine eb_iaload (pc := 70) dX10_unevens_70 (fun x17 => ?_)
        refine eb_iadd (pc := 71) dX10_unevens_71 ?_
        refine eb_imul (pc := 72) dX10_unevens_72 ?_
        refine eb_iadd (pc := 73) dX10_unevens_73 ?_
        refine eb_putI (pc := 74) ef_RX10_227 eg_RX10_227 dX10_unevens_74 (fun s18 => ?_)
        refine eb_iinc (pc := 77) (v := v2 + 1) (L' := [(2, .int (v2 + 1)), (0, .ref v0), (1, .ref v1), (3, .int x7)]) 2 dX10_unevens_77 rfl rfl (by decide) rfl ?_
        refine eb_goto (pc := 80) (tgt := 12) dX10_unevens_80 (by decide) ?_
        refine eb_sub [1, 2, 0] rfl ?_
        exact ih _ _
      refine eb_icmp_le (pc := 37) (tgt := 44) dX10_unevens_37 (by decide) ?_ ?_
      · refine eb_aload_n (pc := 44) 1 dX10_unevens_44 rfl rfl ?_
        refine eb_getI (pc := 45) ef_RX10_224 dX10_unevens_45 (fun x19 => ?_)
        refine eb_sub [1, 2, 3, 0] rfl ?_
        exact hj11 _ _
      · refine eb_iload_n (pc := 40) 0 dX10_unevens_40 rfl rfl ?_
        refine eb_goto (pc := 41) (tgt := 48) dX10_unevens_41 (by decide) ?_
        refine eb_sub [1, 2, 3, 0] rfl ?_
        exact hj11 _ _
set_option maxRecDepth 100000 in
theorem ct_X10_unevens {G : eb_G} (hG : eb_ok G) (n : Nat) (v0 : Nat) (v1 : Nat) (s : eb_S) : eb_ct G yX10_unevens cX10_unevens 4 none 4 0 0 eb_ev [.ref v0, .ref v1] s (f_X10_unevens n v0 v1 s) := by
  refine eb_ct_v (by decide) (Nat.le_of_ble_eq_true rfl) (fun v hv => by simp at hv; rcases hv with rfl | rfl <;> simp [Value.category]) ?_
  show eb_go G yX10_unevens cX10_unevens 4 none (4) 0 0 .return_ (fun _ : Unit => []) 0 [(0, .ref v0), (1, .ref v1)] [] s 0 0 _
  unfold f_X10_unevens
  refine eb_aload_n (pc := 0) 0 dX10_unevens_0 rfl rfl ?_
  refine eb_iconst (pc := 1) (v := 0) dX10_unevens_1 (by decide) ?_
  refine eb_putI (pc := 2) ef_RX10_224 eg_RX10_224 dX10_unevens_2 (fun s1 => ?_)
  refine eb_aload_n (pc := 5) 0 dX10_unevens_5 rfl rfl ?_
  refine eb_iconst (pc := 6) (v := 0) dX10_unevens_6 (by decide) ?_
  refine eb_putI (pc := 7) ef_RX10_227 eg_RX10_227 dX10_unevens_7 (fun s2 => ?_)
  refine eb_iconst (pc := 10) (v := 0) dX10_unevens_10 (by decide) ?_
  refine eb_istore_n (pc := 11) (L' := [(2, .int 0), (0, .ref v0), (1, .ref v1)]) dX10_unevens_11 rfl (by decide) rfl ?_
  refine eb_sub [1, 2, 0] rfl ?_
  refine gl_X10_unevens_L12 hG  n _ _

def f_X10_uneven (n : Nat) (v0 : Nat) (v1 : Int32) (s : eb_S) : Option (Int32 × eb_S) := eb_cl (f_X10_in ((v1).toInt64) 0 1 s) fun b2 s1 => if (eb_b b2) = 0 then (some ((-1), s1)) else (eb_gR s1 [9] v0 5 fun r3 => eb_cl (eb_tg s1 v0 9 (f_X10_unevens n v0 r3 s1)) fun _u s4 => if v1 = 0 then (eb_gI s4 [9] v0 27 fun x6 => some (x6, s4)) else (eb_gI s4 [9] v0 28 fun x5 => some (x5, s4)))
set_option maxRecDepth 100000 in
theorem ct_X10_uneven {G : eb_G} (hG : eb_ok G) (n : Nat) (v0 : Nat) (v1 : Int32) (s : eb_S) : eb_ct G yX10_uneven cX10_uneven 2 (some .int) 5 0 0 eb_ei [.ref v0, .int v1] s (f_X10_uneven n v0 v1 s) := by
  refine eb_ct_i (by decide) (Nat.le_of_ble_eq_true rfl) (fun v hv => by simp at hv; rcases hv with rfl | rfl <;> simp [Value.category]) ?_
  show eb_go G yX10_uneven cX10_uneven 2 (some .int) (5) 0 0 .ireturn (fun r : Int32 => [.int r]) 0 [(0, .ref v0), (1, .int v1)] [] s 0 0 _
  unfold f_X10_uneven
  refine eb_iload_n (pc := 0) 1 dX10_uneven_0 rfl rfl ?_
  refine eb_i2l (pc := 1) dX10_uneven_1 ?_
  refine eb_lconst (pc := 2) (v := 0) dX10_uneven_2 (by decide) ?_
  refine eb_lconst (pc := 3) (v := 1) dX10_uneven_3 (by decide) ?_
  refine eb_callb (pc := 4) (eb_runS (pc := 4) (As := [.long ((v1).toInt64), .long 0, .long 1]) (rest := []) ew_664 ew_665 ew_666 rfl ed_X10_in (ct_X10_in hG _ _ _ _) ew_667 ⟨by decide, by decide⟩ (by decide) (by decide) (Nat.le_of_ble_eq_true rfl) rfl dX10_uneven_4) (fun b2 s1 => ?_)
  refine eb_if_ne (pc := 7) (tgt := 12) dX10_uneven_7 (by decide) ?_ ?_
  · refine eb_aload_n (pc := 12) 0 dX10_uneven_12 rfl rfl ?_
    refine eb_aload_n (pc := 13) 0 dX10_uneven_13 rfl rfl ?_
    refine eb_getR (pc := 14) ef_RX10_22 dX10_uneven_14 (fun r3 => ?_)
    refine eb_callv (pc := 17) (eb_runV (pc := 17) (As := [.ref r3]) (rest := []) (ci := 9) (q0 := (RX10, TX10, 43)) (q := (RX10, TX10, 43)) ew_768 ew_769 ew_770 ew_666 rfl rfl ed_X10_unevens (ct_X10_unevens hG n _ _ _) rfl ew_771 ⟨by decide, by decide⟩ (by decide) (by decide) (Nat.le_of_ble_eq_true rfl) rfl dX10_uneven_17) (fun _u s4 => ?_)
    refine eb_iload_n (pc := 20) 1 dX10_uneven_20 rfl rfl ?_
    refine eb_if_ne (pc := 21) (tgt := 31) dX10_uneven_21 (by decide) ?_ ?_
    · refine eb_aload_n (pc := 31) 0 dX10_uneven_31 rfl rfl ?_
      refine eb_getI (pc := 32) ef_RX10_227 dX10_uneven_32 (fun x5 => ?_)
      exact eb_iret (pc := 35) dX10_uneven_35 (by decide) (by decide)
    · refine eb_aload_n (pc := 24) 0 dX10_uneven_24 rfl rfl ?_
      refine eb_getI (pc := 25) ef_RX10_224 dX10_uneven_25 (fun x6 => ?_)
      refine eb_goto (pc := 28) (tgt := 35) dX10_uneven_28 (by decide) ?_
      exact eb_iret (pc := 35) dX10_uneven_35 (by decide) (by decide)
  · refine eb_iconst (pc := 10) (v := (-1)) dX10_uneven_10 (by decide) ?_
    exact eb_iret (pc := 11) dX10_uneven_11 (by decide) (by decide)

def f_X10_begins_L2 (n : Nat) (v0 : Nat)  : Nat → Int32 → eb_S → Option (Unit × eb_S)
  | 0, _, _ => none
  | m + 1, v1, s => if 10 ≤ v1 then (some ((), s)) else (eb_gR s [9] v0 29 fun r1 => eb_wi s r1 v1 0 fun s2 => f_X10_begins_L2 n v0 m (v1 + 1) s2)
def f_X10_begins (n : Nat) (v0 : Nat) (s : eb_S) : Option (Unit × eb_S) := f_X10_begins_L2 n v0  n 0 s
set_option maxRecDepth 100000 in
theorem gl_X10_begins_L2 {G : eb_G} (hG : eb_ok G) {n : Nat} {v0 : Nat}   : ∀ (m : Nat) (v1 : Int32) (s : eb_S), eb_go G yX10_begins cX10_begins 2 none (1) 0 0 .return_ (fun _ : Unit => []) 2 [(0, .ref v0), (1, .int v1)] [] s 0 0 (f_X10_begins_L2 n v0 m v1 s) := by
  intro m
  induction m with
  | zero => intro v1 s; exact eb_none
  | succ m ih =>
    intro v1 s
    rw [f_X10_begins_L2.eq_2]
    refine eb_iload_n (pc := 2) 1 dX10_begins_2 rfl rfl ?_
    refine eb_bipush (pc := 3) (v := 10) dX10_begins_3 (by decide) ?_
    refine eb_icmp_ge (pc := 5) (tgt := 21) dX10_begins_5 (by decide) ?_ ?_
    · exact eb_vret (pc := 21) dX10_begins_21 (by decide) (by decide)
    · refine eb_aload_n (pc := 8) 0 dX10_begins_8 rfl rfl ?_
      refine eb_getR (pc := 9) ef_RX10_64 dX10_begins_9 (fun r1 => ?_)
      refine eb_iload_n (pc := 12) 1 dX10_begins_12 rfl rfl ?_
      refine eb_iconst (pc := 13) (v := 0) dX10_begins_13 (by decide) ?_
      refine eb_iastore (pc := 14) dX10_begins_14 (fun s2 => ?_)
      refine eb_iinc (pc := 15) (v := v1 + 1) (L' := [(1, .int (v1 + 1)), (0, .ref v0)]) 1 dX10_begins_15 rfl rfl (by decide) rfl ?_
      refine eb_goto (pc := 18) (tgt := 2) dX10_begins_18 (by decide) ?_
      refine eb_sub [1, 0] rfl ?_
      exact ih _ _
set_option maxRecDepth 100000 in
theorem ct_X10_begins {G : eb_G} (hG : eb_ok G) (n : Nat) (v0 : Nat) (s : eb_S) : eb_ct G yX10_begins cX10_begins 2 none 1 0 0 eb_ev [.ref v0] s (f_X10_begins n v0 s) := by
  refine eb_ct_v (by decide) (Nat.le_of_ble_eq_true rfl) (fun v hv => by simp at hv; rcases hv with rfl <;> simp [Value.category]) ?_
  show eb_go G yX10_begins cX10_begins 2 none (1) 0 0 .return_ (fun _ : Unit => []) 0 [(0, .ref v0)] [] s 0 0 _
  unfold f_X10_begins
  refine eb_iconst (pc := 0) (v := 0) dX10_begins_0 (by decide) ?_
  refine eb_istore_n (pc := 1) (L' := [(1, .int 0), (0, .ref v0)]) dX10_begins_1 rfl (by decide) rfl ?_
  refine eb_sub [1, 0] rfl ?_
  refine gl_X10_begins_L2 hG  n _ _

def f_X10_turns_L7 (n : Nat) (v0 : Nat) (v1 : Int32) (K : Int32 → eb_S → Option (Bool × eb_S)) : Nat → Int32 → eb_S → Option (Bool × eb_S)
  | 0, _, _ => none
  | m + 1, v2, s => if v2 < 0 then (K v2 s) else (eb_gR s [9] v0 29 fun r2 => eb_ai s r2 v2 fun x3 => if x3 = (v1 - 1) then (eb_gR s [9] v0 29 fun r4 => eb_wi s r4 v2 0 fun s5 => f_X10_turns_L7 n v0 v1 K m (v2 + (-1)) s5) else (K v2 s))
def f_X10_turns (n : Nat) (v0 : Nat) (v1 : Int32) (s : eb_S) : Option (Bool × eb_S) := eb_gI s [9] v0 0 fun x1 => f_X10_turns_L7 n v0 v1 (fun (w6 : Int32) (s7 : eb_S) => eb_jn (fun (s8 : eb_S) => if w6 < 0 then (some (false, s8)) else (some (true, s8))) fun j9 => if w6 < 0 then (j9 s7) else (eb_gR s7 [9] v0 29 fun r10 => eb_ai s7 r10 w6 fun x11 => eb_wi s7 r10 w6 (x11 + 1) fun s12 => j9 s12)) n (x1 - 1) s
set_option maxRecDepth 100000 in
theorem gl_X10_turns_L7 {G : eb_G} (hG : eb_ok G) {n : Nat} {v0 : Nat} {v1 : Int32} {K : Int32 → eb_S → Option (Bool × eb_S)} (hK : ∀ (v2 : Int32) (s : eb_S), eb_go G yX10_turns cX10_turns 3 (some .boolean) (1) 0 0 .ireturn (fun r : Bool => [.int (eb_b r)]) 36 [(0, .ref v0), (2, .int v2)] [] s 0 0 (K v2 s)) : ∀ (m : Nat) (v2 : Int32) (s : eb_S), eb_go G yX10_turns cX10_turns 3 (some .boolean) (1) 0 0 .ireturn (fun r : Bool => [.int (eb_b r)]) 7 [(0, .ref v0), (1, .int v1), (2, .int v2)] [] s 0 0 (f_X10_turns_L7 n v0 v1 K m v2 s) := by
  intro m
  induction m with
  | zero => intro v2 s; exact eb_none
  | succ m ih =>
    intro v2 s
    rw [f_X10_turns_L7.eq_2]
    refine eb_iload_n (pc := 7) 2 dX10_turns_7 rfl rfl ?_
    refine eb_if_lt (pc := 8) (tgt := 36) dX10_turns_8 (by decide) ?_ ?_
    · refine eb_sub [0, 2] rfl ?_
      exact hK _ _
    · refine eb_aload_n (pc := 11) 0 dX10_turns_11 rfl rfl ?_
      refine eb_getR (pc := 12) ef_RX10_64 dX10_turns_12 (fun r2 => ?_)
      refine eb_iload_n (pc := 15) 2 dX10_turns_15 rfl rfl ?_
      refine eb_iaload (pc := 16) dX10_turns_16 (fun x3 => ?_)
      refine eb_iload_n (pc := 17) 1 dX10_turns_17 rfl rfl ?_
      refine eb_iconst (pc := 18) (v := 1) dX10_turns_18 (by decide) ?_
      refine eb_isub (pc := 19) dX10_turns_19 ?_
      refine eb_icmp_ne (pc := 20) (tgt := 36) dX10_turns_20 (by decide) ?_ ?_
      · refine eb_sub [0, 2] rfl ?_
        exact hK _ _
      · refine eb_aload_n (pc := 23) 0 dX10_turns_23 rfl rfl ?_
        refine eb_getR (pc := 24) ef_RX10_64 dX10_turns_24 (fun r4 => ?_)
        refine eb_iload_n (pc := 27) 2 dX10_turns_27 rfl rfl ?_
        refine eb_iconst (pc := 28) (v := 0) dX10_turns_28 (by decide) ?_
        refine eb_iastore (pc := 29) dX10_turns_29 (fun s5 => ?_)
        refine eb_iinc (pc := 30) (v := v2 + (-1)) (L' := [(2, .int (v2 + (-1))), (0, .ref v0), (1, .int v1)]) 2 dX10_turns_30 rfl rfl (by decide) rfl ?_
        refine eb_goto (pc := 33) (tgt := 7) dX10_turns_33 (by decide) ?_
        refine eb_sub [1, 2, 0] rfl ?_
        exact ih _ _
set_option maxRecDepth 100000 in
theorem ct_X10_turns {G : eb_G} (hG : eb_ok G) (n : Nat) (v0 : Nat) (v1 : Int32) (s : eb_S) : eb_ct G yX10_turns cX10_turns 3 (some .boolean) 1 0 0 eb_eb [.ref v0, .int v1] s (f_X10_turns n v0 v1 s) := by
  refine eb_ct_b (by decide) (Nat.le_of_ble_eq_true rfl) (fun v hv => by simp at hv; rcases hv with rfl | rfl <;> simp [Value.category]) ?_
  show eb_go G yX10_turns cX10_turns 3 (some .boolean) (1) 0 0 .ireturn (fun r : Bool => [.int (eb_b r)]) 0 [(0, .ref v0), (1, .int v1)] [] s 0 0 _
  unfold f_X10_turns
  refine eb_aload_n (pc := 0) 0 dX10_turns_0 rfl rfl ?_
  refine eb_getI (pc := 1) ef_RX10_98 dX10_turns_1 (fun x1 => ?_)
  refine eb_iconst (pc := 4) (v := 1) dX10_turns_4 (by decide) ?_
  refine eb_isub (pc := 5) dX10_turns_5 ?_
  refine eb_istore_n (pc := 6) (L' := [(2, .int (x1 - 1)), (0, .ref v0), (1, .int v1)]) dX10_turns_6 rfl (by decide) rfl ?_
  refine eb_sub [1, 2, 0] rfl ?_
  refine gl_X10_turns_L7 hG (fun w6 s7 => ?_) n _ _
  refine eb_iload_n (pc := 36) 1 dX10_turns_36 rfl rfl ?_
  refine eb_join (fun j9 : eb_S → Option (Bool × eb_S) => ∀  (s8 : eb_S), eb_go G yX10_turns cX10_turns 3 (some .boolean) (1) 0 0 .ireturn (fun r : Bool => [.int (eb_b r)]) 50 [(2, .int w6)] [] s8 0 0 (j9  s8)) ?_ (fun j9 hj9 => ?_)
  · intro  s8
    refine eb_iload_n (pc := 50) 0 dX10_turns_50 rfl rfl ?_
    refine eb_if_lt (pc := 51) (tgt := 58) dX10_turns_51 (by decide) ?_ ?_
    · refine eb_iconst (pc := 58) (v := 0) dX10_turns_58 (by decide) ?_
      exact eb_bret (pc := 59) (b := false) dX10_turns_59 (by decide) (by decide)
    · refine eb_iconst (pc := 54) (v := 1) dX10_turns_54 (by decide) ?_
      refine eb_goto (pc := 55) (tgt := 59) dX10_turns_55 (by decide) ?_
      exact eb_bret (pc := 59) (b := true) dX10_turns_59 (by decide) (by decide)
  refine eb_if_lt (pc := 37) (tgt := 50) dX10_turns_37 (by decide) ?_ ?_
  · refine eb_sub [1] rfl ?_
    exact hj9 _
  · refine eb_aload_n (pc := 40) 0 dX10_turns_40 rfl rfl ?_
    refine eb_getR (pc := 41) ef_RX10_64 dX10_turns_41 (fun r10 => ?_)
    refine eb_iload_n (pc := 44) 1 dX10_turns_44 rfl rfl ?_
    refine eb_dup2 (pc := 45) dX10_turns_45 rfl rfl ?_
    refine eb_iaload (pc := 46) dX10_turns_46 (fun x11 => ?_)
    refine eb_iconst (pc := 47) (v := 1) dX10_turns_47 (by decide) ?_
    refine eb_iadd (pc := 48) dX10_turns_48 ?_
    refine eb_iastore (pc := 49) dX10_turns_49 (fun s12 => ?_)
    refine eb_sub [1] rfl ?_
    exact hj9 _

def f_X10_finds_L2 (n : Nat) (v0 : Nat)  : Nat → Int32 → eb_S → Option (Unit × eb_S)
  | 0, _, _ => none
  | m + 1, v1, s => if 10 ≤ v1 then (some ((), s)) else (eb_gR s [9] v0 30 fun r1 => eb_gR s [9] v0 29 fun r2 => eb_ai s r2 v1 fun x3 => eb_wi s r1 v1 x3 fun s4 => f_X10_finds_L2 n v0 m (v1 + 1) s4)
def f_X10_finds (n : Nat) (v0 : Nat) (s : eb_S) : Option (Unit × eb_S) := f_X10_finds_L2 n v0  n 0 s
set_option maxRecDepth 100000 in
theorem gl_X10_finds_L2 {G : eb_G} (hG : eb_ok G) {n : Nat} {v0 : Nat}   : ∀ (m : Nat) (v1 : Int32) (s : eb_S), eb_go G yX10_finds cX10_finds 2 none (1) 0 0 .return_ (fun _ : Unit => []) 2 [(0, .ref v0), (1, .int v1)] [] s 0 0 (f_X10_finds_L2 n v0 m v1 s) := by
  intro m
  induction m with
  | zero => intro v1 s; exact eb_none
  | succ m ih =>
    intro v1 s
    rw [f_X10_finds_L2.eq_2]
    refine eb_iload_n (pc := 2) 1 dX10_finds_2 rfl rfl ?_
    refine eb_bipush (pc := 3) (v := 10) dX10_finds_3 (by decide) ?_
    refine eb_icmp_ge (pc := 5) (tgt := 26) dX10_finds_5 (by decide) ?_ ?_
    · exact eb_vret (pc := 26) dX10_finds_26 (by decide) (by decide)
    · refine eb_aload_n (pc := 8) 0 dX10_finds_8 rfl rfl ?_
      refine eb_getR (pc := 9) ef_RX10_67 dX10_finds_9 (fun r1 => ?_)
      refine eb_iload_n (pc := 12) 1 dX10_finds_12 rfl rfl ?_
      refine eb_aload_n (pc := 13) 0 dX10_finds_13 rfl rfl ?_
      refine eb_getR (pc := 14) ef_RX10_64 dX10_finds_14 (fun r2 => ?_)
      refine eb_iload_n (pc := 17) 1 dX10_finds_17 rfl rfl ?_
      refine eb_iaload (pc := 18) dX10_finds_18 (fun x3 => ?_)
      refine eb_iastore (pc := 19) dX10_finds_19 (fun s4 => ?_)
      refine eb_iinc (pc := 20) (v := v1 + 1) (L' := [(1, .int (v1 + 1)), (0, .ref v0)]) 1 dX10_finds_20 rfl rfl (by decide) rfl ?_
      refine eb_goto (pc := 23) (tgt := 2) dX10_finds_23 (by decide) ?_
      refine eb_sub [1, 0] rfl ?_
      exact ih _ _
set_option maxRecDepth 100000 in
theorem ct_X10_finds {G : eb_G} (hG : eb_ok G) (n : Nat) (v0 : Nat) (s : eb_S) : eb_ct G yX10_finds cX10_finds 2 none 1 0 0 eb_ev [.ref v0] s (f_X10_finds n v0 s) := by
  refine eb_ct_v (by decide) (Nat.le_of_ble_eq_true rfl) (fun v hv => by simp at hv; rcases hv with rfl <;> simp [Value.category]) ?_
  show eb_go G yX10_finds cX10_finds 2 none (1) 0 0 .return_ (fun _ : Unit => []) 0 [(0, .ref v0)] [] s 0 0 _
  unfold f_X10_finds
  refine eb_iconst (pc := 0) (v := 0) dX10_finds_0 (by decide) ?_
  refine eb_istore_n (pc := 1) (L' := [(1, .int 0), (0, .ref v0)]) dX10_finds_1 rfl (by decide) rfl ?_
  refine eb_sub [1, 0] rfl ?_
  refine gl_X10_finds_L2 hG  n _ _

def f_X10_isBest_L8 (n : Nat) (v0 : Nat)  : Nat → Int32 → Int32 → eb_S → Option (Bool × eb_S)
  | 0, _, _, _ => none
  | m + 1, v1, v2, s => if v2 = 0 then (eb_zb v1 fun b => some (b, s)) else (eb_gR s [9] v0 29 fun r2 => eb_cl (eb_tg s v0 9 (f_X10_isLawful n v0 r2 s)) fun b4 s3 => eb_jn (fun (p5 : Int32) (s6 : eb_S) => eb_cl (eb_tg s6 v0 9 (f_X10_turns n v0 3 s6)) fun b9 s8 => f_X10_isBest_L8 n v0 m p5 (eb_b b9) s8) fun j7 => if (eb_b b4) = 0 then (j7 v1 s3) else (eb_gR s3 [9] v0 29 fun r10 => eb_cl (eb_tg s3 v0 9 (f_X10_unevens n v0 r10 s3)) fun _u s11 => eb_jn (fun (s12 : eb_S) => eb_gI s12 [9] v0 27 fun x14 => eb_pI s12 [9] v0 31 x14 fun s15 => eb_gI s15 [9] v0 28 fun x16 => eb_pI s15 [9] v0 32 x16 fun s17 => eb_cl (eb_tg s17 v0 9 (f_X10_finds n v0 s17)) fun _u s18 => j7 1 s18) fun j13 => if v1 = 0 then (j13 s11) else (eb_gI s11 [9] v0 27 fun x19 => eb_gI s11 [9] v0 31 fun x20 => if x19 < x20 then (j13 s11) else (eb_gI s11 [9] v0 27 fun x21 => eb_gI s11 [9] v0 31 fun x22 => if x21 = x22 then (eb_gI s11 [9] v0 28 fun x23 => eb_gI s11 [9] v0 32 fun x24 => if x24 ≤ x23 then (j7 v1 s11) else (j13 s11)) else (j7 v1 s11)))))
def f_X10_isBest (n : Nat) (v0 : Nat) (s : eb_S) : Option (Bool × eb_S) := eb_cl (eb_tg s v0 9 (f_X10_begins n v0 s)) fun _u s1 => f_X10_isBest_L8 n v0  n 0 1 s1
set_option maxRecDepth 100000 in
theorem gl_X10_isBest_L8 {G : eb_G} (hG : eb_ok G) {n : Nat} {v0 : Nat}   : ∀ (m : Nat) (v1 : Int32) (v2 : Int32) (s : eb_S), eb_go G yX10_isBest cX10_isBest 3 (some .boolean) (5) 0 0 .ireturn (fun r : Bool => [.int (eb_b r)]) 8 [(0, .ref v0), (1, .int v1), (2, .int v2)] [] s 0 0 (f_X10_isBest_L8 n v0 m v1 v2 s) := by
  intro m
  induction m with
  | zero => intro v1 v2 s; exact eb_none
  | succ m ih =>
    intro v1 v2 s
    rw [f_X10_isBest_L8.eq_2]
    refine eb_iload_n (pc := 8) 2 dX10_isBest_8 rfl rfl ?_
    refine eb_if_eq (pc := 9) (tgt := 99) dX10_isBest_9 (by decide) ?_ ?_
    · refine eb_iload_n (pc := 99) 1 dX10_isBest_99 rfl rfl ?_
      exact eb_zret (pc := 100) dX10_isBest_100 (by decide) (by decide)
    · refine eb_aload_n (pc := 12) 0 dX10_isBest_12 rfl rfl ?_
      refine eb_aload_n (pc := 13) 0 dX10_isBest_13 rfl rfl ?_
      refine eb_getR (pc := 14) ef_RX10_64 dX10_isBest_14 (fun r2 => ?_)
      refine eb_callb (pc := 17) (eb_runV (pc := 17) (As := [.ref r2]) (rest := []) (ci := 9) (q0 := (RX10, TX10, 43)) (q := (RX10, TX10, 43)) ew_776 ew_777 ew_778 ew_666 rfl rfl ed_X10_isLawful (ct_X10_isLawful hG n _ _ _) rfl ew_779 ⟨by decide, by decide⟩ (by decide) (by decide) (Nat.le_of_ble_eq_true rfl) rfl dX10_isBest_17) (fun b4 s3 => ?_)
      refine eb_join (fun j7 : Int32 → eb_S → Option (Bool × eb_S) => ∀ (p5 : Int32) (s6 : eb_S), eb_go G yX10_isBest cX10_isBest 3 (some .boolean) (5) 0 0 .ireturn (fun r : Bool => [.int (eb_b r)]) 90 [(0, .ref v0), (1, .int p5)] [] s6 0 0 (j7 p5 s6)) ?_ (fun j7 hj7 => ?_)
      · intro p5 s6
        refine eb_aload_n (pc := 90) 0 dX10_isBest_90 rfl rfl ?_
        refine eb_iconst (pc := 91) (v := 3) dX10_isBest_91 (by decide) ?_
        refine eb_callb (pc := 92) (eb_runV (pc := 92) (As := [.int 3]) (rest := []) (ci := 9) (q0 := (RX10, TX10, 43)) (q := (RX10, TX10, 43)) ew_780 ew_781 ew_782 ew_666 rfl rfl ed_X10_turns (ct_X10_turns hG n _ _ _) rfl ew_783 ⟨by decide, by decide⟩ (by decide) (by decide) (Nat.le_of_ble_eq_true rfl) rfl dX10_isBest_92) (fun b9 s8 => ?_)
        refine eb_istore_n (pc := 95) (L' := [(2, .int (eb_b b9)), (0, .ref v0), (1, .int p5)]) dX10_isBest_95 rfl (by decide) rfl ?_
        refine eb_goto (pc := 96) (tgt := 8) dX10_isBest_96 (by decide) ?_
        refine eb_sub [1, 2, 0] rfl ?_
        exact ih _ _ _
      refine eb_if_eq (pc := 20) (tgt := 90) dX10_isBest_20 (by decide) ?_ ?_
      · refine eb_sub [0, 1] rfl ?_
        exact hj7 _ _
      · refine eb_aload_n (pc := 23) 0 dX10_isBest_23 rfl rfl ?_
        refine eb_aload_n (pc := 24) 0 dX10_isBest_24 rfl rfl ?_
        refine eb_getR (pc := 25) ef_RX10_64 dX10_isBest_25 (fun r10 => ?_)
        refine eb_callv (pc := 28) (eb_runV (pc := 28) (As := [.ref r10]) (rest := []) (ci := 9) (q0 := (RX10, TX10, 43)) (q := (RX10, TX10, 43)) ew_768 ew_769 ew_770 ew_666 rfl rfl ed_X10_unevens (ct_X10_unevens hG n _ _ _) rfl ew_771 ⟨by decide, by decide⟩ (by decide) (by decide) (Nat.le_of_ble_eq_true rfl) rfl dX10_isBest_28) (fun _u s11 => ?_)
        refine eb_iload_n (pc := 31) 1 dX10_isBest_31 rfl rfl ?_
        refine eb_join (fun j13 : eb_S → Option (Bool × eb_S) => ∀  (s12 : eb_S), eb_go G yX10_isBest cX10_isBest 3 (some .boolean) (5) 0 0 .ireturn (fun r : Bool => [.int (eb_b r)]) 68 [(0, .ref v0)] [] s12 0 0 (j13  s12)) ?_ (fun j13 hj13 => ?_)
        · intro  s12
          refine eb_iconst (pc := 68) (v := 1) dX10_isBest_68 (by decide) ?_
          refine eb_istore_n (pc := 69) (L' := [(1, .int 1), (0, .ref v0)]) dX10_isBest_69 rfl (by decide) rfl ?_
          refine eb_aload_n (pc := 70) 1 dX10_isBest_70 rfl rfl ?_
          refine eb_aload_n (pc := 71) 1 dX10_isBest_71 rfl rfl ?_
          refine eb_getI (pc := 72) ef_RX10_224 dX10_isBest_72 (fun x14 => ?_)
          refine eb_putI (pc := 75) ef_RX10_243 eg_RX10_243 dX10_isBest_75 (fun s15 => ?_)
          refine eb_aload_n (pc := 78) 1 dX10_isBest_78 rfl rfl ?_
          refine eb_aload_n (pc := 79) 1 dX10_isBest_79 rfl rfl ?_
          refine eb_getI (pc := 80) ef_RX10_227 dX10_isBest_80 (fun x16 => ?_)
          refine eb_putI (pc := 83) ef_RX10_246 eg_RX10_246 dX10_isBest_83 (fun s17 => ?_)
          refine eb_aload_n (pc := 86) 1 dX10_isBest_86 rfl rfl ?_
          refine eb_callv (pc := 87) (eb_runV (pc := 87) (As := []) (rest := []) (ci := 9) (q0 := (RX10, TX10, 43)) (q := (RX10, TX10, 43)) ew_786 ew_787 ew_788 ew_666 rfl rfl ed_X10_finds (ct_X10_finds hG n _ _) rfl ew_789 ⟨by decide, by decide⟩ (by decide) (by decide) (Nat.le_of_ble_eq_true rfl) rfl dX10_isBest_87) (fun _u s18 => ?_)
          refine eb_sub [1, 0] rfl ?_
          exact hj7 _ _
        refine eb_if_eq (pc := 32) (tgt := 68) dX10_isBest_32 (by decide) ?_ ?_
        · refine eb_sub [0] rfl ?_
          exact hj13 _
        · refine eb_aload_n (pc := 35) 0 dX10_isBest_35 rfl rfl ?_
          refine eb_getI (pc := 36) ef_RX10_224 dX10_isBest_36 (fun x19 => ?_)
          refine eb_aload_n (pc := 39) 0 dX10_isBest_39 rfl rfl ?_
          refine eb_getI (pc := 40) ef_RX10_243 dX10_isBest_40 (fun x20 => ?_)
          refine eb_icmp_lt (pc := 43) (tgt := 68) dX10_isBest_43 (by decide) ?_ ?_
          · refine eb_sub [0] rfl ?_
            exact hj13 _
          · refine eb_aload_n (pc := 46) 0 dX10_isBest_46 rfl rfl ?_
            refine eb_getI (pc := 47) ef_RX10_224 dX10_isBest_47 (fun x21 => ?_)
            refine eb_aload_n (pc := 50) 0 dX10_isBest_50 rfl rfl ?_
            refine eb_getI (pc := 51) ef_RX10_243 dX10_isBest_51 (fun x22 => ?_)
            refine eb_icmp_ne (pc := 54) (tgt := 90) dX10_isBest_54 (by decide) ?_ ?_
            · refine eb_sub [0, 1] rfl ?_
              exact hj7 _ _
            · refine eb_aload_n (pc := 57) 0 dX10_isBest_57 rfl rfl ?_
              refine eb_getI (pc := 58) ef_RX10_227 dX10_isBest_58 (fun x23 => ?_)
              refine eb_aload_n (pc := 61) 0 dX10_isBest_61 rfl rfl ?_
              refine eb_getI (pc := 62) ef_RX10_246 dX10_isBest_62 (fun x24 => ?_)
              refine eb_icmp_ge (pc := 65) (tgt := 90) dX10_isBest_65 (by decide) ?_ ?_
              · refine eb_sub [0, 1] rfl ?_
                exact hj7 _ _
              · refine eb_sub [0] rfl ?_
                exact hj13 _
set_option maxRecDepth 100000 in
theorem ct_X10_isBest {G : eb_G} (hG : eb_ok G) (n : Nat) (v0 : Nat) (s : eb_S) : eb_ct G yX10_isBest cX10_isBest 3 (some .boolean) 5 0 0 eb_eb [.ref v0] s (f_X10_isBest n v0 s) := by
  refine eb_ct_b (by decide) (Nat.le_of_ble_eq_true rfl) (fun v hv => by simp at hv; rcases hv with rfl <;> simp [Value.category]) ?_
  show eb_go G yX10_isBest cX10_isBest 3 (some .boolean) (5) 0 0 .ireturn (fun r : Bool => [.int (eb_b r)]) 0 [(0, .ref v0)] [] s 0 0 _
  unfold f_X10_isBest
  refine eb_iconst (pc := 0) (v := 0) dX10_isBest_0 (by decide) ?_
  refine eb_istore_n (pc := 1) (L' := [(1, .int 0), (0, .ref v0)]) dX10_isBest_1 rfl (by decide) rfl ?_
  refine eb_aload_n (pc := 2) 1 dX10_isBest_2 rfl rfl ?_
  refine eb_callv (pc := 3) (eb_runV (pc := 3) (As := []) (rest := []) (ci := 9) (q0 := (RX10, TX10, 43)) (q := (RX10, TX10, 43)) ew_772 ew_773 ew_774 ew_666 rfl rfl ed_X10_begins (ct_X10_begins hG n _ _) rfl ew_775 ⟨by decide, by decide⟩ (by decide) (by decide) (Nat.le_of_ble_eq_true rfl) rfl dX10_isBest_3) (fun _u s1 => ?_)
  refine eb_iconst (pc := 6) (v := 1) dX10_isBest_6 (by decide) ?_
  refine eb_istore_n (pc := 7) (L' := [(2, .int 1), (1, .int 0), (0, .ref v0)]) dX10_isBest_7 rfl (by decide) rfl ?_
  refine eb_sub [2, 1, 0] rfl ?_
  refine gl_X10_isBest_L8 hG  n _ _ _

def f_X10_best (n : Nat) (v0 : Nat) (v1 : Int32) (s : eb_S) : Option (Int32 × eb_S) := eb_jn (fun (s1 : eb_S) => eb_cl (eb_tg s1 v0 9 (f_X10_isBest n v0 s1)) fun b4 s3 => if (eb_b b4) = 0 then (some ((-4), s3)) else (if v1 = ((-2)) then (eb_gI s3 [9] v0 31 fun x8 => some (x8, s3)) else (if v1 = ((-1)) then (eb_gI s3 [9] v0 32 fun x7 => some (x7, s3)) else (eb_gR s3 [9] v0 30 fun r5 => eb_ai s3 r5 v1 fun x6 => some (x6, s3))))) fun j2 => if v1 = ((-2)) then (j2 s) else (if v1 = ((-1)) then (j2 s) else (eb_cl (eb_tg s v0 9 (f_X10_isThing v0 ((v1).toInt64) s)) fun b10 s9 => if (eb_b b10) = 0 then (some ((-1), s9)) else (j2 s9)))
set_option maxRecDepth 100000 in
theorem ct_X10_best {G : eb_G} (hG : eb_ok G) (n : Nat) (v0 : Nat) (v1 : Int32) (s : eb_S) : eb_ct G yX10_best cX10_best 2 (some .int) 6 0 0 eb_ei [.ref v0, .int v1] s (f_X10_best n v0 v1 s) := by
  refine eb_ct_i (by decide) (Nat.le_of_ble_eq_true rfl) (fun v hv => by simp at hv; rcases hv with rfl | rfl <;> simp [Value.category]) ?_
  show eb_go G yX10_best cX10_best 2 (some .int) (6) 0 0 .ireturn (fun r : Int32 => [.int r]) 0 [(0, .ref v0), (1, .int v1)] [] s 0 0 _
  unfold f_X10_best
  refine eb_iload_n (pc := 0) 1 dX10_best_0 rfl rfl ?_
  refine eb_bipush (pc := 1) (v := (-2)) dX10_best_1 (by decide) ?_
  refine eb_join (fun j2 : eb_S → Option (Int32 × eb_S) => ∀  (s1 : eb_S), eb_go G yX10_best cX10_best 2 (some .int) (6) 0 0 .ireturn (fun r : Int32 => [.int r]) 22 [(0, .ref v0), (1, .int v1)] [] s1 0 0 (j2  s1)) ?_ (fun j2 hj2 => ?_)
  · intro  s1
    refine eb_aload_n (pc := 22) 0 dX10_best_22 rfl rfl ?_
    refine eb_callb (pc := 23) (eb_runV (pc := 23) (As := []) (rest := []) (ci := 9) (q0 := (RX10, TX10, 43)) (q := (RX10, TX10, 43)) ew_790 ew_791 ew_792 ew_666 rfl rfl ed_X10_isBest (ct_X10_isBest hG n _ _) rfl ew_793 ⟨by decide, by decide⟩ (by decide) (by decide) (Nat.le_of_ble_eq_true rfl) rfl dX10_best_23) (fun b4 s3 => ?_)
    refine eb_if_ne (pc := 26) (tgt := 32) dX10_best_26 (by decide) ?_ ?_
    · refine eb_iload_n (pc := 32) 1 dX10_best_32 rfl rfl ?_
      refine eb_bipush (pc := 33) (v := (-2)) dX10_best_33 (by decide) ?_
      refine eb_icmp_ne (pc := 35) (tgt := 45) dX10_best_35 (by decide) ?_ ?_
      · refine eb_iload_n (pc := 45) 1 dX10_best_45 rfl rfl ?_
        refine eb_iconst (pc := 46) (v := (-1)) dX10_best_46 (by decide) ?_
        refine eb_icmp_ne (pc := 47) (tgt := 57) dX10_best_47 (by decide) ?_ ?_
        · refine eb_aload_n (pc := 57) 0 dX10_best_57 rfl rfl ?_
          refine eb_getR (pc := 58) ef_RX10_67 dX10_best_58 (fun r5 => ?_)
          refine eb_iload_n (pc := 61) 1 dX10_best_61 rfl rfl ?_
          refine eb_iaload (pc := 62) dX10_best_62 (fun x6 => ?_)
          exact eb_iret (pc := 63) dX10_best_63 (by decide) (by decide)
        · refine eb_aload_n (pc := 50) 0 dX10_best_50 rfl rfl ?_
          refine eb_getI (pc := 51) ef_RX10_246 dX10_best_51 (fun x7 => ?_)
          refine eb_goto (pc := 54) (tgt := 63) dX10_best_54 (by decide) ?_
          exact eb_iret (pc := 63) dX10_best_63 (by decide) (by decide)
      · refine eb_aload_n (pc := 38) 0 dX10_best_38 rfl rfl ?_
        refine eb_getI (pc := 39) ef_RX10_243 dX10_best_39 (fun x8 => ?_)
        refine eb_goto (pc := 42) (tgt := 63) dX10_best_42 (by decide) ?_
        exact eb_iret (pc := 63) dX10_best_63 (by decide) (by decide)
    · refine eb_bipush (pc := 29) (v := (-4)) dX10_best_29 (by decide) ?_
      exact eb_iret (pc := 31) dX10_best_31 (by decide) (by decide)
  refine eb_icmp_eq (pc := 3) (tgt := 22) dX10_best_3 (by decide) ?_ ?_
  · exact hj2 _
  · refine eb_iload_n (pc := 6) 1 dX10_best_6 rfl rfl ?_
    refine eb_iconst (pc := 7) (v := (-1)) dX10_best_7 (by decide) ?_
    refine eb_icmp_eq (pc := 8) (tgt := 22) dX10_best_8 (by decide) ?_ ?_
    · exact hj2 _
    · refine eb_aload_n (pc := 11) 0 dX10_best_11 rfl rfl ?_
      refine eb_iload_n (pc := 12) 1 dX10_best_12 rfl rfl ?_
      refine eb_i2l (pc := 13) dX10_best_13 ?_
      refine eb_callb (pc := 14) (eb_runV (pc := 14) (As := [.long ((v1).toInt64)]) (rest := []) (ci := 9) (q0 := (RX10, TX10, 43)) (q := (RX10, TX10, 43)) ew_677 ew_678 ew_679 ew_666 rfl rfl ed_X10_isThing (ct_X10_isThing hG _ _ _) rfl ew_680 ⟨by decide, by decide⟩ (by decide) (by decide) (Nat.le_of_ble_eq_true rfl) rfl dX10_best_14) (fun b10 s9 => ?_)
      refine eb_if_ne (pc := 17) (tgt := 22) dX10_best_17 (by decide) ?_ ?_
      · exact hj2 _
      · refine eb_iconst (pc := 20) (v := (-1)) dX10_best_20 (by decide) ?_
        exact eb_iret (pc := 21) dX10_best_21 (by decide) (by decide)

def f_X10_pack_L12 (n : Nat) (v0 : Nat) (K : eb_S → Option (Int32 × eb_S)) : Nat → Int32 → eb_S → Option (Int32 × eb_S)
  | 0, _, _ => none
  | m + 1, v1, s => eb_gI s [9] v0 0 fun x3 => if x3 ≤ v1 then (K s) else (eb_gR s [9] v0 5 fun r4 => eb_gR s [9] v0 30 fun r5 => eb_ai s r5 v1 fun x6 => eb_wi s r4 v1 x6 fun s7 => f_X10_pack_L12 n v0 K m (v1 + 1) s7)
def f_X10_pack (n : Nat) (v0 : Nat) (s : eb_S) : Option (Int32 × eb_S) := eb_cl (eb_tg s v0 9 (f_X10_isBest n v0 s)) fun b2 s1 => if (eb_b b2) = 0 then (some ((-4), s1)) else (f_X10_pack_L12 n v0 (fun  (s8 : eb_S) => eb_gI s8 [9] v0 31 fun x9 => some (x9, s8)) n 0 s1)
set_option maxRecDepth 100000 in
theorem gl_X10_pack_L12 {G : eb_G} (hG : eb_ok G) {n : Nat} {v0 : Nat} {K : eb_S → Option (Int32 × eb_S)} (hK : ∀  (s : eb_S), eb_go G yX10_pack cX10_pack 2 (some .int) (6) 0 0 .ireturn (fun r : Int32 => [.int r]) 38 [(0, .ref v0)] [] s 0 0 (K  s)) : ∀ (m : Nat) (v1 : Int32) (s : eb_S), eb_go G yX10_pack cX10_pack 2 (some .int) (6) 0 0 .ireturn (fun r : Int32 => [.int r]) 12 [(0, .ref v0), (1, .int v1)] [] s 0 0 (f_X10_pack_L12 n v0 K m v1 s) := by
  intro m
  induction m with
  | zero => intro v1 s; exact eb_none
  | succ m ih =>
    intro v1 s
    rw [f_X10_pack_L12.eq_2]
    refine eb_iload_n (pc := 12) 1 dX10_pack_12 rfl rfl ?_
    refine eb_aload_n (pc := 13) 0 dX10_pack_13 rfl rfl ?_
    refine eb_getI (pc := 14) ef_RX10_98 dX10_pack_14 (fun x3 => ?_)
    refine eb_icmp_ge (pc := 17) (tgt := 38) dX10_pack_17 (by decide) ?_ ?_
    · refine eb_sub [0] rfl ?_
      exact hK _
    · refine eb_aload_n (pc := 20) 0 dX10_pack_20 rfl rfl ?_
      refine eb_getR (pc := 21) ef_RX10_22 dX10_pack_21 (fun r4 => ?_)
      refine eb_iload_n (pc := 24) 1 dX10_pack_24 rfl rfl ?_
      refine eb_aload_n (pc := 25) 0 dX10_pack_25 rfl rfl ?_
      refine eb_getR (pc := 26) ef_RX10_67 dX10_pack_26 (fun r5 => ?_)
      refine eb_iload_n (pc := 29) 1 dX10_pack_29 rfl rfl ?_
      refine eb_iaload (pc := 30) dX10_pack_30 (fun x6 => ?_)
      refine eb_iastore (pc := 31) dX10_pack_31 (fun s7 => ?_)
      refine eb_iinc (pc := 32) (v := v1 + 1) (L' := [(1, .int (v1 + 1)), (0, .ref v0)]) 1 dX10_pack_32 rfl rfl (by decide) rfl ?_
      refine eb_goto (pc := 35) (tgt := 12) dX10_pack_35 (by decide) ?_
      refine eb_sub [1, 0] rfl ?_
      exact ih _ _
set_option maxRecDepth 100000 in
theorem ct_X10_pack {G : eb_G} (hG : eb_ok G) (n : Nat) (v0 : Nat) (s : eb_S) : eb_ct G yX10_pack cX10_pack 2 (some .int) 6 0 0 eb_ei [.ref v0] s (f_X10_pack n v0 s) := by
  refine eb_ct_i (by decide) (Nat.le_of_ble_eq_true rfl) (fun v hv => by simp at hv; rcases hv with rfl <;> simp [Value.category]) ?_
  show eb_go G yX10_pack cX10_pack 2 (some .int) (6) 0 0 .ireturn (fun r : Int32 => [.int r]) 0 [(0, .ref v0)] [] s 0 0 _
  unfold f_X10_pack
  refine eb_aload_n (pc := 0) 0 dX10_pack_0 rfl rfl ?_
  refine eb_callb (pc := 1) (eb_runV (pc := 1) (As := []) (rest := []) (ci := 9) (q0 := (RX10, TX10, 43)) (q := (RX10, TX10, 43)) ew_790 ew_791 ew_792 ew_666 rfl rfl ed_X10_isBest (ct_X10_isBest hG n _ _) rfl ew_793 ⟨by decide, by decide⟩ (by decide) (by decide) (Nat.le_of_ble_eq_true rfl) rfl dX10_pack_1) (fun b2 s1 => ?_)
  refine eb_if_ne (pc := 4) (tgt := 10) dX10_pack_4 (by decide) ?_ ?_
  · refine eb_iconst (pc := 10) (v := 0) dX10_pack_10 (by decide) ?_
    refine eb_istore_n (pc := 11) (L' := [(1, .int 0), (0, .ref v0)]) dX10_pack_11 rfl (by decide) rfl ?_
    refine eb_sub [1, 0] rfl ?_
    refine gl_X10_pack_L12 hG (fun s8 => ?_) n _ _
    refine eb_aload_n (pc := 38) 0 dX10_pack_38 rfl rfl ?_
    refine eb_getI (pc := 39) ef_RX10_243 dX10_pack_39 (fun x9 => ?_)
    exact eb_iret (pc := 42) dX10_pack_42 (by decide) (by decide)
  · refine eb_bipush (pc := 7) (v := (-4)) dX10_pack_7 (by decide) ?_
    exact eb_iret (pc := 9) dX10_pack_9 (by decide) (by decide)

def f_X10_evenest_L33 (n : Nat) (v0 : Nat) (v1 : Int32) (v2 : Int32) (K : Int32 → eb_S → Option (Int32 × eb_S)) : Nat → Int32 → Int32 → eb_S → Option (Int32 × eb_S)
  | 0, _, _, _ => none
  | m + 1, v3, v4, s => if v4 = 0 then (K v3 s) else (eb_gR s [9] v0 29 fun r6 => eb_cl (eb_tg s v0 9 (f_X10_offOf n v0 r6 v1 s)) fun x8 s7 => eb_cl (eb_tg s7 v0 9 (f_X10_plain v0 x8 s7)) fun x10 s9 => eb_jn (fun (p11 : Int32) (s12 : eb_S) => eb_cl (eb_tg s12 v0 9 (f_X10_turns n v0 2 s12)) fun b15 s14 => f_X10_evenest_L33 n v0 v1 v2 K m p11 (eb_b b15) s14) fun j13 => eb_jn (fun (s16 : eb_S) => eb_cl (eb_tg s16 v0 9 (f_X10_finds n v0 s16)) fun _u s18 => j13 x10 s18) fun j17 => if v3 < 0 then (j17 s9) else (if v3 ≤ x10 then (j13 v3 s9) else (j17 s9)))
def f_X10_evenest (n : Nat) (v0 : Nat) (v1 : Int32) (v2 : Int32) (s : eb_S) : Option (Int32 × eb_S) := eb_cl (eb_tg s v0 9 (f_X10_isStretch v0 v1 s)) fun b2 s1 => if (eb_b b2) = 0 then (some ((-1), s1)) else (eb_jn (fun (s3 : eb_S) => eb_cl (eb_tg s3 v0 9 (f_X10_begins n v0 s3)) fun _u s5 => f_X10_evenest_L33 n v0 v1 v2 (fun (w19 : Int32) (s20 : eb_S) => if 0 ≤ v2 then (eb_gR s20 [9] v0 30 fun r21 => eb_ai s20 r21 v2 fun x22 => some (x22, s20)) else (some (w19, s20))) n ((-1)) 1 s5) fun j4 => if v2 = ((-1)) then (j4 s1) else (eb_cl (eb_tg s1 v0 9 (f_X10_isThing v0 ((v2).toInt64) s1)) fun b24 s23 => if (eb_b b24) = 0 then (some ((-1), s23)) else (j4 s23)))
set_option maxRecDepth 100000 in
theorem gl_X10_evenest_L33 {G : eb_G} (hG : eb_ok G) {n : Nat} {v0 : Nat} {v1 : Int32} {v2 : Int32} {K : Int32 → eb_S → Option (Int32 × eb_S)} (hK : ∀ (v3 : Int32) (s : eb_S), eb_go G yX10_evenest cX10_evenest 6 (some .int) (4) 0 0 .ireturn (fun r : Int32 => [.int r]) 80 [(0, .ref v0), (2, .int v2), (3, .int v3)] [] s 0 0 (K v3 s)) : ∀ (m : Nat) (v3 : Int32) (v4 : Int32) (s : eb_S), eb_go G yX10_evenest cX10_evenest 6 (some .int) (4) 0 0 .ireturn (fun r : Int32 => [.int r]) 33 [(0, .ref v0), (1, .int v1), (2, .int v2), (3, .int v3), (4, .int v4)] [] s 0 0 (f_X10_evenest_L33 n v0 v1 v2 K m v3 v4 s) := by
  intro m
  induction m with
  | zero => intro v3 v4 s; exact eb_none
  | succ m ih =>
    intro v3 v4 s
    rw [f_X10_evenest_L33.eq_2]
    refine eb_iload (pc := 33) 4 dX10_evenest_33 rfl ?_
    refine eb_if_eq (pc := 35) (tgt := 80) dX10_evenest_35 (by decide) ?_ ?_
    · refine eb_sub [0, 2, 3] rfl ?_
      exact hK _ _
    · refine eb_aload_n (pc := 38) 0 dX10_evenest_38 rfl rfl ?_
      refine eb_aload_n (pc := 39) 0 dX10_evenest_39 rfl rfl ?_
      refine eb_aload_n (pc := 40) 0 dX10_evenest_40 rfl rfl ?_
      refine eb_getR (pc := 41) ef_RX10_64 dX10_evenest_41 (fun r6 => ?_)
      refine eb_iload_n (pc := 44) 1 dX10_evenest_44 rfl rfl ?_
      refine eb_calli (pc := 45) (eb_runV (pc := 45) (As := [.ref r6, .int v1]) (rest := [.ref v0]) (ci := 9) (q0 := (RX10, TX10, 43)) (q := (RX10, TX10, 43)) ew_758 ew_759 ew_760 ew_666 rfl rfl ed_X10_offOf (ct_X10_offOf hG n _ _ _ _) rfl ew_761 ⟨by decide, by decide⟩ (by decide) (by decide) (Nat.le_of_ble_eq_true rfl) rfl dX10_evenest_45) (fun x8 s7 => ?_)
      refine eb_calli (pc := 48) (eb_runV (pc := 48) (As := [.int x8]) (rest := []) (ci := 9) (q0 := (RX10, TX10, 43)) (q := (RX10, TX10, 43)) ew_764 ew_765 ew_766 ew_666 rfl rfl ed_X10_plain (ct_X10_plain hG _ _ _) rfl ew_767 ⟨by decide, by decide⟩ (by decide) (by decide) (Nat.le_of_ble_eq_true rfl) rfl dX10_evenest_48) (fun x10 s9 => ?_)
      refine eb_istore (pc := 51) (L' := [(5, .int x10), (0, .ref v0), (1, .int v1), (2, .int v2), (3, .int v3), (4, .int v4)]) dX10_evenest_51 (by decide) rfl ?_
      refine eb_iload_n (pc := 53) 4 dX10_evenest_53 rfl rfl ?_
      refine eb_join (fun j13 : Int32 → eb_S → Option (Int32 × eb_S) => ∀ (p11 : Int32) (s12 : eb_S), eb_go G yX10_evenest cX10_evenest 6 (some .int) (4) 0 0 .ireturn (fun r : Int32 => [.int r]) 70 [(0, .ref v0), (1, .int v1), (2, .int v2), (3, .int p11)] [] s12 0 0 (j13 p11 s12)) ?_ (fun j13 hj13 => ?_)
      · intro p11 s12
        refine eb_aload_n (pc := 70) 0 dX10_evenest_70 rfl rfl ?_
        refine eb_iconst (pc := 71) (v := 2) dX10_evenest_71 (by decide) ?_
        refine eb_callb (pc := 72) (eb_runV (pc := 72) (As := [.int 2]) (rest := []) (ci := 9) (q0 := (RX10, TX10, 43)) (q := (RX10, TX10, 43)) ew_780 ew_781 ew_782 ew_666 rfl rfl ed_X10_turns (ct_X10_turns hG n _ _ _) rfl ew_783 ⟨by decide, by decide⟩ (by decide) (by decide) (Nat.le_of_ble_eq_true rfl) rfl dX10_evenest_72) (fun b15 s14 => ?_)
        refine eb_istore (pc := 75) (L' := [(4, .int (eb_b b15)), (0, .ref v0), (1, .int v1), (2, .int v2), (3, .int p11)]) dX10_evenest_75 (by decide) rfl ?_
        refine eb_goto (pc := 77) (tgt := 33) dX10_evenest_77 (by decide) ?_
        refine eb_sub [1, 2, 3, 4, 0] rfl ?_
        exact ih _ _ _
      refine eb_join (fun j17 : eb_S → Option (Int32 × eb_S) => ∀  (s16 : eb_S), eb_go G yX10_evenest cX10_evenest 6 (some .int) (4) 0 0 .ireturn (fun r : Int32 => [.int r]) 63 [(0, .ref v0), (1, .int v1), (2, .int v2), (5, .int x10)] [] s16 0 0 (j17  s16)) ?_ (fun j17 hj17 => ?_)
      · intro  s16
        refine eb_iload (pc := 63) 3 dX10_evenest_63 rfl ?_
        refine eb_istore_n (pc := 65) (L' := [(3, .int x10), (0, .ref v0), (1, .int v1), (2, .int v2), (5, .int x10)]) dX10_evenest_65 rfl (by decide) rfl ?_
        refine eb_aload_n (pc := 66) 1 dX10_evenest_66 rfl rfl ?_
        refine eb_callv (pc := 67) (eb_runV (pc := 67) (As := []) (rest := []) (ci := 9) (q0 := (RX10, TX10, 43)) (q := (RX10, TX10, 43)) ew_786 ew_787 ew_788 ew_666 rfl rfl ed_X10_finds (ct_X10_finds hG n _ _) rfl ew_789 ⟨by decide, by decide⟩ (by decide) (by decide) (Nat.le_of_ble_eq_true rfl) rfl dX10_evenest_67) (fun _u s18 => ?_)
        refine eb_sub [1, 2, 3, 0] rfl ?_
        exact hj13 _ _
      refine eb_if_lt (pc := 54) (tgt := 63) dX10_evenest_54 (by decide) ?_ ?_
      · refine eb_sub [1, 2, 3, 0] rfl ?_
        exact hj17 _
      · refine eb_iload (pc := 57) 0 dX10_evenest_57 rfl ?_
        refine eb_iload_n (pc := 59) 4 dX10_evenest_59 rfl rfl ?_
        refine eb_icmp_ge (pc := 60) (tgt := 70) dX10_evenest_60 (by decide) ?_ ?_
        · refine eb_sub [1, 2, 3, 4] rfl ?_
          exact hj13 _ _
        · refine eb_sub [1, 2, 3, 0] rfl ?_
          exact hj17 _
set_option maxRecDepth 100000 in
theorem ct_X10_evenest {G : eb_G} (hG : eb_ok G) (n : Nat) (v0 : Nat) (v1 : Int32) (v2 : Int32) (s : eb_S) : eb_ct G yX10_evenest cX10_evenest 6 (some .int) 4 0 0 eb_ei [.ref v0, .int v1, .int v2] s (f_X10_evenest n v0 v1 v2 s) := by
  refine eb_ct_i (by decide) (Nat.le_of_ble_eq_true rfl) (fun v hv => by simp at hv; rcases hv with rfl | rfl | rfl <;> simp [Value.category]) ?_
  show eb_go G yX10_evenest cX10_evenest 6 (some .int) (4) 0 0 .ireturn (fun r : Int32 => [.int r]) 0 [(0, .ref v0), (1, .int v1), (2, .int v2)] [] s 0 0 _
  unfold f_X10_evenest
  refine eb_aload_n (pc := 0) 0 dX10_evenest_0 rfl rfl ?_
  refine eb_iload_n (pc := 1) 1 dX10_evenest_1 rfl rfl ?_
  refine eb_callb (pc := 2) (eb_runV (pc := 2) (As := [.int v1]) (rest := []) (ci := 9) (q0 := (RX10, TX10, 43)) (q := (RX10, TX10, 43)) ew_692 ew_693 ew_694 ew_666 rfl rfl ed_X10_isStretch (ct_X10_isStretch hG _ _ _) rfl ew_695 ⟨by decide, by decide⟩ (by decide) (by decide) (Nat.le_of_ble_eq_true rfl) rfl dX10_evenest_2) (fun b2 s1 => ?_)
  refine eb_if_eq (pc := 5) (tgt := 22) dX10_evenest_5 (by decide) ?_ ?_
  · refine eb_iconst (pc := 22) (v := (-1)) dX10_evenest_22 (by decide) ?_
    exact eb_iret (pc := 23) dX10_evenest_23 (by decide) (by decide)
  · refine eb_iload_n (pc := 8) 2 dX10_evenest_8 rfl rfl ?_
    refine eb_iconst (pc := 9) (v := (-1)) dX10_evenest_9 (by decide) ?_
    refine eb_join (fun j4 : eb_S → Option (Int32 × eb_S) => ∀  (s3 : eb_S), eb_go G yX10_evenest cX10_evenest 6 (some .int) (4) 0 0 .ireturn (fun r : Int32 => [.int r]) 24 [(0, .ref v0), (1, .int v1), (2, .int v2)] [] s3 0 0 (j4  s3)) ?_ (fun j4 hj4 => ?_)
    · intro  s3
      refine eb_iconst (pc := 24) (v := (-1)) dX10_evenest_24 (by decide) ?_
      refine eb_istore_n (pc := 25) (L' := [(3, .int ((-1))), (0, .ref v0), (1, .int v1), (2, .int v2)]) dX10_evenest_25 rfl (by decide) rfl ?_
      refine eb_aload_n (pc := 26) 1 dX10_evenest_26 rfl rfl ?_
      refine eb_callv (pc := 27) (eb_runV (pc := 27) (As := []) (rest := []) (ci := 9) (q0 := (RX10, TX10, 43)) (q := (RX10, TX10, 43)) ew_772 ew_773 ew_774 ew_666 rfl rfl ed_X10_begins (ct_X10_begins hG n _ _) rfl ew_775 ⟨by decide, by decide⟩ (by decide) (by decide) (Nat.le_of_ble_eq_true rfl) rfl dX10_evenest_27) (fun _u s5 => ?_)
      refine eb_iconst (pc := 30) (v := 1) dX10_evenest_30 (by decide) ?_
      refine eb_istore (pc := 31) (L' := [(4, .int 1), (3, .int ((-1))), (0, .ref v0), (1, .int v1), (2, .int v2)]) dX10_evenest_31 (by decide) rfl ?_
      refine eb_sub [2, 3, 4, 1, 0] rfl ?_
      refine gl_X10_evenest_L33 hG (fun w19 s20 => ?_) n _ _ _
      refine eb_iload_n (pc := 80) 1 dX10_evenest_80 rfl rfl ?_
      refine eb_if_ge (pc := 81) (tgt := 88) dX10_evenest_81 (by decide) ?_ ?_
      · refine eb_aload_n (pc := 88) 0 dX10_evenest_88 rfl rfl ?_
        refine eb_getR (pc := 89) ef_RX10_67 dX10_evenest_89 (fun r21 => ?_)
        refine eb_iload_n (pc := 92) 1 dX10_evenest_92 rfl rfl ?_
        refine eb_iaload (pc := 93) dX10_evenest_93 (fun x22 => ?_)
        exact eb_iret (pc := 94) dX10_evenest_94 (by decide) (by decide)
      · refine eb_iload_n (pc := 84) 2 dX10_evenest_84 rfl rfl ?_
        refine eb_goto (pc := 85) (tgt := 94) dX10_evenest_85 (by decide) ?_
        exact eb_iret (pc := 94) dX10_evenest_94 (by decide) (by decide)
    refine eb_icmp_eq (pc := 10) (tgt := 24) dX10_evenest_10 (by decide) ?_ ?_
    · exact hj4 _
    · refine eb_aload_n (pc := 13) 0 dX10_evenest_13 rfl rfl ?_
      refine eb_iload_n (pc := 14) 2 dX10_evenest_14 rfl rfl ?_
      refine eb_i2l (pc := 15) dX10_evenest_15 ?_
      refine eb_callb (pc := 16) (eb_runV (pc := 16) (As := [.long ((v2).toInt64)]) (rest := []) (ci := 9) (q0 := (RX10, TX10, 43)) (q := (RX10, TX10, 43)) ew_677 ew_678 ew_679 ew_666 rfl rfl ed_X10_isThing (ct_X10_isThing hG _ _ _) rfl ew_680 ⟨by decide, by decide⟩ (by decide) (by decide) (Nat.le_of_ble_eq_true rfl) rfl dX10_evenest_16) (fun b24 s23 => ?_)
      refine eb_if_ne (pc := 19) (tgt := 24) dX10_evenest_19 (by decide) ?_ ?_
      · exact hj4 _
      · refine eb_iconst (pc := 22) (v := (-1)) dX10_evenest_22 (by decide) ?_
        exact eb_iret (pc := 23) dX10_evenest_23 (by decide) (by decide)

def f_X10_changes_L4 (n : Nat) (v0 : Nat) (v1 : Nat)  : Nat → Int32 → Int32 → eb_S → Option (Int32 × eb_S)
  | 0, _, _, _ => none
  | m + 1, v2, v3, s => eb_gI s [9] v0 0 fun x1 => if x1 ≤ v3 then (some (v2, s)) else (eb_ai s v1 v3 fun x2 => eb_gR s [9] v0 5 fun r3 => eb_ai s r3 v3 fun x4 => eb_jn (fun (y5 : Int32) (s6 : eb_S) => f_X10_changes_L4 n v0 v1 m (v2 + y5) (v3 + 1) s6) fun j7 => if x2 = x4 then (j7 0 s) else (j7 1 s))
def f_X10_changes (n : Nat) (v0 : Nat) (v1 : Nat) (s : eb_S) : Option (Int32 × eb_S) := f_X10_changes_L4 n v0 v1  n 0 0 s
set_option maxRecDepth 100000 in
theorem gl_X10_changes_L4 {G : eb_G} (hG : eb_ok G) {n : Nat} {v0 : Nat} {v1 : Nat}   : ∀ (m : Nat) (v2 : Int32) (v3 : Int32) (s : eb_S), eb_go G yX10_changes cX10_changes 4 (some .int) (1) 0 0 .ireturn (fun r : Int32 => [.int r]) 4 [(0, .ref v0), (1, .ref v1), (2, .int v2), (3, .int v3)] [] s 0 0 (f_X10_changes_L4 n v0 v1 m v2 v3 s) := by
  intro m
  induction m with
  | zero => intro v2 v3 s; exact eb_none
  | succ m ih =>
    intro v2 v3 s
    rw [f_X10_changes_L4.eq_2]
    refine eb_iload_n (pc := 4) 3 dX10_changes_4 rfl rfl ?_
    refine eb_aload_n (pc := 5) 0 dX10_changes_5 rfl rfl ?_
    refine eb_getI (pc := 6) ef_RX10_98 dX10_changes_6 (fun x1 => ?_)
    refine eb_icmp_ge (pc := 9) (tgt := 38) dX10_changes_9 (by decide) ?_ ?_
    · refine eb_iload_n (pc := 38) 2 dX10_changes_38 rfl rfl ?_
      exact eb_iret (pc := 39) dX10_changes_39 (by decide) (by decide)
    · refine eb_iload_n (pc := 12) 2 dX10_changes_12 rfl rfl ?_
      refine eb_aload_n (pc := 13) 1 dX10_changes_13 rfl rfl ?_
      refine eb_iload_n (pc := 14) 3 dX10_changes_14 rfl rfl ?_
      refine eb_iaload (pc := 15) dX10_changes_15 (fun x2 => ?_)
      refine eb_aload_n (pc := 16) 0 dX10_changes_16 rfl rfl ?_
      refine eb_getR (pc := 17) ef_RX10_22 dX10_changes_17 (fun r3 => ?_)
      refine eb_iload_n (pc := 20) 3 dX10_changes_20 rfl rfl ?_
      refine eb_iaload (pc := 21) dX10_changes_21 (fun x4 => ?_)
      refine eb_join (fun j7 : Int32 → eb_S → Option (Int32 × eb_S) => ∀ (y5 : Int32) (s6 : eb_S), eb_go G yX10_changes cX10_changes 4 (some .int) (1) 0 0 .ireturn (fun r : Int32 => [.int r]) 30 [(0, .ref v0), (1, .ref v1), (3, .int v3)] [.int y5, .int v2] s6 0 0 (j7 y5 s6)) ?_ (fun j7 hj7 => ?_)
      · intro y5 s6
        refine eb_iadd (pc := 30) dX10_changes_30 ?_
        refine eb_istore_n (pc := 31) (L' := [(2, .int (v2 + y5)), (0, .ref v0), (1, .ref v1), (3, .int v3)]) dX10_changes_31 rfl (by decide) rfl ?_
        refine eb_iinc (pc := 32) (v := v3 + 1) (L' := [(3, .int (v3 + 1)), (2, .int (v2 + y5)), (0, .ref v0), (1, .ref v1)]) 3 dX10_changes_32 rfl rfl (by decide) rfl ?_
        refine eb_goto (pc := 35) (tgt := 4) dX10_changes_35 (by decide) ?_
        refine eb_sub [2, 3, 1, 0] rfl ?_
        exact ih _ _ _
      refine eb_icmp_ne (pc := 22) (tgt := 29) dX10_changes_22 (by decide) ?_ ?_
      · refine eb_iconst (pc := 29) (v := 1) dX10_changes_29 (by decide) ?_
        refine eb_sub [0, 1, 3] rfl ?_
        exact hj7 _ _
      · refine eb_iconst (pc := 25) (v := 0) dX10_changes_25 (by decide) ?_
        refine eb_goto (pc := 26) (tgt := 30) dX10_changes_26 (by decide) ?_
        refine eb_sub [0, 1, 3] rfl ?_
        exact hj7 _ _
set_option maxRecDepth 100000 in
theorem ct_X10_changes {G : eb_G} (hG : eb_ok G) (n : Nat) (v0 : Nat) (v1 : Nat) (s : eb_S) : eb_ct G yX10_changes cX10_changes 4 (some .int) 1 0 0 eb_ei [.ref v0, .ref v1] s (f_X10_changes n v0 v1 s) := by
  refine eb_ct_i (by decide) (Nat.le_of_ble_eq_true rfl) (fun v hv => by simp at hv; rcases hv with rfl | rfl <;> simp [Value.category]) ?_
  show eb_go G yX10_changes cX10_changes 4 (some .int) (1) 0 0 .ireturn (fun r : Int32 => [.int r]) 0 [(0, .ref v0), (1, .ref v1)] [] s 0 0 _
  unfold f_X10_changes
  refine eb_iconst (pc := 0) (v := 0) dX10_changes_0 (by decide) ?_
  refine eb_istore_n (pc := 1) (L' := [(2, .int 0), (0, .ref v0), (1, .ref v1)]) dX10_changes_1 rfl (by decide) rfl ?_
  refine eb_iconst (pc := 2) (v := 0) dX10_changes_2 (by decide) ?_
  refine eb_istore_n (pc := 3) (L' := [(3, .int 0), (2, .int 0), (0, .ref v0), (1, .ref v1)]) dX10_changes_3 rfl (by decide) rfl ?_
  refine eb_sub [2, 3, 1, 0] rfl ?_
  refine gl_X10_changes_L4 hG  n _ _ _

def f_X10_moved_L90 (n : Nat) (v0 : Nat) (v1 : Int32) (v2 : Int32) (v3 : Int32) (v4 : Int32) (K : Int32 → eb_S → Option (Int32 × eb_S)) : Nat → Int32 → Int32 → eb_S → Option (Int32 × eb_S)
  | 0, _, _, _ => none
  | m + 1, v6, v7, s => eb_gI s [9] v0 6 fun x11 => if x11 ≤ v7 then (K v6 s) else (if v6 = 0 then (K v6 s) else (eb_gR s [9] v0 29 fun r12 => eb_cl (eb_tg s v0 9 (f_X10_offOf n v0 r12 v7 s)) fun x14 s13 => eb_cl (eb_tg s13 v0 9 (f_X10_plain v0 x14 s13)) fun x16 s15 => eb_jn (fun (y17 : Int32) (s18 : eb_S) => f_X10_moved_L90 n v0 v1 v2 v3 v4 K m y17 (v7 + 1) s18) fun j19 => if v2 < x16 then (j19 0 s15) else (j19 1 s15)))
def f_X10_moved_L46 (n : Nat) (v0 : Nat) (v1 : Int32) (v2 : Int32) (v3 : Int32) (K : Int32 → eb_S → Option (Int32 × eb_S)) : Nat → Int32 → Int32 → eb_S → Option (Int32 × eb_S)
  | 0, _, _, _ => none
  | m + 1, v4, v5, s => if v5 = 0 then (K v4 s) else (eb_jn (fun (y8 : Int32) (s9 : eb_S) => f_X10_moved_L90 n v0 v1 v2 v3 v4 (fun (w20 : Int32) (s21 : eb_S) => eb_jn (fun (p22 : Int32) (s23 : eb_S) => eb_cl (eb_tg s23 v0 9 (f_X10_turns n v0 3 s23)) fun b26 s25 => f_X10_moved_L46 n v0 v1 v2 v3 K m p22 (eb_b b26) s25) fun j24 => if w20 = 0 then (j24 v4 s21) else (eb_gR s21 [9] v0 29 fun r27 => eb_cl (eb_tg s21 v0 9 (f_X10_changes n v0 r27 s21)) fun x29 s28 => eb_cl (eb_tg s28 v0 9 (f_X10_finds n v0 s28)) fun _u s30 => j24 x29 s30)) n y8 v1 s9) fun j10 => eb_jn (fun (s31 : eb_S) => j10 0 s31) fun j32 => eb_jn (fun (s33 : eb_S) => eb_gR s33 [9] v0 29 fun r35 => eb_cl (eb_tg s33 v0 9 (f_X10_isLawful n v0 r35 s33)) fun b37 s36 => if (eb_b b37) = 0 then (j32 s36) else (j10 1 s36)) fun j34 => if v4 < 0 then (j34 s) else (eb_gR s [9] v0 29 fun r38 => eb_cl (eb_tg s v0 9 (f_X10_changes n v0 r38 s)) fun x40 s39 => if v4 ≤ x40 then (j32 s39) else (j34 s39)))
def f_X10_moved (n : Nat) (v0 : Nat) (v1 : Int32) (v2 : Int32) (v3 : Int32) (s : eb_S) : Option (Int32 × eb_S) := eb_cl (eb_tg s v0 9 (f_X10_isStretch v0 v1 s)) fun b2 s1 => if (eb_b b2) = 0 then (some ((-1), s1)) else (eb_cl (f_X10_in ((v2).toInt64) 0 99999 s1) fun b4 s3 => if (eb_b b4) = 0 then (some ((-1), s3)) else (eb_jn (fun (s5 : eb_S) => eb_cl (eb_tg s5 v0 9 (f_X10_begins n v0 s5)) fun _u s7 => f_X10_moved_L46 n v0 v1 v2 v3 (fun (w41 : Int32) (s42 : eb_S) => if 0 ≤ w41 then (if 0 ≤ v3 then (eb_gR s42 [9] v0 30 fun r43 => eb_ai s42 r43 v3 fun x44 => some (x44, s42)) else (some (w41, s42))) else (some ((-4), s42))) n ((-1)) 1 s7) fun j6 => if v3 = ((-1)) then (j6 s3) else (eb_cl (eb_tg s3 v0 9 (f_X10_isThing v0 ((v3).toInt64) s3)) fun b46 s45 => if (eb_b b46) = 0 then (some ((-1), s45)) else (j6 s45))))
set_option maxRecDepth 100000 in
theorem gl_X10_moved_L90 {G : eb_G} (hG : eb_ok G) {n : Nat} {v0 : Nat} {v1 : Int32} {v2 : Int32} {v3 : Int32} {v4 : Int32} {K : Int32 → eb_S → Option (Int32 × eb_S)} (hK : ∀ (v6 : Int32) (s : eb_S), eb_go G yX10_moved cX10_moved 8 (some .int) (5) 0 0 .ireturn (fun r : Int32 => [.int r]) 135 [(0, .ref v0), (1, .int v1), (2, .int v2), (3, .int v3), (4, .int v4), (6, .int v6)] [] s 0 0 (K v6 s)) : ∀ (m : Nat) (v6 : Int32) (v7 : Int32) (s : eb_S), eb_go G yX10_moved cX10_moved 8 (some .int) (5) 0 0 .ireturn (fun r : Int32 => [.int r]) 90 [(0, .ref v0), (1, .int v1), (2, .int v2), (3, .int v3), (4, .int v4), (6, .int v6), (7, .int v7)] [] s 0 0 (f_X10_moved_L90 n v0 v1 v2 v3 v4 K m v6 v7 s) := by
  intro m
  induction m with
  | zero => intro v6 v7 s; exact eb_none
  | succ m ih =>
    intro v6 v7 s
    rw [f_X10_moved_L90.eq_2]
    refine eb_iload (pc := 90) 6 dX10_moved_90 rfl ?_
    refine eb_aload_n (pc := 92) 0 dX10_moved_92 rfl rfl ?_
    refine eb_getI (pc := 93) ef_RX10_106 dX10_moved_93 (fun x11 => ?_)
    refine eb_icmp_ge (pc := 96) (tgt := 135) dX10_moved_96 (by decide) ?_ ?_
    · refine eb_sub [0, 1, 2, 3, 4, 5] rfl ?_
      exact hK _ _
    · refine eb_iload (pc := 99) 5 dX10_moved_99 rfl ?_
      refine eb_if_eq (pc := 101) (tgt := 135) dX10_moved_101 (by decide) ?_ ?_
      · refine eb_sub [0, 1, 2, 3, 4, 5] rfl ?_
        exact hK _ _
      · refine eb_aload_n (pc := 104) 0 dX10_moved_104 rfl rfl ?_
        refine eb_aload_n (pc := 105) 0 dX10_moved_105 rfl rfl ?_
        refine eb_aload_n (pc := 106) 0 dX10_moved_106 rfl rfl ?_
        refine eb_getR (pc := 107) ef_RX10_64 dX10_moved_107 (fun r12 => ?_)
        refine eb_iload (pc := 110) 6 dX10_moved_110 rfl ?_
        refine eb_calli (pc := 112) (eb_runV (pc := 112) (As := [.ref r12, .int v7]) (rest := [.ref v0]) (ci := 9) (q0 := (RX10, TX10, 43)) (q := (RX10, TX10, 43)) ew_758 ew_759 ew_760 ew_666 rfl rfl ed_X10_offOf (ct_X10_offOf hG n _ _ _ _) rfl ew_761 ⟨by decide, by decide⟩ (by decide) (by decide) (Nat.le_of_ble_eq_true rfl) rfl dX10_moved_112) (fun x14 s13 => ?_)
        refine eb_calli (pc := 115) (eb_runV (pc := 115) (As := [.int x14]) (rest := []) (ci := 9) (q0 := (RX10, TX10, 43)) (q := (RX10, TX10, 43)) ew_764 ew_765 ew_766 ew_666 rfl rfl ed_X10_plain (ct_X10_plain hG _ _ _) rfl ew_767 ⟨by decide, by decide⟩ (by decide) (by decide) (Nat.le_of_ble_eq_true rfl) rfl dX10_moved_115) (fun x16 s15 => ?_)
        refine eb_iload_n (pc := 118) 2 dX10_moved_118 rfl rfl ?_
        refine eb_join (fun j19 : Int32 → eb_S → Option (Int32 × eb_S) => ∀ (y17 : Int32) (s18 : eb_S), eb_go G yX10_moved cX10_moved 8 (some .int) (5) 0 0 .ireturn (fun r : Int32 => [.int r]) 127 [(0, .ref v0), (1, .int v1), (2, .int v2), (3, .int v3), (4, .int v4), (7, .int v7)] [.int y17] s18 0 0 (j19 y17 s18)) ?_ (fun j19 hj19 => ?_)
        · intro y17 s18
          refine eb_istore (pc := 127) (L' := [(6, .int y17), (0, .ref v0), (1, .int v1), (2, .int v2), (3, .int v3), (4, .int v4), (7, .int v7)]) dX10_moved_127 (by decide) rfl ?_
          refine eb_iinc (pc := 129) (v := v7 + 1) (L' := [(7, .int (v7 + 1)), (6, .int y17), (0, .ref v0), (1, .int v1), (2, .int v2), (3, .int v3), (4, .int v4)]) 6 dX10_moved_129 rfl rfl (by decide) rfl ?_
          refine eb_goto (pc := 132) (tgt := 90) dX10_moved_132 (by decide) ?_
          refine eb_sub [2, 3, 4, 5, 6, 1, 0] rfl ?_
          exact ih _ _ _
        refine eb_icmp_gt (pc := 119) (tgt := 126) dX10_moved_119 (by decide) ?_ ?_
        · refine eb_iconst (pc := 126) (v := 0) dX10_moved_126 (by decide) ?_
          refine eb_sub [0, 1, 2, 3, 4, 6] rfl ?_
          exact hj19 _ _
        · refine eb_iconst (pc := 122) (v := 1) dX10_moved_122 (by decide) ?_
          refine eb_goto (pc := 123) (tgt := 127) dX10_moved_123 (by decide) ?_
          refine eb_sub [0, 1, 2, 3, 4, 6] rfl ?_
          exact hj19 _ _
set_option maxRecDepth 100000 in
theorem gl_X10_moved_L46 {G : eb_G} (hG : eb_ok G) {n : Nat} {v0 : Nat} {v1 : Int32} {v2 : Int32} {v3 : Int32} {K : Int32 → eb_S → Option (Int32 × eb_S)} (hK : ∀ (v4 : Int32) (s : eb_S), eb_go G yX10_moved cX10_moved 8 (some .int) (5) 0 0 .ireturn (fun r : Int32 => [.int r]) 164 [(0, .ref v0), (3, .int v3), (4, .int v4)] [] s 0 0 (K v4 s)) : ∀ (m : Nat) (v4 : Int32) (v5 : Int32) (s : eb_S), eb_go G yX10_moved cX10_moved 8 (some .int) (5) 0 0 .ireturn (fun r : Int32 => [.int r]) 46 [(0, .ref v0), (1, .int v1), (2, .int v2), (3, .int v3), (4, .int v4), (5, .int v5)] [] s 0 0 (f_X10_moved_L46 n v0 v1 v2 v3 K m v4 v5 s) := by
  intro m
  induction m with
  | zero => intro v4 v5 s; exact eb_none
  | succ m ih =>
    intro v4 v5 s
    rw [f_X10_moved_L46.eq_2]
    refine eb_iload (pc := 46) 5 dX10_moved_46 rfl ?_
    refine eb_if_eq (pc := 48) (tgt := 164) dX10_moved_48 (by decide) ?_ ?_
    · refine eb_sub [0, 3, 4] rfl ?_
      exact hK _ _
    · refine eb_iload (pc := 51) 4 dX10_moved_51 rfl ?_
      refine eb_join (fun j10 : Int32 → eb_S → Option (Int32 × eb_S) => ∀ (y8 : Int32) (s9 : eb_S), eb_go G yX10_moved cX10_moved 8 (some .int) (5) 0 0 .ireturn (fun r : Int32 => [.int r]) 85 [(0, .ref v0), (1, .int v1), (2, .int v2), (3, .int v3), (4, .int v4)] [.int y8] s9 0 0 (j10 y8 s9)) ?_ (fun j10 hj10 => ?_)
      · intro y8 s9
        refine eb_istore (pc := 85) (L' := [(6, .int y8), (0, .ref v0), (1, .int v1), (2, .int v2), (3, .int v3), (4, .int v4)]) dX10_moved_85 (by decide) rfl ?_
        refine eb_iload_n (pc := 87) 2 dX10_moved_87 rfl rfl ?_
        refine eb_istore (pc := 88) (L' := [(7, .int v1), (6, .int y8), (0, .ref v0), (1, .int v1), (2, .int v2), (3, .int v3), (4, .int v4)]) dX10_moved_88 (by decide) rfl ?_
        refine eb_sub [2, 3, 4, 5, 6, 1, 0] rfl ?_
        refine gl_X10_moved_L90 hG (fun w20 s21 => ?_) n _ _ _
        refine eb_iload (pc := 135) 5 dX10_moved_135 rfl ?_
        refine eb_join (fun j24 : Int32 → eb_S → Option (Int32 × eb_S) => ∀ (p22 : Int32) (s23 : eb_S), eb_go G yX10_moved cX10_moved 8 (some .int) (5) 0 0 .ireturn (fun r : Int32 => [.int r]) 154 [(0, .ref v0), (1, .int v1), (2, .int v2), (3, .int v3), (4, .int p22)] [] s23 0 0 (j24 p22 s23)) ?_ (fun j24 hj24 => ?_)
        · intro p22 s23
          refine eb_aload_n (pc := 154) 0 dX10_moved_154 rfl rfl ?_
          refine eb_iconst (pc := 155) (v := 3) dX10_moved_155 (by decide) ?_
          refine eb_callb (pc := 156) (eb_runV (pc := 156) (As := [.int 3]) (rest := []) (ci := 9) (q0 := (RX10, TX10, 43)) (q := (RX10, TX10, 43)) ew_780 ew_781 ew_782 ew_666 rfl rfl ed_X10_turns (ct_X10_turns hG n _ _ _) rfl ew_783 ⟨by decide, by decide⟩ (by decide) (by decide) (Nat.le_of_ble_eq_true rfl) rfl dX10_moved_156) (fun b26 s25 => ?_)
          refine eb_istore (pc := 159) (L' := [(5, .int (eb_b b26)), (0, .ref v0), (1, .int v1), (2, .int v2), (3, .int v3), (4, .int p22)]) dX10_moved_159 (by decide) rfl ?_
          refine eb_goto (pc := 161) (tgt := 46) dX10_moved_161 (by decide) ?_
          refine eb_sub [1, 2, 3, 4, 5, 0] rfl ?_
          exact ih _ _ _
        refine eb_if_eq (pc := 137) (tgt := 154) dX10_moved_137 (by decide) ?_ ?_
        · refine eb_sub [0, 1, 2, 3, 4] rfl ?_
          exact hj24 _ _
        · refine eb_aload_n (pc := 140) 0 dX10_moved_140 rfl rfl ?_
          refine eb_aload_n (pc := 141) 0 dX10_moved_141 rfl rfl ?_
          refine eb_getR (pc := 142) ef_RX10_64 dX10_moved_142 (fun r27 => ?_)
          refine eb_calli (pc := 145) (eb_runV (pc := 145) (As := [.ref r27]) (rest := []) (ci := 9) (q0 := (RX10, TX10, 43)) (q := (RX10, TX10, 43)) ew_794 ew_795 ew_796 ew_666 rfl rfl ed_X10_changes (ct_X10_changes hG n _ _ _) rfl ew_797 ⟨by decide, by decide⟩ (by decide) (by decide) (Nat.le_of_ble_eq_true rfl) rfl dX10_moved_145) (fun x29 s28 => ?_)
          refine eb_istore (pc := 148) (L' := [(4, .int x29), (0, .ref v0), (1, .int v1), (2, .int v2), (3, .int v3), (6, .int w20)]) dX10_moved_148 (by decide) rfl ?_
          refine eb_aload_n (pc := 150) 1 dX10_moved_150 rfl rfl ?_
          refine eb_callv (pc := 151) (eb_runV (pc := 151) (As := []) (rest := []) (ci := 9) (q0 := (RX10, TX10, 43)) (q := (RX10, TX10, 43)) ew_786 ew_787 ew_788 ew_666 rfl rfl ed_X10_finds (ct_X10_finds hG n _ _) rfl ew_789 ⟨by decide, by decide⟩ (by decide) (by decide) (Nat.le_of_ble_eq_true rfl) rfl dX10_moved_151) (fun _u s30 => ?_)
          refine eb_sub [1, 2, 3, 4, 0] rfl ?_
          exact hj24 _ _
      refine eb_join (fun j32 : eb_S → Option (Int32 × eb_S) => ∀  (s31 : eb_S), eb_go G yX10_moved cX10_moved 8 (some .int) (5) 0 0 .ireturn (fun r : Int32 => [.int r]) 84 [(0, .ref v0), (1, .int v1), (2, .int v2), (3, .int v3), (4, .int v4)] [] s31 0 0 (j32  s31)) ?_ (fun j32 hj32 => ?_)
      · intro  s31
        refine eb_iconst (pc := 84) (v := 0) dX10_moved_84 (by decide) ?_
        exact hj10 _ _
      refine eb_join (fun j34 : eb_S → Option (Int32 × eb_S) => ∀  (s33 : eb_S), eb_go G yX10_moved cX10_moved 8 (some .int) (5) 0 0 .ireturn (fun r : Int32 => [.int r]) 69 [(0, .ref v0), (1, .int v1), (2, .int v2), (3, .int v3), (4, .int v4)] [] s33 0 0 (j34  s33)) ?_ (fun j34 hj34 => ?_)
      · intro  s33
        refine eb_aload_n (pc := 69) 0 dX10_moved_69 rfl rfl ?_
        refine eb_aload_n (pc := 70) 0 dX10_moved_70 rfl rfl ?_
        refine eb_getR (pc := 71) ef_RX10_64 dX10_moved_71 (fun r35 => ?_)
        refine eb_callb (pc := 74) (eb_runV (pc := 74) (As := [.ref r35]) (rest := []) (ci := 9) (q0 := (RX10, TX10, 43)) (q := (RX10, TX10, 43)) ew_776 ew_777 ew_778 ew_666 rfl rfl ed_X10_isLawful (ct_X10_isLawful hG n _ _ _) rfl ew_779 ⟨by decide, by decide⟩ (by decide) (by decide) (Nat.le_of_ble_eq_true rfl) rfl dX10_moved_74) (fun b37 s36 => ?_)
        refine eb_if_eq (pc := 77) (tgt := 84) dX10_moved_77 (by decide) ?_ ?_
        · exact hj32 _
        · refine eb_iconst (pc := 80) (v := 1) dX10_moved_80 (by decide) ?_
          refine eb_goto (pc := 81) (tgt := 85) dX10_moved_81 (by decide) ?_
          exact hj10 _ _
      refine eb_if_lt (pc := 53) (tgt := 69) dX10_moved_53 (by decide) ?_ ?_
      · refine eb_sub [0, 1, 2, 3, 4] rfl ?_
        exact hj34 _
      · refine eb_aload_n (pc := 56) 0 dX10_moved_56 rfl rfl ?_
        refine eb_aload_n (pc := 57) 0 dX10_moved_57 rfl rfl ?_
        refine eb_getR (pc := 58) ef_RX10_64 dX10_moved_58 (fun r38 => ?_)
        refine eb_calli (pc := 61) (eb_runV (pc := 61) (As := [.ref r38]) (rest := []) (ci := 9) (q0 := (RX10, TX10, 43)) (q := (RX10, TX10, 43)) ew_794 ew_795 ew_796 ew_666 rfl rfl ed_X10_changes (ct_X10_changes hG n _ _ _) rfl ew_797 ⟨by decide, by decide⟩ (by decide) (by decide) (Nat.le_of_ble_eq_true rfl) rfl dX10_moved_61) (fun x40 s39 => ?_)
        refine eb_iload (pc := 64) 4 dX10_moved_64 rfl ?_
        refine eb_icmp_ge (pc := 66) (tgt := 84) dX10_moved_66 (by decide) ?_ ?_
        · refine eb_sub [0, 1, 2, 3, 4] rfl ?_
          exact hj32 _
        · refine eb_sub [0, 1, 2, 3, 4] rfl ?_
          exact hj34 _
set_option maxRecDepth 100000 in
theorem ct_X10_moved {G : eb_G} (hG : eb_ok G) (n : Nat) (v0 : Nat) (v1 : Int32) (v2 : Int32) (v3 : Int32) (s : eb_S) : eb_ct G yX10_moved cX10_moved 8 (some .int) 5 0 0 eb_ei [.ref v0, .int v1, .int v2, .int v3] s (f_X10_moved n v0 v1 v2 v3 s) := by
  refine eb_ct_i (by decide) (Nat.le_of_ble_eq_true rfl) (fun v hv => by simp at hv; rcases hv with rfl | rfl | rfl | rfl <;> simp [Value.category]) ?_
  show eb_go G yX10_moved cX10_moved 8 (some .int) (5) 0 0 .ireturn (fun r : Int32 => [.int r]) 0 [(0, .ref v0), (1, .int v1), (2, .int v2), (3, .int v3)] [] s 0 0 _
  unfold f_X10_moved
  refine eb_aload_n (pc := 0) 0 dX10_moved_0 rfl rfl ?_
  refine eb_iload_n (pc := 1) 1 dX10_moved_1 rfl rfl ?_
  refine eb_callb (pc := 2) (eb_runV (pc := 2) (As := [.int v1]) (rest := []) (ci := 9) (q0 := (RX10, TX10, 43)) (q := (RX10, TX10, 43)) ew_692 ew_693 ew_694 ew_666 rfl rfl ed_X10_isStretch (ct_X10_isStretch hG _ _ _) rfl ew_695 ⟨by decide, by decide⟩ (by decide) (by decide) (Nat.le_of_ble_eq_true rfl) rfl dX10_moved_2) (fun b2 s1 => ?_)
  refine eb_if_eq (pc := 5) (tgt := 34) dX10_moved_5 (by decide) ?_ ?_
  · refine eb_iconst (pc := 34) (v := (-1)) dX10_moved_34 (by decide) ?_
    exact eb_iret (pc := 35) dX10_moved_35 (by decide) (by decide)
  · refine eb_iload_n (pc := 8) 2 dX10_moved_8 rfl rfl ?_
    refine eb_i2l (pc := 9) dX10_moved_9 ?_
    refine eb_lconst (pc := 10) (v := 0) dX10_moved_10 (by decide) ?_
    refine eb_ldc2 (pc := 11) (v := 99999) dX10_moved_11 ew_798 ?_
    refine eb_callb (pc := 14) (eb_runS (pc := 14) (As := [.long ((v2).toInt64), .long 0, .long 99999]) (rest := []) ew_664 ew_665 ew_666 rfl ed_X10_in (ct_X10_in hG _ _ _ _) ew_667 ⟨by decide, by decide⟩ (by decide) (by decide) (Nat.le_of_ble_eq_true rfl) rfl dX10_moved_14) (fun b4 s3 => ?_)
    refine eb_if_eq (pc := 17) (tgt := 34) dX10_moved_17 (by decide) ?_ ?_
    · refine eb_iconst (pc := 34) (v := (-1)) dX10_moved_34 (by decide) ?_
      exact eb_iret (pc := 35) dX10_moved_35 (by decide) (by decide)
    · refine eb_iload_n (pc := 20) 3 dX10_moved_20 rfl rfl ?_
      refine eb_iconst (pc := 21) (v := (-1)) dX10_moved_21 (by decide) ?_
      refine eb_join (fun j6 : eb_S → Option (Int32 × eb_S) => ∀  (s5 : eb_S), eb_go G yX10_moved cX10_moved 8 (some .int) (5) 0 0 .ireturn (fun r : Int32 => [.int r]) 36 [(0, .ref v0), (1, .int v1), (2, .int v2), (3, .int v3)] [] s5 0 0 (j6  s5)) ?_ (fun j6 hj6 => ?_)
      · intro  s5
        refine eb_iconst (pc := 36) (v := (-1)) dX10_moved_36 (by decide) ?_
        refine eb_istore (pc := 37) (L' := [(4, .int ((-1))), (0, .ref v0), (1, .int v1), (2, .int v2), (3, .int v3)]) dX10_moved_37 (by decide) rfl ?_
        refine eb_aload_n (pc := 39) 1 dX10_moved_39 rfl rfl ?_
        refine eb_callv (pc := 40) (eb_runV (pc := 40) (As := []) (rest := []) (ci := 9) (q0 := (RX10, TX10, 43)) (q := (RX10, TX10, 43)) ew_772 ew_773 ew_774 ew_666 rfl rfl ed_X10_begins (ct_X10_begins hG n _ _) rfl ew_775 ⟨by decide, by decide⟩ (by decide) (by decide) (Nat.le_of_ble_eq_true rfl) rfl dX10_moved_40) (fun _u s7 => ?_)
        refine eb_iconst (pc := 43) (v := 1) dX10_moved_43 (by decide) ?_
        refine eb_istore (pc := 44) (L' := [(5, .int 1), (4, .int ((-1))), (0, .ref v0), (1, .int v1), (2, .int v2), (3, .int v3)]) dX10_moved_44 (by decide) rfl ?_
        refine eb_sub [2, 3, 4, 5, 1, 0] rfl ?_
        refine gl_X10_moved_L46 hG (fun w41 s42 => ?_) n _ _ _
        refine eb_iload (pc := 164) 2 dX10_moved_164 rfl ?_
        refine eb_if_ge (pc := 166) (tgt := 174) dX10_moved_166 (by decide) ?_ ?_
        · refine eb_iload_n (pc := 174) 1 dX10_moved_174 rfl rfl ?_
          refine eb_if_ge (pc := 175) (tgt := 183) dX10_moved_175 (by decide) ?_ ?_
          · refine eb_aload_n (pc := 183) 0 dX10_moved_183 rfl rfl ?_
            refine eb_getR (pc := 184) ef_RX10_67 dX10_moved_184 (fun r43 => ?_)
            refine eb_iload_n (pc := 187) 1 dX10_moved_187 rfl rfl ?_
            refine eb_iaload (pc := 188) dX10_moved_188 (fun x44 => ?_)
            exact eb_iret (pc := 189) dX10_moved_189 (by decide) (by decide)
          · refine eb_iload (pc := 178) 2 dX10_moved_178 rfl ?_
            refine eb_goto (pc := 180) (tgt := 189) dX10_moved_180 (by decide) ?_
            exact eb_iret (pc := 189) dX10_moved_189 (by decide) (by decide)
        · refine eb_bipush (pc := 169) (v := (-4)) dX10_moved_169 (by decide) ?_
          refine eb_goto (pc := 171) (tgt := 189) dX10_moved_171 (by decide) ?_
          exact eb_iret (pc := 189) dX10_moved_189 (by decide) (by decide)
      refine eb_icmp_eq (pc := 22) (tgt := 36) dX10_moved_22 (by decide) ?_ ?_
      · exact hj6 _
      · refine eb_aload_n (pc := 25) 0 dX10_moved_25 rfl rfl ?_
        refine eb_iload_n (pc := 26) 3 dX10_moved_26 rfl rfl ?_
        refine eb_i2l (pc := 27) dX10_moved_27 ?_
        refine eb_callb (pc := 28) (eb_runV (pc := 28) (As := [.long ((v3).toInt64)]) (rest := []) (ci := 9) (q0 := (RX10, TX10, 43)) (q := (RX10, TX10, 43)) ew_677 ew_678 ew_679 ew_666 rfl rfl ed_X10_isThing (ct_X10_isThing hG _ _ _) rfl ew_680 ⟨by decide, by decide⟩ (by decide) (by decide) (Nat.le_of_ble_eq_true rfl) rfl dX10_moved_28) (fun b46 s45 => ?_)
        refine eb_if_ne (pc := 31) (tgt := 36) dX10_moved_31 (by decide) ?_ ?_
        · exact hj6 _
        · refine eb_iconst (pc := 34) (v := (-1)) dX10_moved_34 (by decide) ?_
          exact eb_iret (pc := 35) dX10_moved_35 (by decide) (by decide)

def f_X10_common_L4 (n : Nat)   : Nat → Int32 → Int32 → eb_S → Option (Int32 × eb_S)
  | 0, _, _, _ => none
  | m + 1, v2, v3, s => if v3 = 0 then (some (v2, s)) else (if v3 = 0 then none else f_X10_common_L4 n m v3 (v2 - v2 / v3 * v3) s)
def f_X10_common (n : Nat) (v0 : Int32) (v1 : Int32) (s : eb_S) : Option (Int32 × eb_S) := f_X10_common_L4 n   n v0 v1 s
set_option maxRecDepth 100000 in
theorem gl_X10_common_L4 {G : eb_G} (hG : eb_ok G) {n : Nat}    : ∀ (m : Nat) (v2 : Int32) (v3 : Int32) (s : eb_S), eb_go G yX10_common cX10_common 5 (some .int) (1) 0 0 .ireturn (fun r : Int32 => [.int r]) 4 [(2, .int v2), (3, .int v3)] [] s 0 0 (f_X10_common_L4 n m v2 v3 s) := by
  intro m
  induction m with
  | zero => intro v2 v3 s; exact eb_none
  | succ m ih =>
    intro v2 v3 s
    rw [f_X10_common_L4.eq_2]
    refine eb_iload_n (pc := 4) 1 dX10_common_4 rfl rfl ?_
    refine eb_if_eq (pc := 5) (tgt := 21) dX10_common_5 (by decide) ?_ ?_
    · refine eb_iload_n (pc := 21) 0 dX10_common_21 rfl rfl ?_
      exact eb_iret (pc := 22) dX10_common_22 (by decide) (by decide)
    · refine eb_iload_n (pc := 8) 0 dX10_common_8 rfl rfl ?_
      refine eb_iload_n (pc := 9) 1 dX10_common_9 rfl rfl ?_
      refine eb_irem (pc := 10) dX10_common_10 ?_
      refine eb_istore (pc := 11) (L' := [(4, .int (v2 - v2 / v3 * v3)), (2, .int v2), (3, .int v3)]) dX10_common_11 (by decide) rfl ?_
      refine eb_iload_n (pc := 13) 2 dX10_common_13 rfl rfl ?_
      refine eb_istore_n (pc := 14) (L' := [(2, .int v3), (4, .int (v2 - v2 / v3 * v3)), (3, .int v3)]) dX10_common_14 rfl (by decide) rfl ?_
      refine eb_iload (pc := 15) 1 dX10_common_15 rfl ?_
      refine eb_istore_n (pc := 17) (L' := [(3, .int (v2 - v2 / v3 * v3)), (2, .int v3), (4, .int (v2 - v2 / v3 * v3))]) dX10_common_17 rfl (by decide) rfl ?_
      refine eb_goto (pc := 18) (tgt := 4) dX10_common_18 (by decide) ?_
      refine eb_sub [1, 0] rfl ?_
      exact ih _ _ _
set_option maxRecDepth 100000 in
theorem ct_X10_common {G : eb_G} (hG : eb_ok G) (n : Nat) (v0 : Int32) (v1 : Int32) (s : eb_S) : eb_ct G yX10_common cX10_common 5 (some .int) 1 0 0 eb_ei [.int v0, .int v1] s (f_X10_common n v0 v1 s) := by
  refine eb_ct_i (by decide) (Nat.le_of_ble_eq_true rfl) (fun v hv => by simp at hv; rcases hv with rfl | rfl <;> simp [Value.category]) ?_
  show eb_go G yX10_common cX10_common 5 (some .int) (1) 0 0 .ireturn (fun r : Int32 => [.int r]) 0 [(0, .int v0), (1, .int v1)] [] s 0 0 _
  unfold f_X10_common
  refine eb_iload_n (pc := 0) 0 dX10_common_0 rfl rfl ?_
  refine eb_istore_n (pc := 1) (L' := [(2, .int v0), (0, .int v0), (1, .int v1)]) dX10_common_1 rfl (by decide) rfl ?_
  refine eb_iload_n (pc := 2) 2 dX10_common_2 rfl rfl ?_
  refine eb_istore_n (pc := 3) (L' := [(3, .int v1), (2, .int v0), (0, .int v0), (1, .int v1)]) dX10_common_3 rfl (by decide) rfl ?_
  refine eb_sub [1, 0] rfl ?_
  refine gl_X10_common_L4 hG  n _ _ _

def f_X10_part (n : Nat) (v0 : Int32) (v1 : Int32) (v2 : Int32) (s : eb_S) : Option (Int32 × eb_S) := eb_cl (f_X10_common n v0 v1 s) fun x2 s1 => if v2 = 0 then (if x2 = 0 then none else some (v0 / x2, s1)) else (if x2 = 0 then none else some (v1 / x2, s1))
set_option maxRecDepth 100000 in
theorem ct_X10_part {G : eb_G} (hG : eb_ok G) (n : Nat) (v0 : Int32) (v1 : Int32) (v2 : Int32) (s : eb_S) : eb_ct G yX10_part cX10_part 4 (some .int) 2 0 0 eb_ei [.int v0, .int v1, .int v2] s (f_X10_part n v0 v1 v2 s) := by
  refine eb_ct_i (by decide) (Nat.le_of_ble_eq_true rfl) (fun v hv => by simp at hv; rcases hv with rfl | rfl | rfl <;> simp [Value.category]) ?_
  show eb_go G yX10_part cX10_part 4 (some .int) (2) 0 0 .ireturn (fun r : Int32 => [.int r]) 0 [(0, .int v0), (1, .int v1), (2, .int v2)] [] s 0 0 _
  unfold f_X10_part
  refine eb_iload_n (pc := 0) 0 dX10_part_0 rfl rfl ?_
  refine eb_iload_n (pc := 1) 1 dX10_part_1 rfl rfl ?_
  refine eb_calli (pc := 2) (eb_runS (pc := 2) (As := [.int v0, .int v1]) (rest := []) ew_799 ew_800 ew_666 rfl ed_X10_common (ct_X10_common hG n _ _ _) ew_801 ⟨by decide, by decide⟩ (by decide) (by decide) (Nat.le_of_ble_eq_true rfl) rfl dX10_part_2) (fun x2 s1 => ?_)
  refine eb_istore_n (pc := 5) (L' := [(3, .int x2), (0, .int v0), (1, .int v1), (2, .int v2)]) dX10_part_5 rfl (by decide) rfl ?_
  refine eb_iload_n (pc := 6) 3 dX10_part_6 rfl rfl ?_
  refine eb_if_ne (pc := 7) (tgt := 16) dX10_part_7 (by decide) ?_ ?_
  · refine eb_iload_n (pc := 16) 2 dX10_part_16 rfl rfl ?_
    refine eb_iload_n (pc := 17) 0 dX10_part_17 rfl rfl ?_
    refine eb_idiv (pc := 18) dX10_part_18 ?_
    exact eb_iret (pc := 19) dX10_part_19 (by decide) (by decide)
  · refine eb_iload_n (pc := 10) 1 dX10_part_10 rfl rfl ?_
    refine eb_iload_n (pc := 11) 0 dX10_part_11 rfl rfl ?_
    refine eb_idiv (pc := 12) dX10_part_12 ?_
    refine eb_goto (pc := 13) (tgt := 19) dX10_part_13 (by decide) ?_
    exact eb_iret (pc := 19) dX10_part_19 (by decide) (by decide)

def f_X10_hands_L25 (n : Nat) (v0 : Nat) (v1 : Int32) (v2 : Int32) (K : Int32 → eb_S → Option (Int32 × eb_S)) : Nat → Int32 → Int32 → eb_S → Option (Int32 × eb_S)
  | 0, _, _, _ => none
  | m + 1, v3, v4, s => eb_gI s [9] v0 6 fun x5 => if x5 ≤ v4 then (K v3 s) else (eb_gR s [9] v0 5 fun r6 => eb_cl (eb_tg s v0 9 (f_X10_loads n v0 r6 v1 v4 s)) fun x8 s7 => eb_gR s7 [9] v0 7 fun r9 => eb_ai s7 r9 v4 fun x10 => eb_gR s7 [9] v0 8 fun r11 => eb_ai s7 r11 v4 fun x12 => f_X10_hands_L25 n v0 v1 v2 K m (v3 + ((x8 * x10) * ((1 : Int32) + x12))) (v4 + 1) s7)
def f_X10_hands_L100 (n : Nat) (v0 : Nat) (v1 : Int32) (v2 : Int32) (v3 : Int32) (v4 : Int32) (K : Int32 → Int32 → Int32 → eb_S → Option (Int32 × eb_S)) : Nat → Int32 → Int32 → eb_S → Option (Int32 × eb_S)
  | 0, _, _, _ => none
  | m + 1, v5, v6, s => eb_gI s [9] v0 6 fun x21 => if x21 ≤ v6 then (some (v2, s)) else (if v3 ≤ 0 then (some (v2, s)) else (eb_gR s [9] v0 5 fun r22 => eb_cl (eb_tg s v0 9 (f_X10_loads n v0 r22 v1 v6 s)) fun x24 s23 => eb_gR s23 [9] v0 8 fun r25 => eb_ai s23 r25 v6 fun x26 => eb_gR s23 [9] v0 7 fun r27 => eb_ai s23 r27 v6 fun x28 => if (((x24 * ((1 : Int32) + x26)) * v4) * x28) < v5 then (eb_gR s23 [9] v0 7 fun r29 => eb_ai s23 r29 v6 fun x30 => f_X10_hands_L100 n v0 v1 v2 v3 v4 K m (v5 - (((x24 * ((1 : Int32) + x26)) * v4) * x30)) (v6 + 1) s23) else (K v5 v6 ((x24 * ((1 : Int32) + x26)) * v4) s23)))
def f_X10_hands (n : Nat) (v0 : Nat) (v1 : Int32) (v2 : Int32) (s : eb_S) : Option (Int32 × eb_S) := eb_cl (f_X10_isBag ((v1).toInt64) s) fun b2 s1 => if (eb_b b2) = 0 then (some ((-1), s1)) else (eb_cl (f_X10_in ((v2).toInt64) 0 1 s1) fun b4 s3 => if (eb_b b4) = 0 then (some ((-1), s3)) else (f_X10_hands_L25 n v0 v1 v2 (fun (w13 : Int32) (s14 : eb_S) => eb_gR s14 [9] v0 11 fun r15 => eb_ai s14 r15 0 fun x16 => eb_gR s14 [9] v0 11 fun r17 => eb_ai s14 r17 1 fun x18 => eb_gR s14 [9] v0 11 fun r19 => eb_ai s14 r19 0 fun x20 => f_X10_hands_L100 n v0 v1 v2 w13 (x16 + x18) (fun (w31 : Int32) (w32 : Int32) (w33 : Int32) (s34 : eb_S) => eb_cl (eb_tg s34 v0 9 (f_X10_wayTo n v0 w32 s34)) fun x36 s35 => eb_cl (f_X10_part n ((x36 * w33) + w31) w33 v2 s35) fun x38 s37 => some (x38, s37)) n (w13 * x20) 0 s14) n 0 0 s3))
set_option maxRecDepth 100000 in
theorem gl_X10_hands_L25 {G : eb_G} (hG : eb_ok G) {n : Nat} {v0 : Nat} {v1 : Int32} {v2 : Int32} {K : Int32 → eb_S → Option (Int32 × eb_S)} (hK : ∀ (v3 : Int32) (s : eb_S), eb_go G yX10_hands cX10_hands 8 (some .int) (3) 0 0 .ireturn (fun r : Int32 => [.int r]) 72 [(0, .ref v0), (1, .int v1), (2, .int v2), (3, .int v3)] [] s 0 0 (K v3 s)) : ∀ (m : Nat) (v3 : Int32) (v4 : Int32) (s : eb_S), eb_go G yX10_hands cX10_hands 8 (some .int) (3) 0 0 .ireturn (fun r : Int32 => [.int r]) 25 [(0, .ref v0), (1, .int v1), (2, .int v2), (3, .int v3), (4, .int v4)] [] s 0 0 (f_X10_hands_L25 n v0 v1 v2 K m v3 v4 s) := by
  intro m
  induction m with
  | zero => intro v3 v4 s; exact eb_none
  | succ m ih =>
    intro v3 v4 s
    rw [f_X10_hands_L25.eq_2]
    refine eb_iload (pc := 25) 4 dX10_hands_25 rfl ?_
    refine eb_aload_n (pc := 27) 0 dX10_hands_27 rfl rfl ?_
    refine eb_getI (pc := 28) ef_RX10_106 dX10_hands_28 (fun x5 => ?_)
    refine eb_icmp_ge (pc := 31) (tgt := 72) dX10_hands_31 (by decide) ?_ ?_
    · refine eb_sub [0, 1, 2, 3] rfl ?_
      exact hK _ _
    · refine eb_iload_n (pc := 34) 3 dX10_hands_34 rfl rfl ?_
      refine eb_aload_n (pc := 35) 0 dX10_hands_35 rfl rfl ?_
      refine eb_aload_n (pc := 36) 0 dX10_hands_36 rfl rfl ?_
      refine eb_getR (pc := 37) ef_RX10_22 dX10_hands_37 (fun r6 => ?_)
      refine eb_iload_n (pc := 40) 1 dX10_hands_40 rfl rfl ?_
      refine eb_iload (pc := 41) 4 dX10_hands_41 rfl ?_
      refine eb_calli (pc := 43) (eb_runV (pc := 43) (As := [.ref r6, .int v1, .int v4]) (rest := [.int v3]) (ci := 9) (q0 := (RX10, TX10, 43)) (q := (RX10, TX10, 43)) ew_737 ew_738 ew_739 ew_666 rfl rfl ed_X10_loads (ct_X10_loads hG n _ _ _ _ _) rfl ew_740 ⟨by decide, by decide⟩ (by decide) (by decide) (Nat.le_of_ble_eq_true rfl) rfl dX10_hands_43) (fun x8 s7 => ?_)
      refine eb_aload_n (pc := 46) 0 dX10_hands_46 rfl rfl ?_
      refine eb_getR (pc := 47) ef_RX10_25 dX10_hands_47 (fun r9 => ?_)
      refine eb_iload (pc := 50) 4 dX10_hands_50 rfl ?_
      refine eb_iaload (pc := 52) dX10_hands_52 (fun x10 => ?_)
      refine eb_imul (pc := 53) dX10_hands_53 ?_
      refine eb_iconst (pc := 54) (v := 1) dX10_hands_54 (by decide) ?_
      refine eb_aload_n (pc := 55) 0 dX10_hands_55 rfl rfl ?_
      refine eb_getR (pc := 56) ef_RX10_28 dX10_hands_56 (fun r11 => ?_)
      refine eb_iload (pc := 59) 4 dX10_hands_59 rfl ?_
      refine eb_iaload (pc := 61) dX10_hands_61 (fun x12 => ?_)
      refine eb_iadd (pc := 62) dX10_hands_62 ?_
      refine eb_imul (pc := 63) dX10_hands_63 ?_
      refine eb_iadd (pc := 64) dX10_hands_64 ?_
      refine eb_istore_n (pc := 65) (L' := [(3, .int (v3 + ((x8 * x10) * ((1 : Int32) + x12)))), (0, .ref v0), (1, .int v1), (2, .int v2), (4, .int v4)]) dX10_hands_65 rfl (by decide) rfl ?_
      refine eb_iinc (pc := 66) (v := v4 + 1) (L' := [(4, .int (v4 + 1)), (3, .int (v3 + ((x8 * x10) * ((1 : Int32) + x12)))), (0, .ref v0), (1, .int v1), (2, .int v2)]) 4 dX10_hands_66 rfl rfl (by decide) rfl ?_
      refine eb_goto (pc := 69) (tgt := 25) dX10_hands_69 (by decide) ?_
      refine eb_sub [2, 3, 4, 1, 0] rfl ?_
      exact ih _ _ _
set_option maxRecDepth 100000 in
theorem gl_X10_hands_L100 {G : eb_G} (hG : eb_ok G) {n : Nat} {v0 : Nat} {v1 : Int32} {v2 : Int32} {v3 : Int32} {v4 : Int32} {K : Int32 → Int32 → Int32 → eb_S → Option (Int32 × eb_S)} (hK : ∀ (v5 : Int32) (v6 : Int32) (v7 : Int32) (s : eb_S), eb_go G yX10_hands cX10_hands 8 (some .int) (3) 0 0 .ireturn (fun r : Int32 => [.int r]) 154 [(0, .ref v0), (2, .int v2), (5, .int v5), (6, .int v6), (7, .int v7)] [] s 0 0 (K v5 v6 v7 s)) : ∀ (m : Nat) (v5 : Int32) (v6 : Int32) (s : eb_S), eb_go G yX10_hands cX10_hands 8 (some .int) (3) 0 0 .ireturn (fun r : Int32 => [.int r]) 100 [(0, .ref v0), (1, .int v1), (2, .int v2), (3, .int v3), (4, .int v4), (5, .int v5), (6, .int v6)] [] s 0 0 (f_X10_hands_L100 n v0 v1 v2 v3 v4 K m v5 v6 s) := by
  intro m
  induction m with
  | zero => intro v5 v6 s; exact eb_none
  | succ m ih =>
    intro v5 v6 s
    rw [f_X10_hands_L100.eq_2]
    refine eb_iload (pc := 100) 6 dX10_hands_100 rfl ?_
    refine eb_aload_n (pc := 102) 0 dX10_hands_102 rfl rfl ?_
    refine eb_getI (pc := 103) ef_RX10_106 dX10_hands_103 (fun x21 => ?_)
    refine eb_icmp_ge (pc := 106) (tgt := 194) dX10_hands_106 (by decide) ?_ ?_
    · refine eb_iload_n (pc := 194) 2 dX10_hands_194 rfl rfl ?_
      exact eb_iret (pc := 195) dX10_hands_195 (by decide) (by decide)
    · refine eb_iload_n (pc := 109) 3 dX10_hands_109 rfl rfl ?_
      refine eb_if_le (pc := 110) (tgt := 194) dX10_hands_110 (by decide) ?_ ?_
      · refine eb_iload_n (pc := 194) 2 dX10_hands_194 rfl rfl ?_
        exact eb_iret (pc := 195) dX10_hands_195 (by decide) (by decide)
      · refine eb_aload_n (pc := 113) 0 dX10_hands_113 rfl rfl ?_
        refine eb_aload_n (pc := 114) 0 dX10_hands_114 rfl rfl ?_
        refine eb_getR (pc := 115) ef_RX10_22 dX10_hands_115 (fun r22 => ?_)
        refine eb_iload_n (pc := 118) 1 dX10_hands_118 rfl rfl ?_
        refine eb_iload (pc := 119) 6 dX10_hands_119 rfl ?_
        refine eb_calli (pc := 121) (eb_runV (pc := 121) (As := [.ref r22, .int v1, .int v6]) (rest := []) (ci := 9) (q0 := (RX10, TX10, 43)) (q := (RX10, TX10, 43)) ew_737 ew_738 ew_739 ew_666 rfl rfl ed_X10_loads (ct_X10_loads hG n _ _ _ _ _) rfl ew_740 ⟨by decide, by decide⟩ (by decide) (by decide) (Nat.le_of_ble_eq_true rfl) rfl dX10_hands_121) (fun x24 s23 => ?_)
        refine eb_iconst (pc := 124) (v := 1) dX10_hands_124 (by decide) ?_
        refine eb_aload_n (pc := 125) 0 dX10_hands_125 rfl rfl ?_
        refine eb_getR (pc := 126) ef_RX10_28 dX10_hands_126 (fun r25 => ?_)
        refine eb_iload (pc := 129) 6 dX10_hands_129 rfl ?_
        refine eb_iaload (pc := 131) dX10_hands_131 (fun x26 => ?_)
        refine eb_iadd (pc := 132) dX10_hands_132 ?_
        refine eb_imul (pc := 133) dX10_hands_133 ?_
        refine eb_iload (pc := 134) 4 dX10_hands_134 rfl ?_
        refine eb_imul (pc := 136) dX10_hands_136 ?_
        refine eb_istore (pc := 137) (L' := [(7, .int ((x24 * ((1 : Int32) + x26)) * v4)), (0, .ref v0), (1, .int v1), (2, .int v2), (3, .int v3), (4, .int v4), (5, .int v5), (6, .int v6)]) dX10_hands_137 (by decide) rfl ?_
        refine eb_iload (pc := 139) 0 dX10_hands_139 rfl ?_
        refine eb_aload_n (pc := 141) 1 dX10_hands_141 rfl rfl ?_
        refine eb_getR (pc := 142) ef_RX10_25 dX10_hands_142 (fun r27 => ?_)
        refine eb_iload (pc := 145) 7 dX10_hands_145 rfl ?_
        refine eb_iaload (pc := 147) dX10_hands_147 (fun x28 => ?_)
        refine eb_imul (pc := 148) dX10_hands_148 ?_
        refine eb_iload (pc := 149) 6 dX10_hands_149 rfl ?_
        refine eb_icmp_lt (pc := 151) (tgt := 173) dX10_hands_151 (by decide) ?_ ?_
        · refine eb_iload (pc := 173) 6 dX10_hands_173 rfl ?_
          refine eb_iload (pc := 175) 0 dX10_hands_175 rfl ?_
          refine eb_aload_n (pc := 177) 1 dX10_hands_177 rfl rfl ?_
          refine eb_getR (pc := 178) ef_RX10_25 dX10_hands_178 (fun r29 => ?_)
          refine eb_iload (pc := 181) 7 dX10_hands_181 rfl ?_
          refine eb_iaload (pc := 183) dX10_hands_183 (fun x30 => ?_)
          refine eb_imul (pc := 184) dX10_hands_184 ?_
          refine eb_isub (pc := 185) dX10_hands_185 ?_
          refine eb_istore (pc := 186) (L' := [(5, .int (v5 - (((x24 * ((1 : Int32) + x26)) * v4) * x30))), (7, .int ((x24 * ((1 : Int32) + x26)) * v4)), (0, .ref v0), (1, .int v1), (2, .int v2), (3, .int v3), (4, .int v4), (6, .int v6)]) dX10_hands_186 (by decide) rfl ?_
          refine eb_iinc (pc := 188) (v := v6 + 1) (L' := [(6, .int (v6 + 1)), (5, .int (v5 - (((x24 * ((1 : Int32) + x26)) * v4) * x30))), (7, .int ((x24 * ((1 : Int32) + x26)) * v4)), (0, .ref v0), (1, .int v1), (2, .int v2), (3, .int v3), (4, .int v4)]) 7 dX10_hands_188 rfl rfl (by decide) rfl ?_
          refine eb_goto (pc := 191) (tgt := 100) dX10_hands_191 (by decide) ?_
          refine eb_sub [3, 4, 5, 6, 7, 1, 0] rfl ?_
          exact ih _ _ _
        · refine eb_sub [1, 3, 6, 7, 0] rfl ?_
          exact hK _ _ _ _
set_option maxRecDepth 100000 in
theorem ct_X10_hands {G : eb_G} (hG : eb_ok G) (n : Nat) (v0 : Nat) (v1 : Int32) (v2 : Int32) (s : eb_S) : eb_ct G yX10_hands cX10_hands 8 (some .int) 3 0 0 eb_ei [.ref v0, .int v1, .int v2] s (f_X10_hands n v0 v1 v2 s) := by
  refine eb_ct_i (by decide) (Nat.le_of_ble_eq_true rfl) (fun v hv => by simp at hv; rcases hv with rfl | rfl | rfl <;> simp [Value.category]) ?_
  show eb_go G yX10_hands cX10_hands 8 (some .int) (3) 0 0 .ireturn (fun r : Int32 => [.int r]) 0 [(0, .ref v0), (1, .int v1), (2, .int v2)] [] s 0 0 _
  unfold f_X10_hands
  refine eb_iload_n (pc := 0) 1 dX10_hands_0 rfl rfl ?_
  refine eb_i2l (pc := 1) dX10_hands_1 ?_
  refine eb_callb (pc := 2) (eb_runS (pc := 2) (As := [.long ((v1).toInt64)]) (rest := []) ew_696 ew_697 ew_666 rfl ed_X10_isBag (ct_X10_isBag hG _ _) ew_698 ⟨by decide, by decide⟩ (by decide) (by decide) (Nat.le_of_ble_eq_true rfl) rfl dX10_hands_2) (fun b2 s1 => ?_)
  refine eb_if_eq (pc := 5) (tgt := 18) dX10_hands_5 (by decide) ?_ ?_
  · refine eb_iconst (pc := 18) (v := (-1)) dX10_hands_18 (by decide) ?_
    exact eb_iret (pc := 19) dX10_hands_19 (by decide) (by decide)
  · refine eb_iload_n (pc := 8) 2 dX10_hands_8 rfl rfl ?_
    refine eb_i2l (pc := 9) dX10_hands_9 ?_
    refine eb_lconst (pc := 10) (v := 0) dX10_hands_10 (by decide) ?_
    refine eb_lconst (pc := 11) (v := 1) dX10_hands_11 (by decide) ?_
    refine eb_callb (pc := 12) (eb_runS (pc := 12) (As := [.long ((v2).toInt64), .long 0, .long 1]) (rest := []) ew_664 ew_665 ew_666 rfl ed_X10_in (ct_X10_in hG _ _ _ _) ew_667 ⟨by decide, by decide⟩ (by decide) (by decide) (Nat.le_of_ble_eq_true rfl) rfl dX10_hands_12) (fun b4 s3 => ?_)
    refine eb_if_ne (pc := 15) (tgt := 20) dX10_hands_15 (by decide) ?_ ?_
    · refine eb_iconst (pc := 20) (v := 0) dX10_hands_20 (by decide) ?_
      refine eb_istore_n (pc := 21) (L' := [(3, .int 0), (0, .ref v0), (1, .int v1), (2, .int v2)]) dX10_hands_21 rfl (by decide) rfl ?_
      refine eb_iconst (pc := 22) (v := 0) dX10_hands_22 (by decide) ?_
      refine eb_istore (pc := 23) (L' := [(4, .int 0), (3, .int 0), (0, .ref v0), (1, .int v1), (2, .int v2)]) dX10_hands_23 (by decide) rfl ?_
      refine eb_sub [2, 3, 4, 1, 0] rfl ?_
      refine gl_X10_hands_L25 hG (fun w13 s14 => ?_) n _ _ _
      refine eb_aload_n (pc := 72) 0 dX10_hands_72 rfl rfl ?_
      refine eb_getR (pc := 73) ef_RX10_37 dX10_hands_73 (fun r15 => ?_)
      refine eb_iconst (pc := 76) (v := 0) dX10_hands_76 (by decide) ?_
      refine eb_iaload (pc := 77) dX10_hands_77 (fun x16 => ?_)
      refine eb_aload_n (pc := 78) 0 dX10_hands_78 rfl rfl ?_
      refine eb_getR (pc := 79) ef_RX10_37 dX10_hands_79 (fun r17 => ?_)
      refine eb_iconst (pc := 82) (v := 1) dX10_hands_82 (by decide) ?_
      refine eb_iaload (pc := 83) dX10_hands_83 (fun x18 => ?_)
      refine eb_iadd (pc := 84) dX10_hands_84 ?_
      refine eb_istore (pc := 85) (L' := [(4, .int (x16 + x18)), (0, .ref v0), (1, .int v1), (2, .int v2), (3, .int w13)]) dX10_hands_85 (by decide) rfl ?_
      refine eb_iload_n (pc := 87) 4 dX10_hands_87 rfl rfl ?_
      refine eb_aload_n (pc := 88) 1 dX10_hands_88 rfl rfl ?_
      refine eb_getR (pc := 89) ef_RX10_37 dX10_hands_89 (fun r19 => ?_)
      refine eb_iconst (pc := 92) (v := 0) dX10_hands_92 (by decide) ?_
      refine eb_iaload (pc := 93) dX10_hands_93 (fun x20 => ?_)
      refine eb_imul (pc := 94) dX10_hands_94 ?_
      refine eb_istore (pc := 95) (L' := [(5, .int (w13 * x20)), (4, .int (x16 + x18)), (0, .ref v0), (1, .int v1), (2, .int v2), (3, .int w13)]) dX10_hands_95 (by decide) rfl ?_
      refine eb_iconst (pc := 97) (v := 0) dX10_hands_97 (by decide) ?_
      refine eb_istore (pc := 98) (L' := [(6, .int 0), (5, .int (w13 * x20)), (4, .int (x16 + x18)), (0, .ref v0), (1, .int v1), (2, .int v2), (3, .int w13)]) dX10_hands_98 (by decide) rfl ?_
      refine eb_sub [3, 4, 5, 6, 2, 1, 0] rfl ?_
      refine gl_X10_hands_L100 hG (fun w31 w32 w33 s34 => ?_) n _ _ _
      refine eb_aload_n (pc := 154) 0 dX10_hands_154 rfl rfl ?_
      refine eb_iload (pc := 155) 3 dX10_hands_155 rfl ?_
      refine eb_calli (pc := 157) (eb_runV (pc := 157) (As := [.int w32]) (rest := []) (ci := 9) (q0 := (RX10, TX10, 43)) (q := (RX10, TX10, 43)) ew_703 ew_704 ew_705 ew_666 rfl rfl ed_X10_wayTo (ct_X10_wayTo hG n _ _ _) rfl ew_706 ⟨by decide, by decide⟩ (by decide) (by decide) (Nat.le_of_ble_eq_true rfl) rfl dX10_hands_157) (fun x36 s35 => ?_)
      refine eb_iload (pc := 160) 4 dX10_hands_160 rfl ?_
      refine eb_imul (pc := 162) dX10_hands_162 ?_
      refine eb_iload (pc := 163) 2 dX10_hands_163 rfl ?_
      refine eb_iadd (pc := 165) dX10_hands_165 ?_
      refine eb_iload (pc := 166) 4 dX10_hands_166 rfl ?_
      refine eb_iload_n (pc := 168) 1 dX10_hands_168 rfl rfl ?_
      refine eb_calli (pc := 169) (eb_runS (pc := 169) (As := [.int ((x36 * w33) + w31), .int w33, .int v2]) (rest := []) ew_802 ew_803 ew_666 rfl ed_X10_part (ct_X10_part hG n _ _ _ _) ew_804 ⟨by decide, by decide⟩ (by decide) (by decide) (Nat.le_of_ble_eq_true rfl) rfl dX10_hands_169) (fun x38 s37 => ?_)
      exact eb_iret (pc := 172) dX10_hands_172 (by decide) (by decide)
    · refine eb_iconst (pc := 18) (v := (-1)) dX10_hands_18 (by decide) ?_
      exact eb_iret (pc := 19) dX10_hands_19 (by decide) (by decide)

def f_X10_paper_L54 (n : Nat) (v0 : Nat) (v1 : Int32) (v2 : Int32) (v3 : Int32) (v4 : Int32) (K : Int32 → eb_S → Option (Int32 × eb_S)) : Nat → Int32 → Int32 → eb_S → Option (Int32 × eb_S)
  | 0, _, _, _ => none
  | m + 1, v5, v6, s => eb_gI s [9] v0 0 fun x10 => if x10 ≤ v6 then (K v5 s) else (eb_gR s [9] v0 5 fun r11 => eb_ai s r11 v6 fun x12 => eb_jn (fun (y13 : Int32) (s14 : eb_S) => f_X10_paper_L54 n v0 v1 v2 v3 v4 K m (v5 + y13) (v6 + 1) s14) fun j15 => eb_jn (fun (s16 : eb_S) => j15 0 s16) fun j17 => if x12 = v1 then (eb_gR s [9] v0 1 fun r18 => eb_ai s r18 v6 fun x19 => if (2 : Int32) = 0 then none else if (x19 - x19 / 2 * 2) = 1 then (eb_cl (eb_tg s v0 9 (f_X10_loadOf v0 v6 v4 s)) fun x21 s20 => j15 x21 s20) else (j17 s)) else (j17 s))
def f_X10_paper_L30 (n : Nat) (v0 : Nat) (v1 : Int32) (v2 : Int32) (K : Int32 → Int32 → Int32 → eb_S → Option (Int32 × eb_S)) : Nat → Int32 → Int32 → eb_S → Option (Int32 × eb_S)
  | 0, _, _, _ => none
  | m + 1, v3, v4, s => eb_gI s [9] v0 6 fun x7 => if x7 ≤ v4 then (some ((-4), s)) else (eb_gR s [9] v0 10 fun r8 => eb_ai s r8 v1 fun x9 => if x9 ≤ 0 then (some ((-4), s)) else (f_X10_paper_L54 n v0 v1 v2 v3 v4 (fun (w22 : Int32) (s23 : eb_S) => eb_gR s23 [9] v0 7 fun r24 => eb_ai s23 r24 v4 fun x25 => if (w22 * x25) < v3 then (eb_gR s23 [9] v0 7 fun r26 => eb_ai s23 r26 v4 fun x27 => f_X10_paper_L30 n v0 v1 v2 K m (v3 - (w22 * x27)) (v4 + 1) s23) else (K v3 v4 w22 s23)) n 0 0 s))
def f_X10_paper (n : Nat) (v0 : Nat) (v1 : Int32) (v2 : Int32) (s : eb_S) : Option (Int32 × eb_S) := eb_cl (f_X10_isBag ((v1).toInt64) s) fun b2 s1 => if (eb_b b2) = 0 then (some ((-1), s1)) else (eb_cl (f_X10_in ((v2).toInt64) 0 1 s1) fun b4 s3 => if (eb_b b4) = 0 then (some ((-1), s3)) else (eb_gR s3 [9] v0 10 fun r5 => eb_ai s3 r5 v1 fun x6 => f_X10_paper_L30 n v0 v1 v2 (fun (w28 : Int32) (w29 : Int32) (w30 : Int32) (s31 : eb_S) => eb_cl (eb_tg s31 v0 9 (f_X10_wayTo n v0 w29 s31)) fun x33 s32 => eb_cl (f_X10_part n ((x33 * w30) + w28) w30 v2 s32) fun x35 s34 => some (x35, s34)) n x6 0 s3))
set_option maxRecDepth 100000 in
theorem gl_X10_paper_L54 {G : eb_G} (hG : eb_ok G) {n : Nat} {v0 : Nat} {v1 : Int32} {v2 : Int32} {v3 : Int32} {v4 : Int32} {K : Int32 → eb_S → Option (Int32 × eb_S)} (hK : ∀ (v5 : Int32) (s : eb_S), eb_go G yX10_paper cX10_paper 7 (some .int) (3) 0 0 .ireturn (fun r : Int32 => [.int r]) 110 [(0, .ref v0), (1, .int v1), (2, .int v2), (3, .int v3), (4, .int v4), (5, .int v5)] [] s 0 0 (K v5 s)) : ∀ (m : Nat) (v5 : Int32) (v6 : Int32) (s : eb_S), eb_go G yX10_paper cX10_paper 7 (some .int) (3) 0 0 .ireturn (fun r : Int32 => [.int r]) 54 [(0, .ref v0), (1, .int v1), (2, .int v2), (3, .int v3), (4, .int v4), (5, .int v5), (6, .int v6)] [] s 0 0 (f_X10_paper_L54 n v0 v1 v2 v3 v4 K m v5 v6 s) := by
  intro m
  induction m with
  | zero => intro v5 v6 s; exact eb_none
  | succ m ih =>
    intro v5 v6 s
    rw [f_X10_paper_L54.eq_2]
    refine eb_iload (pc := 54) 6 dX10_paper_54 rfl ?_
    refine eb_aload_n (pc := 56) 0 dX10_paper_56 rfl rfl ?_
    refine eb_getI (pc := 57) ef_RX10_98 dX10_paper_57 (fun x10 => ?_)
    refine eb_icmp_ge (pc := 60) (tgt := 110) dX10_paper_60 (by decide) ?_ ?_
    · refine eb_sub [0, 1, 2, 3, 4, 5] rfl ?_
      exact hK _ _
    · refine eb_iload (pc := 63) 5 dX10_paper_63 rfl ?_
      refine eb_aload_n (pc := 65) 0 dX10_paper_65 rfl rfl ?_
      refine eb_getR (pc := 66) ef_RX10_22 dX10_paper_66 (fun r11 => ?_)
      refine eb_iload (pc := 69) 6 dX10_paper_69 rfl ?_
      refine eb_iaload (pc := 71) dX10_paper_71 (fun x12 => ?_)
      refine eb_iload_n (pc := 72) 1 dX10_paper_72 rfl rfl ?_
      refine eb_join (fun j15 : Int32 → eb_S → Option (Int32 × eb_S) => ∀ (y13 : Int32) (s14 : eb_S), eb_go G yX10_paper cX10_paper 7 (some .int) (3) 0 0 .ireturn (fun r : Int32 => [.int r]) 101 [(0, .ref v0), (1, .int v1), (2, .int v2), (3, .int v3), (4, .int v4), (6, .int v6)] [.int y13, .int v5] s14 0 0 (j15 y13 s14)) ?_ (fun j15 hj15 => ?_)
      · intro y13 s14
        refine eb_iadd (pc := 101) dX10_paper_101 ?_
        refine eb_istore (pc := 102) (L' := [(5, .int (v5 + y13)), (0, .ref v0), (1, .int v1), (2, .int v2), (3, .int v3), (4, .int v4), (6, .int v6)]) dX10_paper_102 (by decide) rfl ?_
        refine eb_iinc (pc := 104) (v := v6 + 1) (L' := [(6, .int (v6 + 1)), (5, .int (v5 + y13)), (0, .ref v0), (1, .int v1), (2, .int v2), (3, .int v3), (4, .int v4)]) 6 dX10_paper_104 rfl rfl (by decide) rfl ?_
        refine eb_goto (pc := 107) (tgt := 54) dX10_paper_107 (by decide) ?_
        refine eb_sub [2, 3, 4, 5, 6, 1, 0] rfl ?_
        exact ih _ _ _
      refine eb_join (fun j17 : eb_S → Option (Int32 × eb_S) => ∀  (s16 : eb_S), eb_go G yX10_paper cX10_paper 7 (some .int) (3) 0 0 .ireturn (fun r : Int32 => [.int r]) 100 [(0, .ref v0), (1, .int v1), (2, .int v2), (3, .int v3), (4, .int v4), (6, .int v6)] [.int v5] s16 0 0 (j17  s16)) ?_ (fun j17 hj17 => ?_)
      · intro  s16
        refine eb_iconst (pc := 100) (v := 0) dX10_paper_100 (by decide) ?_
        exact hj15 _ _
      refine eb_icmp_ne (pc := 73) (tgt := 100) dX10_paper_73 (by decide) ?_ ?_
      · refine eb_sub [0, 1, 2, 3, 4, 6] rfl ?_
        exact hj17 _
      · refine eb_aload_n (pc := 76) 0 dX10_paper_76 rfl rfl ?_
        refine eb_getR (pc := 77) ef_RX10_7 dX10_paper_77 (fun r18 => ?_)
        refine eb_iload (pc := 80) 6 dX10_paper_80 rfl ?_
        refine eb_iaload (pc := 82) dX10_paper_82 (fun x19 => ?_)
        refine eb_iconst (pc := 83) (v := 2) dX10_paper_83 (by decide) ?_
        refine eb_irem (pc := 84) dX10_paper_84 ?_
        refine eb_iconst (pc := 85) (v := 1) dX10_paper_85 (by decide) ?_
        refine eb_icmp_ne (pc := 86) (tgt := 100) dX10_paper_86 (by decide) ?_ ?_
        · refine eb_sub [0, 1, 2, 3, 4, 6] rfl ?_
          exact hj17 _
        · refine eb_aload_n (pc := 89) 0 dX10_paper_89 rfl rfl ?_
          refine eb_iload (pc := 90) 6 dX10_paper_90 rfl ?_
          refine eb_iload (pc := 92) 4 dX10_paper_92 rfl ?_
          refine eb_calli (pc := 94) (eb_runV (pc := 94) (As := [.int v6, .int v4]) (rest := [.int v5]) (ci := 9) (q0 := (RX10, TX10, 43)) (q := (RX10, TX10, 43)) ew_733 ew_734 ew_735 ew_666 rfl rfl ed_X10_loadOf (ct_X10_loadOf hG _ _ _ _) rfl ew_736 ⟨by decide, by decide⟩ (by decide) (by decide) (Nat.le_of_ble_eq_true rfl) rfl dX10_paper_94) (fun x21 s20 => ?_)
          refine eb_goto (pc := 97) (tgt := 101) dX10_paper_97 (by decide) ?_
          refine eb_sub [0, 1, 2, 3, 4, 6] rfl ?_
          exact hj15 _ _
set_option maxRecDepth 100000 in
theorem gl_X10_paper_L30 {G : eb_G} (hG : eb_ok G) {n : Nat} {v0 : Nat} {v1 : Int32} {v2 : Int32} {K : Int32 → Int32 → Int32 → eb_S → Option (Int32 × eb_S)} (hK : ∀ (v3 : Int32) (v4 : Int32) (v5 : Int32) (s : eb_S), eb_go G yX10_paper cX10_paper 7 (some .int) (3) 0 0 .ireturn (fun r : Int32 => [.int r]) 124 [(0, .ref v0), (2, .int v2), (3, .int v3), (4, .int v4), (5, .int v5)] [] s 0 0 (K v3 v4 v5 s)) : ∀ (m : Nat) (v3 : Int32) (v4 : Int32) (s : eb_S), eb_go G yX10_paper cX10_paper 7 (some .int) (3) 0 0 .ireturn (fun r : Int32 => [.int r]) 30 [(0, .ref v0), (1, .int v1), (2, .int v2), (3, .int v3), (4, .int v4)] [] s 0 0 (f_X10_paper_L30 n v0 v1 v2 K m v3 v4 s) := by
  intro m
  induction m with
  | zero => intro v3 v4 s; exact eb_none
  | succ m ih =>
    intro v3 v4 s
    rw [f_X10_paper_L30.eq_2]
    refine eb_iload (pc := 30) 4 dX10_paper_30 rfl ?_
    refine eb_aload_n (pc := 32) 0 dX10_paper_32 rfl rfl ?_
    refine eb_getI (pc := 33) ef_RX10_106 dX10_paper_33 (fun x7 => ?_)
    refine eb_icmp_ge (pc := 36) (tgt := 161) dX10_paper_36 (by decide) ?_ ?_
    · refine eb_bipush (pc := 161) (v := (-4)) dX10_paper_161 (by decide) ?_
      exact eb_iret (pc := 163) dX10_paper_163 (by decide) (by decide)
    · refine eb_aload_n (pc := 39) 0 dX10_paper_39 rfl rfl ?_
      refine eb_getR (pc := 40) ef_RX10_34 dX10_paper_40 (fun r8 => ?_)
      refine eb_iload_n (pc := 43) 1 dX10_paper_43 rfl rfl ?_
      refine eb_iaload (pc := 44) dX10_paper_44 (fun x9 => ?_)
      refine eb_if_le (pc := 45) (tgt := 161) dX10_paper_45 (by decide) ?_ ?_
      · refine eb_bipush (pc := 161) (v := (-4)) dX10_paper_161 (by decide) ?_
        exact eb_iret (pc := 163) dX10_paper_163 (by decide) (by decide)
      · refine eb_iconst (pc := 48) (v := 0) dX10_paper_48 (by decide) ?_
        refine eb_istore (pc := 49) (L' := [(5, .int 0), (0, .ref v0), (1, .int v1), (2, .int v2), (3, .int v3), (4, .int v4)]) dX10_paper_49 (by decide) rfl ?_
        refine eb_iconst (pc := 51) (v := 0) dX10_paper_51 (by decide) ?_
        refine eb_istore (pc := 52) (L' := [(6, .int 0), (5, .int 0), (0, .ref v0), (1, .int v1), (2, .int v2), (3, .int v3), (4, .int v4)]) dX10_paper_52 (by decide) rfl ?_
        refine eb_sub [2, 3, 4, 5, 6, 1, 0] rfl ?_
        refine gl_X10_paper_L54 hG (fun w22 s23 => ?_) n _ _ _
        refine eb_iload (pc := 110) 5 dX10_paper_110 rfl ?_
        refine eb_aload_n (pc := 112) 0 dX10_paper_112 rfl rfl ?_
        refine eb_getR (pc := 113) ef_RX10_25 dX10_paper_113 (fun r24 => ?_)
        refine eb_iload (pc := 116) 4 dX10_paper_116 rfl ?_
        refine eb_iaload (pc := 118) dX10_paper_118 (fun x25 => ?_)
        refine eb_imul (pc := 119) dX10_paper_119 ?_
        refine eb_iload_n (pc := 120) 3 dX10_paper_120 rfl rfl ?_
        refine eb_icmp_lt (pc := 121) (tgt := 142) dX10_paper_121 (by decide) ?_ ?_
        · refine eb_iload_n (pc := 142) 3 dX10_paper_142 rfl rfl ?_
          refine eb_iload (pc := 143) 5 dX10_paper_143 rfl ?_
          refine eb_aload_n (pc := 145) 0 dX10_paper_145 rfl rfl ?_
          refine eb_getR (pc := 146) ef_RX10_25 dX10_paper_146 (fun r26 => ?_)
          refine eb_iload (pc := 149) 4 dX10_paper_149 rfl ?_
          refine eb_iaload (pc := 151) dX10_paper_151 (fun x27 => ?_)
          refine eb_imul (pc := 152) dX10_paper_152 ?_
          refine eb_isub (pc := 153) dX10_paper_153 ?_
          refine eb_istore_n (pc := 154) (L' := [(3, .int (v3 - (w22 * x27))), (0, .ref v0), (1, .int v1), (2, .int v2), (4, .int v4), (5, .int w22)]) dX10_paper_154 rfl (by decide) rfl ?_
          refine eb_iinc (pc := 155) (v := v4 + 1) (L' := [(4, .int (v4 + 1)), (3, .int (v3 - (w22 * x27))), (0, .ref v0), (1, .int v1), (2, .int v2), (5, .int w22)]) 4 dX10_paper_155 rfl rfl (by decide) rfl ?_
          refine eb_goto (pc := 158) (tgt := 30) dX10_paper_158 (by decide) ?_
          refine eb_sub [2, 3, 4, 1, 0] rfl ?_
          exact ih _ _ _
        · refine eb_sub [0, 2, 3, 4, 5] rfl ?_
          exact hK _ _ _ _
set_option maxRecDepth 100000 in
theorem ct_X10_paper {G : eb_G} (hG : eb_ok G) (n : Nat) (v0 : Nat) (v1 : Int32) (v2 : Int32) (s : eb_S) : eb_ct G yX10_paper cX10_paper 7 (some .int) 3 0 0 eb_ei [.ref v0, .int v1, .int v2] s (f_X10_paper n v0 v1 v2 s) := by
  refine eb_ct_i (by decide) (Nat.le_of_ble_eq_true rfl) (fun v hv => by simp at hv; rcases hv with rfl | rfl | rfl <;> simp [Value.category]) ?_
  show eb_go G yX10_paper cX10_paper 7 (some .int) (3) 0 0 .ireturn (fun r : Int32 => [.int r]) 0 [(0, .ref v0), (1, .int v1), (2, .int v2)] [] s 0 0 _
  unfold f_X10_paper
  refine eb_iload_n (pc := 0) 1 dX10_paper_0 rfl rfl ?_
  refine eb_i2l (pc := 1) dX10_paper_1 ?_
  refine eb_callb (pc := 2) (eb_runS (pc := 2) (As := [.long ((v1).toInt64)]) (rest := []) ew_696 ew_697 ew_666 rfl ed_X10_isBag (ct_X10_isBag hG _ _) ew_698 ⟨by decide, by decide⟩ (by decide) (by decide) (Nat.le_of_ble_eq_true rfl) rfl dX10_paper_2) (fun b2 s1 => ?_)
  refine eb_if_eq (pc := 5) (tgt := 18) dX10_paper_5 (by decide) ?_ ?_
  · refine eb_iconst (pc := 18) (v := (-1)) dX10_paper_18 (by decide) ?_
    exact eb_iret (pc := 19) dX10_paper_19 (by decide) (by decide)
  · refine eb_iload_n (pc := 8) 2 dX10_paper_8 rfl rfl ?_
    refine eb_i2l (pc := 9) dX10_paper_9 ?_
    refine eb_lconst (pc := 10) (v := 0) dX10_paper_10 (by decide) ?_
    refine eb_lconst (pc := 11) (v := 1) dX10_paper_11 (by decide) ?_
    refine eb_callb (pc := 12) (eb_runS (pc := 12) (As := [.long ((v2).toInt64), .long 0, .long 1]) (rest := []) ew_664 ew_665 ew_666 rfl ed_X10_in (ct_X10_in hG _ _ _ _) ew_667 ⟨by decide, by decide⟩ (by decide) (by decide) (Nat.le_of_ble_eq_true rfl) rfl dX10_paper_12) (fun b4 s3 => ?_)
    refine eb_if_ne (pc := 15) (tgt := 20) dX10_paper_15 (by decide) ?_ ?_
    · refine eb_aload_n (pc := 20) 0 dX10_paper_20 rfl rfl ?_
      refine eb_getR (pc := 21) ef_RX10_34 dX10_paper_21 (fun r5 => ?_)
      refine eb_iload_n (pc := 24) 1 dX10_paper_24 rfl rfl ?_
      refine eb_iaload (pc := 25) dX10_paper_25 (fun x6 => ?_)
      refine eb_istore_n (pc := 26) (L' := [(3, .int x6), (0, .ref v0), (1, .int v1), (2, .int v2)]) dX10_paper_26 rfl (by decide) rfl ?_
      refine eb_iconst (pc := 27) (v := 0) dX10_paper_27 (by decide) ?_
      refine eb_istore (pc := 28) (L' := [(4, .int 0), (3, .int x6), (0, .ref v0), (1, .int v1), (2, .int v2)]) dX10_paper_28 (by decide) rfl ?_
      refine eb_sub [2, 3, 4, 1, 0] rfl ?_
      refine gl_X10_paper_L30 hG (fun w28 w29 w30 s31 => ?_) n _ _ _
      refine eb_aload_n (pc := 124) 0 dX10_paper_124 rfl rfl ?_
      refine eb_iload (pc := 125) 3 dX10_paper_125 rfl ?_
      refine eb_calli (pc := 127) (eb_runV (pc := 127) (As := [.int w29]) (rest := []) (ci := 9) (q0 := (RX10, TX10, 43)) (q := (RX10, TX10, 43)) ew_703 ew_704 ew_705 ew_666 rfl rfl ed_X10_wayTo (ct_X10_wayTo hG n _ _ _) rfl ew_706 ⟨by decide, by decide⟩ (by decide) (by decide) (Nat.le_of_ble_eq_true rfl) rfl dX10_paper_127) (fun x33 s32 => ?_)
      refine eb_iload (pc := 130) 4 dX10_paper_130 rfl ?_
      refine eb_imul (pc := 132) dX10_paper_132 ?_
      refine eb_iload_n (pc := 133) 2 dX10_paper_133 rfl rfl ?_
      refine eb_iadd (pc := 134) dX10_paper_134 ?_
      refine eb_iload (pc := 135) 4 dX10_paper_135 rfl ?_
      refine eb_iload_n (pc := 137) 1 dX10_paper_137 rfl rfl ?_
      refine eb_calli (pc := 138) (eb_runS (pc := 138) (As := [.int ((x33 * w30) + w28), .int w30, .int v2]) (rest := []) ew_802 ew_803 ew_666 rfl ed_X10_part (ct_X10_part hG n _ _ _ _) ew_804 ⟨by decide, by decide⟩ (by decide) (by decide) (Nat.le_of_ble_eq_true rfl) rfl dX10_paper_138) (fun x35 s34 => ?_)
      exact eb_iret (pc := 141) dX10_paper_141 (by decide) (by decide)
    · refine eb_iconst (pc := 18) (v := (-1)) dX10_paper_18 (by decide) ?_
      exact eb_iret (pc := 19) dX10_paper_19 (by decide) (by decide)

def f_X10_pole (n : Nat) (v0 : Nat) (v1 : Int32) (v2 : Int32) (v3 : Int32) (v4 : Int32) (s : eb_S) : Option (Int32 × eb_S) := eb_cl (eb_tg s v0 9 (f_X10_isThing v0 ((v1).toInt64) s)) fun b2 s1 => if (eb_b b2) = 0 then (some ((-1), s1)) else (eb_cl (eb_tg s1 v0 9 (f_X10_isThing v0 ((v2).toInt64) s1)) fun b4 s3 => if (eb_b b4) = 0 then (some ((-1), s3)) else (if v1 = v2 then (some ((-1), s3)) else (eb_cl (f_X10_in ((v3).toInt64) 1 999 s3) fun b6 s5 => if (eb_b b6) = 0 then (some ((-1), s5)) else (eb_cl (f_X10_in ((v4).toInt64) 0 1 s5) fun b8 s7 => if (eb_b b8) = 0 then (some ((-1), s7)) else (eb_gR s7 [9] v0 2 fun r9 => eb_ai s7 r9 v2 fun x10 => eb_gR s7 [9] v0 2 fun r11 => eb_ai s7 r11 v1 fun x12 => eb_gR s7 [9] v0 2 fun r13 => eb_ai s7 r13 v2 fun x14 => eb_cl (f_X10_part n (v3 * x10) (x12 + x14) v4 s7) fun x16 s15 => some (x16, s15))))))
set_option maxRecDepth 100000 in
theorem ct_X10_pole {G : eb_G} (hG : eb_ok G) (n : Nat) (v0 : Nat) (v1 : Int32) (v2 : Int32) (v3 : Int32) (v4 : Int32) (s : eb_S) : eb_ct G yX10_pole cX10_pole 5 (some .int) 3 0 0 eb_ei [.ref v0, .int v1, .int v2, .int v3, .int v4] s (f_X10_pole n v0 v1 v2 v3 v4 s) := by
  refine eb_ct_i (by decide) (Nat.le_of_ble_eq_true rfl) (fun v hv => by simp at hv; rcases hv with rfl | rfl | rfl | rfl | rfl <;> simp [Value.category]) ?_
  show eb_go G yX10_pole cX10_pole 5 (some .int) (3) 0 0 .ireturn (fun r : Int32 => [.int r]) 0 [(0, .ref v0), (1, .int v1), (2, .int v2), (3, .int v3), (4, .int v4)] [] s 0 0 _
  unfold f_X10_pole
  refine eb_aload_n (pc := 0) 0 dX10_pole_0 rfl rfl ?_
  refine eb_iload_n (pc := 1) 1 dX10_pole_1 rfl rfl ?_
  refine eb_i2l (pc := 2) dX10_pole_2 ?_
  refine eb_callb (pc := 3) (eb_runV (pc := 3) (As := [.long ((v1).toInt64)]) (rest := []) (ci := 9) (q0 := (RX10, TX10, 43)) (q := (RX10, TX10, 43)) ew_677 ew_678 ew_679 ew_666 rfl rfl ed_X10_isThing (ct_X10_isThing hG _ _ _) rfl ew_680 ⟨by decide, by decide⟩ (by decide) (by decide) (Nat.le_of_ble_eq_true rfl) rfl dX10_pole_3) (fun b2 s1 => ?_)
  refine eb_if_eq (pc := 6) (tgt := 46) dX10_pole_6 (by decide) ?_ ?_
  · refine eb_iconst (pc := 46) (v := (-1)) dX10_pole_46 (by decide) ?_
    exact eb_iret (pc := 47) dX10_pole_47 (by decide) (by decide)
  · refine eb_aload_n (pc := 9) 0 dX10_pole_9 rfl rfl ?_
    refine eb_iload_n (pc := 10) 2 dX10_pole_10 rfl rfl ?_
    refine eb_i2l (pc := 11) dX10_pole_11 ?_
    refine eb_callb (pc := 12) (eb_runV (pc := 12) (As := [.long ((v2).toInt64)]) (rest := []) (ci := 9) (q0 := (RX10, TX10, 43)) (q := (RX10, TX10, 43)) ew_677 ew_678 ew_679 ew_666 rfl rfl ed_X10_isThing (ct_X10_isThing hG _ _ _) rfl ew_680 ⟨by decide, by decide⟩ (by decide) (by decide) (Nat.le_of_ble_eq_true rfl) rfl dX10_pole_12) (fun b4 s3 => ?_)
    refine eb_if_eq (pc := 15) (tgt := 46) dX10_pole_15 (by decide) ?_ ?_
    · refine eb_iconst (pc := 46) (v := (-1)) dX10_pole_46 (by decide) ?_
      exact eb_iret (pc := 47) dX10_pole_47 (by decide) (by decide)
    · refine eb_iload_n (pc := 18) 1 dX10_pole_18 rfl rfl ?_
      refine eb_iload_n (pc := 19) 2 dX10_pole_19 rfl rfl ?_
      refine eb_icmp_eq (pc := 20) (tgt := 46) dX10_pole_20 (by decide) ?_ ?_
      · refine eb_iconst (pc := 46) (v := (-1)) dX10_pole_46 (by decide) ?_
        exact eb_iret (pc := 47) dX10_pole_47 (by decide) (by decide)
      · refine eb_iload_n (pc := 23) 3 dX10_pole_23 rfl rfl ?_
        refine eb_i2l (pc := 24) dX10_pole_24 ?_
        refine eb_lconst (pc := 25) (v := 1) dX10_pole_25 (by decide) ?_
        refine eb_ldc2 (pc := 26) (v := 999) dX10_pole_26 ew_700 ?_
        refine eb_callb (pc := 29) (eb_runS (pc := 29) (As := [.long ((v3).toInt64), .long 1, .long 999]) (rest := []) ew_664 ew_665 ew_666 rfl ed_X10_in (ct_X10_in hG _ _ _ _) ew_667 ⟨by decide, by decide⟩ (by decide) (by decide) (Nat.le_of_ble_eq_true rfl) rfl dX10_pole_29) (fun b6 s5 => ?_)
        refine eb_if_eq (pc := 32) (tgt := 46) dX10_pole_32 (by decide) ?_ ?_
        · refine eb_iconst (pc := 46) (v := (-1)) dX10_pole_46 (by decide) ?_
          exact eb_iret (pc := 47) dX10_pole_47 (by decide) (by decide)
        · refine eb_iload (pc := 35) 4 dX10_pole_35 rfl ?_
          refine eb_i2l (pc := 37) dX10_pole_37 ?_
          refine eb_lconst (pc := 38) (v := 0) dX10_pole_38 (by decide) ?_
          refine eb_lconst (pc := 39) (v := 1) dX10_pole_39 (by decide) ?_
          refine eb_callb (pc := 40) (eb_runS (pc := 40) (As := [.long ((v4).toInt64), .long 0, .long 1]) (rest := []) ew_664 ew_665 ew_666 rfl ed_X10_in (ct_X10_in hG _ _ _ _) ew_667 ⟨by decide, by decide⟩ (by decide) (by decide) (Nat.le_of_ble_eq_true rfl) rfl dX10_pole_40) (fun b8 s7 => ?_)
          refine eb_if_ne (pc := 43) (tgt := 48) dX10_pole_43 (by decide) ?_ ?_
          · refine eb_iload_n (pc := 48) 3 dX10_pole_48 rfl rfl ?_
            refine eb_aload_n (pc := 49) 0 dX10_pole_49 rfl rfl ?_
            refine eb_getR (pc := 50) ef_RX10_13 dX10_pole_50 (fun r9 => ?_)
            refine eb_iload_n (pc := 53) 2 dX10_pole_53 rfl rfl ?_
            refine eb_iaload (pc := 54) dX10_pole_54 (fun x10 => ?_)
            refine eb_imul (pc := 55) dX10_pole_55 ?_
            refine eb_aload_n (pc := 56) 0 dX10_pole_56 rfl rfl ?_
            refine eb_getR (pc := 57) ef_RX10_13 dX10_pole_57 (fun r11 => ?_)
            refine eb_iload_n (pc := 60) 1 dX10_pole_60 rfl rfl ?_
            refine eb_iaload (pc := 61) dX10_pole_61 (fun x12 => ?_)
            refine eb_aload_n (pc := 62) 0 dX10_pole_62 rfl rfl ?_
            refine eb_getR (pc := 63) ef_RX10_13 dX10_pole_63 (fun r13 => ?_)
            refine eb_iload_n (pc := 66) 2 dX10_pole_66 rfl rfl ?_
            refine eb_iaload (pc := 67) dX10_pole_67 (fun x14 => ?_)
            refine eb_iadd (pc := 68) dX10_pole_68 ?_
            refine eb_iload (pc := 69) 4 dX10_pole_69 rfl ?_
            refine eb_calli (pc := 71) (eb_runS (pc := 71) (As := [.int (v3 * x10), .int (x12 + x14), .int v4]) (rest := []) ew_802 ew_803 ew_666 rfl ed_X10_part (ct_X10_part hG n _ _ _ _) ew_804 ⟨by decide, by decide⟩ (by decide) (by decide) (Nat.le_of_ble_eq_true rfl) rfl dX10_pole_71) (fun x16 s15 => ?_)
            exact eb_iret (pc := 74) dX10_pole_74 (by decide) (by decide)
          · refine eb_iconst (pc := 46) (v := (-1)) dX10_pole_46 (by decide) ?_
            exact eb_iret (pc := 47) dX10_pole_47 (by decide) (by decide)

def f_X10_apart (v0 : Nat) (v1 : Int32) (v2 : Int32) (s : eb_S) : Option (Int32 × eb_S) := eb_gR s [9] v0 4 fun r1 => eb_ai s r1 v1 fun x2 => eb_gR s [9] v0 4 fun r3 => eb_ai s r3 v2 fun x4 => eb_cl (eb_tg s v0 9 (f_X10_plain v0 (x2 - x4) s)) fun x6 s5 => some (x6, s5)
set_option maxRecDepth 100000 in
theorem ct_X10_apart {G : eb_G} (hG : eb_ok G) (v0 : Nat) (v1 : Int32) (v2 : Int32) (s : eb_S) : eb_ct G yX10_apart cX10_apart 3 (some .int) 2 0 0 eb_ei [.ref v0, .int v1, .int v2] s (f_X10_apart v0 v1 v2 s) := by
  refine eb_ct_i (by decide) (Nat.le_of_ble_eq_true rfl) (fun v hv => by simp at hv; rcases hv with rfl | rfl | rfl <;> simp [Value.category]) ?_
  show eb_go G yX10_apart cX10_apart 3 (some .int) (2) 0 0 .ireturn (fun r : Int32 => [.int r]) 0 [(0, .ref v0), (1, .int v1), (2, .int v2)] [] s 0 0 _
  unfold f_X10_apart
  refine eb_aload_n (pc := 0) 0 dX10_apart_0 rfl rfl ?_
  refine eb_aload_n (pc := 1) 0 dX10_apart_1 rfl rfl ?_
  refine eb_getR (pc := 2) ef_RX10_19 dX10_apart_2 (fun r1 => ?_)
  refine eb_iload_n (pc := 5) 1 dX10_apart_5 rfl rfl ?_
  refine eb_iaload (pc := 6) dX10_apart_6 (fun x2 => ?_)
  refine eb_aload_n (pc := 7) 0 dX10_apart_7 rfl rfl ?_
  refine eb_getR (pc := 8) ef_RX10_19 dX10_apart_8 (fun r3 => ?_)
  refine eb_iload_n (pc := 11) 2 dX10_apart_11 rfl rfl ?_
  refine eb_iaload (pc := 12) dX10_apart_12 (fun x4 => ?_)
  refine eb_isub (pc := 13) dX10_apart_13 ?_
  refine eb_calli (pc := 14) (eb_runV (pc := 14) (As := [.int (x2 - x4)]) (rest := []) (ci := 9) (q0 := (RX10, TX10, 43)) (q := (RX10, TX10, 43)) ew_764 ew_765 ew_766 ew_666 rfl rfl ed_X10_plain (ct_X10_plain hG _ _ _) rfl ew_767 ⟨by decide, by decide⟩ (by decide) (by decide) (Nat.le_of_ble_eq_true rfl) rfl dX10_apart_14) (fun x6 s5 => ?_)
  exact eb_iret (pc := 17) dX10_apart_17 (by decide) (by decide)

def f_X10_bought_L4 (n : Nat) (v0 : Nat) (v1 : Int32)  : Nat → Int32 → Int32 → eb_S → Option (Int32 × eb_S)
  | 0, _, _, _ => none
  | m + 1, v2, v3, s => eb_gI s [9] v0 0 fun x1 => if x1 ≤ v3 then (some (v2, s)) else (eb_jn (fun (y2 : Int32) (s3 : eb_S) => f_X10_bought_L4 n v0 v1 m (v2 + y2) (v3 + 1) s3) fun j4 => if ((v1 >>> (v3 &&& 31)) &&& 1) = 1 then (eb_gR s [9] v0 2 fun r5 => eb_ai s r5 v3 fun x6 => j4 x6 s) else (j4 0 s))
def f_X10_bought (n : Nat) (v0 : Nat) (v1 : Int32) (s : eb_S) : Option (Int32 × eb_S) := f_X10_bought_L4 n v0 v1  n 0 0 s
set_option maxRecDepth 100000 in
theorem gl_X10_bought_L4 {G : eb_G} (hG : eb_ok G) {n : Nat} {v0 : Nat} {v1 : Int32}   : ∀ (m : Nat) (v2 : Int32) (v3 : Int32) (s : eb_S), eb_go G yX10_bought cX10_bought 4 (some .int) (1) 0 0 .ireturn (fun r : Int32 => [.int r]) 4 [(0, .ref v0), (1, .int v1), (2, .int v2), (3, .int v3)] [] s 0 0 (f_X10_bought_L4 n v0 v1 m v2 v3 s) := by
  intro m
  induction m with
  | zero => intro v2 v3 s; exact eb_none
  | succ m ih =>
    intro v2 v3 s
    rw [f_X10_bought_L4.eq_2]
    refine eb_iload_n (pc := 4) 3 dX10_bought_4 rfl rfl ?_
    refine eb_aload_n (pc := 5) 0 dX10_bought_5 rfl rfl ?_
    refine eb_getI (pc := 6) ef_RX10_98 dX10_bought_6 (fun x1 => ?_)
    refine eb_icmp_ge (pc := 9) (tgt := 40) dX10_bought_9 (by decide) ?_ ?_
    · refine eb_iload_n (pc := 40) 2 dX10_bought_40 rfl rfl ?_
      exact eb_iret (pc := 41) dX10_bought_41 (by decide) (by decide)
    · refine eb_iload_n (pc := 12) 2 dX10_bought_12 rfl rfl ?_
      refine eb_iload_n (pc := 13) 1 dX10_bought_13 rfl rfl ?_
      refine eb_iload_n (pc := 14) 3 dX10_bought_14 rfl rfl ?_
      refine eb_ishr (pc := 15) dX10_bought_15 ?_
      refine eb_iconst (pc := 16) (v := 1) dX10_bought_16 (by decide) ?_
      refine eb_iand (pc := 17) dX10_bought_17 ?_
      refine eb_iconst (pc := 18) (v := 1) dX10_bought_18 (by decide) ?_
      refine eb_join (fun j4 : Int32 → eb_S → Option (Int32 × eb_S) => ∀ (y2 : Int32) (s3 : eb_S), eb_go G yX10_bought cX10_bought 4 (some .int) (1) 0 0 .ireturn (fun r : Int32 => [.int r]) 32 [(0, .ref v0), (1, .int v1), (3, .int v3)] [.int y2, .int v2] s3 0 0 (j4 y2 s3)) ?_ (fun j4 hj4 => ?_)
      · intro y2 s3
        refine eb_iadd (pc := 32) dX10_bought_32 ?_
        refine eb_istore_n (pc := 33) (L' := [(2, .int (v2 + y2)), (0, .ref v0), (1, .int v1), (3, .int v3)]) dX10_bought_33 rfl (by decide) rfl ?_
        refine eb_iinc (pc := 34) (v := v3 + 1) (L' := [(3, .int (v3 + 1)), (2, .int (v2 + y2)), (0, .ref v0), (1, .int v1)]) 3 dX10_bought_34 rfl rfl (by decide) rfl ?_
        refine eb_goto (pc := 37) (tgt := 4) dX10_bought_37 (by decide) ?_
        refine eb_sub [2, 3, 1, 0] rfl ?_
        exact ih _ _ _
      refine eb_icmp_ne (pc := 19) (tgt := 31) dX10_bought_19 (by decide) ?_ ?_
      · refine eb_iconst (pc := 31) (v := 0) dX10_bought_31 (by decide) ?_
        refine eb_sub [0, 1, 3] rfl ?_
        exact hj4 _ _
      · refine eb_aload_n (pc := 22) 0 dX10_bought_22 rfl rfl ?_
        refine eb_getR (pc := 23) ef_RX10_13 dX10_bought_23 (fun r5 => ?_)
        refine eb_iload_n (pc := 26) 3 dX10_bought_26 rfl rfl ?_
        refine eb_iaload (pc := 27) dX10_bought_27 (fun x6 => ?_)
        refine eb_goto (pc := 28) (tgt := 32) dX10_bought_28 (by decide) ?_
        refine eb_sub [0, 1, 3] rfl ?_
        exact hj4 _ _
set_option maxRecDepth 100000 in
theorem ct_X10_bought {G : eb_G} (hG : eb_ok G) (n : Nat) (v0 : Nat) (v1 : Int32) (s : eb_S) : eb_ct G yX10_bought cX10_bought 4 (some .int) 1 0 0 eb_ei [.ref v0, .int v1] s (f_X10_bought n v0 v1 s) := by
  refine eb_ct_i (by decide) (Nat.le_of_ble_eq_true rfl) (fun v hv => by simp at hv; rcases hv with rfl | rfl <;> simp [Value.category]) ?_
  show eb_go G yX10_bought cX10_bought 4 (some .int) (1) 0 0 .ireturn (fun r : Int32 => [.int r]) 0 [(0, .ref v0), (1, .int v1)] [] s 0 0 _
  unfold f_X10_bought
  refine eb_iconst (pc := 0) (v := 0) dX10_bought_0 (by decide) ?_
  refine eb_istore_n (pc := 1) (L' := [(2, .int 0), (0, .ref v0), (1, .int v1)]) dX10_bought_1 rfl (by decide) rfl ?_
  refine eb_iconst (pc := 2) (v := 0) dX10_bought_2 (by decide) ?_
  refine eb_istore_n (pc := 3) (L' := [(3, .int 0), (2, .int 0), (0, .ref v0), (1, .int v1)]) dX10_bought_3 rfl (by decide) rfl ?_
  refine eb_sub [2, 3, 1, 0] rfl ?_
  refine gl_X10_bought_L4 hG  n _ _ _

def f_X10_onFrom_L40 (n : Nat) (v0 : Nat) (v1 : Int32) (v2 : Int32)  : Nat → Int32 → Int32 → eb_S → Option (Int32 × eb_S)
  | 0, _, _, _ => none
  | m + 1, v4, v5, s => eb_gI s [9] v0 0 fun x2 => if x2 ≤ v5 then (some (v4, s)) else (eb_jn (fun (p3 : Int32) (p4 : Int32) (s5 : eb_S) => f_X10_onFrom_L40 n v0 v1 v2 m p3 (p4 + 1) s5) fun j6 => if ((v1 >>> (v5 &&& 31)) &&& 1) = 0 then (eb_cl (eb_tg s v0 9 (f_X10_apart v0 v2 v5 s)) fun x8 s7 => eb_cl (eb_tg s7 v0 9 (f_X10_bought n v0 v1 s7)) fun x10 s9 => eb_gR s9 [9] v0 33 fun r11 => eb_ai s9 r11 (((10 : Int32) * (v1 ||| ((1 : Int32) <<< (v5 &&& 31)))) + v5) fun x12 => eb_jn (fun (y13 : Int32) (s14 : eb_S) => j6 y13 v5 s14) fun j15 => eb_jn (fun (s16 : eb_S) => j15 ((x8 * x10) + x12) s16) fun j17 => if v4 < 0 then (j17 s9) else (if v4 ≤ ((x8 * x10) + x12) then (j15 v4 s9) else (j17 s9))) else (j6 v4 v5 s))
def f_X10_onFrom (n : Nat) (v0 : Nat) (v1 : Int32) (v2 : Int32) (s : eb_S) : Option (Int32 × eb_S) := eb_gI s [9] v0 0 fun x1 => if v1 = (((1 : Int32) <<< (x1 &&& 31)) - 1) then (eb_gR s [9] v0 4 fun r18 => eb_ai s r18 v2 fun x19 => eb_cl (eb_tg s v0 9 (f_X10_plain v0 (x19 - 50) s)) fun x21 s20 => eb_cl (eb_tg s20 v0 9 (f_X10_bought n v0 (((1 : Int32) <<< (x1 &&& 31)) - 1) s20)) fun x23 s22 => some (x21 * x23, s22)) else (f_X10_onFrom_L40 n v0 v1 v2  n ((-1)) 0 s)
set_option maxRecDepth 100000 in
theorem gl_X10_onFrom_L40 {G : eb_G} (hG : eb_ok G) {n : Nat} {v0 : Nat} {v1 : Int32} {v2 : Int32}   : ∀ (m : Nat) (v4 : Int32) (v5 : Int32) (s : eb_S), eb_go G yX10_onFrom cX10_onFrom 7 (some .int) (3) 0 0 .ireturn (fun r : Int32 => [.int r]) 40 [(0, .ref v0), (1, .int v1), (2, .int v2), (4, .int v4), (5, .int v5)] [] s 0 0 (f_X10_onFrom_L40 n v0 v1 v2 m v4 v5 s) := by
  intro m
  induction m with
  | zero => intro v4 v5 s; exact eb_none
  | succ m ih =>
    intro v4 v5 s
    rw [f_X10_onFrom_L40.eq_2]
    refine eb_iload (pc := 40) 4 dX10_onFrom_40 rfl ?_
    refine eb_aload_n (pc := 42) 0 dX10_onFrom_42 rfl rfl ?_
    refine eb_getI (pc := 43) ef_RX10_98 dX10_onFrom_43 (fun x2 => ?_)
    refine eb_icmp_ge (pc := 46) (tgt := 118) dX10_onFrom_46 (by decide) ?_ ?_
    · refine eb_iload (pc := 118) 3 dX10_onFrom_118 rfl ?_
      exact eb_iret (pc := 120) dX10_onFrom_120 (by decide) (by decide)
    · refine eb_iload_n (pc := 49) 1 dX10_onFrom_49 rfl rfl ?_
      refine eb_iload (pc := 50) 4 dX10_onFrom_50 rfl ?_
      refine eb_ishr (pc := 52) dX10_onFrom_52 ?_
      refine eb_iconst (pc := 53) (v := 1) dX10_onFrom_53 (by decide) ?_
      refine eb_iand (pc := 54) dX10_onFrom_54 ?_
      refine eb_join (fun j6 : Int32 → Int32 → eb_S → Option (Int32 × eb_S) => ∀ (p3 : Int32) (p4 : Int32) (s5 : eb_S), eb_go G yX10_onFrom cX10_onFrom 7 (some .int) (3) 0 0 .ireturn (fun r : Int32 => [.int r]) 112 [(0, .ref v0), (1, .int v1), (2, .int v2), (4, .int p3), (5, .int p4)] [] s5 0 0 (j6 p3 p4 s5)) ?_ (fun j6 hj6 => ?_)
      · intro p3 p4 s5
        refine eb_iinc (pc := 112) (v := p4 + 1) (L' := [(5, .int (p4 + 1)), (0, .ref v0), (1, .int v1), (2, .int v2), (4, .int p3)]) 4 dX10_onFrom_112 rfl rfl (by decide) rfl ?_
        refine eb_goto (pc := 115) (tgt := 40) dX10_onFrom_115 (by decide) ?_
        refine eb_sub [1, 2, 3, 4, 0] rfl ?_
        exact ih _ _ _
      refine eb_if_ne (pc := 55) (tgt := 112) dX10_onFrom_55 (by decide) ?_ ?_
      · exact hj6 _ _ _
      · refine eb_aload_n (pc := 58) 0 dX10_onFrom_58 rfl rfl ?_
        refine eb_iload_n (pc := 59) 2 dX10_onFrom_59 rfl rfl ?_
        refine eb_iload (pc := 60) 4 dX10_onFrom_60 rfl ?_
        refine eb_calli (pc := 62) (eb_runV (pc := 62) (As := [.int v2, .int v5]) (rest := []) (ci := 9) (q0 := (RX10, TX10, 43)) (q := (RX10, TX10, 43)) ew_805 ew_806 ew_807 ew_666 rfl rfl ed_X10_apart (ct_X10_apart hG _ _ _ _) rfl ew_808 ⟨by decide, by decide⟩ (by decide) (by decide) (Nat.le_of_ble_eq_true rfl) rfl dX10_onFrom_62) (fun x8 s7 => ?_)
        refine eb_aload_n (pc := 65) 0 dX10_onFrom_65 rfl rfl ?_
        refine eb_iload_n (pc := 66) 1 dX10_onFrom_66 rfl rfl ?_
        refine eb_calli (pc := 67) (eb_runV (pc := 67) (As := [.int v1]) (rest := [.int x8]) (ci := 9) (q0 := (RX10, TX10, 43)) (q := (RX10, TX10, 43)) ew_809 ew_810 ew_811 ew_666 rfl rfl ed_X10_bought (ct_X10_bought hG n _ _ _) rfl ew_812 ⟨by decide, by decide⟩ (by decide) (by decide) (Nat.le_of_ble_eq_true rfl) rfl dX10_onFrom_67) (fun x10 s9 => ?_)
        refine eb_imul (pc := 70) dX10_onFrom_70 ?_
        refine eb_aload_n (pc := 71) 0 dX10_onFrom_71 rfl rfl ?_
        refine eb_getR (pc := 72) ef_RX10_70 dX10_onFrom_72 (fun r11 => ?_)
        refine eb_bipush (pc := 75) (v := 10) dX10_onFrom_75 (by decide) ?_
        refine eb_iload_n (pc := 77) 1 dX10_onFrom_77 rfl rfl ?_
        refine eb_iconst (pc := 78) (v := 1) dX10_onFrom_78 (by decide) ?_
        refine eb_iload (pc := 79) 4 dX10_onFrom_79 rfl ?_
        refine eb_ishl (pc := 81) dX10_onFrom_81 ?_
        refine eb_ior (pc := 82) dX10_onFrom_82 ?_
        refine eb_imul (pc := 83) dX10_onFrom_83 ?_
        refine eb_iload (pc := 84) 4 dX10_onFrom_84 rfl ?_
        refine eb_iadd (pc := 86) dX10_onFrom_86 ?_
        refine eb_iaload (pc := 87) dX10_onFrom_87 (fun x12 => ?_)
        refine eb_iadd (pc := 88) dX10_onFrom_88 ?_
        refine eb_istore (pc := 89) (L' := [(6, .int ((x8 * x10) + x12)), (0, .ref v0), (1, .int v1), (2, .int v2), (4, .int v4), (5, .int v5)]) dX10_onFrom_89 (by decide) rfl ?_
        refine eb_iload (pc := 91) 4 dX10_onFrom_91 rfl ?_
        refine eb_join (fun j15 : Int32 → eb_S → Option (Int32 × eb_S) => ∀ (y13 : Int32) (s14 : eb_S), eb_go G yX10_onFrom cX10_onFrom 7 (some .int) (3) 0 0 .ireturn (fun r : Int32 => [.int r]) 110 [(0, .ref v0), (1, .int v1), (2, .int v2), (5, .int v5)] [.int y13] s14 0 0 (j15 y13 s14)) ?_ (fun j15 hj15 => ?_)
        · intro y13 s14
          refine eb_istore (pc := 110) (L' := [(4, .int y13), (0, .ref v0), (1, .int v1), (2, .int v2), (5, .int v5)]) dX10_onFrom_110 (by decide) rfl ?_
          refine eb_sub [1, 2, 3, 0, 4] rfl ?_
          exact hj6 _ _ _
        refine eb_join (fun j17 : eb_S → Option (Int32 × eb_S) => ∀  (s16 : eb_S), eb_go G yX10_onFrom cX10_onFrom 7 (some .int) (3) 0 0 .ireturn (fun r : Int32 => [.int r]) 103 [(0, .ref v0), (1, .int v1), (2, .int v2), (5, .int v5), (6, .int ((x8 * x10) + x12))] [] s16 0 0 (j17  s16)) ?_ (fun j17 hj17 => ?_)
        · intro  s16
          refine eb_iload (pc := 103) 4 dX10_onFrom_103 rfl ?_
          refine eb_goto (pc := 105) (tgt := 110) dX10_onFrom_105 (by decide) ?_
          refine eb_sub [0, 1, 2, 3] rfl ?_
          exact hj15 _ _
        refine eb_if_lt (pc := 93) (tgt := 103) dX10_onFrom_93 (by decide) ?_ ?_
        · refine eb_sub [1, 2, 3, 5, 0] rfl ?_
          exact hj17 _
        · refine eb_iload (pc := 96) 0 dX10_onFrom_96 rfl ?_
          refine eb_iload (pc := 98) 4 dX10_onFrom_98 rfl ?_
          refine eb_icmp_ge (pc := 100) (tgt := 108) dX10_onFrom_100 (by decide) ?_ ?_
          · refine eb_iload (pc := 108) 4 dX10_onFrom_108 rfl ?_
            refine eb_sub [1, 2, 3, 5] rfl ?_
            exact hj15 _ _
          · refine eb_sub [1, 2, 3, 5, 0] rfl ?_
            exact hj17 _
set_option maxRecDepth 100000 in
theorem ct_X10_onFrom {G : eb_G} (hG : eb_ok G) (n : Nat) (v0 : Nat) (v1 : Int32) (v2 : Int32) (s : eb_S) : eb_ct G yX10_onFrom cX10_onFrom 7 (some .int) 3 0 0 eb_ei [.ref v0, .int v1, .int v2] s (f_X10_onFrom n v0 v1 v2 s) := by
  refine eb_ct_i (by decide) (Nat.le_of_ble_eq_true rfl) (fun v hv => by simp at hv; rcases hv with rfl | rfl | rfl <;> simp [Value.category]) ?_
  show eb_go G yX10_onFrom cX10_onFrom 7 (some .int) (3) 0 0 .ireturn (fun r : Int32 => [.int r]) 0 [(0, .ref v0), (1, .int v1), (2, .int v2)] [] s 0 0 _
  unfold f_X10_onFrom
  refine eb_iconst (pc := 0) (v := 1) dX10_onFrom_0 (by decide) ?_
  refine eb_aload_n (pc := 1) 0 dX10_onFrom_1 rfl rfl ?_
  refine eb_getI (pc := 2) ef_RX10_98 dX10_onFrom_2 (fun x1 => ?_)
  refine eb_ishl (pc := 5) dX10_onFrom_5 ?_
  refine eb_iconst (pc := 6) (v := 1) dX10_onFrom_6 (by decide) ?_
  refine eb_isub (pc := 7) dX10_onFrom_7 ?_
  refine eb_istore_n (pc := 8) (L' := [(3, .int (((1 : Int32) <<< (x1 &&& 31)) - 1)), (0, .ref v0), (1, .int v1), (2, .int v2)]) dX10_onFrom_8 rfl (by decide) rfl ?_
  refine eb_iload_n (pc := 9) 2 dX10_onFrom_9 rfl rfl ?_
  refine eb_iload_n (pc := 10) 0 dX10_onFrom_10 rfl rfl ?_
  refine eb_icmp_ne (pc := 11) (tgt := 34) dX10_onFrom_11 (by decide) ?_ ?_
  · refine eb_iconst (pc := 34) (v := (-1)) dX10_onFrom_34 (by decide) ?_
    refine eb_istore (pc := 35) (L' := [(4, .int ((-1))), (3, .int (((1 : Int32) <<< (x1 &&& 31)) - 1)), (0, .ref v0), (1, .int v1), (2, .int v2)]) dX10_onFrom_35 (by decide) rfl ?_
    refine eb_iconst (pc := 37) (v := 0) dX10_onFrom_37 (by decide) ?_
    refine eb_istore (pc := 38) (L' := [(5, .int 0), (4, .int ((-1))), (3, .int (((1 : Int32) <<< (x1 &&& 31)) - 1)), (0, .ref v0), (1, .int v1), (2, .int v2)]) dX10_onFrom_38 (by decide) rfl ?_
    refine eb_sub [3, 4, 5, 1, 0] rfl ?_
    refine gl_X10_onFrom_L40 hG  n _ _ _
  · refine eb_aload_n (pc := 14) 1 dX10_onFrom_14 rfl rfl ?_
    refine eb_aload_n (pc := 15) 1 dX10_onFrom_15 rfl rfl ?_
    refine eb_getR (pc := 16) ef_RX10_19 dX10_onFrom_16 (fun r18 => ?_)
    refine eb_iload_n (pc := 19) 3 dX10_onFrom_19 rfl rfl ?_
    refine eb_iaload (pc := 20) dX10_onFrom_20 (fun x19 => ?_)
    refine eb_bipush (pc := 21) (v := 50) dX10_onFrom_21 (by decide) ?_
    refine eb_isub (pc := 23) dX10_onFrom_23 ?_
    refine eb_calli (pc := 24) (eb_runV (pc := 24) (As := [.int (x19 - 50)]) (rest := []) (ci := 9) (q0 := (RX10, TX10, 43)) (q := (RX10, TX10, 43)) ew_764 ew_765 ew_766 ew_666 rfl rfl ed_X10_plain (ct_X10_plain hG _ _ _) rfl ew_767 ⟨by decide, by decide⟩ (by decide) (by decide) (Nat.le_of_ble_eq_true rfl) rfl dX10_onFrom_24) (fun x21 s20 => ?_)
    refine eb_aload_n (pc := 27) 1 dX10_onFrom_27 rfl rfl ?_
    refine eb_iload_n (pc := 28) 0 dX10_onFrom_28 rfl rfl ?_
    refine eb_calli (pc := 29) (eb_runV (pc := 29) (As := [.int (((1 : Int32) <<< (x1 &&& 31)) - 1)]) (rest := [.int x21]) (ci := 9) (q0 := (RX10, TX10, 43)) (q := (RX10, TX10, 43)) ew_809 ew_810 ew_811 ew_666 rfl rfl ed_X10_bought (ct_X10_bought hG n _ _ _) rfl ew_812 ⟨by decide, by decide⟩ (by decide) (by decide) (Nat.le_of_ble_eq_true rfl) rfl dX10_onFrom_29) (fun x23 s22 => ?_)
    refine eb_imul (pc := 32) dX10_onFrom_32 ?_
    exact eb_iret (pc := 33) dX10_onFrom_33 (by decide) (by decide)

def f_X10_buying_L31 (n : Nat) (v0 : Nat) (v1 : Int32) (v2 : Int32) (K : eb_S → Option (Int32 × eb_S)) : Nat → Int32 → eb_S → Option (Int32 × eb_S)
  | 0, _, _ => none
  | m + 1, v3, s => eb_gI s [9] v0 0 fun x4 => if x4 ≤ v3 then (K s) else (eb_jn (fun (p5 : Int32) (s6 : eb_S) => f_X10_buying_L31 n v0 v1 v2 K m (p5 + 1) s6) fun j7 => if ((v2 >>> (v3 &&& 31)) &&& 1) = 1 then (eb_gR s [9] v0 33 fun r8 => eb_cl (eb_tg s v0 9 (f_X10_onFrom n v0 v2 v3 s)) fun x10 s9 => eb_wi s9 r8 (((10 : Int32) * v2) + v3) x10 fun s11 => j7 v3 s11) else (j7 v3 s))
def f_X10_buying_L25 (n : Nat) (v0 : Nat) (v1 : Int32) (K : eb_S → Option (Int32 × eb_S)) : Nat → Int32 → eb_S → Option (Int32 × eb_S)
  | 0, _, _ => none
  | m + 1, v2, s => if v2 ≤ 0 then (K s) else (f_X10_buying_L31 n v0 v1 v2 (fun  (s12 : eb_S) => f_X10_buying_L25 n v0 v1 K m (v2 + (-1)) s12) n 0 s)
def f_X10_buying_L119 (n : Nat) (v0 : Nat) (v1 : Int32) (v2 : Int32) (v3 : Int32) (v4 : Int32) (v5 : Int32) (K : Int32 → Int32 → eb_S → Option (Int32 × eb_S)) : Nat → Int32 → Int32 → Int32 → eb_S → Option (Int32 × eb_S)
  | 0, _, _, _, _ => none
  | m + 1, v6, v7, v8, s => eb_gI s [9] v0 0 fun x18 => if x18 ≤ v8 then (K v6 v7 s) else (eb_jn (fun (y19 : Int32) (s20 : eb_S) => eb_jn (fun (y22 : Int32) (s23 : eb_S) => eb_jn (fun (y25 : Int32) (s26 : eb_S) => eb_jn (fun (y28 : Int32) (s29 : eb_S) => f_X10_buying_L119 n v0 v1 v2 v3 v4 v5 K m y25 y28 (v8 + 1) s29) fun j30 => if y22 = 0 then (j30 v7 s26) else (j30 y19 s26)) fun j27 => if y22 = 0 then (j27 v6 s23) else (j27 v8 s23)) fun j24 => eb_jn (fun (s31 : eb_S) => j24 0 s31) fun j32 => if y19 < 0 then (j32 s20) else (eb_jn (fun (s33 : eb_S) => j24 1 s33) fun j34 => if v6 < 0 then (j34 s20) else (if v7 ≤ y19 then (j32 s20) else (j34 s20)))) fun j21 => if ((v2 >>> (v8 &&& 31)) &&& 1) = 1 then (j21 ((-1)) s) else (eb_jn (fun (y35 : Int32) (s36 : eb_S) => eb_gR s36 [9] v0 33 fun r38 => eb_ai s36 r38 (((10 : Int32) * (v2 ||| ((1 : Int32) <<< (v8 &&& 31)))) + v8) fun x39 => j21 (y35 + x39) s36) fun j37 => if v5 = 0 then (j37 0 s) else (eb_cl (eb_tg s v0 9 (f_X10_apart v0 v3 v8 s)) fun x41 s40 => eb_cl (eb_tg s40 v0 9 (f_X10_bought n v0 v2 s40)) fun x43 s42 => j37 (x41 * x43) s42)))
def f_X10_buying_L87 (n : Nat) (v0 : Nat) (v1 : Int32) (K : Int32 → Int32 → eb_S → Option (Int32 × eb_S)) : Nat → Int32 → Int32 → Int32 → Int32 → eb_S → Option (Int32 × eb_S)
  | 0, _, _, _, _, _ => none
  | m + 1, v2, v3, v4, v5, s => eb_gI s [9] v0 0 fun x14 => if x14 ≤ v5 then (K v3 v4 s) else (eb_jn (fun (y15 : Int32) (s16 : eb_S) => if y15 < v5 then (K v3 v4 s16) else (f_X10_buying_L119 n v0 v1 v2 v3 v4 v5 (fun (w44 : Int32) (w45 : Int32) (s46 : eb_S) => eb_jn (fun (y47 : Int32) (s48 : eb_S) => f_X10_buying_L87 n v0 v1 K m (v2 ||| ((1 : Int32) <<< (w44 &&& 31))) w44 y47 (v5 + 1) s48) fun j49 => if v5 = 0 then (j49 w45 s46) else (j49 v4 s46)) n ((-1)) 0 0 s16)) fun j17 => if 0 ≤ v1 then (j17 v1 s) else (j17 0 s))
def f_X10_buying (n : Nat) (v0 : Nat) (v1 : Int32) (s : eb_S) : Option (Int32 × eb_S) := eb_jn (fun (s1 : eb_S) => eb_gI s1 [9] v0 0 fun x3 => f_X10_buying_L25 n v0 v1 (fun  (s13 : eb_S) => f_X10_buying_L87 n v0 v1 (fun (w50 : Int32) (w51 : Int32) (s52 : eb_S) => if 0 ≤ v1 then (some (w50, s52)) else (some (w51, s52))) n 0 ((-1)) 0 0 s13) n (((1 : Int32) <<< (x3 &&& 31)) - 1) s1) fun j2 => if v1 = ((-1)) then (j2 s) else (eb_cl (eb_tg s v0 9 (f_X10_isThing v0 ((v1).toInt64) s)) fun b54 s53 => if (eb_b b54) = 0 then (some ((-1), s53)) else (j2 s53))
set_option maxRecDepth 100000 in
theorem gl_X10_buying_L31 {G : eb_G} (hG : eb_ok G) {n : Nat} {v0 : Nat} {v1 : Int32} {v2 : Int32} {K : eb_S → Option (Int32 × eb_S)} (hK : ∀  (s : eb_S), eb_go G yX10_buying cX10_buying 11 (some .int) (4) 0 0 .ireturn (fun r : Int32 => [.int r]) 71 [(0, .ref v0), (1, .int v1), (2, .int v2)] [] s 0 0 (K  s)) : ∀ (m : Nat) (v3 : Int32) (s : eb_S), eb_go G yX10_buying cX10_buying 11 (some .int) (4) 0 0 .ireturn (fun r : Int32 => [.int r]) 31 [(0, .ref v0), (1, .int v1), (2, .int v2), (3, .int v3)] [] s 0 0 (f_X10_buying_L31 n v0 v1 v2 K m v3 s) := by
  intro m
  induction m with
  | zero => intro v3 s; exact eb_none
  | succ m ih =>
    intro v3 s
    rw [f_X10_buying_L31.eq_2]
    refine eb_iload_n (pc := 31) 3 dX10_buying_31 rfl rfl ?_
    refine eb_aload_n (pc := 32) 0 dX10_buying_32 rfl rfl ?_
    refine eb_getI (pc := 33) ef_RX10_98 dX10_buying_33 (fun x4 => ?_)
    refine eb_icmp_ge (pc := 36) (tgt := 71) dX10_buying_36 (by decide) ?_ ?_
    · refine eb_sub [0, 1, 2] rfl ?_
      exact hK _
    · refine eb_iload_n (pc := 39) 2 dX10_buying_39 rfl rfl ?_
      refine eb_iload_n (pc := 40) 3 dX10_buying_40 rfl rfl ?_
      refine eb_ishr (pc := 41) dX10_buying_41 ?_
      refine eb_iconst (pc := 42) (v := 1) dX10_buying_42 (by decide) ?_
      refine eb_iand (pc := 43) dX10_buying_43 ?_
      refine eb_iconst (pc := 44) (v := 1) dX10_buying_44 (by decide) ?_
      refine eb_join (fun j7 : Int32 → eb_S → Option (Int32 × eb_S) => ∀ (p5 : Int32) (s6 : eb_S), eb_go G yX10_buying cX10_buying 11 (some .int) (4) 0 0 .ireturn (fun r : Int32 => [.int r]) 65 [(0, .ref v0), (1, .int v1), (2, .int v2), (3, .int p5)] [] s6 0 0 (j7 p5 s6)) ?_ (fun j7 hj7 => ?_)
      · intro p5 s6
        refine eb_iinc (pc := 65) (v := p5 + 1) (L' := [(3, .int (p5 + 1)), (0, .ref v0), (1, .int v1), (2, .int v2)]) 3 dX10_buying_65 rfl rfl (by decide) rfl ?_
        refine eb_goto (pc := 68) (tgt := 31) dX10_buying_68 (by decide) ?_
        refine eb_sub [1, 2, 3, 0] rfl ?_
        exact ih _ _
      refine eb_icmp_ne (pc := 45) (tgt := 65) dX10_buying_45 (by decide) ?_ ?_
      · exact hj7 _ _
      · refine eb_aload_n (pc := 48) 0 dX10_buying_48 rfl rfl ?_
        refine eb_getR (pc := 49) ef_RX10_70 dX10_buying_49 (fun r8 => ?_)
        refine eb_bipush (pc := 52) (v := 10) dX10_buying_52 (by decide) ?_
        refine eb_iload_n (pc := 54) 2 dX10_buying_54 rfl rfl ?_
        refine eb_imul (pc := 55) dX10_buying_55 ?_
        refine eb_iload_n (pc := 56) 3 dX10_buying_56 rfl rfl ?_
        refine eb_iadd (pc := 57) dX10_buying_57 ?_
        refine eb_aload_n (pc := 58) 0 dX10_buying_58 rfl rfl ?_
        refine eb_iload_n (pc := 59) 2 dX10_buying_59 rfl rfl ?_
        refine eb_iload_n (pc := 60) 3 dX10_buying_60 rfl rfl ?_
        refine eb_calli (pc := 61) (eb_runV (pc := 61) (As := [.int v2, .int v3]) (rest := [.int (((10 : Int32) * v2) + v3), .ref r8]) (ci := 9) (q0 := (RX10, TX10, 43)) (q := (RX10, TX10, 43)) ew_813 ew_814 ew_815 ew_666 rfl rfl ed_X10_onFrom (ct_X10_onFrom hG n _ _ _ _) rfl ew_816 ⟨by decide, by decide⟩ (by decide) (by decide) (Nat.le_of_ble_eq_true rfl) rfl dX10_buying_61) (fun x10 s9 => ?_)
        refine eb_iastore (pc := 64) dX10_buying_64 (fun s11 => ?_)
        exact hj7 _ _
set_option maxRecDepth 100000 in
theorem gl_X10_buying_L25 {G : eb_G} (hG : eb_ok G) {n : Nat} {v0 : Nat} {v1 : Int32} {K : eb_S → Option (Int32 × eb_S)} (hK : ∀  (s : eb_S), eb_go G yX10_buying cX10_buying 11 (some .int) (4) 0 0 .ireturn (fun r : Int32 => [.int r]) 77 [(0, .ref v0), (1, .int v1)] [] s 0 0 (K  s)) : ∀ (m : Nat) (v2 : Int32) (s : eb_S), eb_go G yX10_buying cX10_buying 11 (some .int) (4) 0 0 .ireturn (fun r : Int32 => [.int r]) 25 [(0, .ref v0), (1, .int v1), (2, .int v2)] [] s 0 0 (f_X10_buying_L25 n v0 v1 K m v2 s) := by
  intro m
  induction m with
  | zero => intro v2 s; exact eb_none
  | succ m ih =>
    intro v2 s
    rw [f_X10_buying_L25.eq_2]
    refine eb_iload_n (pc := 25) 2 dX10_buying_25 rfl rfl ?_
    refine eb_if_le (pc := 26) (tgt := 77) dX10_buying_26 (by decide) ?_ ?_
    · refine eb_sub [0, 1] rfl ?_
      exact hK _
    · refine eb_iconst (pc := 29) (v := 0) dX10_buying_29 (by decide) ?_
      refine eb_istore_n (pc := 30) (L' := [(3, .int 0), (0, .ref v0), (1, .int v1), (2, .int v2)]) dX10_buying_30 rfl (by decide) rfl ?_
      refine eb_sub [1, 2, 3, 0] rfl ?_
      refine gl_X10_buying_L31 hG (fun s12 => ?_) n _ _
      refine eb_iinc (pc := 71) (v := v2 + (-1)) (L' := [(2, .int (v2 + (-1))), (0, .ref v0), (1, .int v1)]) 2 dX10_buying_71 rfl rfl (by decide) rfl ?_
      refine eb_goto (pc := 74) (tgt := 25) dX10_buying_74 (by decide) ?_
      refine eb_sub [1, 2, 0] rfl ?_
      exact ih _ _
set_option maxRecDepth 100000 in
theorem gl_X10_buying_L119 {G : eb_G} (hG : eb_ok G) {n : Nat} {v0 : Nat} {v1 : Int32} {v2 : Int32} {v3 : Int32} {v4 : Int32} {v5 : Int32} {K : Int32 → Int32 → eb_S → Option (Int32 × eb_S)} (hK : ∀ (v6 : Int32) (v7 : Int32) (s : eb_S), eb_go G yX10_buying cX10_buying 11 (some .int) (4) 0 0 .ireturn (fun r : Int32 => [.int r]) 242 [(0, .ref v0), (1, .int v1), (2, .int v2), (4, .int v4), (5, .int v5), (6, .int v6), (7, .int v7)] [] s 0 0 (K v6 v7 s)) : ∀ (m : Nat) (v6 : Int32) (v7 : Int32) (v8 : Int32) (s : eb_S), eb_go G yX10_buying cX10_buying 11 (some .int) (4) 0 0 .ireturn (fun r : Int32 => [.int r]) 119 [(0, .ref v0), (1, .int v1), (2, .int v2), (3, .int v3), (4, .int v4), (5, .int v5), (6, .int v6), (7, .int v7), (8, .int v8)] [] s 0 0 (f_X10_buying_L119 n v0 v1 v2 v3 v4 v5 K m v6 v7 v8 s) := by
  intro m
  induction m with
  | zero => intro v6 v7 v8 s; exact eb_none
  | succ m ih =>
    intro v6 v7 v8 s
    rw [f_X10_buying_L119.eq_2]
    refine eb_iload (pc := 119) 8 dX10_buying_119 rfl ?_
    refine eb_aload_n (pc := 121) 0 dX10_buying_121 rfl rfl ?_
    refine eb_getI (pc := 122) ef_RX10_98 dX10_buying_122 (fun x18 => ?_)
    refine eb_icmp_ge (pc := 125) (tgt := 242) dX10_buying_125 (by decide) ?_ ?_
    · refine eb_sub [0, 1, 2, 4, 5, 6, 7] rfl ?_
      exact hK _ _ _
    · refine eb_iload_n (pc := 128) 2 dX10_buying_128 rfl rfl ?_
      refine eb_iload (pc := 129) 8 dX10_buying_129 rfl ?_
      refine eb_ishr (pc := 131) dX10_buying_131 ?_
      refine eb_iconst (pc := 132) (v := 1) dX10_buying_132 (by decide) ?_
      refine eb_iand (pc := 133) dX10_buying_133 ?_
      refine eb_iconst (pc := 134) (v := 1) dX10_buying_134 (by decide) ?_
      refine eb_join (fun j21 : Int32 → eb_S → Option (Int32 × eb_S) => ∀ (y19 : Int32) (s20 : eb_S), eb_go G yX10_buying cX10_buying 11 (some .int) (4) 0 0 .ireturn (fun r : Int32 => [.int r]) 182 [(0, .ref v0), (1, .int v1), (2, .int v2), (3, .int v3), (4, .int v4), (5, .int v5), (6, .int v6), (7, .int v7), (8, .int v8)] [.int y19] s20 0 0 (j21 y19 s20)) ?_ (fun j21 hj21 => ?_)
      · intro y19 s20
        refine eb_istore (pc := 182) (L' := [(9, .int y19), (0, .ref v0), (1, .int v1), (2, .int v2), (3, .int v3), (4, .int v4), (5, .int v5), (6, .int v6), (7, .int v7), (8, .int v8)]) dX10_buying_182 (by decide) rfl ?_
        refine eb_iload (pc := 184) 0 dX10_buying_184 rfl ?_
        refine eb_join (fun j24 : Int32 → eb_S → Option (Int32 × eb_S) => ∀ (y22 : Int32) (s23 : eb_S), eb_go G yX10_buying cX10_buying 11 (some .int) (4) 0 0 .ireturn (fun r : Int32 => [.int r]) 206 [(0, .ref v0), (1, .int v1), (2, .int v2), (3, .int v3), (4, .int v4), (5, .int v5), (6, .int v6), (7, .int v7), (8, .int v8), (9, .int y19)] [.int y22] s23 0 0 (j24 y22 s23)) ?_ (fun j24 hj24 => ?_)
        · intro y22 s23
          refine eb_istore (pc := 206) (L' := [(10, .int y22), (0, .ref v0), (1, .int v1), (2, .int v2), (3, .int v3), (4, .int v4), (5, .int v5), (6, .int v6), (7, .int v7), (8, .int v8), (9, .int y19)]) dX10_buying_206 (by decide) rfl ?_
          refine eb_iload (pc := 208) 0 dX10_buying_208 rfl ?_
          refine eb_join (fun j27 : Int32 → eb_S → Option (Int32 × eb_S) => ∀ (y25 : Int32) (s26 : eb_S), eb_go G yX10_buying cX10_buying 11 (some .int) (4) 0 0 .ireturn (fun r : Int32 => [.int r]) 220 [(0, .ref v0), (1, .int v1), (2, .int v2), (3, .int v3), (4, .int v4), (5, .int v5), (7, .int v7), (8, .int v8), (9, .int y19), (10, .int y22)] [.int y25] s26 0 0 (j27 y25 s26)) ?_ (fun j27 hj27 => ?_)
          · intro y25 s26
            refine eb_istore (pc := 220) (L' := [(6, .int y25), (0, .ref v0), (1, .int v1), (2, .int v2), (3, .int v3), (4, .int v4), (5, .int v5), (7, .int v7), (8, .int v8), (9, .int y19), (10, .int y22)]) dX10_buying_220 (by decide) rfl ?_
            refine eb_iload (pc := 222) 10 dX10_buying_222 rfl ?_
            refine eb_join (fun j30 : Int32 → eb_S → Option (Int32 × eb_S) => ∀ (y28 : Int32) (s29 : eb_S), eb_go G yX10_buying cX10_buying 11 (some .int) (4) 0 0 .ireturn (fun r : Int32 => [.int r]) 234 [(0, .ref v0), (1, .int v1), (2, .int v2), (3, .int v3), (4, .int v4), (5, .int v5), (6, .int y25), (8, .int v8)] [.int y28] s29 0 0 (j30 y28 s29)) ?_ (fun j30 hj30 => ?_)
            · intro y28 s29
              refine eb_istore (pc := 234) (L' := [(7, .int y28), (0, .ref v0), (1, .int v1), (2, .int v2), (3, .int v3), (4, .int v4), (5, .int v5), (6, .int y25), (8, .int v8)]) dX10_buying_234 (by decide) rfl ?_
              refine eb_iinc (pc := 236) (v := v8 + 1) (L' := [(8, .int (v8 + 1)), (7, .int y28), (0, .ref v0), (1, .int v1), (2, .int v2), (3, .int v3), (4, .int v4), (5, .int v5), (6, .int y25)]) 8 dX10_buying_236 rfl rfl (by decide) rfl ?_
              refine eb_goto (pc := 239) (tgt := 119) dX10_buying_239 (by decide) ?_
              refine eb_sub [2, 3, 4, 5, 6, 7, 8, 1, 0] rfl ?_
              exact ih _ _ _ _
            refine eb_if_eq (pc := 224) (tgt := 232) dX10_buying_224 (by decide) ?_ ?_
            · refine eb_iload (pc := 232) 7 dX10_buying_232 rfl ?_
              refine eb_sub [1, 2, 3, 4, 5, 6, 0, 8] rfl ?_
              exact hj30 _ _
            · refine eb_iload (pc := 227) 9 dX10_buying_227 rfl ?_
              refine eb_goto (pc := 229) (tgt := 234) dX10_buying_229 (by decide) ?_
              refine eb_sub [1, 2, 3, 4, 5, 6, 0, 8] rfl ?_
              exact hj30 _ _
          refine eb_if_eq (pc := 210) (tgt := 218) dX10_buying_210 (by decide) ?_ ?_
          · refine eb_iload (pc := 218) 7 dX10_buying_218 rfl ?_
            refine eb_sub [1, 2, 3, 4, 5, 6, 8, 9, 10, 0] rfl ?_
            exact hj27 _ _
          · refine eb_iload (pc := 213) 9 dX10_buying_213 rfl ?_
            refine eb_goto (pc := 215) (tgt := 220) dX10_buying_215 (by decide) ?_
            refine eb_sub [1, 2, 3, 4, 5, 6, 8, 9, 10, 0] rfl ?_
            exact hj27 _ _
        refine eb_join (fun j32 : eb_S → Option (Int32 × eb_S) => ∀  (s31 : eb_S), eb_go G yX10_buying cX10_buying 11 (some .int) (4) 0 0 .ireturn (fun r : Int32 => [.int r]) 205 [(0, .ref v0), (1, .int v1), (2, .int v2), (3, .int v3), (4, .int v4), (5, .int v5), (6, .int v6), (7, .int v7), (8, .int v8), (9, .int y19)] [] s31 0 0 (j32  s31)) ?_ (fun j32 hj32 => ?_)
        · intro  s31
          refine eb_iconst (pc := 205) (v := 0) dX10_buying_205 (by decide) ?_
          exact hj24 _ _
        refine eb_if_lt (pc := 186) (tgt := 205) dX10_buying_186 (by decide) ?_ ?_
        · refine eb_sub [1, 2, 3, 4, 5, 6, 7, 8, 9, 0] rfl ?_
          exact hj32 _
        · refine eb_iload (pc := 189) 7 dX10_buying_189 rfl ?_
          refine eb_join (fun j34 : eb_S → Option (Int32 × eb_S) => ∀  (s33 : eb_S), eb_go G yX10_buying cX10_buying 11 (some .int) (4) 0 0 .ireturn (fun r : Int32 => [.int r]) 201 [(0, .ref v0), (1, .int v1), (2, .int v2), (3, .int v3), (4, .int v4), (5, .int v5), (6, .int v6), (7, .int v7), (8, .int v8), (9, .int y19)] [] s33 0 0 (j34  s33)) ?_ (fun j34 hj34 => ?_)
          · intro  s33
            refine eb_iconst (pc := 201) (v := 1) dX10_buying_201 (by decide) ?_
            refine eb_goto (pc := 202) (tgt := 206) dX10_buying_202 (by decide) ?_
            exact hj24 _ _
          refine eb_if_lt (pc := 191) (tgt := 201) dX10_buying_191 (by decide) ?_ ?_
          · refine eb_sub [1, 2, 3, 4, 5, 6, 7, 8, 9, 0] rfl ?_
            exact hj34 _
          · refine eb_iload (pc := 194) 0 dX10_buying_194 rfl ?_
            refine eb_iload (pc := 196) 8 dX10_buying_196 rfl ?_
            refine eb_icmp_ge (pc := 198) (tgt := 205) dX10_buying_198 (by decide) ?_ ?_
            · refine eb_sub [1, 2, 3, 4, 5, 6, 7, 8, 9, 0] rfl ?_
              exact hj32 _
            · refine eb_sub [1, 2, 3, 4, 5, 6, 7, 8, 9, 0] rfl ?_
              exact hj34 _
      refine eb_icmp_ne (pc := 135) (tgt := 142) dX10_buying_135 (by decide) ?_ ?_
      · refine eb_iload (pc := 142) 5 dX10_buying_142 rfl ?_
        refine eb_join (fun j37 : Int32 → eb_S → Option (Int32 × eb_S) => ∀ (y35 : Int32) (s36 : eb_S), eb_go G yX10_buying cX10_buying 11 (some .int) (4) 0 0 .ireturn (fun r : Int32 => [.int r]) 164 [(0, .ref v0), (1, .int v1), (2, .int v2), (3, .int v3), (4, .int v4), (5, .int v5), (6, .int v6), (7, .int v7), (8, .int v8)] [.int y35] s36 0 0 (j37 y35 s36)) ?_ (fun j37 hj37 => ?_)
        · intro y35 s36
          refine eb_aload_n (pc := 164) 0 dX10_buying_164 rfl rfl ?_
          refine eb_getR (pc := 165) ef_RX10_70 dX10_buying_165 (fun r38 => ?_)
          refine eb_bipush (pc := 168) (v := 10) dX10_buying_168 (by decide) ?_
          refine eb_iload_n (pc := 170) 2 dX10_buying_170 rfl rfl ?_
          refine eb_iconst (pc := 171) (v := 1) dX10_buying_171 (by decide) ?_
          refine eb_iload (pc := 172) 8 dX10_buying_172 rfl ?_
          refine eb_ishl (pc := 174) dX10_buying_174 ?_
          refine eb_ior (pc := 175) dX10_buying_175 ?_
          refine eb_imul (pc := 176) dX10_buying_176 ?_
          refine eb_iload (pc := 177) 8 dX10_buying_177 rfl ?_
          refine eb_iadd (pc := 179) dX10_buying_179 ?_
          refine eb_iaload (pc := 180) dX10_buying_180 (fun x39 => ?_)
          refine eb_iadd (pc := 181) dX10_buying_181 ?_
          exact hj21 _ _
        refine eb_if_ne (pc := 144) (tgt := 151) dX10_buying_144 (by decide) ?_ ?_
        · refine eb_aload_n (pc := 151) 0 dX10_buying_151 rfl rfl ?_
          refine eb_iload_n (pc := 152) 3 dX10_buying_152 rfl rfl ?_
          refine eb_iload (pc := 153) 8 dX10_buying_153 rfl ?_
          refine eb_calli (pc := 155) (eb_runV (pc := 155) (As := [.int v3, .int v8]) (rest := []) (ci := 9) (q0 := (RX10, TX10, 43)) (q := (RX10, TX10, 43)) ew_805 ew_806 ew_807 ew_666 rfl rfl ed_X10_apart (ct_X10_apart hG _ _ _ _) rfl ew_808 ⟨by decide, by decide⟩ (by decide) (by decide) (Nat.le_of_ble_eq_true rfl) rfl dX10_buying_155) (fun x41 s40 => ?_)
          refine eb_aload_n (pc := 158) 0 dX10_buying_158 rfl rfl ?_
          refine eb_iload_n (pc := 159) 2 dX10_buying_159 rfl rfl ?_
          refine eb_calli (pc := 160) (eb_runV (pc := 160) (As := [.int v2]) (rest := [.int x41]) (ci := 9) (q0 := (RX10, TX10, 43)) (q := (RX10, TX10, 43)) ew_809 ew_810 ew_811 ew_666 rfl rfl ed_X10_bought (ct_X10_bought hG n _ _ _) rfl ew_812 ⟨by decide, by decide⟩ (by decide) (by decide) (Nat.le_of_ble_eq_true rfl) rfl dX10_buying_160) (fun x43 s42 => ?_)
          refine eb_imul (pc := 163) dX10_buying_163 ?_
          exact hj37 _ _
        · refine eb_iconst (pc := 147) (v := 0) dX10_buying_147 (by decide) ?_
          refine eb_goto (pc := 148) (tgt := 164) dX10_buying_148 (by decide) ?_
          exact hj37 _ _
      · refine eb_iconst (pc := 138) (v := (-1)) dX10_buying_138 (by decide) ?_
        refine eb_goto (pc := 139) (tgt := 182) dX10_buying_139 (by decide) ?_
        exact hj21 _ _
set_option maxRecDepth 100000 in
theorem gl_X10_buying_L87 {G : eb_G} (hG : eb_ok G) {n : Nat} {v0 : Nat} {v1 : Int32} {K : Int32 → Int32 → eb_S → Option (Int32 × eb_S)} (hK : ∀ (v3 : Int32) (v4 : Int32) (s : eb_S), eb_go G yX10_buying cX10_buying 11 (some .int) (4) 0 0 .ireturn (fun r : Int32 => [.int r]) 272 [(1, .int v1), (3, .int v3), (4, .int v4)] [] s 0 0 (K v3 v4 s)) : ∀ (m : Nat) (v2 : Int32) (v3 : Int32) (v4 : Int32) (v5 : Int32) (s : eb_S), eb_go G yX10_buying cX10_buying 11 (some .int) (4) 0 0 .ireturn (fun r : Int32 => [.int r]) 87 [(0, .ref v0), (1, .int v1), (2, .int v2), (3, .int v3), (4, .int v4), (5, .int v5)] [] s 0 0 (f_X10_buying_L87 n v0 v1 K m v2 v3 v4 v5 s) := by
  intro m
  induction m with
  | zero => intro v2 v3 v4 v5 s; exact eb_none
  | succ m ih =>
    intro v2 v3 v4 v5 s
    rw [f_X10_buying_L87.eq_2]
    refine eb_iload (pc := 87) 5 dX10_buying_87 rfl ?_
    refine eb_aload_n (pc := 89) 0 dX10_buying_89 rfl rfl ?_
    refine eb_getI (pc := 90) ef_RX10_98 dX10_buying_90 (fun x14 => ?_)
    refine eb_icmp_ge (pc := 93) (tgt := 272) dX10_buying_93 (by decide) ?_ ?_
    · refine eb_sub [1, 3, 4] rfl ?_
      exact hK _ _ _
    · refine eb_iload (pc := 96) 5 dX10_buying_96 rfl ?_
      refine eb_iload_n (pc := 98) 1 dX10_buying_98 rfl rfl ?_
      refine eb_join (fun j17 : Int32 → eb_S → Option (Int32 × eb_S) => ∀ (y15 : Int32) (s16 : eb_S), eb_go G yX10_buying cX10_buying 11 (some .int) (4) 0 0 .ireturn (fun r : Int32 => [.int r]) 107 [(0, .ref v0), (1, .int v1), (2, .int v2), (3, .int v3), (4, .int v4), (5, .int v5)] [.int y15, .int v5] s16 0 0 (j17 y15 s16)) ?_ (fun j17 hj17 => ?_)
      · intro y15 s16
        refine eb_icmp_gt (pc := 107) (tgt := 272) dX10_buying_107 (by decide) ?_ ?_
        · refine eb_sub [1, 3, 4] rfl ?_
          exact hK _ _ _
        · refine eb_iconst (pc := 110) (v := (-1)) dX10_buying_110 (by decide) ?_
          refine eb_istore (pc := 111) (L' := [(6, .int ((-1))), (0, .ref v0), (1, .int v1), (2, .int v2), (3, .int v3), (4, .int v4), (5, .int v5)]) dX10_buying_111 (by decide) rfl ?_
          refine eb_iconst (pc := 113) (v := 0) dX10_buying_113 (by decide) ?_
          refine eb_istore (pc := 114) (L' := [(7, .int 0), (6, .int ((-1))), (0, .ref v0), (1, .int v1), (2, .int v2), (3, .int v3), (4, .int v4), (5, .int v5)]) dX10_buying_114 (by decide) rfl ?_
          refine eb_iconst (pc := 116) (v := 0) dX10_buying_116 (by decide) ?_
          refine eb_istore (pc := 117) (L' := [(8, .int 0), (7, .int 0), (6, .int ((-1))), (0, .ref v0), (1, .int v1), (2, .int v2), (3, .int v3), (4, .int v4), (5, .int v5)]) dX10_buying_117 (by decide) rfl ?_
          refine eb_sub [3, 4, 5, 6, 7, 8, 2, 1, 0] rfl ?_
          refine gl_X10_buying_L119 hG (fun w44 w45 s46 => ?_) n _ _ _ _
          refine eb_iload (pc := 242) 4 dX10_buying_242 rfl ?_
          refine eb_join (fun j49 : Int32 → eb_S → Option (Int32 × eb_S) => ∀ (y47 : Int32) (s48 : eb_S), eb_go G yX10_buying cX10_buying 11 (some .int) (4) 0 0 .ireturn (fun r : Int32 => [.int r]) 254 [(0, .ref v0), (1, .int v1), (2, .int v2), (5, .int v5), (6, .int w44)] [.int y47] s48 0 0 (j49 y47 s48)) ?_ (fun j49 hj49 => ?_)
          · intro y47 s48
            refine eb_istore (pc := 254) (L' := [(4, .int y47), (0, .ref v0), (1, .int v1), (2, .int v2), (5, .int v5), (6, .int w44)]) dX10_buying_254 (by decide) rfl ?_
            refine eb_iload_n (pc := 256) 3 dX10_buying_256 rfl rfl ?_
            refine eb_iconst (pc := 257) (v := 1) dX10_buying_257 (by decide) ?_
            refine eb_iload (pc := 258) 5 dX10_buying_258 rfl ?_
            refine eb_ishl (pc := 260) dX10_buying_260 ?_
            refine eb_ior (pc := 261) dX10_buying_261 ?_
            refine eb_istore_n (pc := 262) (L' := [(2, .int (v2 ||| ((1 : Int32) <<< (w44 &&& 31)))), (4, .int y47), (0, .ref v0), (1, .int v1), (5, .int v5), (6, .int w44)]) dX10_buying_262 rfl (by decide) rfl ?_
            refine eb_iload (pc := 263) 5 dX10_buying_263 rfl ?_
            refine eb_istore_n (pc := 265) (L' := [(3, .int w44), (2, .int (v2 ||| ((1 : Int32) <<< (w44 &&& 31)))), (4, .int y47), (0, .ref v0), (1, .int v1), (5, .int v5), (6, .int w44)]) dX10_buying_265 rfl (by decide) rfl ?_
            refine eb_iinc (pc := 266) (v := v5 + 1) (L' := [(5, .int (v5 + 1)), (3, .int w44), (2, .int (v2 ||| ((1 : Int32) <<< (w44 &&& 31)))), (4, .int y47), (0, .ref v0), (1, .int v1), (6, .int w44)]) 5 dX10_buying_266 rfl rfl (by decide) rfl ?_
            refine eb_goto (pc := 269) (tgt := 87) dX10_buying_269 (by decide) ?_
            refine eb_sub [4, 5, 2, 1, 3, 0] rfl ?_
            exact ih _ _ _ _ _
          refine eb_if_ne (pc := 244) (tgt := 252) dX10_buying_244 (by decide) ?_ ?_
          · refine eb_iload (pc := 252) 3 dX10_buying_252 rfl ?_
            refine eb_sub [0, 1, 2, 4, 5] rfl ?_
            exact hj49 _ _
          · refine eb_iload (pc := 247) 6 dX10_buying_247 rfl ?_
            refine eb_goto (pc := 249) (tgt := 254) dX10_buying_249 (by decide) ?_
            refine eb_sub [0, 1, 2, 4, 5] rfl ?_
            exact hj49 _ _
      refine eb_if_ge (pc := 99) (tgt := 106) dX10_buying_99 (by decide) ?_ ?_
      · refine eb_iload_n (pc := 106) 1 dX10_buying_106 rfl rfl ?_
        exact hj17 _ _
      · refine eb_iconst (pc := 102) (v := 0) dX10_buying_102 (by decide) ?_
        refine eb_goto (pc := 103) (tgt := 107) dX10_buying_103 (by decide) ?_
        exact hj17 _ _
set_option maxRecDepth 100000 in
theorem ct_X10_buying {G : eb_G} (hG : eb_ok G) (n : Nat) (v0 : Nat) (v1 : Int32) (s : eb_S) : eb_ct G yX10_buying cX10_buying 11 (some .int) 4 0 0 eb_ei [.ref v0, .int v1] s (f_X10_buying n v0 v1 s) := by
  refine eb_ct_i (by decide) (Nat.le_of_ble_eq_true rfl) (fun v hv => by simp at hv; rcases hv with rfl | rfl <;> simp [Value.category]) ?_
  show eb_go G yX10_buying cX10_buying 11 (some .int) (4) 0 0 .ireturn (fun r : Int32 => [.int r]) 0 [(0, .ref v0), (1, .int v1)] [] s 0 0 _
  unfold f_X10_buying
  refine eb_iload_n (pc := 0) 1 dX10_buying_0 rfl rfl ?_
  refine eb_iconst (pc := 1) (v := (-1)) dX10_buying_1 (by decide) ?_
  refine eb_join (fun j2 : eb_S → Option (Int32 × eb_S) => ∀  (s1 : eb_S), eb_go G yX10_buying cX10_buying 11 (some .int) (4) 0 0 .ireturn (fun r : Int32 => [.int r]) 16 [(0, .ref v0), (1, .int v1)] [] s1 0 0 (j2  s1)) ?_ (fun j2 hj2 => ?_)
  · intro  s1
    refine eb_iconst (pc := 16) (v := 1) dX10_buying_16 (by decide) ?_
    refine eb_aload_n (pc := 17) 0 dX10_buying_17 rfl rfl ?_
    refine eb_getI (pc := 18) ef_RX10_98 dX10_buying_18 (fun x3 => ?_)
    refine eb_ishl (pc := 21) dX10_buying_21 ?_
    refine eb_iconst (pc := 22) (v := 1) dX10_buying_22 (by decide) ?_
    refine eb_isub (pc := 23) dX10_buying_23 ?_
    refine eb_istore_n (pc := 24) (L' := [(2, .int (((1 : Int32) <<< (x3 &&& 31)) - 1)), (0, .ref v0), (1, .int v1)]) dX10_buying_24 rfl (by decide) rfl ?_
    refine eb_sub [1, 2, 0] rfl ?_
    refine gl_X10_buying_L25 hG (fun s13 => ?_) n _ _
    refine eb_iconst (pc := 77) (v := 0) dX10_buying_77 (by decide) ?_
    refine eb_istore_n (pc := 78) (L' := [(2, .int 0), (0, .ref v0), (1, .int v1)]) dX10_buying_78 rfl (by decide) rfl ?_
    refine eb_iconst (pc := 79) (v := (-1)) dX10_buying_79 (by decide) ?_
    refine eb_istore_n (pc := 80) (L' := [(3, .int ((-1))), (2, .int 0), (0, .ref v0), (1, .int v1)]) dX10_buying_80 rfl (by decide) rfl ?_
    refine eb_iconst (pc := 81) (v := 0) dX10_buying_81 (by decide) ?_
    refine eb_istore (pc := 82) (L' := [(4, .int 0), (3, .int ((-1))), (2, .int 0), (0, .ref v0), (1, .int v1)]) dX10_buying_82 (by decide) rfl ?_
    refine eb_iconst (pc := 84) (v := 0) dX10_buying_84 (by decide) ?_
    refine eb_istore (pc := 85) (L' := [(5, .int 0), (4, .int 0), (3, .int ((-1))), (2, .int 0), (0, .ref v0), (1, .int v1)]) dX10_buying_85 (by decide) rfl ?_
    refine eb_sub [4, 5, 3, 2, 1, 0] rfl ?_
    refine gl_X10_buying_L87 hG (fun w50 w51 s52 => ?_) n _ _ _ _ _
    refine eb_iload_n (pc := 272) 0 dX10_buying_272 rfl rfl ?_
    refine eb_if_ge (pc := 273) (tgt := 281) dX10_buying_273 (by decide) ?_ ?_
    · refine eb_iload_n (pc := 281) 1 dX10_buying_281 rfl rfl ?_
      exact eb_iret (pc := 282) dX10_buying_282 (by decide) (by decide)
    · refine eb_iload (pc := 276) 2 dX10_buying_276 rfl ?_
      refine eb_goto (pc := 278) (tgt := 282) dX10_buying_278 (by decide) ?_
      exact eb_iret (pc := 282) dX10_buying_282 (by decide) (by decide)
  refine eb_icmp_eq (pc := 2) (tgt := 16) dX10_buying_2 (by decide) ?_ ?_
  · exact hj2 _
  · refine eb_aload_n (pc := 5) 0 dX10_buying_5 rfl rfl ?_
    refine eb_iload_n (pc := 6) 1 dX10_buying_6 rfl rfl ?_
    refine eb_i2l (pc := 7) dX10_buying_7 ?_
    refine eb_callb (pc := 8) (eb_runV (pc := 8) (As := [.long ((v1).toInt64)]) (rest := []) (ci := 9) (q0 := (RX10, TX10, 43)) (q := (RX10, TX10, 43)) ew_677 ew_678 ew_679 ew_666 rfl rfl ed_X10_isThing (ct_X10_isThing hG _ _ _) rfl ew_680 ⟨by decide, by decide⟩ (by decide) (by decide) (Nat.le_of_ble_eq_true rfl) rfl dX10_buying_8) (fun b54 s53 => ?_)
    refine eb_if_ne (pc := 11) (tgt := 16) dX10_buying_11 (by decide) ?_ ?_
    · exact hj2 _
    · refine eb_iconst (pc := 14) (v := (-1)) dX10_buying_14 (by decide) ?_
      exact eb_iret (pc := 15) dX10_buying_15 (by decide) (by decide)

def f_X10_isEnd (v0 : Nat) (v1 : Int32) (s : eb_S) : Option (Bool × eb_S) := if 10 ≤ v1 then (eb_gI s [9] v0 16 fun x1 => eb_cl (f_X10_in ((v1 - 10).toInt64) 0 ((x1 - 1).toInt64) s) fun b3 s2 => some (b3, s2)) else (eb_cl (eb_tg s v0 9 (f_X10_isThing v0 ((v1).toInt64) s)) fun b5 s4 => some (b5, s4))
set_option maxRecDepth 100000 in
theorem ct_X10_isEnd {G : eb_G} (hG : eb_ok G) (v0 : Nat) (v1 : Int32) (s : eb_S) : eb_ct G yX10_isEnd cX10_isEnd 2 (some .boolean) 3 0 0 eb_eb [.ref v0, .int v1] s (f_X10_isEnd v0 v1 s) := by
  refine eb_ct_b (by decide) (Nat.le_of_ble_eq_true rfl) (fun v hv => by simp at hv; rcases hv with rfl | rfl <;> simp [Value.category]) ?_
  show eb_go G yX10_isEnd cX10_isEnd 2 (some .boolean) (3) 0 0 .ireturn (fun r : Bool => [.int (eb_b r)]) 0 [(0, .ref v0), (1, .int v1)] [] s 0 0 _
  unfold f_X10_isEnd
  refine eb_iload_n (pc := 0) 1 dX10_isEnd_0 rfl rfl ?_
  refine eb_bipush (pc := 1) (v := 10) dX10_isEnd_1 (by decide) ?_
  refine eb_icmp_ge (pc := 3) (tgt := 15) dX10_isEnd_3 (by decide) ?_ ?_
  · refine eb_iload_n (pc := 15) 1 dX10_isEnd_15 rfl rfl ?_
    refine eb_bipush (pc := 16) (v := 10) dX10_isEnd_16 (by decide) ?_
    refine eb_isub (pc := 18) dX10_isEnd_18 ?_
    refine eb_i2l (pc := 19) dX10_isEnd_19 ?_
    refine eb_lconst (pc := 20) (v := 0) dX10_isEnd_20 (by decide) ?_
    refine eb_aload_n (pc := 21) 0 dX10_isEnd_21 rfl rfl ?_
    refine eb_getI (pc := 22) ef_RX10_119 dX10_isEnd_22 (fun x1 => ?_)
    refine eb_iconst (pc := 25) (v := 1) dX10_isEnd_25 (by decide) ?_
    refine eb_isub (pc := 26) dX10_isEnd_26 ?_
    refine eb_i2l (pc := 27) dX10_isEnd_27 ?_
    refine eb_callb (pc := 28) (eb_runS (pc := 28) (As := [.long ((v1 - 10).toInt64), .long 0, .long ((x1 - 1).toInt64)]) (rest := []) ew_664 ew_665 ew_666 rfl ed_X10_in (ct_X10_in hG _ _ _ _) ew_667 ⟨by decide, by decide⟩ (by decide) (by decide) (Nat.le_of_ble_eq_true rfl) rfl dX10_isEnd_28) (fun b3 s2 => ?_)
    exact eb_bret (pc := 31) dX10_isEnd_31 (by decide) (by decide)
  · refine eb_aload_n (pc := 6) 0 dX10_isEnd_6 rfl rfl ?_
    refine eb_iload_n (pc := 7) 1 dX10_isEnd_7 rfl rfl ?_
    refine eb_i2l (pc := 8) dX10_isEnd_8 ?_
    refine eb_callb (pc := 9) (eb_runV (pc := 9) (As := [.long ((v1).toInt64)]) (rest := []) (ci := 9) (q0 := (RX10, TX10, 43)) (q := (RX10, TX10, 43)) ew_677 ew_678 ew_679 ew_666 rfl rfl ed_X10_isThing (ct_X10_isThing hG _ _ _) rfl ew_680 ⟨by decide, by decide⟩ (by decide) (by decide) (Nat.le_of_ble_eq_true rfl) rfl dX10_isEnd_9) (fun b5 s4 => ?_)
    refine eb_goto (pc := 12) (tgt := 31) dX10_isEnd_12 (by decide) ?_
    exact eb_bret (pc := 31) dX10_isEnd_31 (by decide) (by decide)

def f_X10_bar (n : Nat) (v0 : Nat) (v1 : Int32) (v2 : Int32) (s : eb_S) : Option (Int32 × eb_S) := eb_cl (eb_tg s v0 9 (f_X10_isEnd v0 v1 s)) fun b2 s1 => if (eb_b b2) = 0 then (some ((-1), s1)) else (eb_cl (eb_tg s1 v0 9 (f_X10_isEnd v0 v2 s1)) fun b4 s3 => if (eb_b b4) = 0 then (some ((-1), s3)) else (if v1 = v2 then (some ((-1), s3)) else (eb_cl (eb_tg s3 v0 9 (f_X10_hangs n v0 v1 s3)) fun b6 s5 => if (eb_b b6) = 0 then (eb_cl (eb_tg s5 v0 9 (f_X10_hangs n v0 v2 s5)) fun b8 s7 => if (eb_b b8) = 0 then (eb_gI s7 [9] v0 16 fun x9 => if x9 = 6 then (some ((-3), s7)) else (eb_gR s7 [9] v0 17 fun r10 => eb_gI s7 [9] v0 16 fun x11 => eb_wi s7 r10 x11 v1 fun s12 => eb_gR s12 [9] v0 18 fun r13 => eb_gI s12 [9] v0 16 fun x14 => eb_wi s12 r13 x14 v2 fun s15 => eb_gI s15 [9] v0 16 fun x16 => eb_pI s15 [9] v0 16 (x16 + 1) fun s17 => eb_gI s17 [9] v0 16 fun x18 => some (x18 - 1, s17))) else (some ((-2), s7))) else (some ((-2), s5)))))
set_option maxRecDepth 100000 in
theorem ct_X10_bar {G : eb_G} (hG : eb_ok G) (n : Nat) (v0 : Nat) (v1 : Int32) (v2 : Int32) (s : eb_S) : eb_ct G yX10_bar cX10_bar 3 (some .int) 4 0 0 eb_ei [.ref v0, .int v1, .int v2] s (f_X10_bar n v0 v1 v2 s) := by
  refine eb_ct_i (by decide) (Nat.le_of_ble_eq_true rfl) (fun v hv => by simp at hv; rcases hv with rfl | rfl | rfl <;> simp [Value.category]) ?_
  show eb_go G yX10_bar cX10_bar 3 (some .int) (4) 0 0 .ireturn (fun r : Int32 => [.int r]) 0 [(0, .ref v0), (1, .int v1), (2, .int v2)] [] s 0 0 _
  unfold f_X10_bar
  refine eb_aload_n (pc := 0) 0 dX10_bar_0 rfl rfl ?_
  refine eb_iload_n (pc := 1) 1 dX10_bar_1 rfl rfl ?_
  refine eb_callb (pc := 2) (eb_runV (pc := 2) (As := [.int v1]) (rest := []) (ci := 9) (q0 := (RX10, TX10, 43)) (q := (RX10, TX10, 43)) ew_817 ew_818 ew_819 ew_666 rfl rfl ed_X10_isEnd (ct_X10_isEnd hG _ _ _) rfl ew_820 ⟨by decide, by decide⟩ (by decide) (by decide) (Nat.le_of_ble_eq_true rfl) rfl dX10_bar_2) (fun b2 s1 => ?_)
  refine eb_if_eq (pc := 5) (tgt := 21) dX10_bar_5 (by decide) ?_ ?_
  · refine eb_iconst (pc := 21) (v := (-1)) dX10_bar_21 (by decide) ?_
    exact eb_iret (pc := 22) dX10_bar_22 (by decide) (by decide)
  · refine eb_aload_n (pc := 8) 0 dX10_bar_8 rfl rfl ?_
    refine eb_iload_n (pc := 9) 2 dX10_bar_9 rfl rfl ?_
    refine eb_callb (pc := 10) (eb_runV (pc := 10) (As := [.int v2]) (rest := []) (ci := 9) (q0 := (RX10, TX10, 43)) (q := (RX10, TX10, 43)) ew_817 ew_818 ew_819 ew_666 rfl rfl ed_X10_isEnd (ct_X10_isEnd hG _ _ _) rfl ew_820 ⟨by decide, by decide⟩ (by decide) (by decide) (Nat.le_of_ble_eq_true rfl) rfl dX10_bar_10) (fun b4 s3 => ?_)
    refine eb_if_eq (pc := 13) (tgt := 21) dX10_bar_13 (by decide) ?_ ?_
    · refine eb_iconst (pc := 21) (v := (-1)) dX10_bar_21 (by decide) ?_
      exact eb_iret (pc := 22) dX10_bar_22 (by decide) (by decide)
    · refine eb_iload_n (pc := 16) 1 dX10_bar_16 rfl rfl ?_
      refine eb_iload_n (pc := 17) 2 dX10_bar_17 rfl rfl ?_
      refine eb_icmp_ne (pc := 18) (tgt := 23) dX10_bar_18 (by decide) ?_ ?_
      · refine eb_aload_n (pc := 23) 0 dX10_bar_23 rfl rfl ?_
        refine eb_iload_n (pc := 24) 1 dX10_bar_24 rfl rfl ?_
        refine eb_callb (pc := 25) (eb_runV (pc := 25) (As := [.int v1]) (rest := []) (ci := 9) (q0 := (RX10, TX10, 43)) (q := (RX10, TX10, 43)) ew_681 ew_682 ew_683 ew_666 rfl rfl ed_X10_hangs (ct_X10_hangs hG n _ _ _) rfl ew_684 ⟨by decide, by decide⟩ (by decide) (by decide) (Nat.le_of_ble_eq_true rfl) rfl dX10_bar_25) (fun b6 s5 => ?_)
        refine eb_if_ne (pc := 28) (tgt := 39) dX10_bar_28 (by decide) ?_ ?_
        · refine eb_bipush (pc := 39) (v := (-2)) dX10_bar_39 (by decide) ?_
          exact eb_iret (pc := 41) dX10_bar_41 (by decide) (by decide)
        · refine eb_aload_n (pc := 31) 0 dX10_bar_31 rfl rfl ?_
          refine eb_iload_n (pc := 32) 2 dX10_bar_32 rfl rfl ?_
          refine eb_callb (pc := 33) (eb_runV (pc := 33) (As := [.int v2]) (rest := []) (ci := 9) (q0 := (RX10, TX10, 43)) (q := (RX10, TX10, 43)) ew_681 ew_682 ew_683 ew_666 rfl rfl ed_X10_hangs (ct_X10_hangs hG n _ _ _) rfl ew_684 ⟨by decide, by decide⟩ (by decide) (by decide) (Nat.le_of_ble_eq_true rfl) rfl dX10_bar_33) (fun b8 s7 => ?_)
          refine eb_if_eq (pc := 36) (tgt := 42) dX10_bar_36 (by decide) ?_ ?_
          · refine eb_aload_n (pc := 42) 0 dX10_bar_42 rfl rfl ?_
            refine eb_getI (pc := 43) ef_RX10_119 dX10_bar_43 (fun x9 => ?_)
            refine eb_bipush (pc := 46) (v := 6) dX10_bar_46 (by decide) ?_
            refine eb_icmp_ne (pc := 48) (tgt := 54) dX10_bar_48 (by decide) ?_ ?_
            · refine eb_aload_n (pc := 54) 0 dX10_bar_54 rfl rfl ?_
              refine eb_getR (pc := 55) ef_RX10_49 dX10_bar_55 (fun r10 => ?_)
              refine eb_aload_n (pc := 58) 0 dX10_bar_58 rfl rfl ?_
              refine eb_getI (pc := 59) ef_RX10_119 dX10_bar_59 (fun x11 => ?_)
              refine eb_iload_n (pc := 62) 1 dX10_bar_62 rfl rfl ?_
              refine eb_iastore (pc := 63) dX10_bar_63 (fun s12 => ?_)
              refine eb_aload_n (pc := 64) 0 dX10_bar_64 rfl rfl ?_
              refine eb_getR (pc := 65) ef_RX10_52 dX10_bar_65 (fun r13 => ?_)
              refine eb_aload_n (pc := 68) 0 dX10_bar_68 rfl rfl ?_
              refine eb_getI (pc := 69) ef_RX10_119 dX10_bar_69 (fun x14 => ?_)
              refine eb_iload_n (pc := 72) 2 dX10_bar_72 rfl rfl ?_
              refine eb_iastore (pc := 73) dX10_bar_73 (fun s15 => ?_)
              refine eb_aload_n (pc := 74) 0 dX10_bar_74 rfl rfl ?_
              refine eb_dup (pc := 75) dX10_bar_75 rfl ?_
              refine eb_getI (pc := 76) ef_RX10_119 dX10_bar_76 (fun x16 => ?_)
              refine eb_iconst (pc := 79) (v := 1) dX10_bar_79 (by decide) ?_
              refine eb_iadd (pc := 80) dX10_bar_80 ?_
              refine eb_putI (pc := 81) ef_RX10_119 eg_RX10_119 dX10_bar_81 (fun s17 => ?_)
              refine eb_aload_n (pc := 84) 0 dX10_bar_84 rfl rfl ?_
              refine eb_getI (pc := 85) ef_RX10_119 dX10_bar_85 (fun x18 => ?_)
              refine eb_iconst (pc := 88) (v := 1) dX10_bar_88 (by decide) ?_
              refine eb_isub (pc := 89) dX10_bar_89 ?_
              exact eb_iret (pc := 90) dX10_bar_90 (by decide) (by decide)
            · refine eb_bipush (pc := 51) (v := (-3)) dX10_bar_51 (by decide) ?_
              exact eb_iret (pc := 53) dX10_bar_53 (by decide) (by decide)
          · refine eb_bipush (pc := 39) (v := (-2)) dX10_bar_39 (by decide) ?_
            exact eb_iret (pc := 41) dX10_bar_41 (by decide) (by decide)
      · refine eb_iconst (pc := 21) (v := (-1)) dX10_bar_21 (by decide) ?_
        exact eb_iret (pc := 22) dX10_bar_22 (by decide) (by decide)

def f_X10_hangsOn (v0 : Nat) (v1 : Int32) (s : eb_S) : Option (Int32 × eb_S) := if 10 ≤ v1 then (eb_gR s [9] v0 34 fun r1 => eb_ai s r1 (v1 - 10) fun x2 => some (x2, s)) else (eb_gR s [9] v0 2 fun r3 => eb_ai s r3 v1 fun x4 => some (x4, s))
set_option maxRecDepth 100000 in
theorem ct_X10_hangsOn {G : eb_G} (hG : eb_ok G) (v0 : Nat) (v1 : Int32) (s : eb_S) : eb_ct G yX10_hangsOn cX10_hangsOn 2 (some .int) 1 0 0 eb_ei [.ref v0, .int v1] s (f_X10_hangsOn v0 v1 s) := by
  refine eb_ct_i (by decide) (Nat.le_of_ble_eq_true rfl) (fun v hv => by simp at hv; rcases hv with rfl | rfl <;> simp [Value.category]) ?_
  show eb_go G yX10_hangsOn cX10_hangsOn 2 (some .int) (1) 0 0 .ireturn (fun r : Int32 => [.int r]) 0 [(0, .ref v0), (1, .int v1)] [] s 0 0 _
  unfold f_X10_hangsOn
  refine eb_iload_n (pc := 0) 1 dX10_hangsOn_0 rfl rfl ?_
  refine eb_bipush (pc := 1) (v := 10) dX10_hangsOn_1 (by decide) ?_
  refine eb_icmp_ge (pc := 3) (tgt := 15) dX10_hangsOn_3 (by decide) ?_ ?_
  · refine eb_aload_n (pc := 15) 0 dX10_hangsOn_15 rfl rfl ?_
    refine eb_getR (pc := 16) ef_RX10_73 dX10_hangsOn_16 (fun r1 => ?_)
    refine eb_iload_n (pc := 19) 1 dX10_hangsOn_19 rfl rfl ?_
    refine eb_bipush (pc := 20) (v := 10) dX10_hangsOn_20 (by decide) ?_
    refine eb_isub (pc := 22) dX10_hangsOn_22 ?_
    refine eb_iaload (pc := 23) dX10_hangsOn_23 (fun x2 => ?_)
    exact eb_iret (pc := 24) dX10_hangsOn_24 (by decide) (by decide)
  · refine eb_aload_n (pc := 6) 0 dX10_hangsOn_6 rfl rfl ?_
    refine eb_getR (pc := 7) ef_RX10_13 dX10_hangsOn_7 (fun r3 => ?_)
    refine eb_iload_n (pc := 10) 1 dX10_hangsOn_10 rfl rfl ?_
    refine eb_iaload (pc := 11) dX10_hangsOn_11 (fun x4 => ?_)
    refine eb_goto (pc := 12) (tgt := 24) dX10_hangsOn_12 (by decide) ?_
    exact eb_iret (pc := 24) dX10_hangsOn_24 (by decide) (by decide)

def f_X10_hung_L32 (n : Nat) (v0 : Nat) (v1 : Int32) (v2 : Int32) (K : eb_S → Option (Int32 × eb_S)) : Nat → Int32 → eb_S → Option (Int32 × eb_S)
  | 0, _, _ => none
  | m + 1, v3, s => if v1 < v3 then (K s) else (eb_gR s [9] v0 34 fun r6 => eb_gR s [9] v0 17 fun r7 => eb_ai s r7 v3 fun x8 => eb_cl (eb_tg s v0 9 (f_X10_hangsOn v0 x8 s)) fun x10 s9 => eb_gR s9 [9] v0 18 fun r11 => eb_ai s9 r11 v3 fun x12 => eb_cl (eb_tg s9 v0 9 (f_X10_hangsOn v0 x12 s9)) fun x14 s13 => eb_wi s13 r6 v3 (x10 + x14) fun s15 => f_X10_hung_L32 n v0 v1 v2 K m (v3 + 1) s15)
def f_X10_hung (n : Nat) (v0 : Nat) (v1 : Int32) (v2 : Int32) (s : eb_S) : Option (Int32 × eb_S) := eb_gI s [9] v0 16 fun x1 => eb_cl (f_X10_in ((v1).toInt64) 0 ((x1 - 1).toInt64) s) fun b3 s2 => if (eb_b b3) = 0 then (some ((-1), s2)) else (eb_cl (f_X10_in ((v2).toInt64) 0 2 s2) fun b5 s4 => if (eb_b b5) = 0 then (some ((-1), s4)) else (f_X10_hung_L32 n v0 v1 v2 (fun  (s16 : eb_S) => if v2 = 2 then (eb_gR s16 [9] v0 34 fun r25 => eb_ai s16 r25 v1 fun x26 => some (x26, s16)) else (eb_gR s16 [9] v0 18 fun r17 => eb_ai s16 r17 v1 fun x18 => eb_cl (eb_tg s16 v0 9 (f_X10_hangsOn v0 x18 s16)) fun x20 s19 => eb_gR s19 [9] v0 34 fun r21 => eb_ai s19 r21 v1 fun x22 => eb_cl (f_X10_part n ((60 : Int32) * x20) x22 v2 s19) fun x24 s23 => some (x24, s23))) n 0 s4))
set_option maxRecDepth 100000 in
theorem gl_X10_hung_L32 {G : eb_G} (hG : eb_ok G) {n : Nat} {v0 : Nat} {v1 : Int32} {v2 : Int32} {K : eb_S → Option (Int32 × eb_S)} (hK : ∀  (s : eb_S), eb_go G yX10_hung cX10_hung 4 (some .int) (3) 0 0 .ireturn (fun r : Int32 => [.int r]) 70 [(0, .ref v0), (1, .int v1), (2, .int v2)] [] s 0 0 (K  s)) : ∀ (m : Nat) (v3 : Int32) (s : eb_S), eb_go G yX10_hung cX10_hung 4 (some .int) (3) 0 0 .ireturn (fun r : Int32 => [.int r]) 32 [(0, .ref v0), (1, .int v1), (2, .int v2), (3, .int v3)] [] s 0 0 (f_X10_hung_L32 n v0 v1 v2 K m v3 s) := by
  intro m
  induction m with
  | zero => intro v3 s; exact eb_none
  | succ m ih =>
    intro v3 s
    rw [f_X10_hung_L32.eq_2]
    refine eb_iload_n (pc := 32) 3 dX10_hung_32 rfl rfl ?_
    refine eb_iload_n (pc := 33) 1 dX10_hung_33 rfl rfl ?_
    refine eb_icmp_gt (pc := 34) (tgt := 70) dX10_hung_34 (by decide) ?_ ?_
    · refine eb_sub [0, 1, 2] rfl ?_
      exact hK _
    · refine eb_aload_n (pc := 37) 0 dX10_hung_37 rfl rfl ?_
      refine eb_getR (pc := 38) ef_RX10_73 dX10_hung_38 (fun r6 => ?_)
      refine eb_iload_n (pc := 41) 3 dX10_hung_41 rfl rfl ?_
      refine eb_aload_n (pc := 42) 0 dX10_hung_42 rfl rfl ?_
      refine eb_aload_n (pc := 43) 0 dX10_hung_43 rfl rfl ?_
      refine eb_getR (pc := 44) ef_RX10_49 dX10_hung_44 (fun r7 => ?_)
      refine eb_iload_n (pc := 47) 3 dX10_hung_47 rfl rfl ?_
      refine eb_iaload (pc := 48) dX10_hung_48 (fun x8 => ?_)
      refine eb_calli (pc := 49) (eb_runV (pc := 49) (As := [.int x8]) (rest := [.int v3, .ref r6]) (ci := 9) (q0 := (RX10, TX10, 43)) (q := (RX10, TX10, 43)) ew_821 ew_822 ew_823 ew_666 rfl rfl ed_X10_hangsOn (ct_X10_hangsOn hG _ _ _) rfl ew_824 ⟨by decide, by decide⟩ (by decide) (by decide) (Nat.le_of_ble_eq_true rfl) rfl dX10_hung_49) (fun x10 s9 => ?_)
      refine eb_aload_n (pc := 52) 0 dX10_hung_52 rfl rfl ?_
      refine eb_aload_n (pc := 53) 0 dX10_hung_53 rfl rfl ?_
      refine eb_getR (pc := 54) ef_RX10_52 dX10_hung_54 (fun r11 => ?_)
      refine eb_iload_n (pc := 57) 3 dX10_hung_57 rfl rfl ?_
      refine eb_iaload (pc := 58) dX10_hung_58 (fun x12 => ?_)
      refine eb_calli (pc := 59) (eb_runV (pc := 59) (As := [.int x12]) (rest := [.int x10, .int v3, .ref r6]) (ci := 9) (q0 := (RX10, TX10, 43)) (q := (RX10, TX10, 43)) ew_821 ew_822 ew_823 ew_666 rfl rfl ed_X10_hangsOn (ct_X10_hangsOn hG _ _ _) rfl ew_824 ⟨by decide, by decide⟩ (by decide) (by decide) (Nat.le_of_ble_eq_true rfl) rfl dX10_hung_59) (fun x14 s13 => ?_)
      refine eb_iadd (pc := 62) dX10_hung_62 ?_
      refine eb_iastore (pc := 63) dX10_hung_63 (fun s15 => ?_)
      refine eb_iinc (pc := 64) (v := v3 + 1) (L' := [(3, .int (v3 + 1)), (0, .ref v0), (1, .int v1), (2, .int v2)]) 3 dX10_hung_64 rfl rfl (by decide) rfl ?_
      refine eb_goto (pc := 67) (tgt := 32) dX10_hung_67 (by decide) ?_
      refine eb_sub [1, 2, 3, 0] rfl ?_
      exact ih _ _
set_option maxRecDepth 100000 in
theorem ct_X10_hung {G : eb_G} (hG : eb_ok G) (n : Nat) (v0 : Nat) (v1 : Int32) (v2 : Int32) (s : eb_S) : eb_ct G yX10_hung cX10_hung 4 (some .int) 3 0 0 eb_ei [.ref v0, .int v1, .int v2] s (f_X10_hung n v0 v1 v2 s) := by
  refine eb_ct_i (by decide) (Nat.le_of_ble_eq_true rfl) (fun v hv => by simp at hv; rcases hv with rfl | rfl | rfl <;> simp [Value.category]) ?_
  show eb_go G yX10_hung cX10_hung 4 (some .int) (3) 0 0 .ireturn (fun r : Int32 => [.int r]) 0 [(0, .ref v0), (1, .int v1), (2, .int v2)] [] s 0 0 _
  unfold f_X10_hung
  refine eb_iload_n (pc := 0) 1 dX10_hung_0 rfl rfl ?_
  refine eb_i2l (pc := 1) dX10_hung_1 ?_
  refine eb_lconst (pc := 2) (v := 0) dX10_hung_2 (by decide) ?_
  refine eb_aload_n (pc := 3) 0 dX10_hung_3 rfl rfl ?_
  refine eb_getI (pc := 4) ef_RX10_119 dX10_hung_4 (fun x1 => ?_)
  refine eb_iconst (pc := 7) (v := 1) dX10_hung_7 (by decide) ?_
  refine eb_isub (pc := 8) dX10_hung_8 ?_
  refine eb_i2l (pc := 9) dX10_hung_9 ?_
  refine eb_callb (pc := 10) (eb_runS (pc := 10) (As := [.long ((v1).toInt64), .long 0, .long ((x1 - 1).toInt64)]) (rest := []) ew_664 ew_665 ew_666 rfl ed_X10_in (ct_X10_in hG _ _ _ _) ew_667 ⟨by decide, by decide⟩ (by decide) (by decide) (Nat.le_of_ble_eq_true rfl) rfl dX10_hung_10) (fun b3 s2 => ?_)
  refine eb_if_eq (pc := 13) (tgt := 28) dX10_hung_13 (by decide) ?_ ?_
  · refine eb_iconst (pc := 28) (v := (-1)) dX10_hung_28 (by decide) ?_
    exact eb_iret (pc := 29) dX10_hung_29 (by decide) (by decide)
  · refine eb_iload_n (pc := 16) 2 dX10_hung_16 rfl rfl ?_
    refine eb_i2l (pc := 17) dX10_hung_17 ?_
    refine eb_lconst (pc := 18) (v := 0) dX10_hung_18 (by decide) ?_
    refine eb_ldc2 (pc := 19) (v := 2) dX10_hung_19 ew_669 ?_
    refine eb_callb (pc := 22) (eb_runS (pc := 22) (As := [.long ((v2).toInt64), .long 0, .long 2]) (rest := []) ew_664 ew_665 ew_666 rfl ed_X10_in (ct_X10_in hG _ _ _ _) ew_667 ⟨by decide, by decide⟩ (by decide) (by decide) (Nat.le_of_ble_eq_true rfl) rfl dX10_hung_22) (fun b5 s4 => ?_)
    refine eb_if_ne (pc := 25) (tgt := 30) dX10_hung_25 (by decide) ?_ ?_
    · refine eb_iconst (pc := 30) (v := 0) dX10_hung_30 (by decide) ?_
      refine eb_istore_n (pc := 31) (L' := [(3, .int 0), (0, .ref v0), (1, .int v1), (2, .int v2)]) dX10_hung_31 rfl (by decide) rfl ?_
      refine eb_sub [1, 2, 3, 0] rfl ?_
      refine gl_X10_hung_L32 hG (fun s16 => ?_) n _ _
      refine eb_iload_n (pc := 70) 2 dX10_hung_70 rfl rfl ?_
      refine eb_iconst (pc := 71) (v := 2) dX10_hung_71 (by decide) ?_
      refine eb_icmp_ne (pc := 72) (tgt := 84) dX10_hung_72 (by decide) ?_ ?_
      · refine eb_bipush (pc := 84) (v := 60) dX10_hung_84 (by decide) ?_
        refine eb_aload_n (pc := 86) 0 dX10_hung_86 rfl rfl ?_
        refine eb_aload_n (pc := 87) 0 dX10_hung_87 rfl rfl ?_
        refine eb_getR (pc := 88) ef_RX10_52 dX10_hung_88 (fun r17 => ?_)
        refine eb_iload_n (pc := 91) 1 dX10_hung_91 rfl rfl ?_
        refine eb_iaload (pc := 92) dX10_hung_92 (fun x18 => ?_)
        refine eb_calli (pc := 93) (eb_runV (pc := 93) (As := [.int x18]) (rest := [.int 60]) (ci := 9) (q0 := (RX10, TX10, 43)) (q := (RX10, TX10, 43)) ew_821 ew_822 ew_823 ew_666 rfl rfl ed_X10_hangsOn (ct_X10_hangsOn hG _ _ _) rfl ew_824 ⟨by decide, by decide⟩ (by decide) (by decide) (Nat.le_of_ble_eq_true rfl) rfl dX10_hung_93) (fun x20 s19 => ?_)
        refine eb_imul (pc := 96) dX10_hung_96 ?_
        refine eb_aload_n (pc := 97) 0 dX10_hung_97 rfl rfl ?_
        refine eb_getR (pc := 98) ef_RX10_73 dX10_hung_98 (fun r21 => ?_)
        refine eb_iload_n (pc := 101) 1 dX10_hung_101 rfl rfl ?_
        refine eb_iaload (pc := 102) dX10_hung_102 (fun x22 => ?_)
        refine eb_iload_n (pc := 103) 2 dX10_hung_103 rfl rfl ?_
        refine eb_calli (pc := 104) (eb_runS (pc := 104) (As := [.int ((60 : Int32) * x20), .int x22, .int v2]) (rest := []) ew_802 ew_803 ew_666 rfl ed_X10_part (ct_X10_part hG n _ _ _ _) ew_804 ⟨by decide, by decide⟩ (by decide) (by decide) (Nat.le_of_ble_eq_true rfl) rfl dX10_hung_104) (fun x24 s23 => ?_)
        exact eb_iret (pc := 107) dX10_hung_107 (by decide) (by decide)
      · refine eb_aload_n (pc := 75) 0 dX10_hung_75 rfl rfl ?_
        refine eb_getR (pc := 76) ef_RX10_73 dX10_hung_76 (fun r25 => ?_)
        refine eb_iload_n (pc := 79) 1 dX10_hung_79 rfl rfl ?_
        refine eb_iaload (pc := 80) dX10_hung_80 (fun x26 => ?_)
        refine eb_goto (pc := 81) (tgt := 107) dX10_hung_81 (by decide) ?_
        exact eb_iret (pc := 107) dX10_hung_107 (by decide) (by decide)
    · refine eb_iconst (pc := 28) (v := (-1)) dX10_hung_28 (by decide) ?_
      exact eb_iret (pc := 29) dX10_hung_29 (by decide) (by decide)

def f_X10_notes_L2 (n : Nat) (v0 : Nat) (v1 : Nat) (v2 : Int32)  : Nat → Int32 → eb_S → Option (Int32 × eb_S)
  | 0, _, _ => none
  | m + 1, v3, s => eb_ln s v1 fun x1 => if x1 ≤ v3 then (eb_ln s v1 fun x2 => some (v2 + x2, s)) else (eb_gR s [9] v0 35 fun r3 => eb_ai s v1 v3 fun x4 => eb_wi s r3 (v2 + v3) x4 fun s5 => f_X10_notes_L2 n v0 v1 v2 m (v3 + 1) s5)
def f_X10_notes (n : Nat) (v0 : Nat) (v1 : Nat) (v2 : Int32) (s : eb_S) : Option (Int32 × eb_S) := f_X10_notes_L2 n v0 v1 v2  n 0 s
set_option maxRecDepth 100000 in
theorem gl_X10_notes_L2 {G : eb_G} (hG : eb_ok G) {n : Nat} {v0 : Nat} {v1 : Nat} {v2 : Int32}   : ∀ (m : Nat) (v3 : Int32) (s : eb_S), eb_go G yX10_notes cX10_notes 4 (some .int) (1) 0 0 .ireturn (fun r : Int32 => [.int r]) 2 [(0, .ref v0), (1, .ref v1), (2, .int v2), (3, .int v3)] [] s 0 0 (f_X10_notes_L2 n v0 v1 v2 m v3 s) := by
  intro m
  induction m with
  | zero => intro v3 s; exact eb_none
  | succ m ih =>
    intro v3 s
    rw [f_X10_notes_L2.eq_2]
    refine eb_iload_n (pc := 2) 3 dX10_notes_2 rfl rfl ?_
    refine eb_aload_n (pc := 3) 1 dX10_notes_3 rfl rfl ?_
    refine eb_alen (pc := 4) dX10_notes_4 (fun x1 => ?_)
    refine eb_icmp_ge (pc := 5) (tgt := 25) dX10_notes_5 (by decide) ?_ ?_
    · refine eb_iload_n (pc := 25) 2 dX10_notes_25 rfl rfl ?_
      refine eb_aload_n (pc := 26) 1 dX10_notes_26 rfl rfl ?_
      refine eb_alen (pc := 27) dX10_notes_27 (fun x2 => ?_)
      refine eb_iadd (pc := 28) dX10_notes_28 ?_
      exact eb_iret (pc := 29) dX10_notes_29 (by decide) (by decide)
    · refine eb_aload_n (pc := 8) 0 dX10_notes_8 rfl rfl ?_
      refine eb_getR (pc := 9) ef_RX10_76 dX10_notes_9 (fun r3 => ?_)
      refine eb_iload_n (pc := 12) 2 dX10_notes_12 rfl rfl ?_
      refine eb_iload_n (pc := 13) 3 dX10_notes_13 rfl rfl ?_
      refine eb_iadd (pc := 14) dX10_notes_14 ?_
      refine eb_aload_n (pc := 15) 1 dX10_notes_15 rfl rfl ?_
      refine eb_iload_n (pc := 16) 3 dX10_notes_16 rfl rfl ?_
      refine eb_iaload (pc := 17) dX10_notes_17 (fun x4 => ?_)
      refine eb_iastore (pc := 18) dX10_notes_18 (fun s5 => ?_)
      refine eb_iinc (pc := 19) (v := v3 + 1) (L' := [(3, .int (v3 + 1)), (0, .ref v0), (1, .ref v1), (2, .int v2)]) 3 dX10_notes_19 rfl rfl (by decide) rfl ?_
      refine eb_goto (pc := 22) (tgt := 2) dX10_notes_22 (by decide) ?_
      refine eb_sub [1, 2, 3, 0] rfl ?_
      exact ih _ _
set_option maxRecDepth 100000 in
theorem ct_X10_notes {G : eb_G} (hG : eb_ok G) (n : Nat) (v0 : Nat) (v1 : Nat) (v2 : Int32) (s : eb_S) : eb_ct G yX10_notes cX10_notes 4 (some .int) 1 0 0 eb_ei [.ref v0, .ref v1, .int v2] s (f_X10_notes n v0 v1 v2 s) := by
  refine eb_ct_i (by decide) (Nat.le_of_ble_eq_true rfl) (fun v hv => by simp at hv; rcases hv with rfl | rfl | rfl <;> simp [Value.category]) ?_
  show eb_go G yX10_notes cX10_notes 4 (some .int) (1) 0 0 .ireturn (fun r : Int32 => [.int r]) 0 [(0, .ref v0), (1, .ref v1), (2, .int v2)] [] s 0 0 _
  unfold f_X10_notes
  refine eb_iconst (pc := 0) (v := 0) dX10_notes_0 (by decide) ?_
  refine eb_istore_n (pc := 1) (L' := [(3, .int 0), (0, .ref v0), (1, .ref v1), (2, .int v2)]) dX10_notes_1 rfl (by decide) rfl ?_
  refine eb_sub [1, 2, 3, 0] rfl ?_
  refine gl_X10_notes_L2 hG  n _ _

def f_X10_givesBack_L2 (n : Nat) (v0 : Nat) (v1 : Int32) (v2 : Nat)  : Nat → Int32 → eb_S → Option (Int32 × eb_S)
  | 0, _, _ => none
  | m + 1, v3, s => eb_ln s v2 fun x1 => if x1 ≤ v3 then (eb_ln s v2 fun x2 => some (v1 + x2, s)) else (eb_gR s [9] v0 35 fun r3 => eb_ai s r3 (v1 + v3) fun x4 => eb_wi s v2 v3 x4 fun s5 => f_X10_givesBack_L2 n v0 v1 v2 m (v3 + 1) s5)
def f_X10_givesBack (n : Nat) (v0 : Nat) (v1 : Int32) (v2 : Nat) (s : eb_S) : Option (Int32 × eb_S) := f_X10_givesBack_L2 n v0 v1 v2  n 0 s
set_option maxRecDepth 100000 in
theorem gl_X10_givesBack_L2 {G : eb_G} (hG : eb_ok G) {n : Nat} {v0 : Nat} {v1 : Int32} {v2 : Nat}   : ∀ (m : Nat) (v3 : Int32) (s : eb_S), eb_go G yX10_givesBack cX10_givesBack 4 (some .int) (1) 0 0 .ireturn (fun r : Int32 => [.int r]) 2 [(0, .ref v0), (1, .int v1), (2, .ref v2), (3, .int v3)] [] s 0 0 (f_X10_givesBack_L2 n v0 v1 v2 m v3 s) := by
  intro m
  induction m with
  | zero => intro v3 s; exact eb_none
  | succ m ih =>
    intro v3 s
    rw [f_X10_givesBack_L2.eq_2]
    refine eb_iload_n (pc := 2) 3 dX10_givesBack_2 rfl rfl ?_
    refine eb_aload_n (pc := 3) 2 dX10_givesBack_3 rfl rfl ?_
    refine eb_alen (pc := 4) dX10_givesBack_4 (fun x1 => ?_)
    refine eb_icmp_ge (pc := 5) (tgt := 25) dX10_givesBack_5 (by decide) ?_ ?_
    · refine eb_iload_n (pc := 25) 1 dX10_givesBack_25 rfl rfl ?_
      refine eb_aload_n (pc := 26) 2 dX10_givesBack_26 rfl rfl ?_
      refine eb_alen (pc := 27) dX10_givesBack_27 (fun x2 => ?_)
      refine eb_iadd (pc := 28) dX10_givesBack_28 ?_
      exact eb_iret (pc := 29) dX10_givesBack_29 (by decide) (by decide)
    · refine eb_aload_n (pc := 8) 2 dX10_givesBack_8 rfl rfl ?_
      refine eb_iload_n (pc := 9) 3 dX10_givesBack_9 rfl rfl ?_
      refine eb_aload_n (pc := 10) 0 dX10_givesBack_10 rfl rfl ?_
      refine eb_getR (pc := 11) ef_RX10_76 dX10_givesBack_11 (fun r3 => ?_)
      refine eb_iload_n (pc := 14) 1 dX10_givesBack_14 rfl rfl ?_
      refine eb_iload_n (pc := 15) 3 dX10_givesBack_15 rfl rfl ?_
      refine eb_iadd (pc := 16) dX10_givesBack_16 ?_
      refine eb_iaload (pc := 17) dX10_givesBack_17 (fun x4 => ?_)
      refine eb_iastore (pc := 18) dX10_givesBack_18 (fun s5 => ?_)
      refine eb_iinc (pc := 19) (v := v3 + 1) (L' := [(3, .int (v3 + 1)), (0, .ref v0), (1, .int v1), (2, .ref v2)]) 3 dX10_givesBack_19 rfl rfl (by decide) rfl ?_
      refine eb_goto (pc := 22) (tgt := 2) dX10_givesBack_22 (by decide) ?_
      refine eb_sub [1, 2, 3, 0] rfl ?_
      exact ih _ _
set_option maxRecDepth 100000 in
theorem ct_X10_givesBack {G : eb_G} (hG : eb_ok G) (n : Nat) (v0 : Nat) (v1 : Int32) (v2 : Nat) (s : eb_S) : eb_ct G yX10_givesBack cX10_givesBack 4 (some .int) 1 0 0 eb_ei [.ref v0, .int v1, .ref v2] s (f_X10_givesBack n v0 v1 v2 s) := by
  refine eb_ct_i (by decide) (Nat.le_of_ble_eq_true rfl) (fun v hv => by simp at hv; rcases hv with rfl | rfl | rfl <;> simp [Value.category]) ?_
  show eb_go G yX10_givesBack cX10_givesBack 4 (some .int) (1) 0 0 .ireturn (fun r : Int32 => [.int r]) 0 [(0, .ref v0), (1, .int v1), (2, .ref v2)] [] s 0 0 _
  unfold f_X10_givesBack
  refine eb_iconst (pc := 0) (v := 0) dX10_givesBack_0 (by decide) ?_
  refine eb_istore_n (pc := 1) (L' := [(3, .int 0), (0, .ref v0), (1, .int v1), (2, .ref v2)]) dX10_givesBack_1 rfl (by decide) rfl ?_
  refine eb_sub [1, 2, 3, 0] rfl ?_
  refine gl_X10_givesBack_L2 hG  n _ _

def f_X10_image (n : Nat) (v0 : Nat) (s : eb_S) : Option (Int32 × eb_S) := eb_gR s [9] v0 35 fun r1 => eb_gI s [9] v0 0 fun x2 => eb_wi s r1 0 x2 fun s3 => eb_gR s3 [9] v0 35 fun r4 => eb_gI s3 [9] v0 6 fun x5 => eb_wi s3 r4 1 x5 fun s6 => eb_gR s6 [9] v0 35 fun r7 => eb_gI s6 [9] v0 12 fun x8 => eb_wi s6 r7 2 x8 fun s9 => eb_gR s9 [9] v0 35 fun r10 => eb_gI s9 [9] v0 16 fun x11 => eb_wi s9 r10 3 x11 fun s12 => eb_gR s12 [9] v0 1 fun r13 => eb_cl (eb_tg s12 v0 9 (f_X10_notes n v0 r13 4 s12)) fun x15 s14 => eb_gR s14 [9] v0 2 fun r16 => eb_cl (eb_tg s14 v0 9 (f_X10_notes n v0 r16 x15 s14)) fun x18 s17 => eb_gR s17 [9] v0 3 fun r19 => eb_cl (eb_tg s17 v0 9 (f_X10_notes n v0 r19 x18 s17)) fun x21 s20 => eb_gR s20 [9] v0 4 fun r22 => eb_cl (eb_tg s20 v0 9 (f_X10_notes n v0 r22 x21 s20)) fun x24 s23 => eb_gR s23 [9] v0 5 fun r25 => eb_cl (eb_tg s23 v0 9 (f_X10_notes n v0 r25 x24 s23)) fun x27 s26 => eb_gR s26 [9] v0 7 fun r28 => eb_cl (eb_tg s26 v0 9 (f_X10_notes n v0 r28 x27 s26)) fun x30 s29 => eb_gR s29 [9] v0 8 fun r31 => eb_cl (eb_tg s29 v0 9 (f_X10_notes n v0 r31 x30 s29)) fun x33 s32 => eb_gR s32 [9] v0 9 fun r34 => eb_cl (eb_tg s32 v0 9 (f_X10_notes n v0 r34 x33 s32)) fun x36 s35 => eb_gR s35 [9] v0 10 fun r37 => eb_cl (eb_tg s35 v0 9 (f_X10_notes n v0 r37 x36 s35)) fun x39 s38 => eb_gR s38 [9] v0 11 fun r40 => eb_cl (eb_tg s38 v0 9 (f_X10_notes n v0 r40 x39 s38)) fun x42 s41 => eb_gR s41 [9] v0 13 fun r43 => eb_cl (eb_tg s41 v0 9 (f_X10_notes n v0 r43 x42 s41)) fun x45 s44 => eb_gR s44 [9] v0 14 fun r46 => eb_cl (eb_tg s44 v0 9 (f_X10_notes n v0 r46 (x42 + 8) s44)) fun x48 s47 => eb_gR s47 [9] v0 15 fun r49 => eb_cl (eb_tg s47 v0 9 (f_X10_notes n v0 r49 (x42 + 16) s47)) fun x51 s50 => eb_gR s50 [9] v0 17 fun r52 => eb_cl (eb_tg s50 v0 9 (f_X10_notes n v0 r52 98 s50)) fun x54 s53 => eb_gR s53 [9] v0 18 fun r55 => eb_cl (eb_tg s53 v0 9 (f_X10_notes n v0 r55 104 s53)) fun x57 s56 => eb_pZ s56 [9] v0 36 1 fun s58 => some (1, s58)
set_option maxRecDepth 100000 in
theorem ct_X10_image {G : eb_G} (hG : eb_ok G) (n : Nat) (v0 : Nat) (s : eb_S) : eb_ct G yX10_image cX10_image 2 (some .int) 2 0 0 eb_ei [.ref v0] s (f_X10_image n v0 s) := by
  refine eb_ct_i (by decide) (Nat.le_of_ble_eq_true rfl) (fun v hv => by simp at hv; rcases hv with rfl <;> simp [Value.category]) ?_
  show eb_go G yX10_image cX10_image 2 (some .int) (2) 0 0 .ireturn (fun r : Int32 => [.int r]) 0 [(0, .ref v0)] [] s 0 0 _
  unfold f_X10_image
  refine eb_aload_n (pc := 0) 0 dX10_image_0 rfl rfl ?_
  refine eb_getR (pc := 1) ef_RX10_76 dX10_image_1 (fun r1 => ?_)
  refine eb_iconst (pc := 4) (v := 0) dX10_image_4 (by decide) ?_
  refine eb_aload_n (pc := 5) 0 dX10_image_5 rfl rfl ?_
  refine eb_getI (pc := 6) ef_RX10_98 dX10_image_6 (fun x2 => ?_)
  refine eb_iastore (pc := 9) dX10_image_9 (fun s3 => ?_)
  refine eb_aload_n (pc := 10) 0 dX10_image_10 rfl rfl ?_
  refine eb_getR (pc := 11) ef_RX10_76 dX10_image_11 (fun r4 => ?_)
  refine eb_iconst (pc := 14) (v := 1) dX10_image_14 (by decide) ?_
  refine eb_aload_n (pc := 15) 0 dX10_image_15 rfl rfl ?_
  refine eb_getI (pc := 16) ef_RX10_106 dX10_image_16 (fun x5 => ?_)
  refine eb_iastore (pc := 19) dX10_image_19 (fun s6 => ?_)
  refine eb_aload_n (pc := 20) 0 dX10_image_20 rfl rfl ?_
  refine eb_getR (pc := 21) ef_RX10_76 dX10_image_21 (fun r7 => ?_)
  refine eb_iconst (pc := 24) (v := 2) dX10_image_24 (by decide) ?_
  refine eb_aload_n (pc := 25) 0 dX10_image_25 rfl rfl ?_
  refine eb_getI (pc := 26) ef_RX10_152 dX10_image_26 (fun x8 => ?_)
  refine eb_iastore (pc := 29) dX10_image_29 (fun s9 => ?_)
  refine eb_aload_n (pc := 30) 0 dX10_image_30 rfl rfl ?_
  refine eb_getR (pc := 31) ef_RX10_76 dX10_image_31 (fun r10 => ?_)
  refine eb_iconst (pc := 34) (v := 3) dX10_image_34 (by decide) ?_
  refine eb_aload_n (pc := 35) 0 dX10_image_35 rfl rfl ?_
  refine eb_getI (pc := 36) ef_RX10_119 dX10_image_36 (fun x11 => ?_)
  refine eb_iastore (pc := 39) dX10_image_39 (fun s12 => ?_)
  refine eb_aload_n (pc := 40) 0 dX10_image_40 rfl rfl ?_
  refine eb_aload_n (pc := 41) 0 dX10_image_41 rfl rfl ?_
  refine eb_getR (pc := 42) ef_RX10_7 dX10_image_42 (fun r13 => ?_)
  refine eb_iconst (pc := 45) (v := 4) dX10_image_45 (by decide) ?_
  refine eb_calli (pc := 46) (eb_runV (pc := 46) (As := [.ref r13, .int 4]) (rest := []) (ci := 9) (q0 := (RX10, TX10, 43)) (q := (RX10, TX10, 43)) ew_825 ew_826 ew_827 ew_666 rfl rfl ed_X10_notes (ct_X10_notes hG n _ _ _ _) rfl ew_828 ⟨by decide, by decide⟩ (by decide) (by decide) (Nat.le_of_ble_eq_true rfl) rfl dX10_image_46) (fun x15 s14 => ?_)
  refine eb_istore_n (pc := 49) (L' := [(1, .int x15), (0, .ref v0)]) dX10_image_49 rfl (by decide) rfl ?_
  refine eb_aload_n (pc := 50) 1 dX10_image_50 rfl rfl ?_
  refine eb_aload_n (pc := 51) 1 dX10_image_51 rfl rfl ?_
  refine eb_getR (pc := 52) ef_RX10_13 dX10_image_52 (fun r16 => ?_)
  refine eb_iload_n (pc := 55) 0 dX10_image_55 rfl rfl ?_
  refine eb_calli (pc := 56) (eb_runV (pc := 56) (As := [.ref r16, .int x15]) (rest := []) (ci := 9) (q0 := (RX10, TX10, 43)) (q := (RX10, TX10, 43)) ew_825 ew_826 ew_827 ew_666 rfl rfl ed_X10_notes (ct_X10_notes hG n _ _ _ _) rfl ew_828 ⟨by decide, by decide⟩ (by decide) (by decide) (Nat.le_of_ble_eq_true rfl) rfl dX10_image_56) (fun x18 s17 => ?_)
  refine eb_istore_n (pc := 59) (L' := [(1, .int x18), (0, .ref v0)]) dX10_image_59 rfl (by decide) rfl ?_
  refine eb_aload_n (pc := 60) 1 dX10_image_60 rfl rfl ?_
  refine eb_aload_n (pc := 61) 1 dX10_image_61 rfl rfl ?_
  refine eb_getR (pc := 62) ef_RX10_16 dX10_image_62 (fun r19 => ?_)
  refine eb_iload_n (pc := 65) 0 dX10_image_65 rfl rfl ?_
  refine eb_calli (pc := 66) (eb_runV (pc := 66) (As := [.ref r19, .int x18]) (rest := []) (ci := 9) (q0 := (RX10, TX10, 43)) (q := (RX10, TX10, 43)) ew_825 ew_826 ew_827 ew_666 rfl rfl ed_X10_notes (ct_X10_notes hG n _ _ _ _) rfl ew_828 ⟨by decide, by decide⟩ (by decide) (by decide) (Nat.le_of_ble_eq_true rfl) rfl dX10_image_66) (fun x21 s20 => ?_)
  refine eb_istore_n (pc := 69) (L' := [(1, .int x21), (0, .ref v0)]) dX10_image_69 rfl (by decide) rfl ?_
  refine eb_aload_n (pc := 70) 1 dX10_image_70 rfl rfl ?_
  refine eb_aload_n (pc := 71) 1 dX10_image_71 rfl rfl ?_
  refine eb_getR (pc := 72) ef_RX10_19 dX10_image_72 (fun r22 => ?_)
  refine eb_iload_n (pc := 75) 0 dX10_image_75 rfl rfl ?_
  refine eb_calli (pc := 76) (eb_runV (pc := 76) (As := [.ref r22, .int x21]) (rest := []) (ci := 9) (q0 := (RX10, TX10, 43)) (q := (RX10, TX10, 43)) ew_825 ew_826 ew_827 ew_666 rfl rfl ed_X10_notes (ct_X10_notes hG n _ _ _ _) rfl ew_828 ⟨by decide, by decide⟩ (by decide) (by decide) (Nat.le_of_ble_eq_true rfl) rfl dX10_image_76) (fun x24 s23 => ?_)
  refine eb_istore_n (pc := 79) (L' := [(1, .int x24), (0, .ref v0)]) dX10_image_79 rfl (by decide) rfl ?_
  refine eb_aload_n (pc := 80) 1 dX10_image_80 rfl rfl ?_
  refine eb_aload_n (pc := 81) 1 dX10_image_81 rfl rfl ?_
  refine eb_getR (pc := 82) ef_RX10_22 dX10_image_82 (fun r25 => ?_)
  refine eb_iload_n (pc := 85) 0 dX10_image_85 rfl rfl ?_
  refine eb_calli (pc := 86) (eb_runV (pc := 86) (As := [.ref r25, .int x24]) (rest := []) (ci := 9) (q0 := (RX10, TX10, 43)) (q := (RX10, TX10, 43)) ew_825 ew_826 ew_827 ew_666 rfl rfl ed_X10_notes (ct_X10_notes hG n _ _ _ _) rfl ew_828 ⟨by decide, by decide⟩ (by decide) (by decide) (Nat.le_of_ble_eq_true rfl) rfl dX10_image_86) (fun x27 s26 => ?_)
  refine eb_istore_n (pc := 89) (L' := [(1, .int x27), (0, .ref v0)]) dX10_image_89 rfl (by decide) rfl ?_
  refine eb_aload_n (pc := 90) 1 dX10_image_90 rfl rfl ?_
  refine eb_aload_n (pc := 91) 1 dX10_image_91 rfl rfl ?_
  refine eb_getR (pc := 92) ef_RX10_25 dX10_image_92 (fun r28 => ?_)
  refine eb_iload_n (pc := 95) 0 dX10_image_95 rfl rfl ?_
  refine eb_calli (pc := 96) (eb_runV (pc := 96) (As := [.ref r28, .int x27]) (rest := []) (ci := 9) (q0 := (RX10, TX10, 43)) (q := (RX10, TX10, 43)) ew_825 ew_826 ew_827 ew_666 rfl rfl ed_X10_notes (ct_X10_notes hG n _ _ _ _) rfl ew_828 ⟨by decide, by decide⟩ (by decide) (by decide) (Nat.le_of_ble_eq_true rfl) rfl dX10_image_96) (fun x30 s29 => ?_)
  refine eb_istore_n (pc := 99) (L' := [(1, .int x30), (0, .ref v0)]) dX10_image_99 rfl (by decide) rfl ?_
  refine eb_aload_n (pc := 100) 1 dX10_image_100 rfl rfl ?_
  refine eb_aload_n (pc := 101) 1 dX10_image_101 rfl rfl ?_
  refine eb_getR (pc := 102) ef_RX10_28 dX10_image_102 (fun r31 => ?_)
  refine eb_iload_n (pc := 105) 0 dX10_image_105 rfl rfl ?_
  refine eb_calli (pc := 106) (eb_runV (pc := 106) (As := [.ref r31, .int x30]) (rest := []) (ci := 9) (q0 := (RX10, TX10, 43)) (q := (RX10, TX10, 43)) ew_825 ew_826 ew_827 ew_666 rfl rfl ed_X10_notes (ct_X10_notes hG n _ _ _ _) rfl ew_828 ⟨by decide, by decide⟩ (by decide) (by decide) (Nat.le_of_ble_eq_true rfl) rfl dX10_image_106) (fun x33 s32 => ?_)
  refine eb_istore_n (pc := 109) (L' := [(1, .int x33), (0, .ref v0)]) dX10_image_109 rfl (by decide) rfl ?_
  refine eb_aload_n (pc := 110) 1 dX10_image_110 rfl rfl ?_
  refine eb_aload_n (pc := 111) 1 dX10_image_111 rfl rfl ?_
  refine eb_getR (pc := 112) ef_RX10_31 dX10_image_112 (fun r34 => ?_)
  refine eb_iload_n (pc := 115) 0 dX10_image_115 rfl rfl ?_
  refine eb_calli (pc := 116) (eb_runV (pc := 116) (As := [.ref r34, .int x33]) (rest := []) (ci := 9) (q0 := (RX10, TX10, 43)) (q := (RX10, TX10, 43)) ew_825 ew_826 ew_827 ew_666 rfl rfl ed_X10_notes (ct_X10_notes hG n _ _ _ _) rfl ew_828 ⟨by decide, by decide⟩ (by decide) (by decide) (Nat.le_of_ble_eq_true rfl) rfl dX10_image_116) (fun x36 s35 => ?_)
  refine eb_istore_n (pc := 119) (L' := [(1, .int x36), (0, .ref v0)]) dX10_image_119 rfl (by decide) rfl ?_
  refine eb_aload_n (pc := 120) 1 dX10_image_120 rfl rfl ?_
  refine eb_aload_n (pc := 121) 1 dX10_image_121 rfl rfl ?_
  refine eb_getR (pc := 122) ef_RX10_34 dX10_image_122 (fun r37 => ?_)
  refine eb_iload_n (pc := 125) 0 dX10_image_125 rfl rfl ?_
  refine eb_calli (pc := 126) (eb_runV (pc := 126) (As := [.ref r37, .int x36]) (rest := []) (ci := 9) (q0 := (RX10, TX10, 43)) (q := (RX10, TX10, 43)) ew_825 ew_826 ew_827 ew_666 rfl rfl ed_X10_notes (ct_X10_notes hG n _ _ _ _) rfl ew_828 ⟨by decide, by decide⟩ (by decide) (by decide) (Nat.le_of_ble_eq_true rfl) rfl dX10_image_126) (fun x39 s38 => ?_)
  refine eb_istore_n (pc := 129) (L' := [(1, .int x39), (0, .ref v0)]) dX10_image_129 rfl (by decide) rfl ?_
  refine eb_aload_n (pc := 130) 1 dX10_image_130 rfl rfl ?_
  refine eb_aload_n (pc := 131) 1 dX10_image_131 rfl rfl ?_
  refine eb_getR (pc := 132) ef_RX10_37 dX10_image_132 (fun r40 => ?_)
  refine eb_iload_n (pc := 135) 0 dX10_image_135 rfl rfl ?_
  refine eb_calli (pc := 136) (eb_runV (pc := 136) (As := [.ref r40, .int x39]) (rest := []) (ci := 9) (q0 := (RX10, TX10, 43)) (q := (RX10, TX10, 43)) ew_825 ew_826 ew_827 ew_666 rfl rfl ed_X10_notes (ct_X10_notes hG n _ _ _ _) rfl ew_828 ⟨by decide, by decide⟩ (by decide) (by decide) (Nat.le_of_ble_eq_true rfl) rfl dX10_image_136) (fun x42 s41 => ?_)
  refine eb_istore_n (pc := 139) (L' := [(1, .int x42), (0, .ref v0)]) dX10_image_139 rfl (by decide) rfl ?_
  refine eb_aload_n (pc := 140) 1 dX10_image_140 rfl rfl ?_
  refine eb_aload_n (pc := 141) 1 dX10_image_141 rfl rfl ?_
  refine eb_getR (pc := 142) ef_RX10_40 dX10_image_142 (fun r43 => ?_)
  refine eb_iload_n (pc := 145) 0 dX10_image_145 rfl rfl ?_
  refine eb_calli (pc := 146) (eb_runV (pc := 146) (As := [.ref r43, .int x42]) (rest := []) (ci := 9) (q0 := (RX10, TX10, 43)) (q := (RX10, TX10, 43)) ew_825 ew_826 ew_827 ew_666 rfl rfl ed_X10_notes (ct_X10_notes hG n _ _ _ _) rfl ew_828 ⟨by decide, by decide⟩ (by decide) (by decide) (Nat.le_of_ble_eq_true rfl) rfl dX10_image_146) (fun x45 s44 => ?_)
  refine eb_pop (pc := 149) dX10_image_149 rfl ?_
  refine eb_aload_n (pc := 150) 1 dX10_image_150 rfl rfl ?_
  refine eb_aload_n (pc := 151) 1 dX10_image_151 rfl rfl ?_
  refine eb_getR (pc := 152) ef_RX10_43 dX10_image_152 (fun r46 => ?_)
  refine eb_iload_n (pc := 155) 0 dX10_image_155 rfl rfl ?_
  refine eb_bipush (pc := 156) (v := 8) dX10_image_156 (by decide) ?_
  refine eb_iadd (pc := 158) dX10_image_158 ?_
  refine eb_calli (pc := 159) (eb_runV (pc := 159) (As := [.ref r46, .int (x42 + 8)]) (rest := []) (ci := 9) (q0 := (RX10, TX10, 43)) (q := (RX10, TX10, 43)) ew_825 ew_826 ew_827 ew_666 rfl rfl ed_X10_notes (ct_X10_notes hG n _ _ _ _) rfl ew_828 ⟨by decide, by decide⟩ (by decide) (by decide) (Nat.le_of_ble_eq_true rfl) rfl dX10_image_159) (fun x48 s47 => ?_)
  refine eb_pop (pc := 162) dX10_image_162 rfl ?_
  refine eb_aload_n (pc := 163) 1 dX10_image_163 rfl rfl ?_
  refine eb_aload_n (pc := 164) 1 dX10_image_164 rfl rfl ?_
  refine eb_getR (pc := 165) ef_RX10_46 dX10_image_165 (fun r49 => ?_)
  refine eb_iload_n (pc := 168) 0 dX10_image_168 rfl rfl ?_
  refine eb_bipush (pc := 169) (v := 16) dX10_image_169 (by decide) ?_
  refine eb_iadd (pc := 171) dX10_image_171 ?_
  refine eb_calli (pc := 172) (eb_runV (pc := 172) (As := [.ref r49, .int (x42 + 16)]) (rest := []) (ci := 9) (q0 := (RX10, TX10, 43)) (q := (RX10, TX10, 43)) ew_825 ew_826 ew_827 ew_666 rfl rfl ed_X10_notes (ct_X10_notes hG n _ _ _ _) rfl ew_828 ⟨by decide, by decide⟩ (by decide) (by decide) (Nat.le_of_ble_eq_true rfl) rfl dX10_image_172) (fun x51 s50 => ?_)
  refine eb_pop (pc := 175) dX10_image_175 rfl ?_
  refine eb_aload_n (pc := 176) 1 dX10_image_176 rfl rfl ?_
  refine eb_aload_n (pc := 177) 1 dX10_image_177 rfl rfl ?_
  refine eb_getR (pc := 178) ef_RX10_49 dX10_image_178 (fun r52 => ?_)
  refine eb_bipush (pc := 181) (v := 98) dX10_image_181 (by decide) ?_
  refine eb_calli (pc := 183) (eb_runV (pc := 183) (As := [.ref r52, .int 98]) (rest := []) (ci := 9) (q0 := (RX10, TX10, 43)) (q := (RX10, TX10, 43)) ew_825 ew_826 ew_827 ew_666 rfl rfl ed_X10_notes (ct_X10_notes hG n _ _ _ _) rfl ew_828 ⟨by decide, by decide⟩ (by decide) (by decide) (Nat.le_of_ble_eq_true rfl) rfl dX10_image_183) (fun x54 s53 => ?_)
  refine eb_pop (pc := 186) dX10_image_186 rfl ?_
  refine eb_aload_n (pc := 187) 1 dX10_image_187 rfl rfl ?_
  refine eb_aload_n (pc := 188) 1 dX10_image_188 rfl rfl ?_
  refine eb_getR (pc := 189) ef_RX10_52 dX10_image_189 (fun r55 => ?_)
  refine eb_bipush (pc := 192) (v := 104) dX10_image_192 (by decide) ?_
  refine eb_calli (pc := 194) (eb_runV (pc := 194) (As := [.ref r55, .int 104]) (rest := []) (ci := 9) (q0 := (RX10, TX10, 43)) (q := (RX10, TX10, 43)) ew_825 ew_826 ew_827 ew_666 rfl rfl ed_X10_notes (ct_X10_notes hG n _ _ _ _) rfl ew_828 ⟨by decide, by decide⟩ (by decide) (by decide) (Nat.le_of_ble_eq_true rfl) rfl dX10_image_194) (fun x57 s56 => ?_)
  refine eb_pop (pc := 197) dX10_image_197 rfl ?_
  refine eb_aload_n (pc := 198) 1 dX10_image_198 rfl rfl ?_
  refine eb_iconst (pc := 199) (v := 1) dX10_image_199 (by decide) ?_
  refine eb_putZ (pc := 200) ef_RX10_289 eg_RX10_289 dX10_image_200 (fun s58 => ?_)
  refine eb_iconst (pc := 203) (v := 1) dX10_image_203 (by decide) ?_
  exact eb_iret (pc := 204) dX10_image_204 (by decide) (by decide)

def f_X10_restore (n : Nat) (v0 : Nat) (s : eb_S) : Option (Int32 × eb_S) := eb_gI s [9] v0 36 fun x1 => if x1 = 0 then (some ((-4), s)) else (eb_gR s [9] v0 35 fun r2 => eb_ai s r2 0 fun x3 => eb_pI s [9] v0 0 x3 fun s4 => eb_gR s4 [9] v0 35 fun r5 => eb_ai s4 r5 1 fun x6 => eb_pI s4 [9] v0 6 x6 fun s7 => eb_gR s7 [9] v0 35 fun r8 => eb_ai s7 r8 2 fun x9 => eb_pI s7 [9] v0 12 x9 fun s10 => eb_gR s10 [9] v0 35 fun r11 => eb_ai s10 r11 3 fun x12 => eb_pI s10 [9] v0 16 x12 fun s13 => eb_gR s13 [9] v0 1 fun r14 => eb_cl (eb_tg s13 v0 9 (f_X10_givesBack n v0 4 r14 s13)) fun x16 s15 => eb_gR s15 [9] v0 2 fun r17 => eb_cl (eb_tg s15 v0 9 (f_X10_givesBack n v0 x16 r17 s15)) fun x19 s18 => eb_gR s18 [9] v0 3 fun r20 => eb_cl (eb_tg s18 v0 9 (f_X10_givesBack n v0 x19 r20 s18)) fun x22 s21 => eb_gR s21 [9] v0 4 fun r23 => eb_cl (eb_tg s21 v0 9 (f_X10_givesBack n v0 x22 r23 s21)) fun x25 s24 => eb_gR s24 [9] v0 5 fun r26 => eb_cl (eb_tg s24 v0 9 (f_X10_givesBack n v0 x25 r26 s24)) fun x28 s27 => eb_gR s27 [9] v0 7 fun r29 => eb_cl (eb_tg s27 v0 9 (f_X10_givesBack n v0 x28 r29 s27)) fun x31 s30 => eb_gR s30 [9] v0 8 fun r32 => eb_cl (eb_tg s30 v0 9 (f_X10_givesBack n v0 x31 r32 s30)) fun x34 s33 => eb_gR s33 [9] v0 9 fun r35 => eb_cl (eb_tg s33 v0 9 (f_X10_givesBack n v0 x34 r35 s33)) fun x37 s36 => eb_gR s36 [9] v0 10 fun r38 => eb_cl (eb_tg s36 v0 9 (f_X10_givesBack n v0 x37 r38 s36)) fun x40 s39 => eb_gR s39 [9] v0 11 fun r41 => eb_cl (eb_tg s39 v0 9 (f_X10_givesBack n v0 x40 r41 s39)) fun x43 s42 => eb_gR s42 [9] v0 13 fun r44 => eb_cl (eb_tg s42 v0 9 (f_X10_givesBack n v0 x43 r44 s42)) fun x46 s45 => eb_gR s45 [9] v0 14 fun r47 => eb_cl (eb_tg s45 v0 9 (f_X10_givesBack n v0 (x43 + 8) r47 s45)) fun x49 s48 => eb_gR s48 [9] v0 15 fun r50 => eb_cl (eb_tg s48 v0 9 (f_X10_givesBack n v0 (x43 + 16) r50 s48)) fun x52 s51 => eb_gR s51 [9] v0 17 fun r53 => eb_cl (eb_tg s51 v0 9 (f_X10_givesBack n v0 98 r53 s51)) fun x55 s54 => eb_gR s54 [9] v0 18 fun r56 => eb_cl (eb_tg s54 v0 9 (f_X10_givesBack n v0 104 r56 s54)) fun x58 s57 => some (1, s57))
set_option maxRecDepth 100000 in
theorem ct_X10_restore {G : eb_G} (hG : eb_ok G) (n : Nat) (v0 : Nat) (s : eb_S) : eb_ct G yX10_restore cX10_restore 2 (some .int) 2 0 0 eb_ei [.ref v0] s (f_X10_restore n v0 s) := by
  refine eb_ct_i (by decide) (Nat.le_of_ble_eq_true rfl) (fun v hv => by simp at hv; rcases hv with rfl <;> simp [Value.category]) ?_
  show eb_go G yX10_restore cX10_restore 2 (some .int) (2) 0 0 .ireturn (fun r : Int32 => [.int r]) 0 [(0, .ref v0)] [] s 0 0 _
  unfold f_X10_restore
  refine eb_aload_n (pc := 0) 0 dX10_restore_0 rfl rfl ?_
  refine eb_getI (pc := 1) ef_RX10_289 dX10_restore_1 (fun x1 => ?_)
  refine eb_if_ne (pc := 4) (tgt := 10) dX10_restore_4 (by decide) ?_ ?_
  · refine eb_aload_n (pc := 10) 0 dX10_restore_10 rfl rfl ?_
    refine eb_aload_n (pc := 11) 0 dX10_restore_11 rfl rfl ?_
    refine eb_getR (pc := 12) ef_RX10_76 dX10_restore_12 (fun r2 => ?_)
    refine eb_iconst (pc := 15) (v := 0) dX10_restore_15 (by decide) ?_
    refine eb_iaload (pc := 16) dX10_restore_16 (fun x3 => ?_)
    refine eb_putI (pc := 17) ef_RX10_98 eg_RX10_98 dX10_restore_17 (fun s4 => ?_)
    refine eb_aload_n (pc := 20) 0 dX10_restore_20 rfl rfl ?_
    refine eb_aload_n (pc := 21) 0 dX10_restore_21 rfl rfl ?_
    refine eb_getR (pc := 22) ef_RX10_76 dX10_restore_22 (fun r5 => ?_)
    refine eb_iconst (pc := 25) (v := 1) dX10_restore_25 (by decide) ?_
    refine eb_iaload (pc := 26) dX10_restore_26 (fun x6 => ?_)
    refine eb_putI (pc := 27) ef_RX10_106 eg_RX10_106 dX10_restore_27 (fun s7 => ?_)
    refine eb_aload_n (pc := 30) 0 dX10_restore_30 rfl rfl ?_
    refine eb_aload_n (pc := 31) 0 dX10_restore_31 rfl rfl ?_
    refine eb_getR (pc := 32) ef_RX10_76 dX10_restore_32 (fun r8 => ?_)
    refine eb_iconst (pc := 35) (v := 2) dX10_restore_35 (by decide) ?_
    refine eb_iaload (pc := 36) dX10_restore_36 (fun x9 => ?_)
    refine eb_putI (pc := 37) ef_RX10_152 eg_RX10_152 dX10_restore_37 (fun s10 => ?_)
    refine eb_aload_n (pc := 40) 0 dX10_restore_40 rfl rfl ?_
    refine eb_aload_n (pc := 41) 0 dX10_restore_41 rfl rfl ?_
    refine eb_getR (pc := 42) ef_RX10_76 dX10_restore_42 (fun r11 => ?_)
    refine eb_iconst (pc := 45) (v := 3) dX10_restore_45 (by decide) ?_
    refine eb_iaload (pc := 46) dX10_restore_46 (fun x12 => ?_)
    refine eb_putI (pc := 47) ef_RX10_119 eg_RX10_119 dX10_restore_47 (fun s13 => ?_)
    refine eb_aload_n (pc := 50) 0 dX10_restore_50 rfl rfl ?_
    refine eb_iconst (pc := 51) (v := 4) dX10_restore_51 (by decide) ?_
    refine eb_aload_n (pc := 52) 0 dX10_restore_52 rfl rfl ?_
    refine eb_getR (pc := 53) ef_RX10_7 dX10_restore_53 (fun r14 => ?_)
    refine eb_calli (pc := 56) (eb_runV (pc := 56) (As := [.int 4, .ref r14]) (rest := []) (ci := 9) (q0 := (RX10, TX10, 43)) (q := (RX10, TX10, 43)) ew_830 ew_831 ew_832 ew_666 rfl rfl ed_X10_givesBack (ct_X10_givesBack hG n _ _ _ _) rfl ew_833 ⟨by decide, by decide⟩ (by decide) (by decide) (Nat.le_of_ble_eq_true rfl) rfl dX10_restore_56) (fun x16 s15 => ?_)
    refine eb_istore_n (pc := 59) (L' := [(1, .int x16), (0, .ref v0)]) dX10_restore_59 rfl (by decide) rfl ?_
    refine eb_aload_n (pc := 60) 1 dX10_restore_60 rfl rfl ?_
    refine eb_iload_n (pc := 61) 0 dX10_restore_61 rfl rfl ?_
    refine eb_aload_n (pc := 62) 1 dX10_restore_62 rfl rfl ?_
    refine eb_getR (pc := 63) ef_RX10_13 dX10_restore_63 (fun r17 => ?_)
    refine eb_calli (pc := 66) (eb_runV (pc := 66) (As := [.int x16, .ref r17]) (rest := []) (ci := 9) (q0 := (RX10, TX10, 43)) (q := (RX10, TX10, 43)) ew_830 ew_831 ew_832 ew_666 rfl rfl ed_X10_givesBack (ct_X10_givesBack hG n _ _ _ _) rfl ew_833 ⟨by decide, by decide⟩ (by decide) (by decide) (Nat.le_of_ble_eq_true rfl) rfl dX10_restore_66) (fun x19 s18 => ?_)
    refine eb_istore_n (pc := 69) (L' := [(1, .int x19), (0, .ref v0)]) dX10_restore_69 rfl (by decide) rfl ?_
    refine eb_aload_n (pc := 70) 1 dX10_restore_70 rfl rfl ?_
    refine eb_iload_n (pc := 71) 0 dX10_restore_71 rfl rfl ?_
    refine eb_aload_n (pc := 72) 1 dX10_restore_72 rfl rfl ?_
    refine eb_getR (pc := 73) ef_RX10_16 dX10_restore_73 (fun r20 => ?_)
    refine eb_calli (pc := 76) (eb_runV (pc := 76) (As := [.int x19, .ref r20]) (rest := []) (ci := 9) (q0 := (RX10, TX10, 43)) (q := (RX10, TX10, 43)) ew_830 ew_831 ew_832 ew_666 rfl rfl ed_X10_givesBack (ct_X10_givesBack hG n _ _ _ _) rfl ew_833 ⟨by decide, by decide⟩ (by decide) (by decide) (Nat.le_of_ble_eq_true rfl) rfl dX10_restore_76) (fun x22 s21 => ?_)
    refine eb_istore_n (pc := 79) (L' := [(1, .int x22), (0, .ref v0)]) dX10_restore_79 rfl (by decide) rfl ?_
    refine eb_aload_n (pc := 80) 1 dX10_restore_80 rfl rfl ?_
    refine eb_iload_n (pc := 81) 0 dX10_restore_81 rfl rfl ?_
    refine eb_aload_n (pc := 82) 1 dX10_restore_82 rfl rfl ?_
    refine eb_getR (pc := 83) ef_RX10_19 dX10_restore_83 (fun r23 => ?_)
    refine eb_calli (pc := 86) (eb_runV (pc := 86) (As := [.int x22, .ref r23]) (rest := []) (ci := 9) (q0 := (RX10, TX10, 43)) (q := (RX10, TX10, 43)) ew_830 ew_831 ew_832 ew_666 rfl rfl ed_X10_givesBack (ct_X10_givesBack hG n _ _ _ _) rfl ew_833 ⟨by decide, by decide⟩ (by decide) (by decide) (Nat.le_of_ble_eq_true rfl) rfl dX10_restore_86) (fun x25 s24 => ?_)
    refine eb_istore_n (pc := 89) (L' := [(1, .int x25), (0, .ref v0)]) dX10_restore_89 rfl (by decide) rfl ?_
    refine eb_aload_n (pc := 90) 1 dX10_restore_90 rfl rfl ?_
    refine eb_iload_n (pc := 91) 0 dX10_restore_91 rfl rfl ?_
    refine eb_aload_n (pc := 92) 1 dX10_restore_92 rfl rfl ?_
    refine eb_getR (pc := 93) ef_RX10_22 dX10_restore_93 (fun r26 => ?_)
    refine eb_calli (pc := 96) (eb_runV (pc := 96) (As := [.int x25, .ref r26]) (rest := []) (ci := 9) (q0 := (RX10, TX10, 43)) (q := (RX10, TX10, 43)) ew_830 ew_831 ew_832 ew_666 rfl rfl ed_X10_givesBack (ct_X10_givesBack hG n _ _ _ _) rfl ew_833 ⟨by decide, by decide⟩ (by decide) (by decide) (Nat.le_of_ble_eq_true rfl) rfl dX10_restore_96) (fun x28 s27 => ?_)
    refine eb_istore_n (pc := 99) (L' := [(1, .int x28), (0, .ref v0)]) dX10_restore_99 rfl (by decide) rfl ?_
    refine eb_aload_n (pc := 100) 1 dX10_restore_100 rfl rfl ?_
    refine eb_iload_n (pc := 101) 0 dX10_restore_101 rfl rfl ?_
    refine eb_aload_n (pc := 102) 1 dX10_restore_102 rfl rfl ?_
    refine eb_getR (pc := 103) ef_RX10_25 dX10_restore_103 (fun r29 => ?_)
    refine eb_calli (pc := 106) (eb_runV (pc := 106) (As := [.int x28, .ref r29]) (rest := []) (ci := 9) (q0 := (RX10, TX10, 43)) (q := (RX10, TX10, 43)) ew_830 ew_831 ew_832 ew_666 rfl rfl ed_X10_givesBack (ct_X10_givesBack hG n _ _ _ _) rfl ew_833 ⟨by decide, by decide⟩ (by decide) (by decide) (Nat.le_of_ble_eq_true rfl) rfl dX10_restore_106) (fun x31 s30 => ?_)
    refine eb_istore_n (pc := 109) (L' := [(1, .int x31), (0, .ref v0)]) dX10_restore_109 rfl (by decide) rfl ?_
    refine eb_aload_n (pc := 110) 1 dX10_restore_110 rfl rfl ?_
    refine eb_iload_n (pc := 111) 0 dX10_restore_111 rfl rfl ?_
    refine eb_aload_n (pc := 112) 1 dX10_restore_112 rfl rfl ?_
    refine eb_getR (pc := 113) ef_RX10_28 dX10_restore_113 (fun r32 => ?_)
    refine eb_calli (pc := 116) (eb_runV (pc := 116) (As := [.int x31, .ref r32]) (rest := []) (ci := 9) (q0 := (RX10, TX10, 43)) (q := (RX10, TX10, 43)) ew_830 ew_831 ew_832 ew_666 rfl rfl ed_X10_givesBack (ct_X10_givesBack hG n _ _ _ _) rfl ew_833 ⟨by decide, by decide⟩ (by decide) (by decide) (Nat.le_of_ble_eq_true rfl) rfl dX10_restore_116) (fun x34 s33 => ?_)
    refine eb_istore_n (pc := 119) (L' := [(1, .int x34), (0, .ref v0)]) dX10_restore_119 rfl (by decide) rfl ?_
    refine eb_aload_n (pc := 120) 1 dX10_restore_120 rfl rfl ?_
    refine eb_iload_n (pc := 121) 0 dX10_restore_121 rfl rfl ?_
    refine eb_aload_n (pc := 122) 1 dX10_restore_122 rfl rfl ?_
    refine eb_getR (pc := 123) ef_RX10_31 dX10_restore_123 (fun r35 => ?_)
    refine eb_calli (pc := 126) (eb_runV (pc := 126) (As := [.int x34, .ref r35]) (rest := []) (ci := 9) (q0 := (RX10, TX10, 43)) (q := (RX10, TX10, 43)) ew_830 ew_831 ew_832 ew_666 rfl rfl ed_X10_givesBack (ct_X10_givesBack hG n _ _ _ _) rfl ew_833 ⟨by decide, by decide⟩ (by decide) (by decide) (Nat.le_of_ble_eq_true rfl) rfl dX10_restore_126) (fun x37 s36 => ?_)
    refine eb_istore_n (pc := 129) (L' := [(1, .int x37), (0, .ref v0)]) dX10_restore_129 rfl (by decide) rfl ?_
    refine eb_aload_n (pc := 130) 1 dX10_restore_130 rfl rfl ?_
    refine eb_iload_n (pc := 131) 0 dX10_restore_131 rfl rfl ?_
    refine eb_aload_n (pc := 132) 1 dX10_restore_132 rfl rfl ?_
    refine eb_getR (pc := 133) ef_RX10_34 dX10_restore_133 (fun r38 => ?_)
    refine eb_calli (pc := 136) (eb_runV (pc := 136) (As := [.int x37, .ref r38]) (rest := []) (ci := 9) (q0 := (RX10, TX10, 43)) (q := (RX10, TX10, 43)) ew_830 ew_831 ew_832 ew_666 rfl rfl ed_X10_givesBack (ct_X10_givesBack hG n _ _ _ _) rfl ew_833 ⟨by decide, by decide⟩ (by decide) (by decide) (Nat.le_of_ble_eq_true rfl) rfl dX10_restore_136) (fun x40 s39 => ?_)
    refine eb_istore_n (pc := 139) (L' := [(1, .int x40), (0, .ref v0)]) dX10_restore_139 rfl (by decide) rfl ?_
    refine eb_aload_n (pc := 140) 1 dX10_restore_140 rfl rfl ?_
    refine eb_iload_n (pc := 141) 0 dX10_restore_141 rfl rfl ?_
    refine eb_aload_n (pc := 142) 1 dX10_restore_142 rfl rfl ?_
    refine eb_getR (pc := 143) ef_RX10_37 dX10_restore_143 (fun r41 => ?_)
    refine eb_calli (pc := 146) (eb_runV (pc := 146) (As := [.int x40, .ref r41]) (rest := []) (ci := 9) (q0 := (RX10, TX10, 43)) (q := (RX10, TX10, 43)) ew_830 ew_831 ew_832 ew_666 rfl rfl ed_X10_givesBack (ct_X10_givesBack hG n _ _ _ _) rfl ew_833 ⟨by decide, by decide⟩ (by decide) (by decide) (Nat.le_of_ble_eq_true rfl) rfl dX10_restore_146) (fun x43 s42 => ?_)
    refine eb_istore_n (pc := 149) (L' := [(1, .int x43), (0, .ref v0)]) dX10_restore_149 rfl (by decide) rfl ?_
    refine eb_aload_n (pc := 150) 1 dX10_restore_150 rfl rfl ?_
    refine eb_iload_n (pc := 151) 0 dX10_restore_151 rfl rfl ?_
    refine eb_aload_n (pc := 152) 1 dX10_restore_152 rfl rfl ?_
    refine eb_getR (pc := 153) ef_RX10_40 dX10_restore_153 (fun r44 => ?_)
    refine eb_calli (pc := 156) (eb_runV (pc := 156) (As := [.int x43, .ref r44]) (rest := []) (ci := 9) (q0 := (RX10, TX10, 43)) (q := (RX10, TX10, 43)) ew_830 ew_831 ew_832 ew_666 rfl rfl ed_X10_givesBack (ct_X10_givesBack hG n _ _ _ _) rfl ew_833 ⟨by decide, by decide⟩ (by decide) (by decide) (Nat.le_of_ble_eq_true rfl) rfl dX10_restore_156) (fun x46 s45 => ?_)
    refine eb_pop (pc := 159) dX10_restore_159 rfl ?_
    refine eb_aload_n (pc := 160) 1 dX10_restore_160 rfl rfl ?_
    refine eb_iload_n (pc := 161) 0 dX10_restore_161 rfl rfl ?_
    refine eb_bipush (pc := 162) (v := 8) dX10_restore_162 (by decide) ?_
    refine eb_iadd (pc := 164) dX10_restore_164 ?_
    refine eb_aload_n (pc := 165) 1 dX10_restore_165 rfl rfl ?_
    refine eb_getR (pc := 166) ef_RX10_43 dX10_restore_166 (fun r47 => ?_)
    refine eb_calli (pc := 169) (eb_runV (pc := 169) (As := [.int (x43 + 8), .ref r47]) (rest := []) (ci := 9) (q0 := (RX10, TX10, 43)) (q := (RX10, TX10, 43)) ew_830 ew_831 ew_832 ew_666 rfl rfl ed_X10_givesBack (ct_X10_givesBack hG n _ _ _ _) rfl ew_833 ⟨by decide, by decide⟩ (by decide) (by decide) (Nat.le_of_ble_eq_true rfl) rfl dX10_restore_169) (fun x49 s48 => ?_)
    refine eb_pop (pc := 172) dX10_restore_172 rfl ?_
    refine eb_aload_n (pc := 173) 1 dX10_restore_173 rfl rfl ?_
    refine eb_iload_n (pc := 174) 0 dX10_restore_174 rfl rfl ?_
    refine eb_bipush (pc := 175) (v := 16) dX10_restore_175 (by decide) ?_
    refine eb_iadd (pc := 177) dX10_restore_177 ?_
    refine eb_aload_n (pc := 178) 1 dX10_restore_178 rfl rfl ?_
    refine eb_getR (pc := 179) ef_RX10_46 dX10_restore_179 (fun r50 => ?_)
    refine eb_calli (pc := 182) (eb_runV (pc := 182) (As := [.int (x43 + 16), .ref r50]) (rest := []) (ci := 9) (q0 := (RX10, TX10, 43)) (q := (RX10, TX10, 43)) ew_830 ew_831 ew_832 ew_666 rfl rfl ed_X10_givesBack (ct_X10_givesBack hG n _ _ _ _) rfl ew_833 ⟨by decide, by decide⟩ (by decide) (by decide) (Nat.le_of_ble_eq_true rfl) rfl dX10_restore_182) (fun x52 s51 => ?_)
    refine eb_pop (pc := 185) dX10_restore_185 rfl ?_
    refine eb_aload_n (pc := 186) 1 dX10_restore_186 rfl rfl ?_
    refine eb_bipush (pc := 187) (v := 98) dX10_restore_187 (by decide) ?_
    refine eb_aload_n (pc := 189) 1 dX10_restore_189 rfl rfl ?_
    refine eb_getR (pc := 190) ef_RX10_49 dX10_restore_190 (fun r53 => ?_)
    refine eb_calli (pc := 193) (eb_runV (pc := 193) (As := [.int 98, .ref r53]) (rest := []) (ci := 9) (q0 := (RX10, TX10, 43)) (q := (RX10, TX10, 43)) ew_830 ew_831 ew_832 ew_666 rfl rfl ed_X10_givesBack (ct_X10_givesBack hG n _ _ _ _) rfl ew_833 ⟨by decide, by decide⟩ (by decide) (by decide) (Nat.le_of_ble_eq_true rfl) rfl dX10_restore_193) (fun x55 s54 => ?_)
    refine eb_pop (pc := 196) dX10_restore_196 rfl ?_
    refine eb_aload_n (pc := 197) 1 dX10_restore_197 rfl rfl ?_
    refine eb_bipush (pc := 198) (v := 104) dX10_restore_198 (by decide) ?_
    refine eb_aload_n (pc := 200) 1 dX10_restore_200 rfl rfl ?_
    refine eb_getR (pc := 201) ef_RX10_52 dX10_restore_201 (fun r56 => ?_)
    refine eb_calli (pc := 204) (eb_runV (pc := 204) (As := [.int 104, .ref r56]) (rest := []) (ci := 9) (q0 := (RX10, TX10, 43)) (q := (RX10, TX10, 43)) ew_830 ew_831 ew_832 ew_666 rfl rfl ed_X10_givesBack (ct_X10_givesBack hG n _ _ _ _) rfl ew_833 ⟨by decide, by decide⟩ (by decide) (by decide) (Nat.le_of_ble_eq_true rfl) rfl dX10_restore_204) (fun x58 s57 => ?_)
    refine eb_pop (pc := 207) dX10_restore_207 rfl ?_
    refine eb_iconst (pc := 208) (v := 1) dX10_restore_208 (by decide) ?_
    exact eb_iret (pc := 209) dX10_restore_209 (by decide) (by decide)
  · refine eb_bipush (pc := 7) (v := (-4)) dX10_restore_7 (by decide) ?_
    exact eb_iret (pc := 9) dX10_restore_9 (by decide) (by decide)

def f_X10_isSheet (v0 : Int32) (s : eb_S) : Option (Bool × eb_S) := eb_cl (f_X10_in ((v0).toInt64) 0 3 s) fun b2 s1 => some (b2, s1)
set_option maxRecDepth 100000 in
theorem ct_X10_isSheet {G : eb_G} (hG : eb_ok G) (v0 : Int32) (s : eb_S) : eb_ct G yX10_isSheet cX10_isSheet 1 (some .boolean) 2 0 0 eb_eb [.int v0] s (f_X10_isSheet v0 s) := by
  refine eb_ct_b (by decide) (Nat.le_of_ble_eq_true rfl) (fun v hv => by simp at hv; rcases hv with rfl <;> simp [Value.category]) ?_
  show eb_go G yX10_isSheet cX10_isSheet 1 (some .boolean) (2) 0 0 .ireturn (fun r : Bool => [.int (eb_b r)]) 0 [(0, .int v0)] [] s 0 0 _
  unfold f_X10_isSheet
  refine eb_iload_n (pc := 0) 0 dX10_isSheet_0 rfl rfl ?_
  refine eb_i2l (pc := 1) dX10_isSheet_1 ?_
  refine eb_lconst (pc := 2) (v := 0) dX10_isSheet_2 (by decide) ?_
  refine eb_ldc2 (pc := 3) (v := 3) dX10_isSheet_3 ew_675 ?_
  refine eb_callb (pc := 6) (eb_runS (pc := 6) (As := [.long ((v0).toInt64), .long 0, .long 3]) (rest := []) ew_664 ew_665 ew_666 rfl ed_X10_in (ct_X10_in hG _ _ _ _) ew_667 ⟨by decide, by decide⟩ (by decide) (by decide) (Nat.le_of_ble_eq_true rfl) rfl dX10_isSheet_6) (fun b2 s1 => ?_)
  exact eb_bret (pc := 9) dX10_isSheet_9 (by decide) (by decide)

def f_X10_isLane (v0 : Int32) (s : eb_S) : Option (Bool × eb_S) := eb_cl (f_X10_in ((v0).toInt64) 0 3 s) fun b2 s1 => some (b2, s1)
set_option maxRecDepth 100000 in
theorem ct_X10_isLane {G : eb_G} (hG : eb_ok G) (v0 : Int32) (s : eb_S) : eb_ct G yX10_isLane cX10_isLane 1 (some .boolean) 2 0 0 eb_eb [.int v0] s (f_X10_isLane v0 s) := by
  refine eb_ct_b (by decide) (Nat.le_of_ble_eq_true rfl) (fun v hv => by simp at hv; rcases hv with rfl <;> simp [Value.category]) ?_
  show eb_go G yX10_isLane cX10_isLane 1 (some .boolean) (2) 0 0 .ireturn (fun r : Bool => [.int (eb_b r)]) 0 [(0, .int v0)] [] s 0 0 _
  unfold f_X10_isLane
  refine eb_iload_n (pc := 0) 0 dX10_isLane_0 rfl rfl ?_
  refine eb_i2l (pc := 1) dX10_isLane_1 ?_
  refine eb_lconst (pc := 2) (v := 0) dX10_isLane_2 (by decide) ?_
  refine eb_ldc2 (pc := 3) (v := 3) dX10_isLane_3 ew_675 ?_
  refine eb_callb (pc := 6) (eb_runS (pc := 6) (As := [.long ((v0).toInt64), .long 0, .long 3]) (rest := []) ew_664 ew_665 ew_666 rfl ed_X10_in (ct_X10_in hG _ _ _ _) ew_667 ⟨by decide, by decide⟩ (by decide) (by decide) (Nat.le_of_ble_eq_true rfl) rfl dX10_isLane_6) (fun b2 s1 => ?_)
  exact eb_bret (pc := 9) dX10_isLane_9 (by decide) (by decide)

def f_X10_why (v0 : Nat) (v1 : Int32) (v2 : Int32) (v3 : Int32) (v4 : Int32) (s : eb_S) : Option (Int32 × eb_S) := eb_gR s [9] v0 37 fun r1 => eb_ai s r1 v1 fun x2 => if 0 ≤ x2 then (eb_gR s [9] v0 37 fun r3 => eb_ai s r3 v1 fun x4 => if x4 = v2 then (if v3 < 0 then (some ((-13), s)) else (eb_gR s [9] v0 38 fun r5 => eb_ai s r5 v1 fun x6 => if (lg_cmp (((v3).toInt64) + ((v4).toInt64)) ((x6).toInt64)) ≤ 0 then (some (0, s)) else (some ((-13), s)))) else (some ((-12), s))) else (some ((-11), s))
set_option maxRecDepth 100000 in
theorem ct_X10_why {G : eb_G} (hG : eb_ok G) (v0 : Nat) (v1 : Int32) (v2 : Int32) (v3 : Int32) (v4 : Int32) (s : eb_S) : eb_ct G yX10_why cX10_why 5 (some .int) 1 0 0 eb_ei [.ref v0, .int v1, .int v2, .int v3, .int v4] s (f_X10_why v0 v1 v2 v3 v4 s) := by
  refine eb_ct_i (by decide) (Nat.le_of_ble_eq_true rfl) (fun v hv => by simp at hv; rcases hv with rfl | rfl | rfl | rfl | rfl <;> simp [Value.category]) ?_
  show eb_go G yX10_why cX10_why 5 (some .int) (1) 0 0 .ireturn (fun r : Int32 => [.int r]) 0 [(0, .ref v0), (1, .int v1), (2, .int v2), (3, .int v3), (4, .int v4)] [] s 0 0 _
  unfold f_X10_why
  refine eb_aload_n (pc := 0) 0 dX10_why_0 rfl rfl ?_
  refine eb_getR (pc := 1) ef_RX10_79 dX10_why_1 (fun r1 => ?_)
  refine eb_iload_n (pc := 4) 1 dX10_why_4 rfl rfl ?_
  refine eb_iaload (pc := 5) dX10_why_5 (fun x2 => ?_)
  refine eb_if_ge (pc := 6) (tgt := 12) dX10_why_6 (by decide) ?_ ?_
  · refine eb_aload_n (pc := 12) 0 dX10_why_12 rfl rfl ?_
    refine eb_getR (pc := 13) ef_RX10_79 dX10_why_13 (fun r3 => ?_)
    refine eb_iload_n (pc := 16) 1 dX10_why_16 rfl rfl ?_
    refine eb_iaload (pc := 17) dX10_why_17 (fun x4 => ?_)
    refine eb_iload_n (pc := 18) 2 dX10_why_18 rfl rfl ?_
    refine eb_icmp_eq (pc := 19) (tgt := 25) dX10_why_19 (by decide) ?_ ?_
    · refine eb_iload_n (pc := 25) 3 dX10_why_25 rfl rfl ?_
      refine eb_if_lt (pc := 26) (tgt := 46) dX10_why_26 (by decide) ?_ ?_
      · refine eb_bipush (pc := 46) (v := (-13)) dX10_why_46 (by decide) ?_
        refine eb_goto (pc := 48) (tgt := 52) dX10_why_48 (by decide) ?_
        exact eb_iret (pc := 52) dX10_why_52 (by decide) (by decide)
      · refine eb_iload_n (pc := 29) 3 dX10_why_29 rfl rfl ?_
        refine eb_i2l (pc := 30) dX10_why_30 ?_
        refine eb_iload (pc := 31) 4 dX10_why_31 rfl ?_
        refine eb_i2l (pc := 33) dX10_why_33 ?_
        refine eb_ladd (pc := 34) dX10_why_34 ?_
        refine eb_aload_n (pc := 35) 0 dX10_why_35 rfl rfl ?_
        refine eb_getR (pc := 36) ef_RX10_82 dX10_why_36 (fun r5 => ?_)
        refine eb_iload_n (pc := 39) 1 dX10_why_39 rfl rfl ?_
        refine eb_iaload (pc := 40) dX10_why_40 (fun x6 => ?_)
        refine eb_i2l (pc := 41) dX10_why_41 ?_
        refine eb_lcmp (pc := 42) dX10_why_42 ?_
        refine eb_if_le (pc := 43) (tgt := 51) dX10_why_43 (by decide) ?_ ?_
        · refine eb_iconst (pc := 51) (v := 0) dX10_why_51 (by decide) ?_
          exact eb_iret (pc := 52) dX10_why_52 (by decide) (by decide)
        · refine eb_bipush (pc := 46) (v := (-13)) dX10_why_46 (by decide) ?_
          refine eb_goto (pc := 48) (tgt := 52) dX10_why_48 (by decide) ?_
          exact eb_iret (pc := 52) dX10_why_52 (by decide) (by decide)
    · refine eb_bipush (pc := 22) (v := (-12)) dX10_why_22 (by decide) ?_
      exact eb_iret (pc := 24) dX10_why_24 (by decide) (by decide)
  · refine eb_bipush (pc := 9) (v := (-11)) dX10_why_9 (by decide) ?_
    exact eb_iret (pc := 11) dX10_why_11 (by decide) (by decide)

def f_X10_across (v0 : Int32) (s : eb_S) : Option (Int32 × eb_S) := eb_jn (fun (y1 : Int32) (s2 : eb_S) => if v0 ≤ 4 then (some (y1, s2)) else (some (-y1, s2))) fun j3 => eb_jn (fun (s4 : eb_S) => j3 3 s4) fun j5 => if v0 = 2 then (j5 s) else (if v0 = 6 then (j5 s) else (if (4 : Int32) = 0 then none else if (v0 - v0 / 4 * 4) = 0 then (j3 0 s) else (j3 2 s)))
set_option maxRecDepth 100000 in
theorem ct_X10_across {G : eb_G} (hG : eb_ok G) (v0 : Int32) (s : eb_S) : eb_ct G yX10_across cX10_across 2 (some .int) 1 0 0 eb_ei [.int v0] s (f_X10_across v0 s) := by
  refine eb_ct_i (by decide) (Nat.le_of_ble_eq_true rfl) (fun v hv => by simp at hv; rcases hv with rfl <;> simp [Value.category]) ?_
  show eb_go G yX10_across cX10_across 2 (some .int) (1) 0 0 .ireturn (fun r : Int32 => [.int r]) 0 [(0, .int v0)] [] s 0 0 _
  unfold f_X10_across
  refine eb_iload_n (pc := 0) 0 dX10_across_0 rfl rfl ?_
  refine eb_iconst (pc := 1) (v := 2) dX10_across_1 (by decide) ?_
  refine eb_join (fun j3 : Int32 → eb_S → Option (Int32 × eb_S) => ∀ (y1 : Int32) (s2 : eb_S), eb_go G yX10_across cX10_across 2 (some .int) (1) 0 0 .ireturn (fun r : Int32 => [.int r]) 26 [(0, .int v0)] [.int y1] s2 0 0 (j3 y1 s2)) ?_ (fun j3 hj3 => ?_)
  · intro y1 s2
    refine eb_istore_n (pc := 26) (L' := [(1, .int y1), (0, .int v0)]) dX10_across_26 rfl (by decide) rfl ?_
    refine eb_iload_n (pc := 27) 1 dX10_across_27 rfl rfl ?_
    refine eb_iconst (pc := 28) (v := 4) dX10_across_28 (by decide) ?_
    refine eb_icmp_le (pc := 29) (tgt := 37) dX10_across_29 (by decide) ?_ ?_
    · refine eb_iload_n (pc := 37) 0 dX10_across_37 rfl rfl ?_
      exact eb_iret (pc := 38) dX10_across_38 (by decide) (by decide)
    · refine eb_iload_n (pc := 32) 0 dX10_across_32 rfl rfl ?_
      refine eb_ineg (pc := 33) dX10_across_33 ?_
      refine eb_goto (pc := 34) (tgt := 38) dX10_across_34 (by decide) ?_
      exact eb_iret (pc := 38) dX10_across_38 (by decide) (by decide)
  refine eb_join (fun j5 : eb_S → Option (Int32 × eb_S) => ∀  (s4 : eb_S), eb_go G yX10_across cX10_across 2 (some .int) (1) 0 0 .ireturn (fun r : Int32 => [.int r]) 11 [(0, .int v0)] [] s4 0 0 (j5  s4)) ?_ (fun j5 hj5 => ?_)
  · intro  s4
    refine eb_iconst (pc := 11) (v := 3) dX10_across_11 (by decide) ?_
    refine eb_goto (pc := 12) (tgt := 26) dX10_across_12 (by decide) ?_
    exact hj3 _ _
  refine eb_icmp_eq (pc := 2) (tgt := 11) dX10_across_2 (by decide) ?_ ?_
  · exact hj5 _
  · refine eb_iload_n (pc := 5) 0 dX10_across_5 rfl rfl ?_
    refine eb_bipush (pc := 6) (v := 6) dX10_across_6 (by decide) ?_
    refine eb_icmp_ne (pc := 8) (tgt := 15) dX10_across_8 (by decide) ?_ ?_
    · refine eb_iload_n (pc := 15) 0 dX10_across_15 rfl rfl ?_
      refine eb_iconst (pc := 16) (v := 4) dX10_across_16 (by decide) ?_
      refine eb_irem (pc := 17) dX10_across_17 ?_
      refine eb_if_ne (pc := 18) (tgt := 25) dX10_across_18 (by decide) ?_ ?_
      · refine eb_iconst (pc := 25) (v := 2) dX10_across_25 (by decide) ?_
        exact hj3 _ _
      · refine eb_iconst (pc := 21) (v := 0) dX10_across_21 (by decide) ?_
        refine eb_goto (pc := 22) (tgt := 26) dX10_across_22 (by decide) ?_
        exact hj3 _ _
    · exact hj5 _

def f_X10_isTipped_L8 (n : Nat) (v0 : Nat) (v1 : Int32) (v2 : Int32) (K : Int32 → Int32 → eb_S → Option (Bool × eb_S)) : Nat → Int32 → Int32 → Int32 → eb_S → Option (Bool × eb_S)
  | 0, _, _, _, _ => none
  | m + 1, v3, v4, v5, s => if 8 ≤ v5 then (K v3 v4 s) else (eb_jn (fun (p1 : Int32) (p2 : Int32) (p3 : Int32) (s4 : eb_S) => f_X10_isTipped_L8 n v0 v1 v2 K m p1 p2 (p3 + 1) s4) fun j5 => if ((v1 >>> (v5 &&& 31)) &&& 1) = 1 then (eb_gR s [9] v0 41 fun r6 => eb_ai s r6 v5 fun x7 => eb_cl (f_X10_across v5 s) fun x9 s8 => eb_gR s8 [9] v0 41 fun r10 => eb_ai s8 r10 v5 fun x11 => if (8 : Int32) = 0 then none else eb_cl (f_X10_across ((v5 + 2) - (v5 + 2) / 8 * 8) s8) fun x13 s12 => j5 (v3 + (x7 * x9)) (v4 + (x11 * x13)) v5 s12) else (j5 v3 v4 v5 s))
def f_X10_isTipped (n : Nat) (v0 : Nat) (v1 : Int32) (v2 : Int32) (s : eb_S) : Option (Bool × eb_S) := f_X10_isTipped_L8 n v0 v1 v2 (fun (w14 : Int32) (w15 : Int32) (s16 : eb_S) => eb_cl (eb_tg s16 v0 9 (f_X10_plain v0 w14 s16)) fun x18 s17 => if v2 < x18 then (some (true, s17)) else (eb_cl (eb_tg s17 v0 9 (f_X10_plain v0 w15 s17)) fun x20 s19 => if x20 ≤ v2 then (some (false, s19)) else (some (true, s19)))) n 0 0 0 s
set_option maxRecDepth 100000 in
theorem gl_X10_isTipped_L8 {G : eb_G} (hG : eb_ok G) {n : Nat} {v0 : Nat} {v1 : Int32} {v2 : Int32} {K : Int32 → Int32 → eb_S → Option (Bool × eb_S)} (hK : ∀ (v3 : Int32) (v4 : Int32) (s : eb_S), eb_go G yX10_isTipped cX10_isTipped 6 (some .boolean) (2) 0 0 .ireturn (fun r : Bool => [.int (eb_b r)]) 70 [(0, .ref v0), (2, .int v2), (3, .int v3), (4, .int v4)] [] s 0 0 (K v3 v4 s)) : ∀ (m : Nat) (v3 : Int32) (v4 : Int32) (v5 : Int32) (s : eb_S), eb_go G yX10_isTipped cX10_isTipped 6 (some .boolean) (2) 0 0 .ireturn (fun r : Bool => [.int (eb_b r)]) 8 [(0, .ref v0), (1, .int v1), (2, .int v2), (3, .int v3), (4, .int v4), (5, .int v5)] [] s 0 0 (f_X10_isTipped_L8 n v0 v1 v2 K m v3 v4 v5 s) := by
  intro m
  induction m with
  | zero => intro v3 v4 v5 s; exact eb_none
  | succ m ih =>
    intro v3 v4 v5 s
    rw [f_X10_isTipped_L8.eq_2]
    refine eb_iload (pc := 8) 5 dX10_isTipped_8 rfl ?_
    refine eb_bipush (pc := 10) (v := 8) dX10_isTipped_10 (by decide) ?_
    refine eb_icmp_ge (pc := 12) (tgt := 70) dX10_isTipped_12 (by decide) ?_ ?_
    · refine eb_sub [0, 2, 3, 4] rfl ?_
      exact hK _ _ _
    · refine eb_iload_n (pc := 15) 1 dX10_isTipped_15 rfl rfl ?_
      refine eb_iload (pc := 16) 5 dX10_isTipped_16 rfl ?_
      refine eb_ishr (pc := 18) dX10_isTipped_18 ?_
      refine eb_iconst (pc := 19) (v := 1) dX10_isTipped_19 (by decide) ?_
      refine eb_iand (pc := 20) dX10_isTipped_20 ?_
      refine eb_iconst (pc := 21) (v := 1) dX10_isTipped_21 (by decide) ?_
      refine eb_join (fun j5 : Int32 → Int32 → Int32 → eb_S → Option (Bool × eb_S) => ∀ (p1 : Int32) (p2 : Int32) (p3 : Int32) (s4 : eb_S), eb_go G yX10_isTipped cX10_isTipped 6 (some .boolean) (2) 0 0 .ireturn (fun r : Bool => [.int (eb_b r)]) 64 [(0, .ref v0), (1, .int v1), (2, .int v2), (3, .int p1), (4, .int p2), (5, .int p3)] [] s4 0 0 (j5 p1 p2 p3 s4)) ?_ (fun j5 hj5 => ?_)
      · intro p1 p2 p3 s4
        refine eb_iinc (pc := 64) (v := p3 + 1) (L' := [(5, .int (p3 + 1)), (0, .ref v0), (1, .int v1), (2, .int v2), (3, .int p1), (4, .int p2)]) 5 dX10_isTipped_64 rfl rfl (by decide) rfl ?_
        refine eb_goto (pc := 67) (tgt := 8) dX10_isTipped_67 (by decide) ?_
        refine eb_sub [1, 2, 3, 4, 5, 0] rfl ?_
        exact ih _ _ _ _
      refine eb_icmp_ne (pc := 22) (tgt := 64) dX10_isTipped_22 (by decide) ?_ ?_
      · exact hj5 _ _ _ _
      · refine eb_iload_n (pc := 25) 3 dX10_isTipped_25 rfl rfl ?_
        refine eb_aload_n (pc := 26) 0 dX10_isTipped_26 rfl rfl ?_
        refine eb_getR (pc := 27) ef_RX10_92 dX10_isTipped_27 (fun r6 => ?_)
        refine eb_iload (pc := 30) 5 dX10_isTipped_30 rfl ?_
        refine eb_iaload (pc := 32) dX10_isTipped_32 (fun x7 => ?_)
        refine eb_iload (pc := 33) 5 dX10_isTipped_33 rfl ?_
        refine eb_calli (pc := 35) (eb_runS (pc := 35) (As := [.int v5]) (rest := [.int x7, .int v3]) ew_834 ew_835 ew_666 rfl ed_X10_across (ct_X10_across hG _ _) ew_836 ⟨by decide, by decide⟩ (by decide) (by decide) (Nat.le_of_ble_eq_true rfl) rfl dX10_isTipped_35) (fun x9 s8 => ?_)
        refine eb_imul (pc := 38) dX10_isTipped_38 ?_
        refine eb_iadd (pc := 39) dX10_isTipped_39 ?_
        refine eb_istore_n (pc := 40) (L' := [(3, .int (v3 + (x7 * x9))), (0, .ref v0), (1, .int v1), (2, .int v2), (4, .int v4), (5, .int v5)]) dX10_isTipped_40 rfl (by decide) rfl ?_
        refine eb_iload (pc := 41) 4 dX10_isTipped_41 rfl ?_
        refine eb_aload_n (pc := 43) 1 dX10_isTipped_43 rfl rfl ?_
        refine eb_getR (pc := 44) ef_RX10_92 dX10_isTipped_44 (fun r10 => ?_)
        refine eb_iload (pc := 47) 5 dX10_isTipped_47 rfl ?_
        refine eb_iaload (pc := 49) dX10_isTipped_49 (fun x11 => ?_)
        refine eb_iload (pc := 50) 5 dX10_isTipped_50 rfl ?_
        refine eb_iconst (pc := 52) (v := 2) dX10_isTipped_52 (by decide) ?_
        refine eb_iadd (pc := 53) dX10_isTipped_53 ?_
        refine eb_bipush (pc := 54) (v := 8) dX10_isTipped_54 (by decide) ?_
        refine eb_irem (pc := 56) dX10_isTipped_56 ?_
        refine eb_calli (pc := 57) (eb_runS (pc := 57) (As := [.int ((v5 + 2) - (v5 + 2) / 8 * 8)]) (rest := [.int x11, .int v4]) ew_834 ew_835 ew_666 rfl ed_X10_across (ct_X10_across hG _ _) ew_836 ⟨by decide, by decide⟩ (by decide) (by decide) (Nat.le_of_ble_eq_true rfl) rfl dX10_isTipped_57) (fun x13 s12 => ?_)
        refine eb_imul (pc := 60) dX10_isTipped_60 ?_
        refine eb_iadd (pc := 61) dX10_isTipped_61 ?_
        refine eb_istore (pc := 62) (L' := [(4, .int (v4 + (x11 * x13))), (3, .int (v3 + (x7 * x9))), (0, .ref v0), (1, .int v1), (2, .int v2), (5, .int v5)]) dX10_isTipped_62 (by decide) rfl ?_
        refine eb_sub [2, 3, 4, 1, 0, 5] rfl ?_
        exact hj5 _ _ _ _
set_option maxRecDepth 100000 in
theorem ct_X10_isTipped {G : eb_G} (hG : eb_ok G) (n : Nat) (v0 : Nat) (v1 : Int32) (v2 : Int32) (s : eb_S) : eb_ct G yX10_isTipped cX10_isTipped 6 (some .boolean) 2 0 0 eb_eb [.ref v0, .int v1, .int v2] s (f_X10_isTipped n v0 v1 v2 s) := by
  refine eb_ct_b (by decide) (Nat.le_of_ble_eq_true rfl) (fun v hv => by simp at hv; rcases hv with rfl | rfl | rfl <;> simp [Value.category]) ?_
  show eb_go G yX10_isTipped cX10_isTipped 6 (some .boolean) (2) 0 0 .ireturn (fun r : Bool => [.int (eb_b r)]) 0 [(0, .ref v0), (1, .int v1), (2, .int v2)] [] s 0 0 _
  unfold f_X10_isTipped
  refine eb_iconst (pc := 0) (v := 0) dX10_isTipped_0 (by decide) ?_
  refine eb_istore_n (pc := 1) (L' := [(3, .int 0), (0, .ref v0), (1, .int v1), (2, .int v2)]) dX10_isTipped_1 rfl (by decide) rfl ?_
  refine eb_iconst (pc := 2) (v := 0) dX10_isTipped_2 (by decide) ?_
  refine eb_istore (pc := 3) (L' := [(4, .int 0), (3, .int 0), (0, .ref v0), (1, .int v1), (2, .int v2)]) dX10_isTipped_3 (by decide) rfl ?_
  refine eb_iconst (pc := 5) (v := 0) dX10_isTipped_5 (by decide) ?_
  refine eb_istore (pc := 6) (L' := [(5, .int 0), (4, .int 0), (3, .int 0), (0, .ref v0), (1, .int v1), (2, .int v2)]) dX10_isTipped_6 (by decide) rfl ?_
  refine eb_sub [3, 4, 5, 2, 1, 0] rfl ?_
  refine gl_X10_isTipped_L8 hG (fun w14 w15 s16 => ?_) n _ _ _ _
  refine eb_aload_n (pc := 70) 0 dX10_isTipped_70 rfl rfl ?_
  refine eb_iload_n (pc := 71) 2 dX10_isTipped_71 rfl rfl ?_
  refine eb_calli (pc := 72) (eb_runV (pc := 72) (As := [.int w14]) (rest := []) (ci := 9) (q0 := (RX10, TX10, 43)) (q := (RX10, TX10, 43)) ew_764 ew_765 ew_766 ew_666 rfl rfl ed_X10_plain (ct_X10_plain hG _ _ _) rfl ew_767 ⟨by decide, by decide⟩ (by decide) (by decide) (Nat.le_of_ble_eq_true rfl) rfl dX10_isTipped_72) (fun x18 s17 => ?_)
  refine eb_iload_n (pc := 75) 1 dX10_isTipped_75 rfl rfl ?_
  refine eb_icmp_gt (pc := 76) (tgt := 89) dX10_isTipped_76 (by decide) ?_ ?_
  · refine eb_iconst (pc := 89) (v := 1) dX10_isTipped_89 (by decide) ?_
    refine eb_goto (pc := 90) (tgt := 94) dX10_isTipped_90 (by decide) ?_
    exact eb_bret (pc := 94) (b := true) dX10_isTipped_94 (by decide) (by decide)
  · refine eb_aload_n (pc := 79) 0 dX10_isTipped_79 rfl rfl ?_
    refine eb_iload (pc := 80) 3 dX10_isTipped_80 rfl ?_
    refine eb_calli (pc := 82) (eb_runV (pc := 82) (As := [.int w15]) (rest := []) (ci := 9) (q0 := (RX10, TX10, 43)) (q := (RX10, TX10, 43)) ew_764 ew_765 ew_766 ew_666 rfl rfl ed_X10_plain (ct_X10_plain hG _ _ _) rfl ew_767 ⟨by decide, by decide⟩ (by decide) (by decide) (Nat.le_of_ble_eq_true rfl) rfl dX10_isTipped_82) (fun x20 s19 => ?_)
    refine eb_iload_n (pc := 85) 1 dX10_isTipped_85 rfl rfl ?_
    refine eb_icmp_le (pc := 86) (tgt := 93) dX10_isTipped_86 (by decide) ?_ ?_
    · refine eb_iconst (pc := 93) (v := 0) dX10_isTipped_93 (by decide) ?_
      exact eb_bret (pc := 94) (b := false) dX10_isTipped_94 (by decide) (by decide)
    · refine eb_iconst (pc := 89) (v := 1) dX10_isTipped_89 (by decide) ?_
      refine eb_goto (pc := 90) (tgt := 94) dX10_isTipped_90 (by decide) ?_
      exact eb_bret (pc := 94) (b := true) dX10_isTipped_94 (by decide) (by decide)

def f_X10_ordersOf_L21 (n : Nat) (v0 : Nat) (v1 : Int32) (v2 : Int32) (v3 : Int32) (K : Int32 → eb_S → Option (Int32 × eb_S)) : Nat → Int32 → Int32 → eb_S → Option (Int32 × eb_S)
  | 0, _, _, _ => none
  | m + 1, v4, v5, s => if 8 ≤ v5 then (K v4 s) else (eb_jn (fun (y4 : Int32) (s5 : eb_S) => f_X10_ordersOf_L21 n v0 v1 v2 v3 K m (v4 + y4) (v5 + 1) s5) fun j6 => eb_jn (fun (s7 : eb_S) => j6 0 s7) fun j8 => if ((v3 >>> (v5 &&& 31)) &&& 1) = 1 then (if (v3 &&& (v1 ^^^ ((-1)))) = 0 then (eb_gR s [9] v0 42 fun r9 => eb_ai s r9 (v3 &&& (((1 : Int32) <<< (v5 &&& 31)) ^^^ ((-1)))) fun x10 => j6 x10 s) else (j8 s)) else (j8 s))
def f_X10_ordersOf_L2 (n : Nat) (v0 : Nat) (v1 : Int32) (v2 : Int32) (K : eb_S → Option (Int32 × eb_S)) : Nat → Int32 → eb_S → Option (Int32 × eb_S)
  | 0, _, _ => none
  | m + 1, v3, s => if v1 < v3 then (K s) else (eb_jn (fun (y1 : Int32) (s2 : eb_S) => f_X10_ordersOf_L21 n v0 v1 v2 v3 (fun (w11 : Int32) (s12 : eb_S) => eb_gR s12 [9] v0 42 fun r13 => eb_cl (eb_tg s12 v0 9 (f_X10_isTipped n v0 v3 v2 s12)) fun b15 s14 => eb_jn (fun (y16 : Int32) (s17 : eb_S) => eb_wi s17 r13 v3 y16 fun s19 => f_X10_ordersOf_L2 n v0 v1 v2 K m (v3 + 1) s19) fun j18 => if (eb_b b15) = 0 then (j18 w11 s14) else (j18 0 s14)) n y1 0 s2) fun j3 => if v3 = 0 then (j3 1 s) else (j3 0 s))
def f_X10_ordersOf (n : Nat) (v0 : Nat) (v1 : Int32) (v2 : Int32) (s : eb_S) : Option (Int32 × eb_S) := f_X10_ordersOf_L2 n v0 v1 v2 (fun  (s20 : eb_S) => eb_gR s20 [9] v0 42 fun r21 => eb_ai s20 r21 v1 fun x22 => some (x22, s20)) n 0 s
set_option maxRecDepth 100000 in
theorem gl_X10_ordersOf_L21 {G : eb_G} (hG : eb_ok G) {n : Nat} {v0 : Nat} {v1 : Int32} {v2 : Int32} {v3 : Int32} {K : Int32 → eb_S → Option (Int32 × eb_S)} (hK : ∀ (v4 : Int32) (s : eb_S), eb_go G yX10_ordersOf cX10_ordersOf 6 (some .int) (3) 0 0 .ireturn (fun r : Int32 => [.int r]) 74 [(0, .ref v0), (1, .int v1), (2, .int v2), (3, .int v3), (4, .int v4)] [] s 0 0 (K v4 s)) : ∀ (m : Nat) (v4 : Int32) (v5 : Int32) (s : eb_S), eb_go G yX10_ordersOf cX10_ordersOf 6 (some .int) (3) 0 0 .ireturn (fun r : Int32 => [.int r]) 21 [(0, .ref v0), (1, .int v1), (2, .int v2), (3, .int v3), (4, .int v4), (5, .int v5)] [] s 0 0 (f_X10_ordersOf_L21 n v0 v1 v2 v3 K m v4 v5 s) := by
  intro m
  induction m with
  | zero => intro v4 v5 s; exact eb_none
  | succ m ih =>
    intro v4 v5 s
    rw [f_X10_ordersOf_L21.eq_2]
    refine eb_iload (pc := 21) 5 dX10_ordersOf_21 rfl ?_
    refine eb_bipush (pc := 23) (v := 8) dX10_ordersOf_23 (by decide) ?_
    refine eb_icmp_ge (pc := 25) (tgt := 74) dX10_ordersOf_25 (by decide) ?_ ?_
    · refine eb_sub [0, 1, 2, 3, 4] rfl ?_
      exact hK _ _
    · refine eb_iload (pc := 28) 4 dX10_ordersOf_28 rfl ?_
      refine eb_iload_n (pc := 30) 3 dX10_ordersOf_30 rfl rfl ?_
      refine eb_iload (pc := 31) 5 dX10_ordersOf_31 rfl ?_
      refine eb_ishr (pc := 33) dX10_ordersOf_33 ?_
      refine eb_iconst (pc := 34) (v := 1) dX10_ordersOf_34 (by decide) ?_
      refine eb_iand (pc := 35) dX10_ordersOf_35 ?_
      refine eb_iconst (pc := 36) (v := 1) dX10_ordersOf_36 (by decide) ?_
      refine eb_join (fun j6 : Int32 → eb_S → Option (Int32 × eb_S) => ∀ (y4 : Int32) (s5 : eb_S), eb_go G yX10_ordersOf cX10_ordersOf 6 (some .int) (3) 0 0 .ireturn (fun r : Int32 => [.int r]) 65 [(0, .ref v0), (1, .int v1), (2, .int v2), (3, .int v3), (5, .int v5)] [.int y4, .int v4] s5 0 0 (j6 y4 s5)) ?_ (fun j6 hj6 => ?_)
      · intro y4 s5
        refine eb_iadd (pc := 65) dX10_ordersOf_65 ?_
        refine eb_istore (pc := 66) (L' := [(4, .int (v4 + y4)), (0, .ref v0), (1, .int v1), (2, .int v2), (3, .int v3), (5, .int v5)]) dX10_ordersOf_66 (by decide) rfl ?_
        refine eb_iinc (pc := 68) (v := v5 + 1) (L' := [(5, .int (v5 + 1)), (4, .int (v4 + y4)), (0, .ref v0), (1, .int v1), (2, .int v2), (3, .int v3)]) 5 dX10_ordersOf_68 rfl rfl (by decide) rfl ?_
        refine eb_goto (pc := 71) (tgt := 21) dX10_ordersOf_71 (by decide) ?_
        refine eb_sub [2, 3, 4, 5, 1, 0] rfl ?_
        exact ih _ _ _
      refine eb_join (fun j8 : eb_S → Option (Int32 × eb_S) => ∀  (s7 : eb_S), eb_go G yX10_ordersOf cX10_ordersOf 6 (some .int) (3) 0 0 .ireturn (fun r : Int32 => [.int r]) 64 [(0, .ref v0), (1, .int v1), (2, .int v2), (3, .int v3), (5, .int v5)] [.int v4] s7 0 0 (j8  s7)) ?_ (fun j8 hj8 => ?_)
      · intro  s7
        refine eb_iconst (pc := 64) (v := 0) dX10_ordersOf_64 (by decide) ?_
        exact hj6 _ _
      refine eb_icmp_ne (pc := 37) (tgt := 64) dX10_ordersOf_37 (by decide) ?_ ?_
      · refine eb_sub [0, 1, 2, 3, 5] rfl ?_
        exact hj8 _
      · refine eb_iload_n (pc := 40) 3 dX10_ordersOf_40 rfl rfl ?_
        refine eb_iload_n (pc := 41) 1 dX10_ordersOf_41 rfl rfl ?_
        refine eb_iconst (pc := 42) (v := (-1)) dX10_ordersOf_42 (by decide) ?_
        refine eb_ixor (pc := 43) dX10_ordersOf_43 ?_
        refine eb_iand (pc := 44) dX10_ordersOf_44 ?_
        refine eb_if_ne (pc := 45) (tgt := 64) dX10_ordersOf_45 (by decide) ?_ ?_
        · refine eb_sub [0, 1, 2, 3, 5] rfl ?_
          exact hj8 _
        · refine eb_aload_n (pc := 48) 0 dX10_ordersOf_48 rfl rfl ?_
          refine eb_getR (pc := 49) ef_RX10_95 dX10_ordersOf_49 (fun r9 => ?_)
          refine eb_iload_n (pc := 52) 3 dX10_ordersOf_52 rfl rfl ?_
          refine eb_iconst (pc := 53) (v := 1) dX10_ordersOf_53 (by decide) ?_
          refine eb_iload (pc := 54) 5 dX10_ordersOf_54 rfl ?_
          refine eb_ishl (pc := 56) dX10_ordersOf_56 ?_
          refine eb_iconst (pc := 57) (v := (-1)) dX10_ordersOf_57 (by decide) ?_
          refine eb_ixor (pc := 58) dX10_ordersOf_58 ?_
          refine eb_iand (pc := 59) dX10_ordersOf_59 ?_
          refine eb_iaload (pc := 60) dX10_ordersOf_60 (fun x10 => ?_)
          refine eb_goto (pc := 61) (tgt := 65) dX10_ordersOf_61 (by decide) ?_
          refine eb_sub [0, 1, 2, 3, 5] rfl ?_
          exact hj6 _ _
set_option maxRecDepth 100000 in
theorem gl_X10_ordersOf_L2 {G : eb_G} (hG : eb_ok G) {n : Nat} {v0 : Nat} {v1 : Int32} {v2 : Int32} {K : eb_S → Option (Int32 × eb_S)} (hK : ∀  (s : eb_S), eb_go G yX10_ordersOf cX10_ordersOf 6 (some .int) (3) 0 0 .ireturn (fun r : Int32 => [.int r]) 101 [(0, .ref v0), (1, .int v1)] [] s 0 0 (K  s)) : ∀ (m : Nat) (v3 : Int32) (s : eb_S), eb_go G yX10_ordersOf cX10_ordersOf 6 (some .int) (3) 0 0 .ireturn (fun r : Int32 => [.int r]) 2 [(0, .ref v0), (1, .int v1), (2, .int v2), (3, .int v3)] [] s 0 0 (f_X10_ordersOf_L2 n v0 v1 v2 K m v3 s) := by
  intro m
  induction m with
  | zero => intro v3 s; exact eb_none
  | succ m ih =>
    intro v3 s
    rw [f_X10_ordersOf_L2.eq_2]
    refine eb_iload_n (pc := 2) 3 dX10_ordersOf_2 rfl rfl ?_
    refine eb_iload_n (pc := 3) 1 dX10_ordersOf_3 rfl rfl ?_
    refine eb_icmp_gt (pc := 4) (tgt := 101) dX10_ordersOf_4 (by decide) ?_ ?_
    · refine eb_sub [0, 1] rfl ?_
      exact hK _
    · refine eb_iload_n (pc := 7) 3 dX10_ordersOf_7 rfl rfl ?_
      refine eb_join (fun j3 : Int32 → eb_S → Option (Int32 × eb_S) => ∀ (y1 : Int32) (s2 : eb_S), eb_go G yX10_ordersOf cX10_ordersOf 6 (some .int) (3) 0 0 .ireturn (fun r : Int32 => [.int r]) 16 [(0, .ref v0), (1, .int v1), (2, .int v2), (3, .int v3)] [.int y1] s2 0 0 (j3 y1 s2)) ?_ (fun j3 hj3 => ?_)
      · intro y1 s2
        refine eb_istore (pc := 16) (L' := [(4, .int y1), (0, .ref v0), (1, .int v1), (2, .int v2), (3, .int v3)]) dX10_ordersOf_16 (by decide) rfl ?_
        refine eb_iconst (pc := 18) (v := 0) dX10_ordersOf_18 (by decide) ?_
        refine eb_istore (pc := 19) (L' := [(5, .int 0), (4, .int y1), (0, .ref v0), (1, .int v1), (2, .int v2), (3, .int v3)]) dX10_ordersOf_19 (by decide) rfl ?_
        refine eb_sub [2, 3, 4, 5, 1, 0] rfl ?_
        refine gl_X10_ordersOf_L21 hG (fun w11 s12 => ?_) n _ _ _
        refine eb_aload_n (pc := 74) 0 dX10_ordersOf_74 rfl rfl ?_
        refine eb_getR (pc := 75) ef_RX10_95 dX10_ordersOf_75 (fun r13 => ?_)
        refine eb_iload_n (pc := 78) 3 dX10_ordersOf_78 rfl rfl ?_
        refine eb_aload_n (pc := 79) 0 dX10_ordersOf_79 rfl rfl ?_
        refine eb_iload_n (pc := 80) 3 dX10_ordersOf_80 rfl rfl ?_
        refine eb_iload_n (pc := 81) 2 dX10_ordersOf_81 rfl rfl ?_
        refine eb_callb (pc := 82) (eb_runV (pc := 82) (As := [.int v3, .int v2]) (rest := [.int v3, .ref r13]) (ci := 9) (q0 := (RX10, TX10, 43)) (q := (RX10, TX10, 43)) ew_837 ew_838 ew_839 ew_666 rfl rfl ed_X10_isTipped (ct_X10_isTipped hG n _ _ _ _) rfl ew_840 ⟨by decide, by decide⟩ (by decide) (by decide) (Nat.le_of_ble_eq_true rfl) rfl dX10_ordersOf_82) (fun b15 s14 => ?_)
        refine eb_join (fun j18 : Int32 → eb_S → Option (Int32 × eb_S) => ∀ (y16 : Int32) (s17 : eb_S), eb_go G yX10_ordersOf cX10_ordersOf 6 (some .int) (3) 0 0 .ireturn (fun r : Int32 => [.int r]) 94 [(0, .ref v0), (1, .int v1), (2, .int v2), (3, .int v3)] [.int y16, .int v3, .ref r13] s17 0 0 (j18 y16 s17)) ?_ (fun j18 hj18 => ?_)
        · intro y16 s17
          refine eb_iastore (pc := 94) dX10_ordersOf_94 (fun s19 => ?_)
          refine eb_iinc (pc := 95) (v := v3 + 1) (L' := [(3, .int (v3 + 1)), (0, .ref v0), (1, .int v1), (2, .int v2)]) 3 dX10_ordersOf_95 rfl rfl (by decide) rfl ?_
          refine eb_goto (pc := 98) (tgt := 2) dX10_ordersOf_98 (by decide) ?_
          refine eb_sub [1, 2, 3, 0] rfl ?_
          exact ih _ _
        refine eb_if_eq (pc := 85) (tgt := 92) dX10_ordersOf_85 (by decide) ?_ ?_
        · refine eb_iload (pc := 92) 4 dX10_ordersOf_92 rfl ?_
          refine eb_sub [0, 1, 2, 3] rfl ?_
          exact hj18 _ _
        · refine eb_iconst (pc := 88) (v := 0) dX10_ordersOf_88 (by decide) ?_
          refine eb_goto (pc := 89) (tgt := 94) dX10_ordersOf_89 (by decide) ?_
          refine eb_sub [0, 1, 2, 3] rfl ?_
          exact hj18 _ _
      refine eb_if_ne (pc := 8) (tgt := 15) dX10_ordersOf_8 (by decide) ?_ ?_
      · refine eb_iconst (pc := 15) (v := 0) dX10_ordersOf_15 (by decide) ?_
        exact hj3 _ _
      · refine eb_iconst (pc := 11) (v := 1) dX10_ordersOf_11 (by decide) ?_
        refine eb_goto (pc := 12) (tgt := 16) dX10_ordersOf_12 (by decide) ?_
        exact hj3 _ _
set_option maxRecDepth 100000 in
theorem ct_X10_ordersOf {G : eb_G} (hG : eb_ok G) (n : Nat) (v0 : Nat) (v1 : Int32) (v2 : Int32) (s : eb_S) : eb_ct G yX10_ordersOf cX10_ordersOf 6 (some .int) 3 0 0 eb_ei [.ref v0, .int v1, .int v2] s (f_X10_ordersOf n v0 v1 v2 s) := by
  refine eb_ct_i (by decide) (Nat.le_of_ble_eq_true rfl) (fun v hv => by simp at hv; rcases hv with rfl | rfl | rfl <;> simp [Value.category]) ?_
  show eb_go G yX10_ordersOf cX10_ordersOf 6 (some .int) (3) 0 0 .ireturn (fun r : Int32 => [.int r]) 0 [(0, .ref v0), (1, .int v1), (2, .int v2)] [] s 0 0 _
  unfold f_X10_ordersOf
  refine eb_iconst (pc := 0) (v := 0) dX10_ordersOf_0 (by decide) ?_
  refine eb_istore_n (pc := 1) (L' := [(3, .int 0), (0, .ref v0), (1, .int v1), (2, .int v2)]) dX10_ordersOf_1 rfl (by decide) rfl ?_
  refine eb_sub [1, 2, 3, 0] rfl ?_
  refine gl_X10_ordersOf_L2 hG (fun s20 => ?_) n _ _
  refine eb_aload_n (pc := 101) 0 dX10_ordersOf_101 rfl rfl ?_
  refine eb_getR (pc := 102) ef_RX10_95 dX10_ordersOf_102 (fun r21 => ?_)
  refine eb_iload_n (pc := 105) 1 dX10_ordersOf_105 rfl rfl ?_
  refine eb_iaload (pc := 106) dX10_ordersOf_106 (fun x22 => ?_)
  exact eb_iret (pc := 107) dX10_ordersOf_107 (by decide) (by decide)

def f_X10_tray_L70 (n : Nat) (v0 : Nat) (v1 : Int32) (v3 : Int32) (v4 : Int32) (v5 : Int32) (K : Int32 → eb_S → Option (Int32 × eb_S)) : Nat → Int32 → Int32 → Int32 → eb_S → Option (Int32 × eb_S)
  | 0, _, _, _, _ => none
  | m + 1, v7, v8, v9, s => if 8 ≤ v9 then (K v8 s) else (eb_gR s [9] v0 39 fun r11 => eb_al s r11 ((((16 : Int32) * v1) + v3) + v9) fun l12 => eb_gR s [9] v0 41 fun r13 => eb_wi s r13 v9 0 fun s14 => eb_jn (fun (p15 : Int32) (p16 : Int32) (p17 : Int32) (s18 : eb_S) => f_X10_tray_L70 n v0 v1 v3 v4 v5 K m p15 p16 (p17 + 1) s18) fun j19 => if (lg_cmp l12 0) < 0 then (j19 v7 v8 v9 s14) else (eb_cl (eb_tg s14 v0 9 (f_X10_isThing v0 l12 s14)) fun b21 s20 => if (eb_b b21) = 0 then (some ((-2), s20)) else (if ((v7 >>> (((l12).toInt32) &&& 31)) &&& 1) = 1 then (some ((-2), s20)) else (eb_gR s20 [9] v0 41 fun r22 => eb_gR s20 [9] v0 2 fun r23 => eb_ai s20 r23 ((l12).toInt32) fun x24 => eb_wi s20 r22 v9 x24 fun s25 => j19 (v7 ||| ((1 : Int32) <<< (((l12).toInt32) &&& 31))) (v8 ||| ((1 : Int32) <<< (v9 &&& 31))) v9 s25))))
def f_X10_tray_L218 (n : Nat) (v0 : Nat) (v4 : Int32) (v8 : Int32)  : Nat → Int32 → Int32 → eb_S → Option (Int32 × eb_S)
  | 0, _, _, _ => none
  | m + 1, v9, v10, s => if 8 ≤ v10 then (some (v9, s)) else (eb_jn (fun (y28 : Int32) (s29 : eb_S) => f_X10_tray_L218 n v0 v4 v8 m (v9 ||| y28) (v10 + 1) s29) fun j30 => eb_jn (fun (s31 : eb_S) => j30 0 s31) fun j32 => if ((v8 >>> (v10 &&& 31)) &&& 1) = 1 then (eb_cl (eb_tg s v0 9 (f_X10_isTipped n v0 (v8 &&& (((1 : Int32) <<< (v10 &&& 31)) ^^^ ((-1)))) v4 s)) fun b34 s33 => if (eb_b b34) = 0 then (j30 ((1 : Int32) <<< (v10 &&& 31)) s33) else (j32 s33)) else (j32 s))
def f_X10_tray (n : Nat) (v0 : Nat) (v1 : Int32) (v2 : Int32) (v3 : Int32) (v4 : Int32) (v5 : Int32) (s : eb_S) : Option (Int32 × eb_S) := eb_cl (f_X10_isSheet v1 s) fun b2 s1 => if (eb_b b2) = 0 then (some ((-1), s1)) else (eb_cl (f_X10_isLane v2 s1) fun b4 s3 => if (eb_b b4) = 0 then (some ((-1), s3)) else (eb_cl (f_X10_in ((v4).toInt64) 0 9999 s3) fun b6 s5 => if (eb_b b6) = 0 then (some ((-1), s5)) else (eb_cl (f_X10_in ((v5).toInt64) 0 2 s5) fun b8 s7 => if (eb_b b8) = 0 then (some ((-1), s7)) else (eb_cl (eb_tg s7 v0 9 (f_X10_why v0 v1 v2 v3 8 s7)) fun x10 s9 => if 0 ≤ x10 then (f_X10_tray_L70 n v0 v1 v3 v4 v5 (fun (w26 : Int32) (s27 : eb_S) => if 2 ≤ v5 then (f_X10_tray_L218 n v0 v4 w26  n 0 0 s27) else (if v5 = 1 then (eb_cl (eb_tg s27 v0 9 (f_X10_ordersOf n v0 w26 v4 s27)) fun x38 s37 => some (x38, s37)) else (eb_cl (eb_tg s27 v0 9 (f_X10_isTipped n v0 w26 v4 s27)) fun b36 s35 => if (eb_b b36) = 0 then (some (0, s35)) else (some (1, s35))))) n 0 0 0 s9) else (some (x10, s9))))))
set_option maxRecDepth 100000 in
theorem gl_X10_tray_L70 {G : eb_G} (hG : eb_ok G) {n : Nat} {v0 : Nat} {v1 : Int32} {v3 : Int32} {v4 : Int32} {v5 : Int32} {K : Int32 → eb_S → Option (Int32 × eb_S)} (hK : ∀ (v8 : Int32) (s : eb_S), eb_go G yX10_tray cX10_tray 12 (some .int) (4) 0 0 .ireturn (fun r : Int32 => [.int r]) 172 [(0, .ref v0), (4, .int v4), (5, .int v5), (8, .int v8)] [] s 0 0 (K v8 s)) : ∀ (m : Nat) (v7 : Int32) (v8 : Int32) (v9 : Int32) (s : eb_S), eb_go G yX10_tray cX10_tray 12 (some .int) (4) 0 0 .ireturn (fun r : Int32 => [.int r]) 70 [(0, .ref v0), (1, .int v1), (3, .int v3), (4, .int v4), (5, .int v5), (7, .int v7), (8, .int v8), (9, .int v9)] [] s 0 0 (f_X10_tray_L70 n v0 v1 v3 v4 v5 K m v7 v8 v9 s) := by
  intro m
  induction m with
  | zero => intro v7 v8 v9 s; exact eb_none
  | succ m ih =>
    intro v7 v8 v9 s
    rw [f_X10_tray_L70.eq_2]
    refine eb_iload (pc := 70) 7 dX10_tray_70 rfl ?_
    refine eb_bipush (pc := 72) (v := 8) dX10_tray_72 (by decide) ?_
    refine eb_icmp_ge (pc := 74) (tgt := 172) dX10_tray_74 (by decide) ?_ ?_
    · refine eb_sub [0, 3, 4, 6] rfl ?_
      exact hK _ _
    · refine eb_aload_n (pc := 77) 0 dX10_tray_77 rfl rfl ?_
      refine eb_getR (pc := 78) ef_RX10_85 dX10_tray_78 (fun r11 => ?_)
      refine eb_bipush (pc := 81) (v := 16) dX10_tray_81 (by decide) ?_
      refine eb_iload_n (pc := 83) 1 dX10_tray_83 rfl rfl ?_
      refine eb_imul (pc := 84) dX10_tray_84 ?_
      refine eb_iload_n (pc := 85) 2 dX10_tray_85 rfl rfl ?_
      refine eb_iadd (pc := 86) dX10_tray_86 ?_
      refine eb_iload (pc := 87) 7 dX10_tray_87 rfl ?_
      refine eb_iadd (pc := 89) dX10_tray_89 ?_
      refine eb_laload (pc := 90) dX10_tray_90 (fun l12 => ?_)
      refine eb_lstore (pc := 91) (L' := [(10, .long l12), (0, .ref v0), (1, .int v1), (3, .int v3), (4, .int v4), (5, .int v5), (7, .int v7), (8, .int v8), (9, .int v9)]) dX10_tray_91 (by decide) rfl ?_
      refine eb_aload_n (pc := 93) 1 dX10_tray_93 rfl rfl ?_
      refine eb_getR (pc := 94) ef_RX10_92 dX10_tray_94 (fun r13 => ?_)
      refine eb_iload (pc := 97) 8 dX10_tray_97 rfl ?_
      refine eb_iconst (pc := 99) (v := 0) dX10_tray_99 (by decide) ?_
      refine eb_iastore (pc := 100) dX10_tray_100 (fun s14 => ?_)
      refine eb_lload (pc := 101) 0 dX10_tray_101 rfl ?_
      refine eb_lconst (pc := 103) (v := 0) dX10_tray_103 (by decide) ?_
      refine eb_lcmp (pc := 104) dX10_tray_104 ?_
      refine eb_join (fun j19 : Int32 → Int32 → Int32 → eb_S → Option (Int32 × eb_S) => ∀ (p15 : Int32) (p16 : Int32) (p17 : Int32) (s18 : eb_S), eb_go G yX10_tray cX10_tray 12 (some .int) (4) 0 0 .ireturn (fun r : Int32 => [.int r]) 166 [(0, .ref v0), (1, .int v1), (3, .int v3), (4, .int v4), (5, .int v5), (7, .int p15), (8, .int p16), (9, .int p17)] [] s18 0 0 (j19 p15 p16 p17 s18)) ?_ (fun j19 hj19 => ?_)
      · intro p15 p16 p17 s18
        refine eb_iinc (pc := 166) (v := p17 + 1) (L' := [(9, .int (p17 + 1)), (0, .ref v0), (1, .int v1), (3, .int v3), (4, .int v4), (5, .int v5), (7, .int p15), (8, .int p16)]) 7 dX10_tray_166 rfl rfl (by decide) rfl ?_
        refine eb_goto (pc := 169) (tgt := 70) dX10_tray_169 (by decide) ?_
        refine eb_sub [1, 2, 3, 4, 5, 6, 7, 0] rfl ?_
        exact ih _ _ _ _
      refine eb_if_lt (pc := 105) (tgt := 166) dX10_tray_105 (by decide) ?_ ?_
      · refine eb_sub [1, 2, 3, 4, 5, 6, 7, 8] rfl ?_
        exact hj19 _ _ _ _
      · refine eb_aload_n (pc := 108) 1 dX10_tray_108 rfl rfl ?_
        refine eb_lload (pc := 109) 0 dX10_tray_109 rfl ?_
        refine eb_callb (pc := 111) (eb_runV (pc := 111) (As := [.long l12]) (rest := []) (ci := 9) (q0 := (RX10, TX10, 43)) (q := (RX10, TX10, 43)) ew_677 ew_678 ew_679 ew_666 rfl rfl ed_X10_isThing (ct_X10_isThing hG _ _ _) rfl ew_680 ⟨by decide, by decide⟩ (by decide) (by decide) (Nat.le_of_ble_eq_true rfl) rfl dX10_tray_111) (fun b21 s20 => ?_)
        refine eb_if_eq (pc := 114) (tgt := 129) dX10_tray_114 (by decide) ?_ ?_
        · refine eb_bipush (pc := 129) (v := (-2)) dX10_tray_129 (by decide) ?_
          exact eb_iret (pc := 131) dX10_tray_131 (by decide) (by decide)
        · refine eb_iload (pc := 117) 6 dX10_tray_117 rfl ?_
          refine eb_lload (pc := 119) 0 dX10_tray_119 rfl ?_
          refine eb_l2i (pc := 121) dX10_tray_121 ?_
          refine eb_ishr (pc := 122) dX10_tray_122 ?_
          refine eb_iconst (pc := 123) (v := 1) dX10_tray_123 (by decide) ?_
          refine eb_iand (pc := 124) dX10_tray_124 ?_
          refine eb_iconst (pc := 125) (v := 1) dX10_tray_125 (by decide) ?_
          refine eb_icmp_ne (pc := 126) (tgt := 132) dX10_tray_126 (by decide) ?_ ?_
          · refine eb_iload (pc := 132) 6 dX10_tray_132 rfl ?_
            refine eb_iconst (pc := 134) (v := 1) dX10_tray_134 (by decide) ?_
            refine eb_lload (pc := 135) 0 dX10_tray_135 rfl ?_
            refine eb_l2i (pc := 137) dX10_tray_137 ?_
            refine eb_ishl (pc := 138) dX10_tray_138 ?_
            refine eb_ior (pc := 139) dX10_tray_139 ?_
            refine eb_istore (pc := 140) (L' := [(7, .int (v7 ||| ((1 : Int32) <<< (((l12).toInt32) &&& 31)))), (10, .long l12), (0, .ref v0), (1, .int v1), (3, .int v3), (4, .int v4), (5, .int v5), (8, .int v8), (9, .int v9)]) dX10_tray_140 (by decide) rfl ?_
            refine eb_iload (pc := 142) 7 dX10_tray_142 rfl ?_
            refine eb_iconst (pc := 144) (v := 1) dX10_tray_144 (by decide) ?_
            refine eb_iload (pc := 145) 8 dX10_tray_145 rfl ?_
            refine eb_ishl (pc := 147) dX10_tray_147 ?_
            refine eb_ior (pc := 148) dX10_tray_148 ?_
            refine eb_istore (pc := 149) (L' := [(8, .int (v8 ||| ((1 : Int32) <<< (v9 &&& 31)))), (7, .int (v7 ||| ((1 : Int32) <<< (((l12).toInt32) &&& 31)))), (10, .long l12), (0, .ref v0), (1, .int v1), (3, .int v3), (4, .int v4), (5, .int v5), (9, .int v9)]) dX10_tray_149 (by decide) rfl ?_
            refine eb_aload_n (pc := 151) 3 dX10_tray_151 rfl rfl ?_
            refine eb_getR (pc := 152) ef_RX10_92 dX10_tray_152 (fun r22 => ?_)
            refine eb_iload (pc := 155) 8 dX10_tray_155 rfl ?_
            refine eb_aload_n (pc := 157) 3 dX10_tray_157 rfl rfl ?_
            refine eb_getR (pc := 158) ef_RX10_13 dX10_tray_158 (fun r23 => ?_)
            refine eb_lload (pc := 161) 2 dX10_tray_161 rfl ?_
            refine eb_l2i (pc := 163) dX10_tray_163 ?_
            refine eb_iaload (pc := 164) dX10_tray_164 (fun x24 => ?_)
            refine eb_iastore (pc := 165) dX10_tray_165 (fun s25 => ?_)
            refine eb_sub [3, 4, 5, 6, 7, 1, 0, 8] rfl ?_
            exact hj19 _ _ _ _
          · refine eb_bipush (pc := 129) (v := (-2)) dX10_tray_129 (by decide) ?_
            exact eb_iret (pc := 131) dX10_tray_131 (by decide) (by decide)
set_option maxRecDepth 100000 in
theorem gl_X10_tray_L218 {G : eb_G} (hG : eb_ok G) {n : Nat} {v0 : Nat} {v4 : Int32} {v8 : Int32}   : ∀ (m : Nat) (v9 : Int32) (v10 : Int32) (s : eb_S), eb_go G yX10_tray cX10_tray 12 (some .int) (4) 0 0 .ireturn (fun r : Int32 => [.int r]) 218 [(0, .ref v0), (4, .int v4), (8, .int v8), (9, .int v9), (10, .int v10)] [] s 0 0 (f_X10_tray_L218 n v0 v4 v8 m v9 v10 s) := by
  intro m
  induction m with
  | zero => intro v9 v10 s; exact eb_none
  | succ m ih =>
    intro v9 v10 s
    rw [f_X10_tray_L218.eq_2]
    refine eb_iload (pc := 218) 4 dX10_tray_218 rfl ?_
    refine eb_bipush (pc := 220) (v := 8) dX10_tray_220 (by decide) ?_
    refine eb_icmp_ge (pc := 222) (tgt := 273) dX10_tray_222 (by decide) ?_ ?_
    · refine eb_iload (pc := 273) 3 dX10_tray_273 rfl ?_
      exact eb_iret (pc := 275) dX10_tray_275 (by decide) (by decide)
    · refine eb_iload (pc := 225) 3 dX10_tray_225 rfl ?_
      refine eb_iload (pc := 227) 2 dX10_tray_227 rfl ?_
      refine eb_iload (pc := 229) 4 dX10_tray_229 rfl ?_
      refine eb_ishr (pc := 231) dX10_tray_231 ?_
      refine eb_iconst (pc := 232) (v := 1) dX10_tray_232 (by decide) ?_
      refine eb_iand (pc := 233) dX10_tray_233 ?_
      refine eb_iconst (pc := 234) (v := 1) dX10_tray_234 (by decide) ?_
      refine eb_join (fun j30 : Int32 → eb_S → Option (Int32 × eb_S) => ∀ (y28 : Int32) (s29 : eb_S), eb_go G yX10_tray cX10_tray 12 (some .int) (4) 0 0 .ireturn (fun r : Int32 => [.int r]) 264 [(0, .ref v0), (4, .int v4), (8, .int v8), (10, .int v10)] [.int y28, .int v9] s29 0 0 (j30 y28 s29)) ?_ (fun j30 hj30 => ?_)
      · intro y28 s29
        refine eb_ior (pc := 264) dX10_tray_264 ?_
        refine eb_istore (pc := 265) (L' := [(9, .int (v9 ||| y28)), (0, .ref v0), (4, .int v4), (8, .int v8), (10, .int v10)]) dX10_tray_265 (by decide) rfl ?_
        refine eb_iinc (pc := 267) (v := v10 + 1) (L' := [(10, .int (v10 + 1)), (9, .int (v9 ||| y28)), (0, .ref v0), (4, .int v4), (8, .int v8)]) 4 dX10_tray_267 rfl rfl (by decide) rfl ?_
        refine eb_goto (pc := 270) (tgt := 218) dX10_tray_270 (by decide) ?_
        refine eb_sub [2, 3, 4, 1, 0] rfl ?_
        exact ih _ _ _
      refine eb_join (fun j32 : eb_S → Option (Int32 × eb_S) => ∀  (s31 : eb_S), eb_go G yX10_tray cX10_tray 12 (some .int) (4) 0 0 .ireturn (fun r : Int32 => [.int r]) 263 [(0, .ref v0), (4, .int v4), (8, .int v8), (10, .int v10)] [.int v9] s31 0 0 (j32  s31)) ?_ (fun j32 hj32 => ?_)
      · intro  s31
        refine eb_iconst (pc := 263) (v := 0) dX10_tray_263 (by decide) ?_
        exact hj30 _ _
      refine eb_icmp_ne (pc := 235) (tgt := 263) dX10_tray_235 (by decide) ?_ ?_
      · refine eb_sub [0, 1, 2, 4] rfl ?_
        exact hj32 _
      · refine eb_aload_n (pc := 238) 0 dX10_tray_238 rfl rfl ?_
        refine eb_iload (pc := 239) 2 dX10_tray_239 rfl ?_
        refine eb_iconst (pc := 241) (v := 1) dX10_tray_241 (by decide) ?_
        refine eb_iload (pc := 242) 4 dX10_tray_242 rfl ?_
        refine eb_ishl (pc := 244) dX10_tray_244 ?_
        refine eb_iconst (pc := 245) (v := (-1)) dX10_tray_245 (by decide) ?_
        refine eb_ixor (pc := 246) dX10_tray_246 ?_
        refine eb_iand (pc := 247) dX10_tray_247 ?_
        refine eb_iload (pc := 248) 1 dX10_tray_248 rfl ?_
        refine eb_callb (pc := 250) (eb_runV (pc := 250) (As := [.int (v8 &&& (((1 : Int32) <<< (v10 &&& 31)) ^^^ ((-1)))), .int v4]) (rest := [.int v9]) (ci := 9) (q0 := (RX10, TX10, 43)) (q := (RX10, TX10, 43)) ew_837 ew_838 ew_839 ew_666 rfl rfl ed_X10_isTipped (ct_X10_isTipped hG n _ _ _ _) rfl ew_840 ⟨by decide, by decide⟩ (by decide) (by decide) (Nat.le_of_ble_eq_true rfl) rfl dX10_tray_250) (fun b34 s33 => ?_)
        refine eb_if_ne (pc := 253) (tgt := 263) dX10_tray_253 (by decide) ?_ ?_
        · refine eb_sub [0, 1, 2, 4] rfl ?_
          exact hj32 _
        · refine eb_iconst (pc := 256) (v := 1) dX10_tray_256 (by decide) ?_
          refine eb_iload (pc := 257) 4 dX10_tray_257 rfl ?_
          refine eb_ishl (pc := 259) dX10_tray_259 ?_
          refine eb_goto (pc := 260) (tgt := 264) dX10_tray_260 (by decide) ?_
          refine eb_sub [0, 1, 2, 4] rfl ?_
          exact hj30 _ _
set_option maxRecDepth 100000 in
theorem ct_X10_tray {G : eb_G} (hG : eb_ok G) (n : Nat) (v0 : Nat) (v1 : Int32) (v2 : Int32) (v3 : Int32) (v4 : Int32) (v5 : Int32) (s : eb_S) : eb_ct G yX10_tray cX10_tray 12 (some .int) 4 0 0 eb_ei [.ref v0, .int v1, .int v2, .int v3, .int v4, .int v5] s (f_X10_tray n v0 v1 v2 v3 v4 v5 s) := by
  refine eb_ct_i (by decide) (Nat.le_of_ble_eq_true rfl) (fun v hv => by simp at hv; rcases hv with rfl | rfl | rfl | rfl | rfl | rfl <;> simp [Value.category]) ?_
  show eb_go G yX10_tray cX10_tray 12 (some .int) (4) 0 0 .ireturn (fun r : Int32 => [.int r]) 0 [(0, .ref v0), (1, .int v1), (2, .int v2), (3, .int v3), (4, .int v4), (5, .int v5)] [] s 0 0 _
  unfold f_X10_tray
  refine eb_iload_n (pc := 0) 1 dX10_tray_0 rfl rfl ?_
  refine eb_callb (pc := 1) (eb_runS (pc := 1) (As := [.int v1]) (rest := []) ew_841 ew_842 ew_666 rfl ed_X10_isSheet (ct_X10_isSheet hG _ _) ew_843 ⟨by decide, by decide⟩ (by decide) (by decide) (Nat.le_of_ble_eq_true rfl) rfl dX10_tray_1) (fun b2 s1 => ?_)
  refine eb_if_eq (pc := 4) (tgt := 40) dX10_tray_4 (by decide) ?_ ?_
  · refine eb_iconst (pc := 40) (v := (-1)) dX10_tray_40 (by decide) ?_
    exact eb_iret (pc := 41) dX10_tray_41 (by decide) (by decide)
  · refine eb_iload_n (pc := 7) 2 dX10_tray_7 rfl rfl ?_
    refine eb_callb (pc := 8) (eb_runS (pc := 8) (As := [.int v2]) (rest := []) ew_844 ew_845 ew_666 rfl ed_X10_isLane (ct_X10_isLane hG _ _) ew_846 ⟨by decide, by decide⟩ (by decide) (by decide) (Nat.le_of_ble_eq_true rfl) rfl dX10_tray_8) (fun b4 s3 => ?_)
    refine eb_if_eq (pc := 11) (tgt := 40) dX10_tray_11 (by decide) ?_ ?_
    · refine eb_iconst (pc := 40) (v := (-1)) dX10_tray_40 (by decide) ?_
      exact eb_iret (pc := 41) dX10_tray_41 (by decide) (by decide)
    · refine eb_iload (pc := 14) 4 dX10_tray_14 rfl ?_
      refine eb_i2l (pc := 16) dX10_tray_16 ?_
      refine eb_lconst (pc := 17) (v := 0) dX10_tray_17 (by decide) ?_
      refine eb_ldc2 (pc := 18) (v := 9999) dX10_tray_18 ew_699 ?_
      refine eb_callb (pc := 21) (eb_runS (pc := 21) (As := [.long ((v4).toInt64), .long 0, .long 9999]) (rest := []) ew_664 ew_665 ew_666 rfl ed_X10_in (ct_X10_in hG _ _ _ _) ew_667 ⟨by decide, by decide⟩ (by decide) (by decide) (Nat.le_of_ble_eq_true rfl) rfl dX10_tray_21) (fun b6 s5 => ?_)
      refine eb_if_eq (pc := 24) (tgt := 40) dX10_tray_24 (by decide) ?_ ?_
      · refine eb_iconst (pc := 40) (v := (-1)) dX10_tray_40 (by decide) ?_
        exact eb_iret (pc := 41) dX10_tray_41 (by decide) (by decide)
      · refine eb_iload (pc := 27) 5 dX10_tray_27 rfl ?_
        refine eb_i2l (pc := 29) dX10_tray_29 ?_
        refine eb_lconst (pc := 30) (v := 0) dX10_tray_30 (by decide) ?_
        refine eb_ldc2 (pc := 31) (v := 2) dX10_tray_31 ew_669 ?_
        refine eb_callb (pc := 34) (eb_runS (pc := 34) (As := [.long ((v5).toInt64), .long 0, .long 2]) (rest := []) ew_664 ew_665 ew_666 rfl ed_X10_in (ct_X10_in hG _ _ _ _) ew_667 ⟨by decide, by decide⟩ (by decide) (by decide) (Nat.le_of_ble_eq_true rfl) rfl dX10_tray_34) (fun b8 s7 => ?_)
        refine eb_if_ne (pc := 37) (tgt := 42) dX10_tray_37 (by decide) ?_ ?_
        · refine eb_aload_n (pc := 42) 0 dX10_tray_42 rfl rfl ?_
          refine eb_iload_n (pc := 43) 1 dX10_tray_43 rfl rfl ?_
          refine eb_iload_n (pc := 44) 2 dX10_tray_44 rfl rfl ?_
          refine eb_iload_n (pc := 45) 3 dX10_tray_45 rfl rfl ?_
          refine eb_bipush (pc := 46) (v := 8) dX10_tray_46 (by decide) ?_
          refine eb_calli (pc := 48) (eb_runV (pc := 48) (As := [.int v1, .int v2, .int v3, .int 8]) (rest := []) (ci := 9) (q0 := (RX10, TX10, 43)) (q := (RX10, TX10, 43)) ew_847 ew_848 ew_849 ew_666 rfl rfl ed_X10_why (ct_X10_why hG _ _ _ _ _ _) rfl ew_850 ⟨by decide, by decide⟩ (by decide) (by decide) (Nat.le_of_ble_eq_true rfl) rfl dX10_tray_48) (fun x10 s9 => ?_)
          refine eb_istore (pc := 51) (L' := [(6, .int x10), (0, .ref v0), (1, .int v1), (2, .int v2), (3, .int v3), (4, .int v4), (5, .int v5)]) dX10_tray_51 (by decide) rfl ?_
          refine eb_iload (pc := 53) 0 dX10_tray_53 rfl ?_
          refine eb_if_ge (pc := 55) (tgt := 61) dX10_tray_55 (by decide) ?_ ?_
          · refine eb_iconst (pc := 61) (v := 0) dX10_tray_61 (by decide) ?_
            refine eb_istore (pc := 62) (L' := [(7, .int 0), (6, .int x10), (0, .ref v0), (1, .int v1), (2, .int v2), (3, .int v3), (4, .int v4), (5, .int v5)]) dX10_tray_62 (by decide) rfl ?_
            refine eb_iconst (pc := 64) (v := 0) dX10_tray_64 (by decide) ?_
            refine eb_istore (pc := 65) (L' := [(8, .int 0), (7, .int 0), (6, .int x10), (0, .ref v0), (1, .int v1), (2, .int v2), (3, .int v3), (4, .int v4), (5, .int v5)]) dX10_tray_65 (by decide) rfl ?_
            refine eb_iconst (pc := 67) (v := 0) dX10_tray_67 (by decide) ?_
            refine eb_istore (pc := 68) (L' := [(9, .int 0), (8, .int 0), (7, .int 0), (6, .int x10), (0, .ref v0), (1, .int v1), (2, .int v2), (3, .int v3), (4, .int v4), (5, .int v5)]) dX10_tray_68 (by decide) rfl ?_
            refine eb_sub [4, 5, 7, 8, 9, 2, 1, 0] rfl ?_
            refine gl_X10_tray_L70 hG (fun w26 s27 => ?_) n _ _ _ _
            refine eb_iload (pc := 172) 2 dX10_tray_172 rfl ?_
            refine eb_iconst (pc := 174) (v := 2) dX10_tray_174 (by decide) ?_
            refine eb_icmp_ge (pc := 175) (tgt := 212) dX10_tray_175 (by decide) ?_ ?_
            · refine eb_iconst (pc := 212) (v := 0) dX10_tray_212 (by decide) ?_
              refine eb_istore (pc := 213) (L' := [(9, .int 0), (0, .ref v0), (4, .int v4), (5, .int v5), (8, .int w26)]) dX10_tray_213 (by decide) rfl ?_
              refine eb_iconst (pc := 215) (v := 0) dX10_tray_215 (by decide) ?_
              refine eb_istore (pc := 216) (L' := [(10, .int 0), (9, .int 0), (0, .ref v0), (4, .int v4), (5, .int v5), (8, .int w26)]) dX10_tray_216 (by decide) rfl ?_
              refine eb_sub [2, 3, 5, 1, 0] rfl ?_
              refine gl_X10_tray_L218 hG  n _ _ _
            · refine eb_iload (pc := 178) 2 dX10_tray_178 rfl ?_
              refine eb_iconst (pc := 180) (v := 1) dX10_tray_180 (by decide) ?_
              refine eb_icmp_ne (pc := 181) (tgt := 195) dX10_tray_181 (by decide) ?_ ?_
              · refine eb_aload_n (pc := 195) 0 dX10_tray_195 rfl rfl ?_
                refine eb_iload (pc := 196) 3 dX10_tray_196 rfl ?_
                refine eb_iload (pc := 198) 1 dX10_tray_198 rfl ?_
                refine eb_callb (pc := 200) (eb_runV (pc := 200) (As := [.int w26, .int v4]) (rest := []) (ci := 9) (q0 := (RX10, TX10, 43)) (q := (RX10, TX10, 43)) ew_837 ew_838 ew_839 ew_666 rfl rfl ed_X10_isTipped (ct_X10_isTipped hG n _ _ _ _) rfl ew_840 ⟨by decide, by decide⟩ (by decide) (by decide) (Nat.le_of_ble_eq_true rfl) rfl dX10_tray_200) (fun b36 s35 => ?_)
                refine eb_if_eq (pc := 203) (tgt := 210) dX10_tray_203 (by decide) ?_ ?_
                · refine eb_iconst (pc := 210) (v := 0) dX10_tray_210 (by decide) ?_
                  exact eb_iret (pc := 211) dX10_tray_211 (by decide) (by decide)
                · refine eb_iconst (pc := 206) (v := 1) dX10_tray_206 (by decide) ?_
                  refine eb_goto (pc := 207) (tgt := 211) dX10_tray_207 (by decide) ?_
                  exact eb_iret (pc := 211) dX10_tray_211 (by decide) (by decide)
              · refine eb_aload_n (pc := 184) 0 dX10_tray_184 rfl rfl ?_
                refine eb_iload (pc := 185) 3 dX10_tray_185 rfl ?_
                refine eb_iload (pc := 187) 1 dX10_tray_187 rfl ?_
                refine eb_calli (pc := 189) (eb_runV (pc := 189) (As := [.int w26, .int v4]) (rest := []) (ci := 9) (q0 := (RX10, TX10, 43)) (q := (RX10, TX10, 43)) ew_851 ew_852 ew_853 ew_666 rfl rfl ed_X10_ordersOf (ct_X10_ordersOf hG n _ _ _ _) rfl ew_854 ⟨by decide, by decide⟩ (by decide) (by decide) (Nat.le_of_ble_eq_true rfl) rfl dX10_tray_189) (fun x38 s37 => ?_)
                refine eb_goto (pc := 192) (tgt := 211) dX10_tray_192 (by decide) ?_
                exact eb_iret (pc := 211) dX10_tray_211 (by decide) (by decide)
          · refine eb_iload (pc := 58) 0 dX10_tray_58 rfl ?_
            exact eb_iret (pc := 60) dX10_tray_60 (by decide) (by decide)
        · refine eb_iconst (pc := 40) (v := (-1)) dX10_tray_40 (by decide) ?_
          exact eb_iret (pc := 41) dX10_tray_41 (by decide) (by decide)

def f_X10_pulled_L91 (n : Nat) (v0 : Nat) (v1 : Int32) (v3 : Int32) (v4 : Int32) (v6 : Int32) (v7 : Int32) (v8 : Int32) (K : Int32 → eb_S → Option (Int32 × eb_S)) : Nat → Int32 → Int32 → eb_S → Option (Int32 × eb_S)
  | 0, _, _, _ => none
  | m + 1, v10, v11, s => eb_gI s [9] v0 6 fun x15 => if x15 ≤ v11 then (K v10 s) else (if v10 = 0 then (K v10 s) else (eb_gR s [9] v0 29 fun r16 => eb_cl (eb_tg s v0 9 (f_X10_offOf n v0 r16 v11 s)) fun x18 s17 => eb_gR s17 [9] v0 39 fun r19 => eb_al s17 r19 ((((16 : Int32) * v1) + v3) + v11) fun l20 => eb_jn (fun (y21 : Int32) (s22 : eb_S) => f_X10_pulled_L91 n v0 v1 v3 v4 v6 v7 v8 K m y21 (v11 + 1) s22) fun j23 => if (lg_cmp ((x18).toInt64) l20) = 0 then (j23 1 s17) else (j23 0 s17)))
def f_X10_pulled_L164 (n : Nat) (v0 : Nat) (v1 : Int32) (v3 : Int32) (v4 : Int32) (v6 : Int32) (v7 : Int32) (v10 : Int32) (K : Int32 → eb_S → Option (Int32 × eb_S)) : Nat → Int32 → Int32 → eb_S → Option (Int32 × eb_S)
  | 0, _, _, _ => none
  | m + 1, v8, v11, s => eb_gI s [9] v0 0 fun x28 => if x28 ≤ v11 then (K v8 s) else (if v10 = 0 then (K v8 s) else (eb_gR s [9] v0 29 fun r29 => eb_ai s r29 v11 fun x30 => eb_gR s [9] v0 30 fun r31 => eb_ai s r31 v11 fun x32 => eb_jn (fun (y33 : Int32) (s34 : eb_S) => f_X10_pulled_L164 n v0 v1 v3 v4 v6 v7 v10 K m (v8 &&& y33) (v11 + 1) s34) fun j35 => if x30 = x32 then (j35 ((-1)) s) else (j35 (((1 : Int32) <<< (v11 &&& 31)) ^^^ ((-1))) s)))
def f_X10_pulled_L73 (n : Nat) (v0 : Nat) (v1 : Int32) (v3 : Int32) (v4 : Int32) (v7 : Int32) (K : Int32 → Int32 → eb_S → Option (Int32 × eb_S)) : Nat → Int32 → Int32 → Int32 → eb_S → Option (Int32 × eb_S)
  | 0, _, _, _, _ => none
  | m + 1, v6, v8, v9, s => if v9 = 0 then (K v6 v8 s) else (eb_gR s [9] v0 29 fun r12 => eb_cl (eb_tg s v0 9 (f_X10_isLawful n v0 r12 s)) fun b14 s13 => f_X10_pulled_L91 n v0 v1 v3 v4 v6 v7 v8 (fun (w24 : Int32) (s25 : eb_S) => eb_jn (fun (s26 : eb_S) => f_X10_pulled_L164 n v0 v1 v3 v4 v6 v7 w24 (fun (w36 : Int32) (s37 : eb_S) => eb_jn (fun (y38 : Int32) (s39 : eb_S) => eb_cl (eb_tg s39 v0 9 (f_X10_turns n v0 3 s39)) fun b42 s41 => f_X10_pulled_L73 n v0 v1 v3 v4 v7 K m (v6 + y38) w36 (eb_b b42) s41) fun j40 => if w24 = 0 then (j40 0 s37) else (j40 1 s37)) n v8 0 s26) fun j27 => if w24 = 0 then (j27 s25) else (if v6 = 0 then (eb_cl (eb_tg s25 v0 9 (f_X10_finds n v0 s25)) fun _u s43 => j27 s43) else (j27 s25))) n (eb_b b14) 0 s13)
def f_X10_pulled_L244 (n : Nat) (v0 : Nat) (v4 : Int32) (v6 : Int32) (v8 : Int32) (K : Int32 → eb_S → Option (Int32 × eb_S)) : Nat → Int32 → Int32 → eb_S → Option (Int32 × eb_S)
  | 0, _, _, _ => none
  | m + 1, v7, v10, s => eb_gI s [9] v0 0 fun x47 => if x47 ≤ v10 then (K v7 s) else (if v6 ≤ 0 then (K v7 s) else (eb_gR s [9] v0 30 fun r48 => eb_ai s r48 v10 fun x49 => f_X10_pulled_L244 n v0 v4 v6 v8 K m (((3 : Int32) * v7) + x49) (v10 + 1) s))
def f_X10_pulled (n : Nat) (v0 : Nat) (v1 : Int32) (v2 : Int32) (v3 : Int32) (v4 : Int32) (s : eb_S) : Option (Int32 × eb_S) := eb_cl (f_X10_isSheet v1 s) fun b2 s1 => if (eb_b b2) = 0 then (some ((-1), s1)) else (eb_cl (f_X10_isLane v2 s1) fun b4 s3 => if (eb_b b4) = 0 then (some ((-1), s3)) else (eb_cl (f_X10_in ((v4).toInt64) 0 2 s3) fun b6 s5 => if (eb_b b6) = 0 then (some ((-1), s5)) else (eb_gI s5 [9] v0 6 fun x7 => eb_cl (eb_tg s5 v0 9 (f_X10_why v0 v1 v2 v3 x7 s5)) fun x9 s8 => if 0 ≤ x9 then (eb_gI s8 [9] v0 0 fun x10 => eb_cl (eb_tg s8 v0 9 (f_X10_begins n v0 s8)) fun _u s11 => f_X10_pulled_L73 n v0 v1 v3 v4 0 (fun (w44 : Int32) (w45 : Int32) (s46 : eb_S) => f_X10_pulled_L244 n v0 v4 w44 w45 (fun (w50 : Int32) (s51 : eb_S) => if v4 = 0 then (some (w44, s51)) else (if w44 = 0 then (some ((-4), s51)) else (if v4 = 1 then (some (w50, s51)) else (some (w45, s51))))) n 0 0 s46) n 0 (((1 : Int32) <<< (x10 &&& 31)) - 1) 1 s11) else (some (x9, s8)))))
set_option maxRecDepth 100000 in
theorem gl_X10_pulled_L91 {G : eb_G} (hG : eb_ok G) {n : Nat} {v0 : Nat} {v1 : Int32} {v3 : Int32} {v4 : Int32} {v6 : Int32} {v7 : Int32} {v8 : Int32} {K : Int32 → eb_S → Option (Int32 × eb_S)} (hK : ∀ (v10 : Int32) (s : eb_S), eb_go G yX10_pulled cX10_pulled 12 (some .int) (5) 0 0 .ireturn (fun r : Int32 => [.int r]) 147 [(0, .ref v0), (1, .int v1), (3, .int v3), (4, .int v4), (6, .int v6), (7, .int v7), (8, .int v8), (10, .int v10)] [] s 0 0 (K v10 s)) : ∀ (m : Nat) (v10 : Int32) (v11 : Int32) (s : eb_S), eb_go G yX10_pulled cX10_pulled 12 (some .int) (5) 0 0 .ireturn (fun r : Int32 => [.int r]) 91 [(0, .ref v0), (1, .int v1), (3, .int v3), (4, .int v4), (6, .int v6), (7, .int v7), (8, .int v8), (10, .int v10), (11, .int v11)] [] s 0 0 (f_X10_pulled_L91 n v0 v1 v3 v4 v6 v7 v8 K m v10 v11 s) := by
  intro m
  induction m with
  | zero => intro v10 v11 s; exact eb_none
  | succ m ih =>
    intro v10 v11 s
    rw [f_X10_pulled_L91.eq_2]
    refine eb_iload (pc := 91) 8 dX10_pulled_91 rfl ?_
    refine eb_aload_n (pc := 93) 0 dX10_pulled_93 rfl rfl ?_
    refine eb_getI (pc := 94) ef_RX10_106 dX10_pulled_94 (fun x15 => ?_)
    refine eb_icmp_ge (pc := 97) (tgt := 147) dX10_pulled_97 (by decide) ?_ ?_
    · refine eb_sub [0, 1, 2, 3, 4, 5, 6, 7] rfl ?_
      exact hK _ _
    · refine eb_iload (pc := 100) 7 dX10_pulled_100 rfl ?_
      refine eb_if_eq (pc := 102) (tgt := 147) dX10_pulled_102 (by decide) ?_ ?_
      · refine eb_sub [0, 1, 2, 3, 4, 5, 6, 7] rfl ?_
        exact hK _ _
      · refine eb_aload_n (pc := 105) 0 dX10_pulled_105 rfl rfl ?_
        refine eb_aload_n (pc := 106) 0 dX10_pulled_106 rfl rfl ?_
        refine eb_getR (pc := 107) ef_RX10_64 dX10_pulled_107 (fun r16 => ?_)
        refine eb_iload (pc := 110) 8 dX10_pulled_110 rfl ?_
        refine eb_calli (pc := 112) (eb_runV (pc := 112) (As := [.ref r16, .int v11]) (rest := []) (ci := 9) (q0 := (RX10, TX10, 43)) (q := (RX10, TX10, 43)) ew_758 ew_759 ew_760 ew_666 rfl rfl ed_X10_offOf (ct_X10_offOf hG n _ _ _ _) rfl ew_761 ⟨by decide, by decide⟩ (by decide) (by decide) (Nat.le_of_ble_eq_true rfl) rfl dX10_pulled_112) (fun x18 s17 => ?_)
        refine eb_i2l (pc := 115) dX10_pulled_115 ?_
        refine eb_aload_n (pc := 116) 0 dX10_pulled_116 rfl rfl ?_
        refine eb_getR (pc := 117) ef_RX10_85 dX10_pulled_117 (fun r19 => ?_)
        refine eb_bipush (pc := 120) (v := 16) dX10_pulled_120 (by decide) ?_
        refine eb_iload_n (pc := 122) 1 dX10_pulled_122 rfl rfl ?_
        refine eb_imul (pc := 123) dX10_pulled_123 ?_
        refine eb_iload_n (pc := 124) 2 dX10_pulled_124 rfl rfl ?_
        refine eb_iadd (pc := 125) dX10_pulled_125 ?_
        refine eb_iload (pc := 126) 8 dX10_pulled_126 rfl ?_
        refine eb_iadd (pc := 128) dX10_pulled_128 ?_
        refine eb_laload (pc := 129) dX10_pulled_129 (fun l20 => ?_)
        refine eb_lcmp (pc := 130) dX10_pulled_130 ?_
        refine eb_join (fun j23 : Int32 → eb_S → Option (Int32 × eb_S) => ∀ (y21 : Int32) (s22 : eb_S), eb_go G yX10_pulled cX10_pulled 12 (some .int) (5) 0 0 .ireturn (fun r : Int32 => [.int r]) 139 [(0, .ref v0), (1, .int v1), (3, .int v3), (4, .int v4), (6, .int v6), (7, .int v7), (8, .int v8), (11, .int v11)] [.int y21] s22 0 0 (j23 y21 s22)) ?_ (fun j23 hj23 => ?_)
        · intro y21 s22
          refine eb_istore (pc := 139) (L' := [(10, .int y21), (0, .ref v0), (1, .int v1), (3, .int v3), (4, .int v4), (6, .int v6), (7, .int v7), (8, .int v8), (11, .int v11)]) dX10_pulled_139 (by decide) rfl ?_
          refine eb_iinc (pc := 141) (v := v11 + 1) (L' := [(11, .int (v11 + 1)), (10, .int y21), (0, .ref v0), (1, .int v1), (3, .int v3), (4, .int v4), (6, .int v6), (7, .int v7), (8, .int v8)]) 8 dX10_pulled_141 rfl rfl (by decide) rfl ?_
          refine eb_goto (pc := 144) (tgt := 91) dX10_pulled_144 (by decide) ?_
          refine eb_sub [2, 3, 4, 5, 6, 7, 8, 1, 0] rfl ?_
          exact ih _ _ _
        refine eb_if_ne (pc := 131) (tgt := 138) dX10_pulled_131 (by decide) ?_ ?_
        · refine eb_iconst (pc := 138) (v := 0) dX10_pulled_138 (by decide) ?_
          refine eb_sub [0, 1, 2, 3, 4, 5, 6, 8] rfl ?_
          exact hj23 _ _
        · refine eb_iconst (pc := 134) (v := 1) dX10_pulled_134 (by decide) ?_
          refine eb_goto (pc := 135) (tgt := 139) dX10_pulled_135 (by decide) ?_
          refine eb_sub [0, 1, 2, 3, 4, 5, 6, 8] rfl ?_
          exact hj23 _ _
set_option maxRecDepth 100000 in
theorem gl_X10_pulled_L164 {G : eb_G} (hG : eb_ok G) {n : Nat} {v0 : Nat} {v1 : Int32} {v3 : Int32} {v4 : Int32} {v6 : Int32} {v7 : Int32} {v10 : Int32} {K : Int32 → eb_S → Option (Int32 × eb_S)} (hK : ∀ (v8 : Int32) (s : eb_S), eb_go G yX10_pulled cX10_pulled 12 (some .int) (5) 0 0 .ireturn (fun r : Int32 => [.int r]) 216 [(0, .ref v0), (1, .int v1), (3, .int v3), (4, .int v4), (6, .int v6), (7, .int v7), (8, .int v8), (10, .int v10)] [] s 0 0 (K v8 s)) : ∀ (m : Nat) (v8 : Int32) (v11 : Int32) (s : eb_S), eb_go G yX10_pulled cX10_pulled 12 (some .int) (5) 0 0 .ireturn (fun r : Int32 => [.int r]) 164 [(0, .ref v0), (1, .int v1), (3, .int v3), (4, .int v4), (6, .int v6), (7, .int v7), (8, .int v8), (10, .int v10), (11, .int v11)] [] s 0 0 (f_X10_pulled_L164 n v0 v1 v3 v4 v6 v7 v10 K m v8 v11 s) := by
  intro m
  induction m with
  | zero => intro v8 v11 s; exact eb_none
  | succ m ih =>
    intro v8 v11 s
    rw [f_X10_pulled_L164.eq_2]
    refine eb_iload (pc := 164) 8 dX10_pulled_164 rfl ?_
    refine eb_aload_n (pc := 166) 0 dX10_pulled_166 rfl rfl ?_
    refine eb_getI (pc := 167) ef_RX10_98 dX10_pulled_167 (fun x28 => ?_)
    refine eb_icmp_ge (pc := 170) (tgt := 216) dX10_pulled_170 (by decide) ?_ ?_
    · refine eb_sub [0, 1, 2, 3, 4, 5, 6, 7] rfl ?_
      exact hK _ _
    · refine eb_iload (pc := 173) 7 dX10_pulled_173 rfl ?_
      refine eb_if_eq (pc := 175) (tgt := 216) dX10_pulled_175 (by decide) ?_ ?_
      · refine eb_sub [0, 1, 2, 3, 4, 5, 6, 7] rfl ?_
        exact hK _ _
      · refine eb_iload (pc := 178) 6 dX10_pulled_178 rfl ?_
        refine eb_aload_n (pc := 180) 0 dX10_pulled_180 rfl rfl ?_
        refine eb_getR (pc := 181) ef_RX10_64 dX10_pulled_181 (fun r29 => ?_)
        refine eb_iload (pc := 184) 8 dX10_pulled_184 rfl ?_
        refine eb_iaload (pc := 186) dX10_pulled_186 (fun x30 => ?_)
        refine eb_aload_n (pc := 187) 0 dX10_pulled_187 rfl rfl ?_
        refine eb_getR (pc := 188) ef_RX10_67 dX10_pulled_188 (fun r31 => ?_)
        refine eb_iload (pc := 191) 8 dX10_pulled_191 rfl ?_
        refine eb_iaload (pc := 193) dX10_pulled_193 (fun x32 => ?_)
        refine eb_join (fun j35 : Int32 → eb_S → Option (Int32 × eb_S) => ∀ (y33 : Int32) (s34 : eb_S), eb_go G yX10_pulled cX10_pulled 12 (some .int) (5) 0 0 .ireturn (fun r : Int32 => [.int r]) 207 [(0, .ref v0), (1, .int v1), (3, .int v3), (4, .int v4), (6, .int v6), (7, .int v7), (10, .int v10), (11, .int v11)] [.int y33, .int v8] s34 0 0 (j35 y33 s34)) ?_ (fun j35 hj35 => ?_)
        · intro y33 s34
          refine eb_iand (pc := 207) dX10_pulled_207 ?_
          refine eb_istore (pc := 208) (L' := [(8, .int (v8 &&& y33)), (0, .ref v0), (1, .int v1), (3, .int v3), (4, .int v4), (6, .int v6), (7, .int v7), (10, .int v10), (11, .int v11)]) dX10_pulled_208 (by decide) rfl ?_
          refine eb_iinc (pc := 210) (v := v11 + 1) (L' := [(11, .int (v11 + 1)), (8, .int (v8 &&& y33)), (0, .ref v0), (1, .int v1), (3, .int v3), (4, .int v4), (6, .int v6), (7, .int v7), (10, .int v10)]) 8 dX10_pulled_210 rfl rfl (by decide) rfl ?_
          refine eb_goto (pc := 213) (tgt := 164) dX10_pulled_213 (by decide) ?_
          refine eb_sub [2, 3, 4, 5, 6, 7, 1, 8, 0] rfl ?_
          exact ih _ _ _
        refine eb_icmp_ne (pc := 194) (tgt := 201) dX10_pulled_194 (by decide) ?_ ?_
        · refine eb_iconst (pc := 201) (v := 1) dX10_pulled_201 (by decide) ?_
          refine eb_iload (pc := 202) 8 dX10_pulled_202 rfl ?_
          refine eb_ishl (pc := 204) dX10_pulled_204 ?_
          refine eb_iconst (pc := 205) (v := (-1)) dX10_pulled_205 (by decide) ?_
          refine eb_ixor (pc := 206) dX10_pulled_206 ?_
          refine eb_sub [0, 1, 2, 3, 4, 5, 7, 8] rfl ?_
          exact hj35 _ _
        · refine eb_iconst (pc := 197) (v := (-1)) dX10_pulled_197 (by decide) ?_
          refine eb_goto (pc := 198) (tgt := 207) dX10_pulled_198 (by decide) ?_
          refine eb_sub [0, 1, 2, 3, 4, 5, 7, 8] rfl ?_
          exact hj35 _ _
set_option maxRecDepth 100000 in
theorem gl_X10_pulled_L73 {G : eb_G} (hG : eb_ok G) {n : Nat} {v0 : Nat} {v1 : Int32} {v3 : Int32} {v4 : Int32} {v7 : Int32} {K : Int32 → Int32 → eb_S → Option (Int32 × eb_S)} (hK : ∀ (v6 : Int32) (v8 : Int32) (s : eb_S), eb_go G yX10_pulled cX10_pulled 12 (some .int) (5) 0 0 .ireturn (fun r : Int32 => [.int r]) 241 [(0, .ref v0), (4, .int v4), (6, .int v6), (7, .int v7), (8, .int v8)] [] s 0 0 (K v6 v8 s)) : ∀ (m : Nat) (v6 : Int32) (v8 : Int32) (v9 : Int32) (s : eb_S), eb_go G yX10_pulled cX10_pulled 12 (some .int) (5) 0 0 .ireturn (fun r : Int32 => [.int r]) 73 [(0, .ref v0), (1, .int v1), (3, .int v3), (4, .int v4), (6, .int v6), (7, .int v7), (8, .int v8), (9, .int v9)] [] s 0 0 (f_X10_pulled_L73 n v0 v1 v3 v4 v7 K m v6 v8 v9 s) := by
  intro m
  induction m with
  | zero => intro v6 v8 v9 s; exact eb_none
  | succ m ih =>
    intro v6 v8 v9 s
    rw [f_X10_pulled_L73.eq_2]
    refine eb_iload (pc := 73) 7 dX10_pulled_73 rfl ?_
    refine eb_if_eq (pc := 75) (tgt := 241) dX10_pulled_75 (by decide) ?_ ?_
    · refine eb_sub [0, 3, 4, 5, 6] rfl ?_
      exact hK _ _ _
    · refine eb_aload_n (pc := 78) 0 dX10_pulled_78 rfl rfl ?_
      refine eb_aload_n (pc := 79) 0 dX10_pulled_79 rfl rfl ?_
      refine eb_getR (pc := 80) ef_RX10_64 dX10_pulled_80 (fun r12 => ?_)
      refine eb_callb (pc := 83) (eb_runV (pc := 83) (As := [.ref r12]) (rest := []) (ci := 9) (q0 := (RX10, TX10, 43)) (q := (RX10, TX10, 43)) ew_776 ew_777 ew_778 ew_666 rfl rfl ed_X10_isLawful (ct_X10_isLawful hG n _ _ _) rfl ew_779 ⟨by decide, by decide⟩ (by decide) (by decide) (Nat.le_of_ble_eq_true rfl) rfl dX10_pulled_83) (fun b14 s13 => ?_)
      refine eb_istore (pc := 86) (L' := [(10, .int (eb_b b14)), (0, .ref v0), (1, .int v1), (3, .int v3), (4, .int v4), (6, .int v6), (7, .int v7), (8, .int v8), (9, .int v9)]) dX10_pulled_86 (by decide) rfl ?_
      refine eb_iconst (pc := 88) (v := 0) dX10_pulled_88 (by decide) ?_
      refine eb_istore (pc := 89) (L' := [(11, .int 0), (10, .int (eb_b b14)), (0, .ref v0), (1, .int v1), (3, .int v3), (4, .int v4), (6, .int v6), (7, .int v7), (8, .int v8), (9, .int v9)]) dX10_pulled_89 (by decide) rfl ?_
      refine eb_sub [2, 3, 4, 5, 6, 7, 8, 1, 0] rfl ?_
      refine gl_X10_pulled_L91 hG (fun w24 s25 => ?_) n _ _ _
      refine eb_iload (pc := 147) 7 dX10_pulled_147 rfl ?_
      refine eb_join (fun j27 : eb_S → Option (Int32 × eb_S) => ∀  (s26 : eb_S), eb_go G yX10_pulled cX10_pulled 12 (some .int) (5) 0 0 .ireturn (fun r : Int32 => [.int r]) 161 [(0, .ref v0), (1, .int v1), (3, .int v3), (4, .int v4), (6, .int v6), (7, .int v7), (8, .int v8), (10, .int w24)] [] s26 0 0 (j27  s26)) ?_ (fun j27 hj27 => ?_)
      · intro  s26
        refine eb_iconst (pc := 161) (v := 0) dX10_pulled_161 (by decide) ?_
        refine eb_istore (pc := 162) (L' := [(11, .int 0), (0, .ref v0), (1, .int v1), (3, .int v3), (4, .int v4), (6, .int v6), (7, .int v7), (8, .int v8), (10, .int w24)]) dX10_pulled_162 (by decide) rfl ?_
        refine eb_sub [1, 2, 3, 4, 5, 6, 7, 8, 0] rfl ?_
        refine gl_X10_pulled_L164 hG (fun w36 s37 => ?_) n _ _ _
        refine eb_iload (pc := 216) 4 dX10_pulled_216 rfl ?_
        refine eb_iload (pc := 218) 7 dX10_pulled_218 rfl ?_
        refine eb_join (fun j40 : Int32 → eb_S → Option (Int32 × eb_S) => ∀ (y38 : Int32) (s39 : eb_S), eb_go G yX10_pulled cX10_pulled 12 (some .int) (5) 0 0 .ireturn (fun r : Int32 => [.int r]) 228 [(0, .ref v0), (1, .int v1), (3, .int v3), (4, .int v4), (7, .int v7), (8, .int w36)] [.int y38, .int v6] s39 0 0 (j40 y38 s39)) ?_ (fun j40 hj40 => ?_)
        · intro y38 s39
          refine eb_iadd (pc := 228) dX10_pulled_228 ?_
          refine eb_istore (pc := 229) (L' := [(6, .int (v6 + y38)), (0, .ref v0), (1, .int v1), (3, .int v3), (4, .int v4), (7, .int v7), (8, .int w36)]) dX10_pulled_229 (by decide) rfl ?_
          refine eb_aload_n (pc := 231) 1 dX10_pulled_231 rfl rfl ?_
          refine eb_iconst (pc := 232) (v := 3) dX10_pulled_232 (by decide) ?_
          refine eb_callb (pc := 233) (eb_runV (pc := 233) (As := [.int 3]) (rest := []) (ci := 9) (q0 := (RX10, TX10, 43)) (q := (RX10, TX10, 43)) ew_780 ew_781 ew_782 ew_666 rfl rfl ed_X10_turns (ct_X10_turns hG n _ _ _) rfl ew_783 ⟨by decide, by decide⟩ (by decide) (by decide) (Nat.le_of_ble_eq_true rfl) rfl dX10_pulled_233) (fun b42 s41 => ?_)
          refine eb_istore (pc := 236) (L' := [(9, .int (eb_b b42)), (6, .int (v6 + y38)), (0, .ref v0), (1, .int v1), (3, .int v3), (4, .int v4), (7, .int v7), (8, .int w36)]) dX10_pulled_236 (by decide) rfl ?_
          refine eb_goto (pc := 238) (tgt := 73) dX10_pulled_238 (by decide) ?_
          refine eb_sub [2, 3, 4, 5, 1, 6, 7, 0] rfl ?_
          exact ih _ _ _ _
        refine eb_if_eq (pc := 220) (tgt := 227) dX10_pulled_220 (by decide) ?_ ?_
        · refine eb_iconst (pc := 227) (v := 0) dX10_pulled_227 (by decide) ?_
          refine eb_sub [0, 1, 2, 3, 5, 6] rfl ?_
          exact hj40 _ _
        · refine eb_iconst (pc := 223) (v := 1) dX10_pulled_223 (by decide) ?_
          refine eb_goto (pc := 224) (tgt := 228) dX10_pulled_224 (by decide) ?_
          refine eb_sub [0, 1, 2, 3, 5, 6] rfl ?_
          exact hj40 _ _
      refine eb_if_eq (pc := 149) (tgt := 161) dX10_pulled_149 (by decide) ?_ ?_
      · exact hj27 _
      · refine eb_iload (pc := 152) 4 dX10_pulled_152 rfl ?_
        refine eb_if_ne (pc := 154) (tgt := 161) dX10_pulled_154 (by decide) ?_ ?_
        · exact hj27 _
        · refine eb_aload_n (pc := 157) 0 dX10_pulled_157 rfl rfl ?_
          refine eb_callv (pc := 158) (eb_runV (pc := 158) (As := []) (rest := []) (ci := 9) (q0 := (RX10, TX10, 43)) (q := (RX10, TX10, 43)) ew_786 ew_787 ew_788 ew_666 rfl rfl ed_X10_finds (ct_X10_finds hG n _ _) rfl ew_789 ⟨by decide, by decide⟩ (by decide) (by decide) (Nat.le_of_ble_eq_true rfl) rfl dX10_pulled_158) (fun _u s43 => ?_)
          exact hj27 _
set_option maxRecDepth 100000 in
theorem gl_X10_pulled_L244 {G : eb_G} (hG : eb_ok G) {n : Nat} {v0 : Nat} {v4 : Int32} {v6 : Int32} {v8 : Int32} {K : Int32 → eb_S → Option (Int32 × eb_S)} (hK : ∀ (v7 : Int32) (s : eb_S), eb_go G yX10_pulled cX10_pulled 12 (some .int) (5) 0 0 .ireturn (fun r : Int32 => [.int r]) 278 [(4, .int v4), (6, .int v6), (7, .int v7), (8, .int v8)] [] s 0 0 (K v7 s)) : ∀ (m : Nat) (v7 : Int32) (v10 : Int32) (s : eb_S), eb_go G yX10_pulled cX10_pulled 12 (some .int) (5) 0 0 .ireturn (fun r : Int32 => [.int r]) 244 [(0, .ref v0), (4, .int v4), (6, .int v6), (7, .int v7), (8, .int v8), (10, .int v10)] [] s 0 0 (f_X10_pulled_L244 n v0 v4 v6 v8 K m v7 v10 s) := by
  intro m
  induction m with
  | zero => intro v7 v10 s; exact eb_none
  | succ m ih =>
    intro v7 v10 s
    rw [f_X10_pulled_L244.eq_2]
    refine eb_iload (pc := 244) 5 dX10_pulled_244 rfl ?_
    refine eb_aload_n (pc := 246) 0 dX10_pulled_246 rfl rfl ?_
    refine eb_getI (pc := 247) ef_RX10_98 dX10_pulled_247 (fun x47 => ?_)
    refine eb_icmp_ge (pc := 250) (tgt := 278) dX10_pulled_250 (by decide) ?_ ?_
    · refine eb_sub [1, 2, 3, 4] rfl ?_
      exact hK _ _
    · refine eb_iload (pc := 253) 2 dX10_pulled_253 rfl ?_
      refine eb_if_le (pc := 255) (tgt := 278) dX10_pulled_255 (by decide) ?_ ?_
      · refine eb_sub [1, 2, 3, 4] rfl ?_
        exact hK _ _
      · refine eb_iconst (pc := 258) (v := 3) dX10_pulled_258 (by decide) ?_
        refine eb_iload (pc := 259) 3 dX10_pulled_259 rfl ?_
        refine eb_imul (pc := 261) dX10_pulled_261 ?_
        refine eb_aload_n (pc := 262) 0 dX10_pulled_262 rfl rfl ?_
        refine eb_getR (pc := 263) ef_RX10_67 dX10_pulled_263 (fun r48 => ?_)
        refine eb_iload (pc := 266) 5 dX10_pulled_266 rfl ?_
        refine eb_iaload (pc := 268) dX10_pulled_268 (fun x49 => ?_)
        refine eb_iadd (pc := 269) dX10_pulled_269 ?_
        refine eb_istore (pc := 270) (L' := [(7, .int (((3 : Int32) * v7) + x49)), (0, .ref v0), (4, .int v4), (6, .int v6), (8, .int v8), (10, .int v10)]) dX10_pulled_270 (by decide) rfl ?_
        refine eb_iinc (pc := 272) (v := v10 + 1) (L' := [(10, .int (v10 + 1)), (7, .int (((3 : Int32) * v7) + x49)), (0, .ref v0), (4, .int v4), (6, .int v6), (8, .int v8)]) 5 dX10_pulled_272 rfl rfl (by decide) rfl ?_
        refine eb_goto (pc := 275) (tgt := 244) dX10_pulled_275 (by decide) ?_
        refine eb_sub [2, 3, 4, 1, 5, 0] rfl ?_
        exact ih _ _ _
set_option maxRecDepth 100000 in
theorem ct_X10_pulled {G : eb_G} (hG : eb_ok G) (n : Nat) (v0 : Nat) (v1 : Int32) (v2 : Int32) (v3 : Int32) (v4 : Int32) (s : eb_S) : eb_ct G yX10_pulled cX10_pulled 12 (some .int) 5 0 0 eb_ei [.ref v0, .int v1, .int v2, .int v3, .int v4] s (f_X10_pulled n v0 v1 v2 v3 v4 s) := by
  refine eb_ct_i (by decide) (Nat.le_of_ble_eq_true rfl) (fun v hv => by simp at hv; rcases hv with rfl | rfl | rfl | rfl | rfl <;> simp [Value.category]) ?_
  show eb_go G yX10_pulled cX10_pulled 12 (some .int) (5) 0 0 .ireturn (fun r : Int32 => [.int r]) 0 [(0, .ref v0), (1, .int v1), (2, .int v2), (3, .int v3), (4, .int v4)] [] s 0 0 _
  unfold f_X10_pulled
  refine eb_iload_n (pc := 0) 1 dX10_pulled_0 rfl rfl ?_
  refine eb_callb (pc := 1) (eb_runS (pc := 1) (As := [.int v1]) (rest := []) ew_841 ew_842 ew_666 rfl ed_X10_isSheet (ct_X10_isSheet hG _ _) ew_843 ⟨by decide, by decide⟩ (by decide) (by decide) (Nat.le_of_ble_eq_true rfl) rfl dX10_pulled_1) (fun b2 s1 => ?_)
  refine eb_if_eq (pc := 4) (tgt := 27) dX10_pulled_4 (by decide) ?_ ?_
  · refine eb_iconst (pc := 27) (v := (-1)) dX10_pulled_27 (by decide) ?_
    exact eb_iret (pc := 28) dX10_pulled_28 (by decide) (by decide)
  · refine eb_iload_n (pc := 7) 2 dX10_pulled_7 rfl rfl ?_
    refine eb_callb (pc := 8) (eb_runS (pc := 8) (As := [.int v2]) (rest := []) ew_844 ew_845 ew_666 rfl ed_X10_isLane (ct_X10_isLane hG _ _) ew_846 ⟨by decide, by decide⟩ (by decide) (by decide) (Nat.le_of_ble_eq_true rfl) rfl dX10_pulled_8) (fun b4 s3 => ?_)
    refine eb_if_eq (pc := 11) (tgt := 27) dX10_pulled_11 (by decide) ?_ ?_
    · refine eb_iconst (pc := 27) (v := (-1)) dX10_pulled_27 (by decide) ?_
      exact eb_iret (pc := 28) dX10_pulled_28 (by decide) (by decide)
    · refine eb_iload (pc := 14) 4 dX10_pulled_14 rfl ?_
      refine eb_i2l (pc := 16) dX10_pulled_16 ?_
      refine eb_lconst (pc := 17) (v := 0) dX10_pulled_17 (by decide) ?_
      refine eb_ldc2 (pc := 18) (v := 2) dX10_pulled_18 ew_669 ?_
      refine eb_callb (pc := 21) (eb_runS (pc := 21) (As := [.long ((v4).toInt64), .long 0, .long 2]) (rest := []) ew_664 ew_665 ew_666 rfl ed_X10_in (ct_X10_in hG _ _ _ _) ew_667 ⟨by decide, by decide⟩ (by decide) (by decide) (Nat.le_of_ble_eq_true rfl) rfl dX10_pulled_21) (fun b6 s5 => ?_)
      refine eb_if_ne (pc := 24) (tgt := 29) dX10_pulled_24 (by decide) ?_ ?_
      · refine eb_aload_n (pc := 29) 0 dX10_pulled_29 rfl rfl ?_
        refine eb_iload_n (pc := 30) 1 dX10_pulled_30 rfl rfl ?_
        refine eb_iload_n (pc := 31) 2 dX10_pulled_31 rfl rfl ?_
        refine eb_iload_n (pc := 32) 3 dX10_pulled_32 rfl rfl ?_
        refine eb_aload_n (pc := 33) 0 dX10_pulled_33 rfl rfl ?_
        refine eb_getI (pc := 34) ef_RX10_106 dX10_pulled_34 (fun x7 => ?_)
        refine eb_calli (pc := 37) (eb_runV (pc := 37) (As := [.int v1, .int v2, .int v3, .int x7]) (rest := []) (ci := 9) (q0 := (RX10, TX10, 43)) (q := (RX10, TX10, 43)) ew_847 ew_848 ew_849 ew_666 rfl rfl ed_X10_why (ct_X10_why hG _ _ _ _ _ _) rfl ew_850 ⟨by decide, by decide⟩ (by decide) (by decide) (Nat.le_of_ble_eq_true rfl) rfl dX10_pulled_37) (fun x9 s8 => ?_)
        refine eb_istore (pc := 40) (L' := [(5, .int x9), (0, .ref v0), (1, .int v1), (2, .int v2), (3, .int v3), (4, .int v4)]) dX10_pulled_40 (by decide) rfl ?_
        refine eb_iload (pc := 42) 0 dX10_pulled_42 rfl ?_
        refine eb_if_ge (pc := 44) (tgt := 50) dX10_pulled_44 (by decide) ?_ ?_
        · refine eb_iconst (pc := 50) (v := 0) dX10_pulled_50 (by decide) ?_
          refine eb_istore (pc := 51) (L' := [(6, .int 0), (5, .int x9), (0, .ref v0), (1, .int v1), (2, .int v2), (3, .int v3), (4, .int v4)]) dX10_pulled_51 (by decide) rfl ?_
          refine eb_iconst (pc := 53) (v := 0) dX10_pulled_53 (by decide) ?_
          refine eb_istore (pc := 54) (L' := [(7, .int 0), (6, .int 0), (5, .int x9), (0, .ref v0), (1, .int v1), (2, .int v2), (3, .int v3), (4, .int v4)]) dX10_pulled_54 (by decide) rfl ?_
          refine eb_iconst (pc := 56) (v := 1) dX10_pulled_56 (by decide) ?_
          refine eb_aload_n (pc := 57) 3 dX10_pulled_57 rfl rfl ?_
          refine eb_getI (pc := 58) ef_RX10_98 dX10_pulled_58 (fun x10 => ?_)
          refine eb_ishl (pc := 61) dX10_pulled_61 ?_
          refine eb_iconst (pc := 62) (v := 1) dX10_pulled_62 (by decide) ?_
          refine eb_isub (pc := 63) dX10_pulled_63 ?_
          refine eb_istore (pc := 64) (L' := [(8, .int (((1 : Int32) <<< (x10 &&& 31)) - 1)), (7, .int 0), (6, .int 0), (5, .int x9), (0, .ref v0), (1, .int v1), (2, .int v2), (3, .int v3), (4, .int v4)]) dX10_pulled_64 (by decide) rfl ?_
          refine eb_aload_n (pc := 66) 4 dX10_pulled_66 rfl rfl ?_
          refine eb_callv (pc := 67) (eb_runV (pc := 67) (As := []) (rest := []) (ci := 9) (q0 := (RX10, TX10, 43)) (q := (RX10, TX10, 43)) ew_772 ew_773 ew_774 ew_666 rfl rfl ed_X10_begins (ct_X10_begins hG n _ _) rfl ew_775 ⟨by decide, by decide⟩ (by decide) (by decide) (Nat.le_of_ble_eq_true rfl) rfl dX10_pulled_67) (fun _u s11 => ?_)
          refine eb_iconst (pc := 70) (v := 1) dX10_pulled_70 (by decide) ?_
          refine eb_istore (pc := 71) (L' := [(9, .int 1), (8, .int (((1 : Int32) <<< (x10 &&& 31)) - 1)), (7, .int 0), (6, .int 0), (5, .int x9), (0, .ref v0), (1, .int v1), (2, .int v2), (3, .int v3), (4, .int v4)]) dX10_pulled_71 (by decide) rfl ?_
          refine eb_sub [5, 6, 8, 9, 3, 2, 1, 0] rfl ?_
          refine gl_X10_pulled_L73 hG (fun w44 w45 s46 => ?_) n _ _ _ _
          refine eb_iconst (pc := 241) (v := 0) dX10_pulled_241 (by decide) ?_
          refine eb_istore (pc := 242) (L' := [(10, .int 0), (0, .ref v0), (4, .int v4), (6, .int w44), (7, .int 0), (8, .int w45)]) dX10_pulled_242 (by decide) rfl ?_
          refine eb_sub [1, 2, 3, 4, 5, 0] rfl ?_
          refine gl_X10_pulled_L244 hG (fun w50 s51 => ?_) n _ _ _
          refine eb_iload (pc := 278) 0 dX10_pulled_278 rfl ?_
          refine eb_if_ne (pc := 280) (tgt := 288) dX10_pulled_280 (by decide) ?_ ?_
          · refine eb_iload (pc := 288) 1 dX10_pulled_288 rfl ?_
            refine eb_if_ne (pc := 290) (tgt := 298) dX10_pulled_290 (by decide) ?_ ?_
            · refine eb_iload (pc := 298) 0 dX10_pulled_298 rfl ?_
              refine eb_iconst (pc := 300) (v := 1) dX10_pulled_300 (by decide) ?_
              refine eb_icmp_ne (pc := 301) (tgt := 309) dX10_pulled_301 (by decide) ?_ ?_
              · refine eb_iload (pc := 309) 3 dX10_pulled_309 rfl ?_
                exact eb_iret (pc := 311) dX10_pulled_311 (by decide) (by decide)
              · refine eb_iload (pc := 304) 2 dX10_pulled_304 rfl ?_
                refine eb_goto (pc := 306) (tgt := 311) dX10_pulled_306 (by decide) ?_
                exact eb_iret (pc := 311) dX10_pulled_311 (by decide) (by decide)
            · refine eb_bipush (pc := 293) (v := (-4)) dX10_pulled_293 (by decide) ?_
              refine eb_goto (pc := 295) (tgt := 311) dX10_pulled_295 (by decide) ?_
              exact eb_iret (pc := 311) dX10_pulled_311 (by decide) (by decide)
          · refine eb_iload (pc := 283) 1 dX10_pulled_283 rfl ?_
            refine eb_goto (pc := 285) (tgt := 311) dX10_pulled_285 (by decide) ?_
            exact eb_iret (pc := 311) dX10_pulled_311 (by decide) (by decide)
        · refine eb_iload (pc := 47) 0 dX10_pulled_47 rfl ?_
          exact eb_iret (pc := 49) dX10_pulled_49 (by decide) (by decide)
      · refine eb_iconst (pc := 27) (v := (-1)) dX10_pulled_27 (by decide) ?_
        exact eb_iret (pc := 28) dX10_pulled_28 (by decide) (by decide)

def f_X10_puts (v0 : Nat) (v1 : Int32) (v2 : Int32) (v3 : Int64) (s : eb_S) : Option (Unit × eb_S) := eb_gR s [9] v0 37 fun r1 => eb_ai s r1 v1 fun x2 => eb_gR s [9] v0 39 fun r3 => if x2 = 0 then (eb_wl s r3 (((16 : Int32) * v1) + v2) ((((v3).toInt32).toInt8.toInt32).toInt64) fun s7 => some ((), s7)) else (if x2 = 1 then (eb_wl s r3 (((16 : Int32) * v1) + v2) ((((v3).toInt32).toInt16.toInt32).toInt64) fun s6 => some ((), s6)) else (if x2 = 2 then (eb_wl s r3 (((16 : Int32) * v1) + v2) (((v3).toInt32).toInt64) fun s5 => some ((), s5)) else (eb_wl s r3 (((16 : Int32) * v1) + v2) v3 fun s4 => some ((), s4))))
set_option maxRecDepth 100000 in
theorem ct_X10_puts {G : eb_G} (hG : eb_ok G) (v0 : Nat) (v1 : Int32) (v2 : Int32) (v3 : Int64) (s : eb_S) : eb_ct G yX10_puts cX10_puts 6 none 1 0 0 eb_ev [.ref v0, .int v1, .int v2, .long v3] s (f_X10_puts v0 v1 v2 v3 s) := by
  refine eb_ct_v (by decide) (Nat.le_of_ble_eq_true rfl) (fun v hv => by simp at hv; rcases hv with rfl | rfl | rfl | rfl <;> simp [Value.category]) ?_
  show eb_go G yX10_puts cX10_puts 6 none (1) 0 0 .return_ (fun _ : Unit => []) 0 [(0, .ref v0), (1, .int v1), (2, .int v2), (3, .long v3)] [] s 0 0 _
  unfold f_X10_puts
  refine eb_aload_n (pc := 0) 0 dX10_puts_0 rfl rfl ?_
  refine eb_getR (pc := 1) ef_RX10_79 dX10_puts_1 (fun r1 => ?_)
  refine eb_iload_n (pc := 4) 1 dX10_puts_4 rfl rfl ?_
  refine eb_iaload (pc := 5) dX10_puts_5 (fun x2 => ?_)
  refine eb_istore (pc := 6) (L' := [(5, .int x2), (0, .ref v0), (1, .int v1), (2, .int v2), (3, .long v3)]) dX10_puts_6 (by decide) rfl ?_
  refine eb_aload_n (pc := 8) 1 dX10_puts_8 rfl rfl ?_
  refine eb_getR (pc := 9) ef_RX10_85 dX10_puts_9 (fun r3 => ?_)
  refine eb_bipush (pc := 12) (v := 16) dX10_puts_12 (by decide) ?_
  refine eb_iload_n (pc := 14) 2 dX10_puts_14 rfl rfl ?_
  refine eb_imul (pc := 15) dX10_puts_15 ?_
  refine eb_iload_n (pc := 16) 3 dX10_puts_16 rfl rfl ?_
  refine eb_iadd (pc := 17) dX10_puts_17 ?_
  refine eb_iload (pc := 18) 0 dX10_puts_18 rfl ?_
  refine eb_if_ne (pc := 20) (tgt := 30) dX10_puts_20 (by decide) ?_ ?_
  · refine eb_iload (pc := 30) 0 dX10_puts_30 rfl ?_
    refine eb_iconst (pc := 32) (v := 1) dX10_puts_32 (by decide) ?_
    refine eb_icmp_ne (pc := 33) (tgt := 43) dX10_puts_33 (by decide) ?_ ?_
    · refine eb_iload (pc := 43) 0 dX10_puts_43 rfl ?_
      refine eb_iconst (pc := 45) (v := 2) dX10_puts_45 (by decide) ?_
      refine eb_icmp_ne (pc := 46) (tgt := 55) dX10_puts_46 (by decide) ?_ ?_
      · refine eb_lload_n (pc := 55) 4 dX10_puts_55 rfl rfl ?_
        refine eb_lastore (pc := 56) dX10_puts_56 (fun s4 => ?_)
        exact eb_vret (pc := 57) dX10_puts_57 (by decide) (by decide)
      · refine eb_lload_n (pc := 49) 4 dX10_puts_49 rfl rfl ?_
        refine eb_l2i (pc := 50) dX10_puts_50 ?_
        refine eb_i2l (pc := 51) dX10_puts_51 ?_
        refine eb_goto (pc := 52) (tgt := 56) dX10_puts_52 (by decide) ?_
        refine eb_lastore (pc := 56) dX10_puts_56 (fun s5 => ?_)
        exact eb_vret (pc := 57) dX10_puts_57 (by decide) (by decide)
    · refine eb_lload_n (pc := 36) 4 dX10_puts_36 rfl rfl ?_
      refine eb_l2i (pc := 37) dX10_puts_37 ?_
      refine eb_i2s (pc := 38) dX10_puts_38 ?_
      refine eb_i2l (pc := 39) dX10_puts_39 ?_
      refine eb_goto (pc := 40) (tgt := 56) dX10_puts_40 (by decide) ?_
      refine eb_lastore (pc := 56) dX10_puts_56 (fun s6 => ?_)
      exact eb_vret (pc := 57) dX10_puts_57 (by decide) (by decide)
  · refine eb_lload_n (pc := 23) 4 dX10_puts_23 rfl rfl ?_
    refine eb_l2i (pc := 24) dX10_puts_24 ?_
    refine eb_i2b (pc := 25) dX10_puts_25 ?_
    refine eb_i2l (pc := 26) dX10_puts_26 ?_
    refine eb_goto (pc := 27) (tgt := 56) dX10_puts_27 (by decide) ?_
    refine eb_lastore (pc := 56) dX10_puts_56 (fun s7 => ?_)
    exact eb_vret (pc := 57) dX10_puts_57 (by decide) (by decide)

def f_X10_film_L40 (n : Nat) (v0 : Nat) (v1 : Int32) (v3 : Int32) (K : eb_S → Option (Int32 × eb_S)) : Nat → Int32 → eb_S → Option (Int32 × eb_S)
  | 0, _, _ => none
  | m + 1, v5, s => eb_gI s [9] v0 6 fun x8 => if x8 ≤ v5 then (K s) else (eb_gR s [9] v0 5 fun r9 => eb_cl (eb_tg s v0 9 (f_X10_offOf n v0 r9 v5 s)) fun x11 s10 => eb_cl (eb_tg s10 v0 9 (f_X10_puts v0 v1 (v3 + v5) ((x11).toInt64) s10)) fun _u s12 => f_X10_film_L40 n v0 v1 v3 K m (v5 + 1) s12)
def f_X10_film (n : Nat) (v0 : Nat) (v1 : Int32) (v2 : Int32) (v3 : Int32) (s : eb_S) : Option (Int32 × eb_S) := eb_cl (f_X10_isSheet v1 s) fun b2 s1 => if (eb_b b2) = 0 then (some ((-1), s1)) else (eb_cl (f_X10_isLane v2 s1) fun b4 s3 => if (eb_b b4) = 0 then (some ((-1), s3)) else (eb_gI s3 [9] v0 6 fun x5 => eb_cl (eb_tg s3 v0 9 (f_X10_why v0 v1 v2 v3 x5 s3)) fun x7 s6 => if 0 ≤ x7 then (f_X10_film_L40 n v0 v1 v3 (fun  (s13 : eb_S) => eb_gI s13 [9] v0 6 fun x14 => some (x14, s13)) n 0 s6) else (some (x7, s6))))
set_option maxRecDepth 100000 in
theorem gl_X10_film_L40 {G : eb_G} (hG : eb_ok G) {n : Nat} {v0 : Nat} {v1 : Int32} {v3 : Int32} {K : eb_S → Option (Int32 × eb_S)} (hK : ∀  (s : eb_S), eb_go G yX10_film cX10_film 6 (some .int) (4) 0 0 .ireturn (fun r : Int32 => [.int r]) 75 [(0, .ref v0)] [] s 0 0 (K  s)) : ∀ (m : Nat) (v5 : Int32) (s : eb_S), eb_go G yX10_film cX10_film 6 (some .int) (4) 0 0 .ireturn (fun r : Int32 => [.int r]) 40 [(0, .ref v0), (1, .int v1), (3, .int v3), (5, .int v5)] [] s 0 0 (f_X10_film_L40 n v0 v1 v3 K m v5 s) := by
  intro m
  induction m with
  | zero => intro v5 s; exact eb_none
  | succ m ih =>
    intro v5 s
    rw [f_X10_film_L40.eq_2]
    refine eb_iload (pc := 40) 3 dX10_film_40 rfl ?_
    refine eb_aload_n (pc := 42) 0 dX10_film_42 rfl rfl ?_
    refine eb_getI (pc := 43) ef_RX10_106 dX10_film_43 (fun x8 => ?_)
    refine eb_icmp_ge (pc := 46) (tgt := 75) dX10_film_46 (by decide) ?_ ?_
    · refine eb_sub [0] rfl ?_
      exact hK _
    · refine eb_aload_n (pc := 49) 0 dX10_film_49 rfl rfl ?_
      refine eb_iload_n (pc := 50) 1 dX10_film_50 rfl rfl ?_
      refine eb_iload_n (pc := 51) 2 dX10_film_51 rfl rfl ?_
      refine eb_iload (pc := 52) 3 dX10_film_52 rfl ?_
      refine eb_iadd (pc := 54) dX10_film_54 ?_
      refine eb_aload_n (pc := 55) 0 dX10_film_55 rfl rfl ?_
      refine eb_aload_n (pc := 56) 0 dX10_film_56 rfl rfl ?_
      refine eb_getR (pc := 57) ef_RX10_22 dX10_film_57 (fun r9 => ?_)
      refine eb_iload (pc := 60) 3 dX10_film_60 rfl ?_
      refine eb_calli (pc := 62) (eb_runV (pc := 62) (As := [.ref r9, .int v5]) (rest := [.int (v3 + v5), .int v1, .ref v0]) (ci := 9) (q0 := (RX10, TX10, 43)) (q := (RX10, TX10, 43)) ew_758 ew_759 ew_760 ew_666 rfl rfl ed_X10_offOf (ct_X10_offOf hG n _ _ _ _) rfl ew_761 ⟨by decide, by decide⟩ (by decide) (by decide) (Nat.le_of_ble_eq_true rfl) rfl dX10_film_62) (fun x11 s10 => ?_)
      refine eb_i2l (pc := 65) dX10_film_65 ?_
      refine eb_callv (pc := 66) (eb_runV (pc := 66) (As := [.int v1, .int (v3 + v5), .long ((x11).toInt64)]) (rest := []) (ci := 9) (q0 := (RX10, TX10, 43)) (q := (RX10, TX10, 43)) ew_855 ew_856 ew_857 ew_666 rfl rfl ed_X10_puts (ct_X10_puts hG _ _ _ _ _) rfl ew_858 ⟨by decide, by decide⟩ (by decide) (by decide) (Nat.le_of_ble_eq_true rfl) rfl dX10_film_66) (fun _u s12 => ?_)
      refine eb_iinc (pc := 69) (v := v5 + 1) (L' := [(5, .int (v5 + 1)), (0, .ref v0), (1, .int v1), (3, .int v3)]) 3 dX10_film_69 rfl rfl (by decide) rfl ?_
      refine eb_goto (pc := 72) (tgt := 40) dX10_film_72 (by decide) ?_
      refine eb_sub [1, 2, 3, 0] rfl ?_
      exact ih _ _
set_option maxRecDepth 100000 in
theorem ct_X10_film {G : eb_G} (hG : eb_ok G) (n : Nat) (v0 : Nat) (v1 : Int32) (v2 : Int32) (v3 : Int32) (s : eb_S) : eb_ct G yX10_film cX10_film 6 (some .int) 4 0 0 eb_ei [.ref v0, .int v1, .int v2, .int v3] s (f_X10_film n v0 v1 v2 v3 s) := by
  refine eb_ct_i (by decide) (Nat.le_of_ble_eq_true rfl) (fun v hv => by simp at hv; rcases hv with rfl | rfl | rfl | rfl <;> simp [Value.category]) ?_
  show eb_go G yX10_film cX10_film 6 (some .int) (4) 0 0 .ireturn (fun r : Int32 => [.int r]) 0 [(0, .ref v0), (1, .int v1), (2, .int v2), (3, .int v3)] [] s 0 0 _
  unfold f_X10_film
  refine eb_iload_n (pc := 0) 1 dX10_film_0 rfl rfl ?_
  refine eb_callb (pc := 1) (eb_runS (pc := 1) (As := [.int v1]) (rest := []) ew_841 ew_842 ew_666 rfl ed_X10_isSheet (ct_X10_isSheet hG _ _) ew_843 ⟨by decide, by decide⟩ (by decide) (by decide) (Nat.le_of_ble_eq_true rfl) rfl dX10_film_1) (fun b2 s1 => ?_)
  refine eb_if_eq (pc := 4) (tgt := 14) dX10_film_4 (by decide) ?_ ?_
  · refine eb_iconst (pc := 14) (v := (-1)) dX10_film_14 (by decide) ?_
    exact eb_iret (pc := 15) dX10_film_15 (by decide) (by decide)
  · refine eb_iload_n (pc := 7) 2 dX10_film_7 rfl rfl ?_
    refine eb_callb (pc := 8) (eb_runS (pc := 8) (As := [.int v2]) (rest := []) ew_844 ew_845 ew_666 rfl ed_X10_isLane (ct_X10_isLane hG _ _) ew_846 ⟨by decide, by decide⟩ (by decide) (by decide) (Nat.le_of_ble_eq_true rfl) rfl dX10_film_8) (fun b4 s3 => ?_)
    refine eb_if_ne (pc := 11) (tgt := 16) dX10_film_11 (by decide) ?_ ?_
    · refine eb_aload_n (pc := 16) 0 dX10_film_16 rfl rfl ?_
      refine eb_iload_n (pc := 17) 1 dX10_film_17 rfl rfl ?_
      refine eb_iload_n (pc := 18) 2 dX10_film_18 rfl rfl ?_
      refine eb_iload_n (pc := 19) 3 dX10_film_19 rfl rfl ?_
      refine eb_aload_n (pc := 20) 0 dX10_film_20 rfl rfl ?_
      refine eb_getI (pc := 21) ef_RX10_106 dX10_film_21 (fun x5 => ?_)
      refine eb_calli (pc := 24) (eb_runV (pc := 24) (As := [.int v1, .int v2, .int v3, .int x5]) (rest := []) (ci := 9) (q0 := (RX10, TX10, 43)) (q := (RX10, TX10, 43)) ew_847 ew_848 ew_849 ew_666 rfl rfl ed_X10_why (ct_X10_why hG _ _ _ _ _ _) rfl ew_850 ⟨by decide, by decide⟩ (by decide) (by decide) (Nat.le_of_ble_eq_true rfl) rfl dX10_film_24) (fun x7 s6 => ?_)
      refine eb_istore (pc := 27) (L' := [(4, .int x7), (0, .ref v0), (1, .int v1), (2, .int v2), (3, .int v3)]) dX10_film_27 (by decide) rfl ?_
      refine eb_iload (pc := 29) 0 dX10_film_29 rfl ?_
      refine eb_if_ge (pc := 31) (tgt := 37) dX10_film_31 (by decide) ?_ ?_
      · refine eb_iconst (pc := 37) (v := 0) dX10_film_37 (by decide) ?_
        refine eb_istore (pc := 38) (L' := [(5, .int 0), (4, .int x7), (0, .ref v0), (1, .int v1), (2, .int v2), (3, .int v3)]) dX10_film_38 (by decide) rfl ?_
        refine eb_sub [2, 3, 5, 0] rfl ?_
        refine gl_X10_film_L40 hG (fun s13 => ?_) n _ _
        refine eb_aload_n (pc := 75) 0 dX10_film_75 rfl rfl ?_
        refine eb_getI (pc := 76) ef_RX10_106 dX10_film_76 (fun x14 => ?_)
        exact eb_iret (pc := 79) dX10_film_79 (by decide) (by decide)
      · refine eb_iload (pc := 34) 0 dX10_film_34 rfl ?_
        exact eb_iret (pc := 36) dX10_film_36 (by decide) (by decide)
    · refine eb_iconst (pc := 14) (v := (-1)) dX10_film_14 (by decide) ?_
      exact eb_iret (pc := 15) dX10_film_15 (by decide) (by decide)

def f_X10_lay_L40 (n : Nat) (v0 : Nat) (v1 : Int32) (v3 : Int32) (K : eb_S → Option (Int32 × eb_S)) : Nat → Int32 → eb_S → Option (Int32 × eb_S)
  | 0, _, _ => none
  | m + 1, v5, s => eb_gI s [9] v0 0 fun x8 => if x8 ≤ v5 then (K s) else (eb_gR s [9] v0 39 fun r9 => eb_al s r9 ((((16 : Int32) * v1) + v3) + v5) fun l10 => eb_cl (f_X10_isBag l10 s) fun b12 s11 => if (eb_b b12) = 0 then (some ((-2), s11)) else (f_X10_lay_L40 n v0 v1 v3 K m (v5 + 1) s11))
def f_X10_lay_L81 (n : Nat) (v0 : Nat) (v1 : Int32) (v3 : Int32) (K : eb_S → Option (Int32 × eb_S)) : Nat → Int32 → eb_S → Option (Int32 × eb_S)
  | 0, _, _ => none
  | m + 1, v5, s => eb_gI s [9] v0 0 fun x14 => if x14 ≤ v5 then (K s) else (eb_gR s [9] v0 5 fun r15 => eb_gR s [9] v0 39 fun r16 => eb_al s r16 ((((16 : Int32) * v1) + v3) + v5) fun l17 => eb_wi s r15 v5 ((l17).toInt32) fun s18 => f_X10_lay_L81 n v0 v1 v3 K m (v5 + 1) s18)
def f_X10_lay (n : Nat) (v0 : Nat) (v1 : Int32) (v2 : Int32) (v3 : Int32) (s : eb_S) : Option (Int32 × eb_S) := eb_cl (f_X10_isSheet v1 s) fun b2 s1 => if (eb_b b2) = 0 then (some ((-1), s1)) else (eb_cl (f_X10_isLane v2 s1) fun b4 s3 => if (eb_b b4) = 0 then (some ((-1), s3)) else (eb_gI s3 [9] v0 0 fun x5 => eb_cl (eb_tg s3 v0 9 (f_X10_why v0 v1 v2 v3 x5 s3)) fun x7 s6 => if 0 ≤ x7 then (f_X10_lay_L40 n v0 v1 v3 (fun  (s13 : eb_S) => f_X10_lay_L81 n v0 v1 v3 (fun  (s19 : eb_S) => eb_gR s19 [9] v0 5 fun r20 => eb_cl (eb_tg s19 v0 9 (f_X10_whyNot n v0 r20 s19)) fun x22 s21 => some (x22, s21)) n 0 s13) n 0 s6) else (some (x7, s6))))
set_option maxRecDepth 100000 in
theorem gl_X10_lay_L40 {G : eb_G} (hG : eb_ok G) {n : Nat} {v0 : Nat} {v1 : Int32} {v3 : Int32} {K : eb_S → Option (Int32 × eb_S)} (hK : ∀  (s : eb_S), eb_go G yX10_lay cX10_lay 6 (some .int) (5) 0 0 .ireturn (fun r : Int32 => [.int r]) 78 [(0, .ref v0), (1, .int v1), (3, .int v3)] [] s 0 0 (K  s)) : ∀ (m : Nat) (v5 : Int32) (s : eb_S), eb_go G yX10_lay cX10_lay 6 (some .int) (5) 0 0 .ireturn (fun r : Int32 => [.int r]) 40 [(0, .ref v0), (1, .int v1), (3, .int v3), (5, .int v5)] [] s 0 0 (f_X10_lay_L40 n v0 v1 v3 K m v5 s) := by
  intro m
  induction m with
  | zero => intro v5 s; exact eb_none
  | succ m ih =>
    intro v5 s
    rw [f_X10_lay_L40.eq_2]
    refine eb_iload (pc := 40) 3 dX10_lay_40 rfl ?_
    refine eb_aload_n (pc := 42) 0 dX10_lay_42 rfl rfl ?_
    refine eb_getI (pc := 43) ef_RX10_98 dX10_lay_43 (fun x8 => ?_)
    refine eb_icmp_ge (pc := 46) (tgt := 78) dX10_lay_46 (by decide) ?_ ?_
    · refine eb_sub [0, 1, 2] rfl ?_
      exact hK _
    · refine eb_aload_n (pc := 49) 0 dX10_lay_49 rfl rfl ?_
      refine eb_getR (pc := 50) ef_RX10_85 dX10_lay_50 (fun r9 => ?_)
      refine eb_bipush (pc := 53) (v := 16) dX10_lay_53 (by decide) ?_
      refine eb_iload_n (pc := 55) 1 dX10_lay_55 rfl rfl ?_
      refine eb_imul (pc := 56) dX10_lay_56 ?_
      refine eb_iload_n (pc := 57) 2 dX10_lay_57 rfl rfl ?_
      refine eb_iadd (pc := 58) dX10_lay_58 ?_
      refine eb_iload (pc := 59) 3 dX10_lay_59 rfl ?_
      refine eb_iadd (pc := 61) dX10_lay_61 ?_
      refine eb_laload (pc := 62) dX10_lay_62 (fun l10 => ?_)
      refine eb_callb (pc := 63) (eb_runS (pc := 63) (As := [.long l10]) (rest := []) ew_696 ew_697 ew_666 rfl ed_X10_isBag (ct_X10_isBag hG _ _) ew_698 ⟨by decide, by decide⟩ (by decide) (by decide) (Nat.le_of_ble_eq_true rfl) rfl dX10_lay_63) (fun b12 s11 => ?_)
      refine eb_if_ne (pc := 66) (tgt := 72) dX10_lay_66 (by decide) ?_ ?_
      · refine eb_iinc (pc := 72) (v := v5 + 1) (L' := [(5, .int (v5 + 1)), (0, .ref v0), (1, .int v1), (3, .int v3)]) 3 dX10_lay_72 rfl rfl (by decide) rfl ?_
        refine eb_goto (pc := 75) (tgt := 40) dX10_lay_75 (by decide) ?_
        refine eb_sub [1, 2, 3, 0] rfl ?_
        exact ih _ _
      · refine eb_bipush (pc := 69) (v := (-2)) dX10_lay_69 (by decide) ?_
        exact eb_iret (pc := 71) dX10_lay_71 (by decide) (by decide)
set_option maxRecDepth 100000 in
theorem gl_X10_lay_L81 {G : eb_G} (hG : eb_ok G) {n : Nat} {v0 : Nat} {v1 : Int32} {v3 : Int32} {K : eb_S → Option (Int32 × eb_S)} (hK : ∀  (s : eb_S), eb_go G yX10_lay cX10_lay 6 (some .int) (5) 0 0 .ireturn (fun r : Int32 => [.int r]) 118 [(0, .ref v0)] [] s 0 0 (K  s)) : ∀ (m : Nat) (v5 : Int32) (s : eb_S), eb_go G yX10_lay cX10_lay 6 (some .int) (5) 0 0 .ireturn (fun r : Int32 => [.int r]) 81 [(0, .ref v0), (1, .int v1), (3, .int v3), (5, .int v5)] [] s 0 0 (f_X10_lay_L81 n v0 v1 v3 K m v5 s) := by
  intro m
  induction m with
  | zero => intro v5 s; exact eb_none
  | succ m ih =>
    intro v5 s
    rw [f_X10_lay_L81.eq_2]
    refine eb_iload (pc := 81) 3 dX10_lay_81 rfl ?_
    refine eb_aload_n (pc := 83) 0 dX10_lay_83 rfl rfl ?_
    refine eb_getI (pc := 84) ef_RX10_98 dX10_lay_84 (fun x14 => ?_)
    refine eb_icmp_ge (pc := 87) (tgt := 118) dX10_lay_87 (by decide) ?_ ?_
    · refine eb_sub [0] rfl ?_
      exact hK _
    · refine eb_aload_n (pc := 90) 0 dX10_lay_90 rfl rfl ?_
      refine eb_getR (pc := 91) ef_RX10_22 dX10_lay_91 (fun r15 => ?_)
      refine eb_iload (pc := 94) 3 dX10_lay_94 rfl ?_
      refine eb_aload_n (pc := 96) 0 dX10_lay_96 rfl rfl ?_
      refine eb_getR (pc := 97) ef_RX10_85 dX10_lay_97 (fun r16 => ?_)
      refine eb_bipush (pc := 100) (v := 16) dX10_lay_100 (by decide) ?_
      refine eb_iload_n (pc := 102) 1 dX10_lay_102 rfl rfl ?_
      refine eb_imul (pc := 103) dX10_lay_103 ?_
      refine eb_iload_n (pc := 104) 2 dX10_lay_104 rfl rfl ?_
      refine eb_iadd (pc := 105) dX10_lay_105 ?_
      refine eb_iload (pc := 106) 3 dX10_lay_106 rfl ?_
      refine eb_iadd (pc := 108) dX10_lay_108 ?_
      refine eb_laload (pc := 109) dX10_lay_109 (fun l17 => ?_)
      refine eb_l2i (pc := 110) dX10_lay_110 ?_
      refine eb_iastore (pc := 111) dX10_lay_111 (fun s18 => ?_)
      refine eb_iinc (pc := 112) (v := v5 + 1) (L' := [(5, .int (v5 + 1)), (0, .ref v0), (1, .int v1), (3, .int v3)]) 3 dX10_lay_112 rfl rfl (by decide) rfl ?_
      refine eb_goto (pc := 115) (tgt := 81) dX10_lay_115 (by decide) ?_
      refine eb_sub [1, 2, 3, 0] rfl ?_
      exact ih _ _
set_option maxRecDepth 100000 in
theorem ct_X10_lay {G : eb_G} (hG : eb_ok G) (n : Nat) (v0 : Nat) (v1 : Int32) (v2 : Int32) (v3 : Int32) (s : eb_S) : eb_ct G yX10_lay cX10_lay 6 (some .int) 5 0 0 eb_ei [.ref v0, .int v1, .int v2, .int v3] s (f_X10_lay n v0 v1 v2 v3 s) := by
  refine eb_ct_i (by decide) (Nat.le_of_ble_eq_true rfl) (fun v hv => by simp at hv; rcases hv with rfl | rfl | rfl | rfl <;> simp [Value.category]) ?_
  show eb_go G yX10_lay cX10_lay 6 (some .int) (5) 0 0 .ireturn (fun r : Int32 => [.int r]) 0 [(0, .ref v0), (1, .int v1), (2, .int v2), (3, .int v3)] [] s 0 0 _
  unfold f_X10_lay
  refine eb_iload_n (pc := 0) 1 dX10_lay_0 rfl rfl ?_
  refine eb_callb (pc := 1) (eb_runS (pc := 1) (As := [.int v1]) (rest := []) ew_841 ew_842 ew_666 rfl ed_X10_isSheet (ct_X10_isSheet hG _ _) ew_843 ⟨by decide, by decide⟩ (by decide) (by decide) (Nat.le_of_ble_eq_true rfl) rfl dX10_lay_1) (fun b2 s1 => ?_)
  refine eb_if_eq (pc := 4) (tgt := 14) dX10_lay_4 (by decide) ?_ ?_
  · refine eb_iconst (pc := 14) (v := (-1)) dX10_lay_14 (by decide) ?_
    exact eb_iret (pc := 15) dX10_lay_15 (by decide) (by decide)
  · refine eb_iload_n (pc := 7) 2 dX10_lay_7 rfl rfl ?_
    refine eb_callb (pc := 8) (eb_runS (pc := 8) (As := [.int v2]) (rest := []) ew_844 ew_845 ew_666 rfl ed_X10_isLane (ct_X10_isLane hG _ _) ew_846 ⟨by decide, by decide⟩ (by decide) (by decide) (Nat.le_of_ble_eq_true rfl) rfl dX10_lay_8) (fun b4 s3 => ?_)
    refine eb_if_ne (pc := 11) (tgt := 16) dX10_lay_11 (by decide) ?_ ?_
    · refine eb_aload_n (pc := 16) 0 dX10_lay_16 rfl rfl ?_
      refine eb_iload_n (pc := 17) 1 dX10_lay_17 rfl rfl ?_
      refine eb_iload_n (pc := 18) 2 dX10_lay_18 rfl rfl ?_
      refine eb_iload_n (pc := 19) 3 dX10_lay_19 rfl rfl ?_
      refine eb_aload_n (pc := 20) 0 dX10_lay_20 rfl rfl ?_
      refine eb_getI (pc := 21) ef_RX10_98 dX10_lay_21 (fun x5 => ?_)
      refine eb_calli (pc := 24) (eb_runV (pc := 24) (As := [.int v1, .int v2, .int v3, .int x5]) (rest := []) (ci := 9) (q0 := (RX10, TX10, 43)) (q := (RX10, TX10, 43)) ew_847 ew_848 ew_849 ew_666 rfl rfl ed_X10_why (ct_X10_why hG _ _ _ _ _ _) rfl ew_850 ⟨by decide, by decide⟩ (by decide) (by decide) (Nat.le_of_ble_eq_true rfl) rfl dX10_lay_24) (fun x7 s6 => ?_)
      refine eb_istore (pc := 27) (L' := [(4, .int x7), (0, .ref v0), (1, .int v1), (2, .int v2), (3, .int v3)]) dX10_lay_27 (by decide) rfl ?_
      refine eb_iload (pc := 29) 0 dX10_lay_29 rfl ?_
      refine eb_if_ge (pc := 31) (tgt := 37) dX10_lay_31 (by decide) ?_ ?_
      · refine eb_iconst (pc := 37) (v := 0) dX10_lay_37 (by decide) ?_
        refine eb_istore (pc := 38) (L' := [(5, .int 0), (4, .int x7), (0, .ref v0), (1, .int v1), (2, .int v2), (3, .int v3)]) dX10_lay_38 (by decide) rfl ?_
        refine eb_sub [2, 3, 5, 0] rfl ?_
        refine gl_X10_lay_L40 hG (fun s13 => ?_) n _ _
        refine eb_iconst (pc := 78) (v := 0) dX10_lay_78 (by decide) ?_
        refine eb_istore (pc := 79) (L' := [(5, .int 0), (0, .ref v0), (1, .int v1), (3, .int v3)]) dX10_lay_79 (by decide) rfl ?_
        refine eb_sub [1, 2, 3, 0] rfl ?_
        refine gl_X10_lay_L81 hG (fun s19 => ?_) n _ _
        refine eb_aload_n (pc := 118) 0 dX10_lay_118 rfl rfl ?_
        refine eb_aload_n (pc := 119) 0 dX10_lay_119 rfl rfl ?_
        refine eb_getR (pc := 120) ef_RX10_22 dX10_lay_120 (fun r20 => ?_)
        refine eb_calli (pc := 123) (eb_runV (pc := 123) (As := [.ref r20]) (rest := []) (ci := 9) (q0 := (RX10, TX10, 43)) (q := (RX10, TX10, 43)) ew_753 ew_754 ew_755 ew_666 rfl rfl ed_X10_whyNot (ct_X10_whyNot hG n _ _ _) rfl ew_756 ⟨by decide, by decide⟩ (by decide) (by decide) (Nat.le_of_ble_eq_true rfl) rfl dX10_lay_123) (fun x22 s21 => ?_)
        exact eb_iret (pc := 126) dX10_lay_126 (by decide) (by decide)
      · refine eb_iload (pc := 34) 0 dX10_lay_34 rfl ?_
        exact eb_iret (pc := 36) dX10_lay_36 (by decide) (by decide)
    · refine eb_iconst (pc := 14) (v := (-1)) dX10_lay_14 (by decide) ?_
      exact eb_iret (pc := 15) dX10_lay_15 (by decide) (by decide)

def f_X10_sheet_L46 (n : Nat) (v0 : Nat) (v1 : Int32) (v3 : Int32)  : Nat → Int32 → eb_S → Option (Int32 × eb_S)
  | 0, _, _ => none
  | m + 1, v4, s => if 16 ≤ v4 then (some (v3, s)) else (eb_gR s [9] v0 39 fun r9 => eb_wl s r9 (((16 : Int32) * v1) + v4) 0 fun s10 => f_X10_sheet_L46 n v0 v1 v3 m (v4 + 1) s10)
def f_X10_sheet (n : Nat) (v0 : Nat) (v1 : Int32) (v2 : Int32) (v3 : Int32) (s : eb_S) : Option (Int32 × eb_S) := eb_cl (f_X10_isSheet v1 s) fun b2 s1 => if (eb_b b2) = 0 then (some ((-1), s1)) else (eb_cl (f_X10_isLane v2 s1) fun b4 s3 => if (eb_b b4) = 0 then (some ((-1), s3)) else (if v3 ≤ 16 then (if 0 ≤ v3 then (eb_gR s3 [9] v0 37 fun r5 => eb_wi s3 r5 v1 v2 fun s6 => eb_gR s6 [9] v0 38 fun r7 => eb_wi s6 r7 v1 v3 fun s8 => f_X10_sheet_L46 n v0 v1 v3  n 0 s8) else (some ((-14), s3))) else (some ((-1), s3))))
set_option maxRecDepth 100000 in
theorem gl_X10_sheet_L46 {G : eb_G} (hG : eb_ok G) {n : Nat} {v0 : Nat} {v1 : Int32} {v3 : Int32}   : ∀ (m : Nat) (v4 : Int32) (s : eb_S), eb_go G yX10_sheet cX10_sheet 5 (some .int) (3) 0 0 .ireturn (fun r : Int32 => [.int r]) 46 [(0, .ref v0), (1, .int v1), (3, .int v3), (4, .int v4)] [] s 0 0 (f_X10_sheet_L46 n v0 v1 v3 m v4 s) := by
  intro m
  induction m with
  | zero => intro v4 s; exact eb_none
  | succ m ih =>
    intro v4 s
    rw [f_X10_sheet_L46.eq_2]
    refine eb_iload (pc := 46) 3 dX10_sheet_46 rfl ?_
    refine eb_bipush (pc := 48) (v := 16) dX10_sheet_48 (by decide) ?_
    refine eb_icmp_ge (pc := 50) (tgt := 72) dX10_sheet_50 (by decide) ?_ ?_
    · refine eb_iload_n (pc := 72) 2 dX10_sheet_72 rfl rfl ?_
      exact eb_iret (pc := 73) dX10_sheet_73 (by decide) (by decide)
    · refine eb_aload_n (pc := 53) 0 dX10_sheet_53 rfl rfl ?_
      refine eb_getR (pc := 54) ef_RX10_85 dX10_sheet_54 (fun r9 => ?_)
      refine eb_bipush (pc := 57) (v := 16) dX10_sheet_57 (by decide) ?_
      refine eb_iload_n (pc := 59) 1 dX10_sheet_59 rfl rfl ?_
      refine eb_imul (pc := 60) dX10_sheet_60 ?_
      refine eb_iload (pc := 61) 3 dX10_sheet_61 rfl ?_
      refine eb_iadd (pc := 63) dX10_sheet_63 ?_
      refine eb_lconst (pc := 64) (v := 0) dX10_sheet_64 (by decide) ?_
      refine eb_lastore (pc := 65) dX10_sheet_65 (fun s10 => ?_)
      refine eb_iinc (pc := 66) (v := v4 + 1) (L' := [(4, .int (v4 + 1)), (0, .ref v0), (1, .int v1), (3, .int v3)]) 3 dX10_sheet_66 rfl rfl (by decide) rfl ?_
      refine eb_goto (pc := 69) (tgt := 46) dX10_sheet_69 (by decide) ?_
      refine eb_sub [1, 2, 3, 0] rfl ?_
      exact ih _ _
set_option maxRecDepth 100000 in
theorem ct_X10_sheet {G : eb_G} (hG : eb_ok G) (n : Nat) (v0 : Nat) (v1 : Int32) (v2 : Int32) (v3 : Int32) (s : eb_S) : eb_ct G yX10_sheet cX10_sheet 5 (some .int) 3 0 0 eb_ei [.ref v0, .int v1, .int v2, .int v3] s (f_X10_sheet n v0 v1 v2 v3 s) := by
  refine eb_ct_i (by decide) (Nat.le_of_ble_eq_true rfl) (fun v hv => by simp at hv; rcases hv with rfl | rfl | rfl | rfl <;> simp [Value.category]) ?_
  show eb_go G yX10_sheet cX10_sheet 5 (some .int) (3) 0 0 .ireturn (fun r : Int32 => [.int r]) 0 [(0, .ref v0), (1, .int v1), (2, .int v2), (3, .int v3)] [] s 0 0 _
  unfold f_X10_sheet
  refine eb_iload_n (pc := 0) 1 dX10_sheet_0 rfl rfl ?_
  refine eb_callb (pc := 1) (eb_runS (pc := 1) (As := [.int v1]) (rest := []) ew_841 ew_842 ew_666 rfl ed_X10_isSheet (ct_X10_isSheet hG _ _) ew_843 ⟨by decide, by decide⟩ (by decide) (by decide) (Nat.le_of_ble_eq_true rfl) rfl dX10_sheet_1) (fun b2 s1 => ?_)
  refine eb_if_eq (pc := 4) (tgt := 20) dX10_sheet_4 (by decide) ?_ ?_
  · refine eb_iconst (pc := 20) (v := (-1)) dX10_sheet_20 (by decide) ?_
    exact eb_iret (pc := 21) dX10_sheet_21 (by decide) (by decide)
  · refine eb_iload_n (pc := 7) 2 dX10_sheet_7 rfl rfl ?_
    refine eb_callb (pc := 8) (eb_runS (pc := 8) (As := [.int v2]) (rest := []) ew_844 ew_845 ew_666 rfl ed_X10_isLane (ct_X10_isLane hG _ _) ew_846 ⟨by decide, by decide⟩ (by decide) (by decide) (Nat.le_of_ble_eq_true rfl) rfl dX10_sheet_8) (fun b4 s3 => ?_)
    refine eb_if_eq (pc := 11) (tgt := 20) dX10_sheet_11 (by decide) ?_ ?_
    · refine eb_iconst (pc := 20) (v := (-1)) dX10_sheet_20 (by decide) ?_
      exact eb_iret (pc := 21) dX10_sheet_21 (by decide) (by decide)
    · refine eb_iload_n (pc := 14) 3 dX10_sheet_14 rfl rfl ?_
      refine eb_bipush (pc := 15) (v := 16) dX10_sheet_15 (by decide) ?_
      refine eb_icmp_le (pc := 17) (tgt := 22) dX10_sheet_17 (by decide) ?_ ?_
      · refine eb_iload_n (pc := 22) 3 dX10_sheet_22 rfl rfl ?_
        refine eb_if_ge (pc := 23) (tgt := 29) dX10_sheet_23 (by decide) ?_ ?_
        · refine eb_aload_n (pc := 29) 0 dX10_sheet_29 rfl rfl ?_
          refine eb_getR (pc := 30) ef_RX10_79 dX10_sheet_30 (fun r5 => ?_)
          refine eb_iload_n (pc := 33) 1 dX10_sheet_33 rfl rfl ?_
          refine eb_iload_n (pc := 34) 2 dX10_sheet_34 rfl rfl ?_
          refine eb_iastore (pc := 35) dX10_sheet_35 (fun s6 => ?_)
          refine eb_aload_n (pc := 36) 0 dX10_sheet_36 rfl rfl ?_
          refine eb_getR (pc := 37) ef_RX10_82 dX10_sheet_37 (fun r7 => ?_)
          refine eb_iload_n (pc := 40) 1 dX10_sheet_40 rfl rfl ?_
          refine eb_iload_n (pc := 41) 3 dX10_sheet_41 rfl rfl ?_
          refine eb_iastore (pc := 42) dX10_sheet_42 (fun s8 => ?_)
          refine eb_iconst (pc := 43) (v := 0) dX10_sheet_43 (by decide) ?_
          refine eb_istore (pc := 44) (L' := [(4, .int 0), (0, .ref v0), (1, .int v1), (2, .int v2), (3, .int v3)]) dX10_sheet_44 (by decide) rfl ?_
          refine eb_sub [1, 2, 4, 0] rfl ?_
          refine gl_X10_sheet_L46 hG  n _ _
        · refine eb_bipush (pc := 26) (v := (-14)) dX10_sheet_26 (by decide) ?_
          exact eb_iret (pc := 28) dX10_sheet_28 (by decide) (by decide)
      · refine eb_iconst (pc := 20) (v := (-1)) dX10_sheet_20 (by decide) ?_
        exact eb_iret (pc := 21) dX10_sheet_21 (by decide) (by decide)

def f_X10_drop (v0 : Nat) (v1 : Int32) (s : eb_S) : Option (Int32 × eb_S) := eb_cl (f_X10_isSheet v1 s) fun b2 s1 => if (eb_b b2) = 0 then (some ((-1), s1)) else (eb_gR s1 [9] v0 37 fun r3 => eb_ai s1 r3 v1 fun x4 => if 0 ≤ x4 then (eb_gR s1 [9] v0 37 fun r5 => eb_wi s1 r5 v1 ((-1)) fun s6 => eb_gR s6 [9] v0 38 fun r7 => eb_ai s6 r7 v1 fun x8 => some (x8, s6)) else (some ((-11), s1)))
set_option maxRecDepth 100000 in
theorem ct_X10_drop {G : eb_G} (hG : eb_ok G) (v0 : Nat) (v1 : Int32) (s : eb_S) : eb_ct G yX10_drop cX10_drop 2 (some .int) 3 0 0 eb_ei [.ref v0, .int v1] s (f_X10_drop v0 v1 s) := by
  refine eb_ct_i (by decide) (Nat.le_of_ble_eq_true rfl) (fun v hv => by simp at hv; rcases hv with rfl | rfl <;> simp [Value.category]) ?_
  show eb_go G yX10_drop cX10_drop 2 (some .int) (3) 0 0 .ireturn (fun r : Int32 => [.int r]) 0 [(0, .ref v0), (1, .int v1)] [] s 0 0 _
  unfold f_X10_drop
  refine eb_iload_n (pc := 0) 1 dX10_drop_0 rfl rfl ?_
  refine eb_callb (pc := 1) (eb_runS (pc := 1) (As := [.int v1]) (rest := []) ew_841 ew_842 ew_666 rfl ed_X10_isSheet (ct_X10_isSheet hG _ _) ew_843 ⟨by decide, by decide⟩ (by decide) (by decide) (Nat.le_of_ble_eq_true rfl) rfl dX10_drop_1) (fun b2 s1 => ?_)
  refine eb_if_ne (pc := 4) (tgt := 9) dX10_drop_4 (by decide) ?_ ?_
  · refine eb_aload_n (pc := 9) 0 dX10_drop_9 rfl rfl ?_
    refine eb_getR (pc := 10) ef_RX10_79 dX10_drop_10 (fun r3 => ?_)
    refine eb_iload_n (pc := 13) 1 dX10_drop_13 rfl rfl ?_
    refine eb_iaload (pc := 14) dX10_drop_14 (fun x4 => ?_)
    refine eb_if_ge (pc := 15) (tgt := 21) dX10_drop_15 (by decide) ?_ ?_
    · refine eb_aload_n (pc := 21) 0 dX10_drop_21 rfl rfl ?_
      refine eb_getR (pc := 22) ef_RX10_79 dX10_drop_22 (fun r5 => ?_)
      refine eb_iload_n (pc := 25) 1 dX10_drop_25 rfl rfl ?_
      refine eb_iconst (pc := 26) (v := (-1)) dX10_drop_26 (by decide) ?_
      refine eb_iastore (pc := 27) dX10_drop_27 (fun s6 => ?_)
      refine eb_aload_n (pc := 28) 0 dX10_drop_28 rfl rfl ?_
      refine eb_getR (pc := 29) ef_RX10_82 dX10_drop_29 (fun r7 => ?_)
      refine eb_iload_n (pc := 32) 1 dX10_drop_32 rfl rfl ?_
      refine eb_iaload (pc := 33) dX10_drop_33 (fun x8 => ?_)
      exact eb_iret (pc := 34) dX10_drop_34 (by decide) (by decide)
    · refine eb_bipush (pc := 18) (v := (-11)) dX10_drop_18 (by decide) ?_
      exact eb_iret (pc := 20) dX10_drop_20 (by decide) (by decide)
  · refine eb_iconst (pc := 7) (v := (-1)) dX10_drop_7 (by decide) ?_
    exact eb_iret (pc := 8) dX10_drop_8 (by decide) (by decide)

def f_X10_item (v0 : Nat) (v1 : Int32) (v2 : Int32) (v3 : Int32) (v4 : Int64) (s : eb_S) : Option (Int32 × eb_S) := eb_cl (f_X10_isSheet v1 s) fun b2 s1 => if (eb_b b2) = 0 then (some ((-1), s1)) else (eb_cl (f_X10_isLane v2 s1) fun b4 s3 => if (eb_b b4) = 0 then (some ((-1), s3)) else (eb_cl (eb_tg s3 v0 9 (f_X10_why v0 v1 v2 v3 1 s3)) fun x6 s5 => if 0 ≤ x6 then (eb_cl (eb_tg s5 v0 9 (f_X10_puts v0 v1 v3 v4 s5)) fun _u s7 => some (1, s7)) else (some (x6, s5))))
set_option maxRecDepth 100000 in
theorem ct_X10_item {G : eb_G} (hG : eb_ok G) (v0 : Nat) (v1 : Int32) (v2 : Int32) (v3 : Int32) (v4 : Int64) (s : eb_S) : eb_ct G yX10_item cX10_item 7 (some .int) 3 0 0 eb_ei [.ref v0, .int v1, .int v2, .int v3, .long v4] s (f_X10_item v0 v1 v2 v3 v4 s) := by
  refine eb_ct_i (by decide) (Nat.le_of_ble_eq_true rfl) (fun v hv => by simp at hv; rcases hv with rfl | rfl | rfl | rfl | rfl <;> simp [Value.category]) ?_
  show eb_go G yX10_item cX10_item 7 (some .int) (3) 0 0 .ireturn (fun r : Int32 => [.int r]) 0 [(0, .ref v0), (1, .int v1), (2, .int v2), (3, .int v3), (4, .long v4)] [] s 0 0 _
  unfold f_X10_item
  refine eb_iload_n (pc := 0) 1 dX10_item_0 rfl rfl ?_
  refine eb_callb (pc := 1) (eb_runS (pc := 1) (As := [.int v1]) (rest := []) ew_841 ew_842 ew_666 rfl ed_X10_isSheet (ct_X10_isSheet hG _ _) ew_843 ⟨by decide, by decide⟩ (by decide) (by decide) (Nat.le_of_ble_eq_true rfl) rfl dX10_item_1) (fun b2 s1 => ?_)
  refine eb_if_eq (pc := 4) (tgt := 14) dX10_item_4 (by decide) ?_ ?_
  · refine eb_iconst (pc := 14) (v := (-1)) dX10_item_14 (by decide) ?_
    exact eb_iret (pc := 15) dX10_item_15 (by decide) (by decide)
  · refine eb_iload_n (pc := 7) 2 dX10_item_7 rfl rfl ?_
    refine eb_callb (pc := 8) (eb_runS (pc := 8) (As := [.int v2]) (rest := []) ew_844 ew_845 ew_666 rfl ed_X10_isLane (ct_X10_isLane hG _ _) ew_846 ⟨by decide, by decide⟩ (by decide) (by decide) (Nat.le_of_ble_eq_true rfl) rfl dX10_item_8) (fun b4 s3 => ?_)
    refine eb_if_ne (pc := 11) (tgt := 16) dX10_item_11 (by decide) ?_ ?_
    · refine eb_aload_n (pc := 16) 0 dX10_item_16 rfl rfl ?_
      refine eb_iload_n (pc := 17) 1 dX10_item_17 rfl rfl ?_
      refine eb_iload_n (pc := 18) 2 dX10_item_18 rfl rfl ?_
      refine eb_iload_n (pc := 19) 3 dX10_item_19 rfl rfl ?_
      refine eb_iconst (pc := 20) (v := 1) dX10_item_20 (by decide) ?_
      refine eb_calli (pc := 21) (eb_runV (pc := 21) (As := [.int v1, .int v2, .int v3, .int 1]) (rest := []) (ci := 9) (q0 := (RX10, TX10, 43)) (q := (RX10, TX10, 43)) ew_847 ew_848 ew_849 ew_666 rfl rfl ed_X10_why (ct_X10_why hG _ _ _ _ _ _) rfl ew_850 ⟨by decide, by decide⟩ (by decide) (by decide) (Nat.le_of_ble_eq_true rfl) rfl dX10_item_21) (fun x6 s5 => ?_)
      refine eb_istore (pc := 24) (L' := [(6, .int x6), (0, .ref v0), (1, .int v1), (2, .int v2), (3, .int v3), (4, .long v4)]) dX10_item_24 (by decide) rfl ?_
      refine eb_iload (pc := 26) 0 dX10_item_26 rfl ?_
      refine eb_if_ge (pc := 28) (tgt := 34) dX10_item_28 (by decide) ?_ ?_
      · refine eb_aload_n (pc := 34) 1 dX10_item_34 rfl rfl ?_
        refine eb_iload_n (pc := 35) 2 dX10_item_35 rfl rfl ?_
        refine eb_iload_n (pc := 36) 4 dX10_item_36 rfl rfl ?_
        refine eb_lload (pc := 37) 5 dX10_item_37 rfl ?_
        refine eb_callv (pc := 39) (eb_runV (pc := 39) (As := [.int v1, .int v3, .long v4]) (rest := []) (ci := 9) (q0 := (RX10, TX10, 43)) (q := (RX10, TX10, 43)) ew_855 ew_856 ew_857 ew_666 rfl rfl ed_X10_puts (ct_X10_puts hG _ _ _ _ _) rfl ew_858 ⟨by decide, by decide⟩ (by decide) (by decide) (Nat.le_of_ble_eq_true rfl) rfl dX10_item_39) (fun _u s7 => ?_)
        refine eb_iconst (pc := 42) (v := 1) dX10_item_42 (by decide) ?_
        exact eb_iret (pc := 43) dX10_item_43 (by decide) (by decide)
      · refine eb_iload (pc := 31) 0 dX10_item_31 rfl ?_
        exact eb_iret (pc := 33) dX10_item_33 (by decide) (by decide)
    · refine eb_iconst (pc := 14) (v := (-1)) dX10_item_14 (by decide) ?_
      exact eb_iret (pc := 15) dX10_item_15 (by decide) (by decide)

def f_X10_copy_L101 (n : Nat) (v0 : Nat) (v1 : Int32) (v2 : Int32) (v3 : Int32) (v4 : Int32) (v5 : Int32) (K : eb_S → Option (Int32 × eb_S)) : Nat → Int32 → eb_S → Option (Int32 × eb_S)
  | 0, _, _ => none
  | m + 1, v6, s => if v5 ≤ v6 then (K s) else (eb_gR s [9] v0 40 fun r21 => eb_gR s [9] v0 39 fun r22 => eb_al s r22 ((((16 : Int32) * v1) + v2) + v6) fun l23 => eb_wl s r21 v6 l23 fun s24 => f_X10_copy_L101 n v0 v1 v2 v3 v4 v5 K m (v6 + 1) s24)
def f_X10_copy_L138 (n : Nat) (v0 : Nat) (v3 : Int32) (v4 : Int32) (v5 : Int32)  : Nat → Int32 → eb_S → Option (Int32 × eb_S)
  | 0, _, _ => none
  | m + 1, v6, s => if v5 ≤ v6 then (some (v5, s)) else (eb_gR s [9] v0 39 fun r26 => eb_gR s [9] v0 40 fun r27 => eb_al s r27 v6 fun l28 => eb_wl s r26 ((((16 : Int32) * v3) + v4) + v6) l28 fun s29 => f_X10_copy_L138 n v0 v3 v4 v5 m (v6 + 1) s29)
def f_X10_copy (n : Nat) (v0 : Nat) (v1 : Int32) (v2 : Int32) (v3 : Int32) (v4 : Int32) (v5 : Int32) (s : eb_S) : Option (Int32 × eb_S) := eb_cl (f_X10_isSheet v1 s) fun b2 s1 => if (eb_b b2) = 0 then (some ((-1), s1)) else (eb_cl (f_X10_isSheet v3 s1) fun b4 s3 => if (eb_b b4) = 0 then (some ((-1), s3)) else (eb_gR s3 [9] v0 37 fun r5 => eb_ai s3 r5 v1 fun x6 => if x6 < 0 then (some ((-11), s3)) else (eb_gR s3 [9] v0 37 fun r7 => eb_ai s3 r7 v3 fun x8 => if 0 ≤ x8 then (eb_gR s3 [9] v0 37 fun r9 => eb_ai s3 r9 v1 fun x10 => eb_gR s3 [9] v0 37 fun r11 => eb_ai s3 r11 v3 fun x12 => if x10 = x12 then (if v5 < 0 then (some ((-13), s3)) else (eb_gR s3 [9] v0 37 fun r13 => eb_ai s3 r13 v1 fun x14 => eb_cl (eb_tg s3 v0 9 (f_X10_why v0 v1 x14 v2 v5 s3)) fun x16 s15 => if x16 < 0 then (some ((-13), s15)) else (eb_gR s15 [9] v0 37 fun r17 => eb_ai s15 r17 v3 fun x18 => eb_cl (eb_tg s15 v0 9 (f_X10_why v0 v3 x18 v4 v5 s15)) fun x20 s19 => if 0 ≤ x20 then (f_X10_copy_L101 n v0 v1 v2 v3 v4 v5 (fun  (s25 : eb_S) => f_X10_copy_L138 n v0 v3 v4 v5  n 0 s25) n 0 s19) else (some ((-13), s19))))) else (some ((-12), s3))) else (some ((-11), s3)))))
set_option maxRecDepth 100000 in
theorem gl_X10_copy_L101 {G : eb_G} (hG : eb_ok G) {n : Nat} {v0 : Nat} {v1 : Int32} {v2 : Int32} {v3 : Int32} {v4 : Int32} {v5 : Int32} {K : eb_S → Option (Int32 × eb_S)} (hK : ∀  (s : eb_S), eb_go G yX10_copy cX10_copy 7 (some .int) (3) 0 0 .ireturn (fun r : Int32 => [.int r]) 135 [(0, .ref v0), (3, .int v3), (4, .int v4), (5, .int v5)] [] s 0 0 (K  s)) : ∀ (m : Nat) (v6 : Int32) (s : eb_S), eb_go G yX10_copy cX10_copy 7 (some .int) (3) 0 0 .ireturn (fun r : Int32 => [.int r]) 101 [(0, .ref v0), (1, .int v1), (2, .int v2), (3, .int v3), (4, .int v4), (5, .int v5), (6, .int v6)] [] s 0 0 (f_X10_copy_L101 n v0 v1 v2 v3 v4 v5 K m v6 s) := by
  intro m
  induction m with
  | zero => intro v6 s; exact eb_none
  | succ m ih =>
    intro v6 s
    rw [f_X10_copy_L101.eq_2]
    refine eb_iload (pc := 101) 6 dX10_copy_101 rfl ?_
    refine eb_iload (pc := 103) 5 dX10_copy_103 rfl ?_
    refine eb_icmp_ge (pc := 105) (tgt := 135) dX10_copy_105 (by decide) ?_ ?_
    · refine eb_sub [0, 3, 4, 5] rfl ?_
      exact hK _
    · refine eb_aload_n (pc := 108) 0 dX10_copy_108 rfl rfl ?_
      refine eb_getR (pc := 109) ef_RX10_89 dX10_copy_109 (fun r21 => ?_)
      refine eb_iload (pc := 112) 6 dX10_copy_112 rfl ?_
      refine eb_aload_n (pc := 114) 0 dX10_copy_114 rfl rfl ?_
      refine eb_getR (pc := 115) ef_RX10_85 dX10_copy_115 (fun r22 => ?_)
      refine eb_bipush (pc := 118) (v := 16) dX10_copy_118 (by decide) ?_
      refine eb_iload_n (pc := 120) 1 dX10_copy_120 rfl rfl ?_
      refine eb_imul (pc := 121) dX10_copy_121 ?_
      refine eb_iload_n (pc := 122) 2 dX10_copy_122 rfl rfl ?_
      refine eb_iadd (pc := 123) dX10_copy_123 ?_
      refine eb_iload (pc := 124) 6 dX10_copy_124 rfl ?_
      refine eb_iadd (pc := 126) dX10_copy_126 ?_
      refine eb_laload (pc := 127) dX10_copy_127 (fun l23 => ?_)
      refine eb_lastore (pc := 128) dX10_copy_128 (fun s24 => ?_)
      refine eb_iinc (pc := 129) (v := v6 + 1) (L' := [(6, .int (v6 + 1)), (0, .ref v0), (1, .int v1), (2, .int v2), (3, .int v3), (4, .int v4), (5, .int v5)]) 6 dX10_copy_129 rfl rfl (by decide) rfl ?_
      refine eb_goto (pc := 132) (tgt := 101) dX10_copy_132 (by decide) ?_
      refine eb_sub [1, 2, 3, 4, 5, 6, 0] rfl ?_
      exact ih _ _
set_option maxRecDepth 100000 in
theorem gl_X10_copy_L138 {G : eb_G} (hG : eb_ok G) {n : Nat} {v0 : Nat} {v3 : Int32} {v4 : Int32} {v5 : Int32}   : ∀ (m : Nat) (v6 : Int32) (s : eb_S), eb_go G yX10_copy cX10_copy 7 (some .int) (3) 0 0 .ireturn (fun r : Int32 => [.int r]) 138 [(0, .ref v0), (3, .int v3), (4, .int v4), (5, .int v5), (6, .int v6)] [] s 0 0 (f_X10_copy_L138 n v0 v3 v4 v5 m v6 s) := by
  intro m
  induction m with
  | zero => intro v6 s; exact eb_none
  | succ m ih =>
    intro v6 s
    rw [f_X10_copy_L138.eq_2]
    refine eb_iload (pc := 138) 4 dX10_copy_138 rfl ?_
    refine eb_iload (pc := 140) 3 dX10_copy_140 rfl ?_
    refine eb_icmp_ge (pc := 142) (tgt := 173) dX10_copy_142 (by decide) ?_ ?_
    · refine eb_iload (pc := 173) 3 dX10_copy_173 rfl ?_
      exact eb_iret (pc := 175) dX10_copy_175 (by decide) (by decide)
    · refine eb_aload_n (pc := 145) 0 dX10_copy_145 rfl rfl ?_
      refine eb_getR (pc := 146) ef_RX10_85 dX10_copy_146 (fun r26 => ?_)
      refine eb_bipush (pc := 149) (v := 16) dX10_copy_149 (by decide) ?_
      refine eb_iload_n (pc := 151) 1 dX10_copy_151 rfl rfl ?_
      refine eb_imul (pc := 152) dX10_copy_152 ?_
      refine eb_iload (pc := 153) 2 dX10_copy_153 rfl ?_
      refine eb_iadd (pc := 155) dX10_copy_155 ?_
      refine eb_iload (pc := 156) 4 dX10_copy_156 rfl ?_
      refine eb_iadd (pc := 158) dX10_copy_158 ?_
      refine eb_aload_n (pc := 159) 0 dX10_copy_159 rfl rfl ?_
      refine eb_getR (pc := 160) ef_RX10_89 dX10_copy_160 (fun r27 => ?_)
      refine eb_iload (pc := 163) 4 dX10_copy_163 rfl ?_
      refine eb_laload (pc := 165) dX10_copy_165 (fun l28 => ?_)
      refine eb_lastore (pc := 166) dX10_copy_166 (fun s29 => ?_)
      refine eb_iinc (pc := 167) (v := v6 + 1) (L' := [(6, .int (v6 + 1)), (0, .ref v0), (3, .int v3), (4, .int v4), (5, .int v5)]) 4 dX10_copy_167 rfl rfl (by decide) rfl ?_
      refine eb_goto (pc := 170) (tgt := 138) dX10_copy_170 (by decide) ?_
      refine eb_sub [1, 2, 3, 4, 0] rfl ?_
      exact ih _ _
set_option maxRecDepth 100000 in
theorem ct_X10_copy {G : eb_G} (hG : eb_ok G) (n : Nat) (v0 : Nat) (v1 : Int32) (v2 : Int32) (v3 : Int32) (v4 : Int32) (v5 : Int32) (s : eb_S) : eb_ct G yX10_copy cX10_copy 7 (some .int) 3 0 0 eb_ei [.ref v0, .int v1, .int v2, .int v3, .int v4, .int v5] s (f_X10_copy n v0 v1 v2 v3 v4 v5 s) := by
  refine eb_ct_i (by decide) (Nat.le_of_ble_eq_true rfl) (fun v hv => by simp at hv; rcases hv with rfl | rfl | rfl | rfl | rfl | rfl <;> simp [Value.category]) ?_
  show eb_go G yX10_copy cX10_copy 7 (some .int) (3) 0 0 .ireturn (fun r : Int32 => [.int r]) 0 [(0, .ref v0), (1, .int v1), (2, .int v2), (3, .int v3), (4, .int v4), (5, .int v5)] [] s 0 0 _
  unfold f_X10_copy
  refine eb_iload_n (pc := 0) 1 dX10_copy_0 rfl rfl ?_
  refine eb_callb (pc := 1) (eb_runS (pc := 1) (As := [.int v1]) (rest := []) ew_841 ew_842 ew_666 rfl ed_X10_isSheet (ct_X10_isSheet hG _ _) ew_843 ⟨by decide, by decide⟩ (by decide) (by decide) (Nat.le_of_ble_eq_true rfl) rfl dX10_copy_1) (fun b2 s1 => ?_)
  refine eb_if_eq (pc := 4) (tgt := 14) dX10_copy_4 (by decide) ?_ ?_
  · refine eb_iconst (pc := 14) (v := (-1)) dX10_copy_14 (by decide) ?_
    exact eb_iret (pc := 15) dX10_copy_15 (by decide) (by decide)
  · refine eb_iload_n (pc := 7) 3 dX10_copy_7 rfl rfl ?_
    refine eb_callb (pc := 8) (eb_runS (pc := 8) (As := [.int v3]) (rest := []) ew_841 ew_842 ew_666 rfl ed_X10_isSheet (ct_X10_isSheet hG _ _) ew_843 ⟨by decide, by decide⟩ (by decide) (by decide) (Nat.le_of_ble_eq_true rfl) rfl dX10_copy_8) (fun b4 s3 => ?_)
    refine eb_if_ne (pc := 11) (tgt := 16) dX10_copy_11 (by decide) ?_ ?_
    · refine eb_aload_n (pc := 16) 0 dX10_copy_16 rfl rfl ?_
      refine eb_getR (pc := 17) ef_RX10_79 dX10_copy_17 (fun r5 => ?_)
      refine eb_iload_n (pc := 20) 1 dX10_copy_20 rfl rfl ?_
      refine eb_iaload (pc := 21) dX10_copy_21 (fun x6 => ?_)
      refine eb_if_lt (pc := 22) (tgt := 34) dX10_copy_22 (by decide) ?_ ?_
      · refine eb_bipush (pc := 34) (v := (-11)) dX10_copy_34 (by decide) ?_
        exact eb_iret (pc := 36) dX10_copy_36 (by decide) (by decide)
      · refine eb_aload_n (pc := 25) 0 dX10_copy_25 rfl rfl ?_
        refine eb_getR (pc := 26) ef_RX10_79 dX10_copy_26 (fun r7 => ?_)
        refine eb_iload_n (pc := 29) 3 dX10_copy_29 rfl rfl ?_
        refine eb_iaload (pc := 30) dX10_copy_30 (fun x8 => ?_)
        refine eb_if_ge (pc := 31) (tgt := 37) dX10_copy_31 (by decide) ?_ ?_
        · refine eb_aload_n (pc := 37) 0 dX10_copy_37 rfl rfl ?_
          refine eb_getR (pc := 38) ef_RX10_79 dX10_copy_38 (fun r9 => ?_)
          refine eb_iload_n (pc := 41) 1 dX10_copy_41 rfl rfl ?_
          refine eb_iaload (pc := 42) dX10_copy_42 (fun x10 => ?_)
          refine eb_aload_n (pc := 43) 0 dX10_copy_43 rfl rfl ?_
          refine eb_getR (pc := 44) ef_RX10_79 dX10_copy_44 (fun r11 => ?_)
          refine eb_iload_n (pc := 47) 3 dX10_copy_47 rfl rfl ?_
          refine eb_iaload (pc := 48) dX10_copy_48 (fun x12 => ?_)
          refine eb_icmp_eq (pc := 49) (tgt := 55) dX10_copy_49 (by decide) ?_ ?_
          · refine eb_iload (pc := 55) 5 dX10_copy_55 rfl ?_
            refine eb_if_lt (pc := 57) (tgt := 95) dX10_copy_57 (by decide) ?_ ?_
            · refine eb_bipush (pc := 95) (v := (-13)) dX10_copy_95 (by decide) ?_
              exact eb_iret (pc := 97) dX10_copy_97 (by decide) (by decide)
            · refine eb_aload_n (pc := 60) 0 dX10_copy_60 rfl rfl ?_
              refine eb_iload_n (pc := 61) 1 dX10_copy_61 rfl rfl ?_
              refine eb_aload_n (pc := 62) 0 dX10_copy_62 rfl rfl ?_
              refine eb_getR (pc := 63) ef_RX10_79 dX10_copy_63 (fun r13 => ?_)
              refine eb_iload_n (pc := 66) 1 dX10_copy_66 rfl rfl ?_
              refine eb_iaload (pc := 67) dX10_copy_67 (fun x14 => ?_)
              refine eb_iload_n (pc := 68) 2 dX10_copy_68 rfl rfl ?_
              refine eb_iload (pc := 69) 5 dX10_copy_69 rfl ?_
              refine eb_calli (pc := 71) (eb_runV (pc := 71) (As := [.int v1, .int x14, .int v2, .int v5]) (rest := []) (ci := 9) (q0 := (RX10, TX10, 43)) (q := (RX10, TX10, 43)) ew_847 ew_848 ew_849 ew_666 rfl rfl ed_X10_why (ct_X10_why hG _ _ _ _ _ _) rfl ew_850 ⟨by decide, by decide⟩ (by decide) (by decide) (Nat.le_of_ble_eq_true rfl) rfl dX10_copy_71) (fun x16 s15 => ?_)
              refine eb_if_lt (pc := 74) (tgt := 95) dX10_copy_74 (by decide) ?_ ?_
              · refine eb_bipush (pc := 95) (v := (-13)) dX10_copy_95 (by decide) ?_
                exact eb_iret (pc := 97) dX10_copy_97 (by decide) (by decide)
              · refine eb_aload_n (pc := 77) 0 dX10_copy_77 rfl rfl ?_
                refine eb_iload_n (pc := 78) 3 dX10_copy_78 rfl rfl ?_
                refine eb_aload_n (pc := 79) 0 dX10_copy_79 rfl rfl ?_
                refine eb_getR (pc := 80) ef_RX10_79 dX10_copy_80 (fun r17 => ?_)
                refine eb_iload_n (pc := 83) 3 dX10_copy_83 rfl rfl ?_
                refine eb_iaload (pc := 84) dX10_copy_84 (fun x18 => ?_)
                refine eb_iload (pc := 85) 4 dX10_copy_85 rfl ?_
                refine eb_iload (pc := 87) 5 dX10_copy_87 rfl ?_
                refine eb_calli (pc := 89) (eb_runV (pc := 89) (As := [.int v3, .int x18, .int v4, .int v5]) (rest := []) (ci := 9) (q0 := (RX10, TX10, 43)) (q := (RX10, TX10, 43)) ew_847 ew_848 ew_849 ew_666 rfl rfl ed_X10_why (ct_X10_why hG _ _ _ _ _ _) rfl ew_850 ⟨by decide, by decide⟩ (by decide) (by decide) (Nat.le_of_ble_eq_true rfl) rfl dX10_copy_89) (fun x20 s19 => ?_)
                refine eb_if_ge (pc := 92) (tgt := 98) dX10_copy_92 (by decide) ?_ ?_
                · refine eb_iconst (pc := 98) (v := 0) dX10_copy_98 (by decide) ?_
                  refine eb_istore (pc := 99) (L' := [(6, .int 0), (0, .ref v0), (1, .int v1), (2, .int v2), (3, .int v3), (4, .int v4), (5, .int v5)]) dX10_copy_99 (by decide) rfl ?_
                  refine eb_sub [1, 2, 3, 4, 5, 6, 0] rfl ?_
                  refine gl_X10_copy_L101 hG (fun s25 => ?_) n _ _
                  refine eb_iconst (pc := 135) (v := 0) dX10_copy_135 (by decide) ?_
                  refine eb_istore (pc := 136) (L' := [(6, .int 0), (0, .ref v0), (3, .int v3), (4, .int v4), (5, .int v5)]) dX10_copy_136 (by decide) rfl ?_
                  refine eb_sub [1, 2, 3, 4, 0] rfl ?_
                  refine gl_X10_copy_L138 hG  n _ _
                · refine eb_bipush (pc := 95) (v := (-13)) dX10_copy_95 (by decide) ?_
                  exact eb_iret (pc := 97) dX10_copy_97 (by decide) (by decide)
          · refine eb_bipush (pc := 52) (v := (-12)) dX10_copy_52 (by decide) ?_
            exact eb_iret (pc := 54) dX10_copy_54 (by decide) (by decide)
        · refine eb_bipush (pc := 34) (v := (-11)) dX10_copy_34 (by decide) ?_
          exact eb_iret (pc := 36) dX10_copy_36 (by decide) (by decide)
    · refine eb_iconst (pc := 14) (v := (-1)) dX10_copy_14 (by decide) ?_
      exact eb_iret (pc := 15) dX10_copy_15 (by decide) (by decide)
