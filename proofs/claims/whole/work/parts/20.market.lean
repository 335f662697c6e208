def f_X3_init (v0 : Nat) (s : eb_S) : Option (Unit × eb_S) := eb_pI s [3] v0 0 0 fun s1 => eb_pI s1 [3] v0 1 0 fun s2 => eb_na s2 11 10 10 fun r3 s4 => eb_pR s4 [3] v0 2 r3 fun s5 => eb_na s5 11 10 10 fun r6 s7 => eb_pR s7 [3] v0 3 r6 fun s8 => eb_na s8 11 10 10 fun r9 s10 => eb_pR s10 [3] v0 4 r9 fun s11 => eb_na s11 11 10 10 fun r12 s13 => eb_pR s13 [3] v0 5 r12 fun s14 => eb_na s14 11 10 10 fun r15 s16 => eb_pR s16 [3] v0 6 r15 fun s17 => eb_pI s17 [3] v0 7 0 fun s18 => eb_na s18 11 5 5 fun r19 s20 => eb_pR s20 [3] v0 8 r19 fun s21 => eb_na s21 11 5 5 fun r22 s23 => eb_pR s23 [3] v0 9 r22 fun s24 => eb_na s24 11 3 3 fun r25 s26 => eb_wi s26 r25 0 999 fun s27 => eb_wi s27 r25 1 999 fun s28 => eb_wi s28 r25 2 999 fun s29 => eb_pR s29 [3] v0 10 r25 fun s30 => eb_na s30 11 3 3 fun r31 s32 => eb_pR s32 [3] v0 11 r31 fun s33 => eb_na s33 11 2 2 fun r34 s35 => eb_wi s35 r34 0 2 fun s36 => eb_wi s36 r34 1 3 fun s37 => eb_pR s37 [3] v0 12 r34 fun s38 => eb_pI s38 [3] v0 13 0 fun s39 => eb_na s39 11 8 8 fun r40 s41 => eb_pR s41 [3] v0 14 r40 fun s42 => eb_na s42 11 8 8 fun r43 s44 => eb_pR s44 [3] v0 15 r43 fun s45 => eb_na s45 11 8 8 fun r46 s47 => eb_pR s47 [3] v0 16 r46 fun s48 => eb_pI s48 [3] v0 17 0 fun s49 => eb_na s49 11 6 6 fun r50 s51 => eb_pR s51 [3] v0 18 r50 fun s52 => eb_na s52 11 6 6 fun r53 s54 => eb_pR s54 [3] v0 19 r53 fun s55 => some ((), s55)
set_option maxRecDepth 100000 in
theorem ct_X3_init {G : eb_G} (hG : eb_ok G) (v0 : Nat) (s : eb_S) : eb_ct G yX3_init cX3_init 1 none 1 15 104 eb_ev [.ref v0] s (f_X3_init v0 s) := by
  refine eb_ct_v (by decide) (Nat.le_of_ble_eq_true rfl) (fun v hv => by simp at hv; rcases hv with rfl <;> simp [Value.category]) ?_
  show eb_go G yX3_init cX3_init 1 none (1) 15 104 .return_ (fun _ : Unit => []) 0 [(0, .ref v0)] [] s 0 0 _
  unfold f_X3_init
  refine eb_aload_n (pc := 0) 0 dX3_init_0 rfl rfl ?_
  refine eb_obj (pc := 1) ew_58 ew_59 ew_60 (by decide) (Nat.le_of_ble_eq_true rfl) dX3_init_1 ?_
  refine eb_aload_n (pc := 4) 0 dX3_init_4 rfl rfl ?_
  refine eb_iconst (pc := 5) (v := 0) dX3_init_5 (by decide) ?_
  refine eb_putI (pc := 6) ef_RX3_9 eg_RX3_9 dX3_init_6 (fun s1 => ?_)
  refine eb_aload_n (pc := 9) 0 dX3_init_9 rfl rfl ?_
  refine eb_iconst (pc := 10) (v := 0) dX3_init_10 (by decide) ?_
  refine eb_putI (pc := 11) ef_RX3_15 eg_RX3_15 dX3_init_11 (fun s2 => ?_)
  refine eb_aload_n (pc := 14) 0 dX3_init_14 rfl rfl ?_
  refine eb_bipush (pc := 15) (v := 10) dX3_init_15 (by decide) ?_
  refine eb_newi (pc := 17) ew_57 dX3_init_17 (by decide) (by decide) (by decide) (fun r3 s4 => ?_)
  refine eb_putR (pc := 19) ef_RX3_18 eg_RX3_18 (fun _ => ⟨rfl, rfl⟩) dX3_init_19 (fun s5 => ?_)
  refine eb_aload_n (pc := 22) 0 dX3_init_22 rfl rfl ?_
  refine eb_bipush (pc := 23) (v := 10) dX3_init_23 (by decide) ?_
  refine eb_newi (pc := 25) ew_57 dX3_init_25 (by decide) (by decide) (by decide) (fun r6 s7 => ?_)
  refine eb_putR (pc := 27) ef_RX3_22 eg_RX3_22 (fun _ => ⟨rfl, rfl⟩) dX3_init_27 (fun s8 => ?_)
  refine eb_aload_n (pc := 30) 0 dX3_init_30 rfl rfl ?_
  refine eb_bipush (pc := 31) (v := 10) dX3_init_31 (by decide) ?_
  refine eb_newi (pc := 33) ew_57 dX3_init_33 (by decide) (by decide) (by decide) (fun r9 s10 => ?_)
  refine eb_putR (pc := 35) ef_RX3_25 eg_RX3_25 (fun _ => ⟨rfl, rfl⟩) dX3_init_35 (fun s11 => ?_)
  refine eb_aload_n (pc := 38) 0 dX3_init_38 rfl rfl ?_
  refine eb_bipush (pc := 39) (v := 10) dX3_init_39 (by decide) ?_
  refine eb_newi (pc := 41) ew_57 dX3_init_41 (by decide) (by decide) (by decide) (fun r12 s13 => ?_)
  refine eb_putR (pc := 43) ef_RX3_28 eg_RX3_28 (fun _ => ⟨rfl, rfl⟩) dX3_init_43 (fun s14 => ?_)
  refine eb_aload_n (pc := 46) 0 dX3_init_46 rfl rfl ?_
  refine eb_bipush (pc := 47) (v := 10) dX3_init_47 (by decide) ?_
  refine eb_newi (pc := 49) ew_57 dX3_init_49 (by decide) (by decide) (by decide) (fun r15 s16 => ?_)
  refine eb_putR (pc := 51) ef_RX3_31 eg_RX3_31 (fun _ => ⟨rfl, rfl⟩) dX3_init_51 (fun s17 => ?_)
  refine eb_aload_n (pc := 54) 0 dX3_init_54 rfl rfl ?_
  refine eb_iconst (pc := 55) (v := 0) dX3_init_55 (by decide) ?_
  refine eb_putI (pc := 56) ef_RX3_34 eg_RX3_34 dX3_init_56 (fun s18 => ?_)
  refine eb_aload_n (pc := 59) 0 dX3_init_59 rfl rfl ?_
  refine eb_iconst (pc := 60) (v := 5) dX3_init_60 (by decide) ?_
  refine eb_newi (pc := 61) ew_57 dX3_init_61 (by decide) (by decide) (by decide) (fun r19 s20 => ?_)
  refine eb_putR (pc := 63) ef_RX3_37 eg_RX3_37 (fun _ => ⟨rfl, rfl⟩) dX3_init_63 (fun s21 => ?_)
  refine eb_aload_n (pc := 66) 0 dX3_init_66 rfl rfl ?_
  refine eb_iconst (pc := 67) (v := 5) dX3_init_67 (by decide) ?_
  refine eb_newi (pc := 68) ew_57 dX3_init_68 (by decide) (by decide) (by decide) (fun r22 s23 => ?_)
  refine eb_putR (pc := 70) ef_RX3_40 eg_RX3_40 (fun _ => ⟨rfl, rfl⟩) dX3_init_70 (fun s24 => ?_)
  refine eb_aload_n (pc := 73) 0 dX3_init_73 rfl rfl ?_
  refine eb_iconst (pc := 74) (v := 3) dX3_init_74 (by decide) ?_
  refine eb_newi (pc := 75) ew_57 dX3_init_75 (by decide) (by decide) (by decide) (fun r25 s26 => ?_)
  refine eb_dup (pc := 77) dX3_init_77 rfl ?_
  refine eb_iconst (pc := 78) (v := 0) dX3_init_78 (by decide) ?_
  refine eb_sipush (pc := 79) (v := 999) dX3_init_79 (by decide) ?_
  refine eb_iastore (pc := 82) dX3_init_82 (fun s27 => ?_)
  refine eb_dup (pc := 83) dX3_init_83 rfl ?_
  refine eb_iconst (pc := 84) (v := 1) dX3_init_84 (by decide) ?_
  refine eb_sipush (pc := 85) (v := 999) dX3_init_85 (by decide) ?_
  refine eb_iastore (pc := 88) dX3_init_88 (fun s28 => ?_)
  refine eb_dup (pc := 89) dX3_init_89 rfl ?_
  refine eb_iconst (pc := 90) (v := 2) dX3_init_90 (by decide) ?_
  refine eb_sipush (pc := 91) (v := 999) dX3_init_91 (by decide) ?_
  refine eb_iastore (pc := 94) dX3_init_94 (fun s29 => ?_)
  refine eb_putR (pc := 95) ef_RX3_43 eg_RX3_43 (fun _ => ⟨rfl, rfl⟩) dX3_init_95 (fun s30 => ?_)
  refine eb_aload_n (pc := 98) 0 dX3_init_98 rfl rfl ?_
  refine eb_iconst (pc := 99) (v := 3) dX3_init_99 (by decide) ?_
  refine eb_newi (pc := 100) ew_57 dX3_init_100 (by decide) (by decide) (by decide) (fun r31 s32 => ?_)
  refine eb_putR (pc := 102) ef_RX3_46 eg_RX3_46 (fun _ => ⟨rfl, rfl⟩) dX3_init_102 (fun s33 => ?_)
  refine eb_aload_n (pc := 105) 0 dX3_init_105 rfl rfl ?_
  refine eb_iconst (pc := 106) (v := 2) dX3_init_106 (by decide) ?_
  refine eb_newi (pc := 107) ew_57 dX3_init_107 (by decide) (by decide) (by decide) (fun r34 s35 => ?_)
  refine eb_dup (pc := 109) dX3_init_109 rfl ?_
  refine eb_iconst (pc := 110) (v := 0) dX3_init_110 (by decide) ?_
  refine eb_iconst (pc := 111) (v := 2) dX3_init_111 (by decide) ?_
  refine eb_iastore (pc := 112) dX3_init_112 (fun s36 => ?_)
  refine eb_dup (pc := 113) dX3_init_113 rfl ?_
  refine eb_iconst (pc := 114) (v := 1) dX3_init_114 (by decide) ?_
  refine eb_iconst (pc := 115) (v := 3) dX3_init_115 (by decide) ?_
  refine eb_iastore (pc := 116) dX3_init_116 (fun s37 => ?_)
  refine eb_putR (pc := 117) ef_RX3_49 eg_RX3_49 (fun _ => ⟨rfl, rfl⟩) dX3_init_117 (fun s38 => ?_)
  refine eb_aload_n (pc := 120) 0 dX3_init_120 rfl rfl ?_
  refine eb_iconst (pc := 121) (v := 0) dX3_init_121 (by decide) ?_
  refine eb_putI (pc := 122) ef_RX3_52 eg_RX3_52 dX3_init_122 (fun s39 => ?_)
  refine eb_aload_n (pc := 125) 0 dX3_init_125 rfl rfl ?_
  refine eb_bipush (pc := 126) (v := 8) dX3_init_126 (by decide) ?_
  refine eb_newi (pc := 128) ew_57 dX3_init_128 (by decide) (by decide) (by decide) (fun r40 s41 => ?_)
  refine eb_putR (pc := 130) ef_RX3_55 eg_RX3_55 (fun _ => ⟨rfl, rfl⟩) dX3_init_130 (fun s42 => ?_)
  refine eb_aload_n (pc := 133) 0 dX3_init_133 rfl rfl ?_
  refine eb_bipush (pc := 134) (v := 8) dX3_init_134 (by decide) ?_
  refine eb_newi (pc := 136) ew_57 dX3_init_136 (by decide) (by decide) (by decide) (fun r43 s44 => ?_)
  refine eb_putR (pc := 138) ef_RX3_58 eg_RX3_58 (fun _ => ⟨rfl, rfl⟩) dX3_init_138 (fun s45 => ?_)
  refine eb_aload_n (pc := 141) 0 dX3_init_141 rfl rfl ?_
  refine eb_bipush (pc := 142) (v := 8) dX3_init_142 (by decide) ?_
  refine eb_newi (pc := 144) ew_57 dX3_init_144 (by decide) (by decide) (by decide) (fun r46 s47 => ?_)
  refine eb_putR (pc := 146) ef_RX3_61 eg_RX3_61 (fun _ => ⟨rfl, rfl⟩) dX3_init_146 (fun s48 => ?_)
  refine eb_aload_n (pc := 149) 0 dX3_init_149 rfl rfl ?_
  refine eb_iconst (pc := 150) (v := 0) dX3_init_150 (by decide) ?_
  refine eb_putI (pc := 151) ef_RX3_64 eg_RX3_64 dX3_init_151 (fun s49 => ?_)
  refine eb_aload_n (pc := 154) 0 dX3_init_154 rfl rfl ?_
  refine eb_bipush (pc := 155) (v := 6) dX3_init_155 (by decide) ?_
  refine eb_newi (pc := 157) ew_57 dX3_init_157 (by decide) (by decide) (by decide) (fun r50 s51 => ?_)
  refine eb_putR (pc := 159) ef_RX3_67 eg_RX3_67 (fun _ => ⟨rfl, rfl⟩) dX3_init_159 (fun s52 => ?_)
  refine eb_aload_n (pc := 162) 0 dX3_init_162 rfl rfl ?_
  refine eb_bipush (pc := 163) (v := 6) dX3_init_163 (by decide) ?_
  refine eb_newi (pc := 165) ew_57 dX3_init_165 (by decide) (by decide) (by decide) (fun r53 s54 => ?_)
  refine eb_putR (pc := 167) ef_RX3_70 eg_RX3_70 (fun _ => ⟨rfl, rfl⟩) dX3_init_167 (fun s55 => ?_)
  exact eb_vret (pc := 170) dX3_init_170 (by decide) (by decide)

def f_X3_addThing (v0 : Nat) (v1 : Int32) (v2 : Int32) (v3 : Int32) (s : eb_S) : Option (Int32 × eb_S) := eb_gI s [3] v0 0 fun x1 => eb_pI s [3] v0 0 (x1 + 1) fun s2 => eb_gR s2 [3] v0 2 fun r3 => eb_gI s2 [3] v0 1 fun x4 => eb_wi s2 r3 x4 v1 fun s5 => eb_gR s5 [3] v0 3 fun r6 => eb_gI s5 [3] v0 1 fun x7 => eb_wi s5 r6 x7 v2 fun s8 => eb_gR s8 [3] v0 4 fun r9 => eb_gI s8 [3] v0 1 fun x10 => eb_wi s8 r9 x10 v3 fun s11 => eb_gR s11 [3] v0 5 fun r12 => eb_gI s11 [3] v0 1 fun x13 => eb_wi s11 r12 x13 0 fun s14 => eb_gR s14 [3] v0 6 fun r15 => eb_gI s14 [3] v0 1 fun x16 => eb_wi s14 r15 x16 0 fun s17 => eb_gI s17 [3] v0 1 fun x18 => eb_pI s17 [3] v0 1 (x18 + 1) fun s19 => some (x18, s19)
set_option maxRecDepth 100000 in
theorem ct_X3_addThing {G : eb_G} (hG : eb_ok G) (v0 : Nat) (v1 : Int32) (v2 : Int32) (v3 : Int32) (s : eb_S) : eb_ct G yX3_addThing cX3_addThing 4 (some .int) 1 0 0 eb_ei [.ref v0, .int v1, .int v2, .int v3] s (f_X3_addThing v0 v1 v2 v3 s) := by
  refine eb_ct_i (by decide) (Nat.le_of_ble_eq_true rfl) (fun v hv => by simp at hv; rcases hv with rfl | rfl | rfl | rfl <;> simp [Value.category]) ?_
  show eb_go G yX3_addThing cX3_addThing 4 (some .int) (1) 0 0 .ireturn (fun r : Int32 => [.int r]) 0 [(0, .ref v0), (1, .int v1), (2, .int v2), (3, .int v3)] [] s 0 0 _
  unfold f_X3_addThing
  refine eb_aload_n (pc := 0) 0 dX3_addThing_0 rfl rfl ?_
  refine eb_dup (pc := 1) dX3_addThing_1 rfl ?_
  refine eb_getI (pc := 2) ef_RX3_9 dX3_addThing_2 (fun x1 => ?_)
  refine eb_iconst (pc := 5) (v := 1) dX3_addThing_5 (by decide) ?_
  refine eb_iadd (pc := 6) dX3_addThing_6 ?_
  refine eb_putI (pc := 7) ef_RX3_9 eg_RX3_9 dX3_addThing_7 (fun s2 => ?_)
  refine eb_aload_n (pc := 10) 0 dX3_addThing_10 rfl rfl ?_
  refine eb_getR (pc := 11) ef_RX3_18 dX3_addThing_11 (fun r3 => ?_)
  refine eb_aload_n (pc := 14) 0 dX3_addThing_14 rfl rfl ?_
  refine eb_getI (pc := 15) ef_RX3_15 dX3_addThing_15 (fun x4 => ?_)
  refine eb_iload_n (pc := 18) 1 dX3_addThing_18 rfl rfl ?_
  refine eb_iastore (pc := 19) dX3_addThing_19 (fun s5 => ?_)
  refine eb_aload_n (pc := 20) 0 dX3_addThing_20 rfl rfl ?_
  refine eb_getR (pc := 21) ef_RX3_22 dX3_addThing_21 (fun r6 => ?_)
  refine eb_aload_n (pc := 24) 0 dX3_addThing_24 rfl rfl ?_
  refine eb_getI (pc := 25) ef_RX3_15 dX3_addThing_25 (fun x7 => ?_)
  refine eb_iload_n (pc := 28) 2 dX3_addThing_28 rfl rfl ?_
  refine eb_iastore (pc := 29) dX3_addThing_29 (fun s8 => ?_)
  refine eb_aload_n (pc := 30) 0 dX3_addThing_30 rfl rfl ?_
  refine eb_getR (pc := 31) ef_RX3_25 dX3_addThing_31 (fun r9 => ?_)
  refine eb_aload_n (pc := 34) 0 dX3_addThing_34 rfl rfl ?_
  refine eb_getI (pc := 35) ef_RX3_15 dX3_addThing_35 (fun x10 => ?_)
  refine eb_iload_n (pc := 38) 3 dX3_addThing_38 rfl rfl ?_
  refine eb_iastore (pc := 39) dX3_addThing_39 (fun s11 => ?_)
  refine eb_aload_n (pc := 40) 0 dX3_addThing_40 rfl rfl ?_
  refine eb_getR (pc := 41) ef_RX3_28 dX3_addThing_41 (fun r12 => ?_)
  refine eb_aload_n (pc := 44) 0 dX3_addThing_44 rfl rfl ?_
  refine eb_getI (pc := 45) ef_RX3_15 dX3_addThing_45 (fun x13 => ?_)
  refine eb_iconst (pc := 48) (v := 0) dX3_addThing_48 (by decide) ?_
  refine eb_iastore (pc := 49) dX3_addThing_49 (fun s14 => ?_)
  refine eb_aload_n (pc := 50) 0 dX3_addThing_50 rfl rfl ?_
  refine eb_getR (pc := 51) ef_RX3_31 dX3_addThing_51 (fun r15 => ?_)
  refine eb_aload_n (pc := 54) 0 dX3_addThing_54 rfl rfl ?_
  refine eb_getI (pc := 55) ef_RX3_15 dX3_addThing_55 (fun x16 => ?_)
  refine eb_iconst (pc := 58) (v := 0) dX3_addThing_58 (by decide) ?_
  refine eb_iastore (pc := 59) dX3_addThing_59 (fun s17 => ?_)
  refine eb_aload_n (pc := 60) 0 dX3_addThing_60 rfl rfl ?_
  refine eb_dup (pc := 61) dX3_addThing_61 rfl ?_
  refine eb_getI (pc := 62) ef_RX3_15 dX3_addThing_62 (fun x18 => ?_)
  refine eb_dup_x1 (pc := 65) dX3_addThing_65 rfl rfl ?_
  refine eb_iconst (pc := 66) (v := 1) dX3_addThing_66 (by decide) ?_
  refine eb_iadd (pc := 67) dX3_addThing_67 ?_
  refine eb_putI (pc := 68) ef_RX3_15 eg_RX3_15 dX3_addThing_68 (fun s19 => ?_)
  exact eb_iret (pc := 71) dX3_addThing_71 (by decide) (by decide)

def f_X3_addStretch (v0 : Nat) (v1 : Int32) (v2 : Int32) (s : eb_S) : Option (Int32 × eb_S) := eb_gI s [3] v0 0 fun x1 => eb_pI s [3] v0 0 (x1 + 1) fun s2 => eb_gR s2 [3] v0 8 fun r3 => eb_gI s2 [3] v0 7 fun x4 => eb_wi s2 r3 x4 v1 fun s5 => eb_gR s5 [3] v0 9 fun r6 => eb_gI s5 [3] v0 7 fun x7 => eb_wi s5 r6 x7 v2 fun s8 => eb_gI s8 [3] v0 7 fun x9 => eb_pI s8 [3] v0 7 (x9 + 1) fun s10 => some (x9, s10)
set_option maxRecDepth 100000 in
theorem ct_X3_addStretch {G : eb_G} (hG : eb_ok G) (v0 : Nat) (v1 : Int32) (v2 : Int32) (s : eb_S) : eb_ct G yX3_addStretch cX3_addStretch 3 (some .int) 1 0 0 eb_ei [.ref v0, .int v1, .int v2] s (f_X3_addStretch v0 v1 v2 s) := by
  refine eb_ct_i (by decide) (Nat.le_of_ble_eq_true rfl) (fun v hv => by simp at hv; rcases hv with rfl | rfl | rfl <;> simp [Value.category]) ?_
  show eb_go G yX3_addStretch cX3_addStretch 3 (some .int) (1) 0 0 .ireturn (fun r : Int32 => [.int r]) 0 [(0, .ref v0), (1, .int v1), (2, .int v2)] [] s 0 0 _
  unfold f_X3_addStretch
  refine eb_aload_n (pc := 0) 0 dX3_addStretch_0 rfl rfl ?_
  refine eb_dup (pc := 1) dX3_addStretch_1 rfl ?_
  refine eb_getI (pc := 2) ef_RX3_9 dX3_addStretch_2 (fun x1 => ?_)
  refine eb_iconst (pc := 5) (v := 1) dX3_addStretch_5 (by decide) ?_
  refine eb_iadd (pc := 6) dX3_addStretch_6 ?_
  refine eb_putI (pc := 7) ef_RX3_9 eg_RX3_9 dX3_addStretch_7 (fun s2 => ?_)
  refine eb_aload_n (pc := 10) 0 dX3_addStretch_10 rfl rfl ?_
  refine eb_getR (pc := 11) ef_RX3_37 dX3_addStretch_11 (fun r3 => ?_)
  refine eb_aload_n (pc := 14) 0 dX3_addStretch_14 rfl rfl ?_
  refine eb_getI (pc := 15) ef_RX3_34 dX3_addStretch_15 (fun x4 => ?_)
  refine eb_iload_n (pc := 18) 1 dX3_addStretch_18 rfl rfl ?_
  refine eb_iastore (pc := 19) dX3_addStretch_19 (fun s5 => ?_)
  refine eb_aload_n (pc := 20) 0 dX3_addStretch_20 rfl rfl ?_
  refine eb_getR (pc := 21) ef_RX3_40 dX3_addStretch_21 (fun r6 => ?_)
  refine eb_aload_n (pc := 24) 0 dX3_addStretch_24 rfl rfl ?_
  refine eb_getI (pc := 25) ef_RX3_34 dX3_addStretch_25 (fun x7 => ?_)
  refine eb_iload_n (pc := 28) 2 dX3_addStretch_28 rfl rfl ?_
  refine eb_iastore (pc := 29) dX3_addStretch_29 (fun s8 => ?_)
  refine eb_aload_n (pc := 30) 0 dX3_addStretch_30 rfl rfl ?_
  refine eb_dup (pc := 31) dX3_addStretch_31 rfl ?_
  refine eb_getI (pc := 32) ef_RX3_34 dX3_addStretch_32 (fun x9 => ?_)
  refine eb_dup_x1 (pc := 35) dX3_addStretch_35 rfl rfl ?_
  refine eb_iconst (pc := 36) (v := 1) dX3_addStretch_36 (by decide) ?_
  refine eb_iadd (pc := 37) dX3_addStretch_37 ?_
  refine eb_putI (pc := 38) ef_RX3_34 eg_RX3_34 dX3_addStretch_38 (fun s10 => ?_)
  exact eb_iret (pc := 41) dX3_addStretch_41 (by decide) (by decide)

def f_X3_addLaw (v0 : Nat) (v1 : Int32) (v2 : Int32) (v3 : Int32) (s : eb_S) : Option (Int32 × eb_S) := eb_gI s [3] v0 0 fun x1 => eb_pI s [3] v0 0 (x1 + 1) fun s2 => eb_gR s2 [3] v0 14 fun r3 => eb_gI s2 [3] v0 13 fun x4 => eb_wi s2 r3 x4 v1 fun s5 => eb_gR s5 [3] v0 15 fun r6 => eb_gI s5 [3] v0 13 fun x7 => eb_wi s5 r6 x7 v2 fun s8 => eb_gR s8 [3] v0 16 fun r9 => eb_gI s8 [3] v0 13 fun x10 => eb_wi s8 r9 x10 v3 fun s11 => eb_gI s11 [3] v0 13 fun x12 => eb_pI s11 [3] v0 13 (x12 + 1) fun s13 => some (x12, s13)
set_option maxRecDepth 100000 in
theorem ct_X3_addLaw {G : eb_G} (hG : eb_ok G) (v0 : Nat) (v1 : Int32) (v2 : Int32) (v3 : Int32) (s : eb_S) : eb_ct G yX3_addLaw cX3_addLaw 4 (some .int) 1 0 0 eb_ei [.ref v0, .int v1, .int v2, .int v3] s (f_X3_addLaw v0 v1 v2 v3 s) := by
  refine eb_ct_i (by decide) (Nat.le_of_ble_eq_true rfl) (fun v hv => by simp at hv; rcases hv with rfl | rfl | rfl | rfl <;> simp [Value.category]) ?_
  show eb_go G yX3_addLaw cX3_addLaw 4 (some .int) (1) 0 0 .ireturn (fun r : Int32 => [.int r]) 0 [(0, .ref v0), (1, .int v1), (2, .int v2), (3, .int v3)] [] s 0 0 _
  unfold f_X3_addLaw
  refine eb_aload_n (pc := 0) 0 dX3_addLaw_0 rfl rfl ?_
  refine eb_dup (pc := 1) dX3_addLaw_1 rfl ?_
  refine eb_getI (pc := 2) ef_RX3_9 dX3_addLaw_2 (fun x1 => ?_)
  refine eb_iconst (pc := 5) (v := 1) dX3_addLaw_5 (by decide) ?_
  refine eb_iadd (pc := 6) dX3_addLaw_6 ?_
  refine eb_putI (pc := 7) ef_RX3_9 eg_RX3_9 dX3_addLaw_7 (fun s2 => ?_)
  refine eb_aload_n (pc := 10) 0 dX3_addLaw_10 rfl rfl ?_
  refine eb_getR (pc := 11) ef_RX3_55 dX3_addLaw_11 (fun r3 => ?_)
  refine eb_aload_n (pc := 14) 0 dX3_addLaw_14 rfl rfl ?_
  refine eb_getI (pc := 15) ef_RX3_52 dX3_addLaw_15 (fun x4 => ?_)
  refine eb_iload_n (pc := 18) 1 dX3_addLaw_18 rfl rfl ?_
  refine eb_iastore (pc := 19) dX3_addLaw_19 (fun s5 => ?_)
  refine eb_aload_n (pc := 20) 0 dX3_addLaw_20 rfl rfl ?_
  refine eb_getR (pc := 21) ef_RX3_58 dX3_addLaw_21 (fun r6 => ?_)
  refine eb_aload_n (pc := 24) 0 dX3_addLaw_24 rfl rfl ?_
  refine eb_getI (pc := 25) ef_RX3_52 dX3_addLaw_25 (fun x7 => ?_)
  refine eb_iload_n (pc := 28) 2 dX3_addLaw_28 rfl rfl ?_
  refine eb_iastore (pc := 29) dX3_addLaw_29 (fun s8 => ?_)
  refine eb_aload_n (pc := 30) 0 dX3_addLaw_30 rfl rfl ?_
  refine eb_getR (pc := 31) ef_RX3_61 dX3_addLaw_31 (fun r9 => ?_)
  refine eb_aload_n (pc := 34) 0 dX3_addLaw_34 rfl rfl ?_
  refine eb_getI (pc := 35) ef_RX3_52 dX3_addLaw_35 (fun x10 => ?_)
  refine eb_iload_n (pc := 38) 3 dX3_addLaw_38 rfl rfl ?_
  refine eb_iastore (pc := 39) dX3_addLaw_39 (fun s11 => ?_)
  refine eb_aload_n (pc := 40) 0 dX3_addLaw_40 rfl rfl ?_
  refine eb_dup (pc := 41) dX3_addLaw_41 rfl ?_
  refine eb_getI (pc := 42) ef_RX3_52 dX3_addLaw_42 (fun x12 => ?_)
  refine eb_dup_x1 (pc := 45) dX3_addLaw_45 rfl rfl ?_
  refine eb_iconst (pc := 46) (v := 1) dX3_addLaw_46 (by decide) ?_
  refine eb_iadd (pc := 47) dX3_addLaw_47 ?_
  refine eb_putI (pc := 48) ef_RX3_52 eg_RX3_52 dX3_addLaw_48 (fun s13 => ?_)
  exact eb_iret (pc := 51) dX3_addLaw_51 (by decide) (by decide)

def f_X3_dropLaw (v0 : Nat) (s : eb_S) : Option (Int32 × eb_S) := eb_gI s [3] v0 0 fun x1 => eb_pI s [3] v0 0 (x1 + 1) fun s2 => eb_gI s2 [3] v0 13 fun x3 => eb_pI s2 [3] v0 13 (x3 - 1) fun s4 => eb_gI s4 [3] v0 13 fun x5 => some (x5, s4)
set_option maxRecDepth 100000 in
theorem ct_X3_dropLaw {G : eb_G} (hG : eb_ok G) (v0 : Nat) (s : eb_S) : eb_ct G yX3_dropLaw cX3_dropLaw 1 (some .int) 1 0 0 eb_ei [.ref v0] s (f_X3_dropLaw v0 s) := by
  refine eb_ct_i (by decide) (Nat.le_of_ble_eq_true rfl) (fun v hv => by simp at hv; rcases hv with rfl <;> simp [Value.category]) ?_
  show eb_go G yX3_dropLaw cX3_dropLaw 1 (some .int) (1) 0 0 .ireturn (fun r : Int32 => [.int r]) 0 [(0, .ref v0)] [] s 0 0 _
  unfold f_X3_dropLaw
  refine eb_aload_n (pc := 0) 0 dX3_dropLaw_0 rfl rfl ?_
  refine eb_dup (pc := 1) dX3_dropLaw_1 rfl ?_
  refine eb_getI (pc := 2) ef_RX3_9 dX3_dropLaw_2 (fun x1 => ?_)
  refine eb_iconst (pc := 5) (v := 1) dX3_dropLaw_5 (by decide) ?_
  refine eb_iadd (pc := 6) dX3_dropLaw_6 ?_
  refine eb_putI (pc := 7) ef_RX3_9 eg_RX3_9 dX3_dropLaw_7 (fun s2 => ?_)
  refine eb_aload_n (pc := 10) 0 dX3_dropLaw_10 rfl rfl ?_
  refine eb_dup (pc := 11) dX3_dropLaw_11 rfl ?_
  refine eb_getI (pc := 12) ef_RX3_52 dX3_dropLaw_12 (fun x3 => ?_)
  refine eb_iconst (pc := 15) (v := 1) dX3_dropLaw_15 (by decide) ?_
  refine eb_isub (pc := 16) dX3_dropLaw_16 ?_
  refine eb_putI (pc := 17) ef_RX3_52 eg_RX3_52 dX3_dropLaw_17 (fun s4 => ?_)
  refine eb_aload_n (pc := 20) 0 dX3_dropLaw_20 rfl rfl ?_
  refine eb_getI (pc := 21) ef_RX3_52 dX3_dropLaw_21 (fun x5 => ?_)
  exact eb_iret (pc := 24) dX3_dropLaw_24 (by decide) (by decide)

def f_X3_addBar (v0 : Nat) (v1 : Int32) (v2 : Int32) (s : eb_S) : Option (Int32 × eb_S) := eb_gI s [3] v0 0 fun x1 => eb_pI s [3] v0 0 (x1 + 1) fun s2 => eb_gR s2 [3] v0 18 fun r3 => eb_gI s2 [3] v0 17 fun x4 => eb_wi s2 r3 x4 v1 fun s5 => eb_gR s5 [3] v0 19 fun r6 => eb_gI s5 [3] v0 17 fun x7 => eb_wi s5 r6 x7 v2 fun s8 => eb_gI s8 [3] v0 17 fun x9 => eb_pI s8 [3] v0 17 (x9 + 1) fun s10 => some (x9, s10)
set_option maxRecDepth 100000 in
theorem ct_X3_addBar {G : eb_G} (hG : eb_ok G) (v0 : Nat) (v1 : Int32) (v2 : Int32) (s : eb_S) : eb_ct G yX3_addBar cX3_addBar 3 (some .int) 1 0 0 eb_ei [.ref v0, .int v1, .int v2] s (f_X3_addBar v0 v1 v2 s) := by
  refine eb_ct_i (by decide) (Nat.le_of_ble_eq_true rfl) (fun v hv => by simp at hv; rcases hv with rfl | rfl | rfl <;> simp [Value.category]) ?_
  show eb_go G yX3_addBar cX3_addBar 3 (some .int) (1) 0 0 .ireturn (fun r : Int32 => [.int r]) 0 [(0, .ref v0), (1, .int v1), (2, .int v2)] [] s 0 0 _
  unfold f_X3_addBar
  refine eb_aload_n (pc := 0) 0 dX3_addBar_0 rfl rfl ?_
  refine eb_dup (pc := 1) dX3_addBar_1 rfl ?_
  refine eb_getI (pc := 2) ef_RX3_9 dX3_addBar_2 (fun x1 => ?_)
  refine eb_iconst (pc := 5) (v := 1) dX3_addBar_5 (by decide) ?_
  refine eb_iadd (pc := 6) dX3_addBar_6 ?_
  refine eb_putI (pc := 7) ef_RX3_9 eg_RX3_9 dX3_addBar_7 (fun s2 => ?_)
  refine eb_aload_n (pc := 10) 0 dX3_addBar_10 rfl rfl ?_
  refine eb_getR (pc := 11) ef_RX3_67 dX3_addBar_11 (fun r3 => ?_)
  refine eb_aload_n (pc := 14) 0 dX3_addBar_14 rfl rfl ?_
  refine eb_getI (pc := 15) ef_RX3_64 dX3_addBar_15 (fun x4 => ?_)
  refine eb_iload_n (pc := 18) 1 dX3_addBar_18 rfl rfl ?_
  refine eb_iastore (pc := 19) dX3_addBar_19 (fun s5 => ?_)
  refine eb_aload_n (pc := 20) 0 dX3_addBar_20 rfl rfl ?_
  refine eb_getR (pc := 21) ef_RX3_70 dX3_addBar_21 (fun r6 => ?_)
  refine eb_aload_n (pc := 24) 0 dX3_addBar_24 rfl rfl ?_
  refine eb_getI (pc := 25) ef_RX3_64 dX3_addBar_25 (fun x7 => ?_)
  refine eb_iload_n (pc := 28) 2 dX3_addBar_28 rfl rfl ?_
  refine eb_iastore (pc := 29) dX3_addBar_29 (fun s8 => ?_)
  refine eb_aload_n (pc := 30) 0 dX3_addBar_30 rfl rfl ?_
  refine eb_dup (pc := 31) dX3_addBar_31 rfl ?_
  refine eb_getI (pc := 32) ef_RX3_64 dX3_addBar_32 (fun x9 => ?_)
  refine eb_dup_x1 (pc := 35) dX3_addBar_35 rfl rfl ?_
  refine eb_iconst (pc := 36) (v := 1) dX3_addBar_36 (by decide) ?_
  refine eb_iadd (pc := 37) dX3_addBar_37 ?_
  refine eb_putI (pc := 38) ef_RX3_64 eg_RX3_64 dX3_addBar_38 (fun s10 => ?_)
  exact eb_iret (pc := 41) dX3_addBar_41 (by decide) (by decide)

def f_X3_put (v0 : Nat) (v1 : Nat) (v2 : Int32) (v3 : Int32) (s : eb_S) : Option (Int32 × eb_S) := eb_gI s [3] v0 0 fun x1 => eb_pI s [3] v0 0 (x1 + 1) fun s2 => eb_ai s2 v1 v2 fun x3 => eb_wi s2 v1 v2 v3 fun s4 => some (x3, s4)
set_option maxRecDepth 100000 in
theorem ct_X3_put {G : eb_G} (hG : eb_ok G) (v0 : Nat) (v1 : Nat) (v2 : Int32) (v3 : Int32) (s : eb_S) : eb_ct G yX3_put cX3_put 5 (some .int) 1 0 0 eb_ei [.ref v0, .ref v1, .int v2, .int v3] s (f_X3_put v0 v1 v2 v3 s) := by
  refine eb_ct_i (by decide) (Nat.le_of_ble_eq_true rfl) (fun v hv => by simp at hv; rcases hv with rfl | rfl | rfl | rfl <;> simp [Value.category]) ?_
  show eb_go G yX3_put cX3_put 5 (some .int) (1) 0 0 .ireturn (fun r : Int32 => [.int r]) 0 [(0, .ref v0), (1, .ref v1), (2, .int v2), (3, .int v3)] [] s 0 0 _
  unfold f_X3_put
  refine eb_aload_n (pc := 0) 0 dX3_put_0 rfl rfl ?_
  refine eb_dup (pc := 1) dX3_put_1 rfl ?_
  refine eb_getI (pc := 2) ef_RX3_9 dX3_put_2 (fun x1 => ?_)
  refine eb_iconst (pc := 5) (v := 1) dX3_put_5 (by decide) ?_
  refine eb_iadd (pc := 6) dX3_put_6 ?_
  refine eb_putI (pc := 7) ef_RX3_9 eg_RX3_9 dX3_put_7 (fun s2 => ?_)
  refine eb_aload_n (pc := 10) 1 dX3_put_10 rfl rfl ?_
  refine eb_iload_n (pc := 11) 2 dX3_put_11 rfl rfl ?_
  refine eb_iaload (pc := 12) dX3_put_12 (fun x3 => ?_)
  refine eb_istore (pc := 13) (L' := [(4, .int x3), (0, .ref v0), (1, .ref v1), (2, .int v2), (3, .int v3)]) dX3_put_13 (by decide) rfl ?_
  refine eb_aload_n (pc := 15) 2 dX3_put_15 rfl rfl ?_
  refine eb_iload_n (pc := 16) 3 dX3_put_16 rfl rfl ?_
  refine eb_iload_n (pc := 17) 4 dX3_put_17 rfl rfl ?_
  refine eb_iastore (pc := 18) dX3_put_18 (fun s4 => ?_)
  refine eb_iload (pc := 19) 0 dX3_put_19 rfl ?_
  exact eb_iret (pc := 21) dX3_put_21 (by decide) (by decide)

def f_X3_packAs (v0 : Nat) (v1 : Nat) (s : eb_S) : Option (Unit × eb_S) := eb_gI s [3] v0 0 fun x1 => eb_pI s [3] v0 0 (x1 + 1) fun s2 => eb_gR s2 [3] v0 6 fun r3 => eb_gI s2 [3] v0 1 fun x4 => eb_ci s2 v1 0 r3 0 x4 fun s5 => some ((), s5)
set_option maxRecDepth 100000 in
theorem ct_X3_packAs {G : eb_G} (hG : eb_ok G) (v0 : Nat) (v1 : Nat) (s : eb_S) : eb_ct G yX3_packAs cX3_packAs 2 none 1 0 0 eb_ev [.ref v0, .ref v1] s (f_X3_packAs v0 v1 s) := by
  refine eb_ct_v (by decide) (Nat.le_of_ble_eq_true rfl) (fun v hv => by simp at hv; rcases hv with rfl | rfl <;> simp [Value.category]) ?_
  show eb_go G yX3_packAs cX3_packAs 2 none (1) 0 0 .return_ (fun _ : Unit => []) 0 [(0, .ref v0), (1, .ref v1)] [] s 0 0 _
  unfold f_X3_packAs
  refine eb_aload_n (pc := 0) 0 dX3_packAs_0 rfl rfl ?_
  refine eb_dup (pc := 1) dX3_packAs_1 rfl ?_
  refine eb_getI (pc := 2) ef_RX3_9 dX3_packAs_2 (fun x1 => ?_)
  refine eb_iconst (pc := 5) (v := 1) dX3_packAs_5 (by decide) ?_
  refine eb_iadd (pc := 6) dX3_packAs_6 ?_
  refine eb_putI (pc := 7) ef_RX3_9 eg_RX3_9 dX3_packAs_7 (fun s2 => ?_)
  refine eb_aload_n (pc := 10) 1 dX3_packAs_10 rfl rfl ?_
  refine eb_iconst (pc := 11) (v := 0) dX3_packAs_11 (by decide) ?_
  refine eb_aload_n (pc := 12) 0 dX3_packAs_12 rfl rfl ?_
  refine eb_getR (pc := 13) ef_RX3_31 dX3_packAs_13 (fun r3 => ?_)
  refine eb_iconst (pc := 16) (v := 0) dX3_packAs_16 (by decide) ?_
  refine eb_aload_n (pc := 17) 0 dX3_packAs_17 rfl rfl ?_
  refine eb_getI (pc := 18) ef_RX3_15 dX3_packAs_18 (fun x4 => ?_)
  refine eb_copyi (pc := 21) ew_61 ew_62 ew_63 ew_64 (by decide) (Nat.le_of_ble_eq_true rfl) dX3_packAs_21 (fun s5 => ?_)
  exact eb_vret (pc := 24) dX3_packAs_24 (by decide) (by decide)

def f_X3_clearGoods (v0 : Nat) (s : eb_S) : Option (Unit × eb_S) := eb_gI s [3] v0 0 fun x1 => eb_pI s [3] v0 0 (x1 + 1) fun s2 => eb_pI s2 [3] v0 1 0 fun s3 => eb_pI s3 [3] v0 7 0 fun s4 => some ((), s4)
set_option maxRecDepth 100000 in
theorem ct_X3_clearGoods {G : eb_G} (hG : eb_ok G) (v0 : Nat) (s : eb_S) : eb_ct G yX3_clearGoods cX3_clearGoods 1 none 1 0 0 eb_ev [.ref v0] s (f_X3_clearGoods v0 s) := by
  refine eb_ct_v (by decide) (Nat.le_of_ble_eq_true rfl) (fun v hv => by simp at hv; rcases hv with rfl <;> simp [Value.category]) ?_
  show eb_go G yX3_clearGoods cX3_clearGoods 1 none (1) 0 0 .return_ (fun _ : Unit => []) 0 [(0, .ref v0)] [] s 0 0 _
  unfold f_X3_clearGoods
  refine eb_aload_n (pc := 0) 0 dX3_clearGoods_0 rfl rfl ?_
  refine eb_dup (pc := 1) dX3_clearGoods_1 rfl ?_
  refine eb_getI (pc := 2) ef_RX3_9 dX3_clearGoods_2 (fun x1 => ?_)
  refine eb_iconst (pc := 5) (v := 1) dX3_clearGoods_5 (by decide) ?_
  refine eb_iadd (pc := 6) dX3_clearGoods_6 ?_
  refine eb_putI (pc := 7) ef_RX3_9 eg_RX3_9 dX3_clearGoods_7 (fun s2 => ?_)
  refine eb_aload_n (pc := 10) 0 dX3_clearGoods_10 rfl rfl ?_
  refine eb_iconst (pc := 11) (v := 0) dX3_clearGoods_11 (by decide) ?_
  refine eb_putI (pc := 12) ef_RX3_15 eg_RX3_15 dX3_clearGoods_12 (fun s3 => ?_)
  refine eb_aload_n (pc := 15) 0 dX3_clearGoods_15 rfl rfl ?_
  refine eb_iconst (pc := 16) (v := 0) dX3_clearGoods_16 (by decide) ?_
  refine eb_putI (pc := 17) ef_RX3_34 eg_RX3_34 dX3_clearGoods_17 (fun s4 => ?_)
  exact eb_vret (pc := 20) dX3_clearGoods_20 (by decide) (by decide)

def f_X3_clearLawsAndBars (v0 : Nat) (s : eb_S) : Option (Unit × eb_S) := eb_gI s [3] v0 0 fun x1 => eb_pI s [3] v0 0 (x1 + 1) fun s2 => eb_pI s2 [3] v0 13 0 fun s3 => eb_pI s3 [3] v0 17 0 fun s4 => some ((), s4)
set_option maxRecDepth 100000 in
theorem ct_X3_clearLawsAndBars {G : eb_G} (hG : eb_ok G) (v0 : Nat) (s : eb_S) : eb_ct G yX3_clearLawsAndBars cX3_clearLawsAndBars 1 none 1 0 0 eb_ev [.ref v0] s (f_X3_clearLawsAndBars v0 s) := by
  refine eb_ct_v (by decide) (Nat.le_of_ble_eq_true rfl) (fun v hv => by simp at hv; rcases hv with rfl <;> simp [Value.category]) ?_
  show eb_go G yX3_clearLawsAndBars cX3_clearLawsAndBars 1 none (1) 0 0 .return_ (fun _ : Unit => []) 0 [(0, .ref v0)] [] s 0 0 _
  unfold f_X3_clearLawsAndBars
  refine eb_aload_n (pc := 0) 0 dX3_clearLawsAndBars_0 rfl rfl ?_
  refine eb_dup (pc := 1) dX3_clearLawsAndBars_1 rfl ?_
  refine eb_getI (pc := 2) ef_RX3_9 dX3_clearLawsAndBars_2 (fun x1 => ?_)
  refine eb_iconst (pc := 5) (v := 1) dX3_clearLawsAndBars_5 (by decide) ?_
  refine eb_iadd (pc := 6) dX3_clearLawsAndBars_6 ?_
  refine eb_putI (pc := 7) ef_RX3_9 eg_RX3_9 dX3_clearLawsAndBars_7 (fun s2 => ?_)
  refine eb_aload_n (pc := 10) 0 dX3_clearLawsAndBars_10 rfl rfl ?_
  refine eb_iconst (pc := 11) (v := 0) dX3_clearLawsAndBars_11 (by decide) ?_
  refine eb_putI (pc := 12) ef_RX3_52 eg_RX3_52 dX3_clearLawsAndBars_12 (fun s3 => ?_)
  refine eb_aload_n (pc := 15) 0 dX3_clearLawsAndBars_15 rfl rfl ?_
  refine eb_iconst (pc := 16) (v := 0) dX3_clearLawsAndBars_16 (by decide) ?_
  refine eb_putI (pc := 17) ef_RX3_64 eg_RX3_64 dX3_clearLawsAndBars_17 (fun s4 => ?_)
  exact eb_vret (pc := 20) dX3_clearLawsAndBars_20 (by decide) (by decide)

def f_X3_takeGoods (v0 : Nat) (v1 : Nat) (s : eb_S) : Option (Unit × eb_S) := eb_gI s [3] v0 0 fun x1 => eb_pI s [3] v0 0 (x1 + 1) fun s2 => eb_gI s2 [3] v1 1 fun x3 => eb_pI s2 [3] v0 1 x3 fun s4 => eb_gR s4 [3] v1 2 fun r5 => eb_gR s4 [3] v0 2 fun r6 => eb_ci s4 r5 0 r6 0 10 fun s7 => eb_gR s7 [3] v1 3 fun r8 => eb_gR s7 [3] v0 3 fun r9 => eb_ci s7 r8 0 r9 0 10 fun s10 => eb_gR s10 [3] v1 4 fun r11 => eb_gR s10 [3] v0 4 fun r12 => eb_ci s10 r11 0 r12 0 10 fun s13 => eb_gR s13 [3] v1 5 fun r14 => eb_gR s13 [3] v0 5 fun r15 => eb_ci s13 r14 0 r15 0 10 fun s16 => eb_gR s16 [3] v1 6 fun r17 => eb_gR s16 [3] v0 6 fun r18 => eb_ci s16 r17 0 r18 0 10 fun s19 => eb_gI s19 [3] v1 7 fun x20 => eb_pI s19 [3] v0 7 x20 fun s21 => eb_gR s21 [3] v1 8 fun r22 => eb_gR s21 [3] v0 8 fun r23 => eb_ci s21 r22 0 r23 0 5 fun s24 => eb_gR s24 [3] v1 9 fun r25 => eb_gR s24 [3] v0 9 fun r26 => eb_ci s24 r25 0 r26 0 5 fun s27 => some ((), s27)
set_option maxRecDepth 100000 in
theorem ct_X3_takeGoods {G : eb_G} (hG : eb_ok G) (v0 : Nat) (v1 : Nat) (s : eb_S) : eb_ct G yX3_takeGoods cX3_takeGoods 2 none 1 0 0 eb_ev [.ref v0, .ref v1] s (f_X3_takeGoods v0 v1 s) := by
  refine eb_ct_v (by decide) (Nat.le_of_ble_eq_true rfl) (fun v hv => by simp at hv; rcases hv with rfl | rfl <;> simp [Value.category]) ?_
  show eb_go G yX3_takeGoods cX3_takeGoods 2 none (1) 0 0 .return_ (fun _ : Unit => []) 0 [(0, .ref v0), (1, .ref v1)] [] s 0 0 _
  unfold f_X3_takeGoods
  refine eb_aload_n (pc := 0) 0 dX3_takeGoods_0 rfl rfl ?_
  refine eb_dup (pc := 1) dX3_takeGoods_1 rfl ?_
  refine eb_getI (pc := 2) ef_RX3_9 dX3_takeGoods_2 (fun x1 => ?_)
  refine eb_iconst (pc := 5) (v := 1) dX3_takeGoods_5 (by decide) ?_
  refine eb_iadd (pc := 6) dX3_takeGoods_6 ?_
  refine eb_putI (pc := 7) ef_RX3_9 eg_RX3_9 dX3_takeGoods_7 (fun s2 => ?_)
  refine eb_aload_n (pc := 10) 0 dX3_takeGoods_10 rfl rfl ?_
  refine eb_aload_n (pc := 11) 1 dX3_takeGoods_11 rfl rfl ?_
  refine eb_getI (pc := 12) ef_RX3_15 dX3_takeGoods_12 (fun x3 => ?_)
  refine eb_putI (pc := 15) ef_RX3_15 eg_RX3_15 dX3_takeGoods_15 (fun s4 => ?_)
  refine eb_aload_n (pc := 18) 1 dX3_takeGoods_18 rfl rfl ?_
  refine eb_getR (pc := 19) ef_RX3_18 dX3_takeGoods_19 (fun r5 => ?_)
  refine eb_iconst (pc := 22) (v := 0) dX3_takeGoods_22 (by decide) ?_
  refine eb_aload_n (pc := 23) 0 dX3_takeGoods_23 rfl rfl ?_
  refine eb_getR (pc := 24) ef_RX3_18 dX3_takeGoods_24 (fun r6 => ?_)
  refine eb_iconst (pc := 27) (v := 0) dX3_takeGoods_27 (by decide) ?_
  refine eb_bipush (pc := 28) (v := 10) dX3_takeGoods_28 (by decide) ?_
  refine eb_copyi (pc := 30) ew_61 ew_62 ew_63 ew_64 (by decide) (Nat.le_of_ble_eq_true rfl) dX3_takeGoods_30 (fun s7 => ?_)
  refine eb_aload_n (pc := 33) 1 dX3_takeGoods_33 rfl rfl ?_
  refine eb_getR (pc := 34) ef_RX3_22 dX3_takeGoods_34 (fun r8 => ?_)
  refine eb_iconst (pc := 37) (v := 0) dX3_takeGoods_37 (by decide) ?_
  refine eb_aload_n (pc := 38) 0 dX3_takeGoods_38 rfl rfl ?_
  refine eb_getR (pc := 39) ef_RX3_22 dX3_takeGoods_39 (fun r9 => ?_)
  refine eb_iconst (pc := 42) (v := 0) dX3_takeGoods_42 (by decide) ?_
  refine eb_bipush (pc := 43) (v := 10) dX3_takeGoods_43 (by decide) ?_
  refine eb_copyi (pc := 45) ew_61 ew_62 ew_63 ew_64 (by decide) (Nat.le_of_ble_eq_true rfl) dX3_takeGoods_45 (fun s10 => ?_)
  refine eb_aload_n (pc := 48) 1 dX3_takeGoods_48 rfl rfl ?_
  refine eb_getR (pc := 49) ef_RX3_25 dX3_takeGoods_49 (fun r11 => ?_)
  refine eb_iconst (pc := 52) (v := 0) dX3_takeGoods_52 (by decide) ?_
  refine eb_aload_n (pc := 53) 0 dX3_takeGoods_53 rfl rfl ?_
  refine eb_getR (pc := 54) ef_RX3_25 dX3_takeGoods_54 (fun r12 => ?_)
  refine eb_iconst (pc := 57) (v := 0) dX3_takeGoods_57 (by decide) ?_
  refine eb_bipush (pc := 58) (v := 10) dX3_takeGoods_58 (by decide) ?_
  refine eb_copyi (pc := 60) ew_61 ew_62 ew_63 ew_64 (by decide) (Nat.le_of_ble_eq_true rfl) dX3_takeGoods_60 (fun s13 => ?_)
  refine eb_aload_n (pc := 63) 1 dX3_takeGoods_63 rfl rfl ?_
  refine eb_getR (pc := 64) ef_RX3_28 dX3_takeGoods_64 (fun r14 => ?_)
  refine eb_iconst (pc := 67) (v := 0) dX3_takeGoods_67 (by decide) ?_
  refine eb_aload_n (pc := 68) 0 dX3_takeGoods_68 rfl rfl ?_
  refine eb_getR (pc := 69) ef_RX3_28 dX3_takeGoods_69 (fun r15 => ?_)
  refine eb_iconst (pc := 72) (v := 0) dX3_takeGoods_72 (by decide) ?_
  refine eb_bipush (pc := 73) (v := 10) dX3_takeGoods_73 (by decide) ?_
  refine eb_copyi (pc := 75) ew_61 ew_62 ew_63 ew_64 (by decide) (Nat.le_of_ble_eq_true rfl) dX3_takeGoods_75 (fun s16 => ?_)
  refine eb_aload_n (pc := 78) 1 dX3_takeGoods_78 rfl rfl ?_
  refine eb_getR (pc := 79) ef_RX3_31 dX3_takeGoods_79 (fun r17 => ?_)
  refine eb_iconst (pc := 82) (v := 0) dX3_takeGoods_82 (by decide) ?_
  refine eb_aload_n (pc := 83) 0 dX3_takeGoods_83 rfl rfl ?_
  refine eb_getR (pc := 84) ef_RX3_31 dX3_takeGoods_84 (fun r18 => ?_)
  refine eb_iconst (pc := 87) (v := 0) dX3_takeGoods_87 (by decide) ?_
  refine eb_bipush (pc := 88) (v := 10) dX3_takeGoods_88 (by decide) ?_
  refine eb_copyi (pc := 90) ew_61 ew_62 ew_63 ew_64 (by decide) (Nat.le_of_ble_eq_true rfl) dX3_takeGoods_90 (fun s19 => ?_)
  refine eb_aload_n (pc := 93) 0 dX3_takeGoods_93 rfl rfl ?_
  refine eb_aload_n (pc := 94) 1 dX3_takeGoods_94 rfl rfl ?_
  refine eb_getI (pc := 95) ef_RX3_34 dX3_takeGoods_95 (fun x20 => ?_)
  refine eb_putI (pc := 98) ef_RX3_34 eg_RX3_34 dX3_takeGoods_98 (fun s21 => ?_)
  refine eb_aload_n (pc := 101) 1 dX3_takeGoods_101 rfl rfl ?_
  refine eb_getR (pc := 102) ef_RX3_37 dX3_takeGoods_102 (fun r22 => ?_)
  refine eb_iconst (pc := 105) (v := 0) dX3_takeGoods_105 (by decide) ?_
  refine eb_aload_n (pc := 106) 0 dX3_takeGoods_106 rfl rfl ?_
  refine eb_getR (pc := 107) ef_RX3_37 dX3_takeGoods_107 (fun r23 => ?_)
  refine eb_iconst (pc := 110) (v := 0) dX3_takeGoods_110 (by decide) ?_
  refine eb_iconst (pc := 111) (v := 5) dX3_takeGoods_111 (by decide) ?_
  refine eb_copyi (pc := 112) ew_61 ew_62 ew_63 ew_64 (by decide) (Nat.le_of_ble_eq_true rfl) dX3_takeGoods_112 (fun s24 => ?_)
  refine eb_aload_n (pc := 115) 1 dX3_takeGoods_115 rfl rfl ?_
  refine eb_getR (pc := 116) ef_RX3_40 dX3_takeGoods_116 (fun r25 => ?_)
  refine eb_iconst (pc := 119) (v := 0) dX3_takeGoods_119 (by decide) ?_
  refine eb_aload_n (pc := 120) 0 dX3_takeGoods_120 rfl rfl ?_
  refine eb_getR (pc := 121) ef_RX3_40 dX3_takeGoods_121 (fun r26 => ?_)
  refine eb_iconst (pc := 124) (v := 0) dX3_takeGoods_124 (by decide) ?_
  refine eb_iconst (pc := 125) (v := 5) dX3_takeGoods_125 (by decide) ?_
  refine eb_copyi (pc := 126) ew_61 ew_62 ew_63 ew_64 (by decide) (Nat.le_of_ble_eq_true rfl) dX3_takeGoods_126 (fun s27 => ?_)
  exact eb_vret (pc := 129) dX3_takeGoods_129 (by decide) (by decide)

def f_X3_takeAll (v0 : Nat) (v1 : Nat) (s : eb_S) : Option (Unit × eb_S) := eb_cl (eb_tg s v0 3 (f_X3_takeGoods v0 v1 s)) fun _u s1 => eb_gR s1 [3] v1 10 fun r2 => eb_gR s1 [3] v0 10 fun r3 => eb_ci s1 r2 0 r3 0 3 fun s4 => eb_gR s4 [3] v1 11 fun r5 => eb_gR s4 [3] v0 11 fun r6 => eb_ci s4 r5 0 r6 0 3 fun s7 => eb_gR s7 [3] v1 12 fun r8 => eb_gR s7 [3] v0 12 fun r9 => eb_ci s7 r8 0 r9 0 2 fun s10 => eb_gI s10 [3] v1 13 fun x11 => eb_pI s10 [3] v0 13 x11 fun s12 => eb_gR s12 [3] v1 14 fun r13 => eb_gR s12 [3] v0 14 fun r14 => eb_ci s12 r13 0 r14 0 8 fun s15 => eb_gR s15 [3] v1 15 fun r16 => eb_gR s15 [3] v0 15 fun r17 => eb_ci s15 r16 0 r17 0 8 fun s18 => eb_gR s18 [3] v1 16 fun r19 => eb_gR s18 [3] v0 16 fun r20 => eb_ci s18 r19 0 r20 0 8 fun s21 => eb_gI s21 [3] v1 17 fun x22 => eb_pI s21 [3] v0 17 x22 fun s23 => eb_gR s23 [3] v1 18 fun r24 => eb_gR s23 [3] v0 18 fun r25 => eb_ci s23 r24 0 r25 0 6 fun s26 => eb_gR s26 [3] v1 19 fun r27 => eb_gR s26 [3] v0 19 fun r28 => eb_ci s26 r27 0 r28 0 6 fun s29 => some ((), s29)
set_option maxRecDepth 100000 in
theorem ct_X3_takeAll {G : eb_G} (hG : eb_ok G) (v0 : Nat) (v1 : Nat) (s : eb_S) : eb_ct G yX3_takeAll cX3_takeAll 2 none 2 0 0 eb_ev [.ref v0, .ref v1] s (f_X3_takeAll v0 v1 s) := by
  refine eb_ct_v (by decide) (Nat.le_of_ble_eq_true rfl) (fun v hv => by simp at hv; rcases hv with rfl | rfl <;> simp [Value.category]) ?_
  show eb_go G yX3_takeAll cX3_takeAll 2 none (2) 0 0 .return_ (fun _ : Unit => []) 0 [(0, .ref v0), (1, .ref v1)] [] s 0 0 _
  unfold f_X3_takeAll
  refine eb_aload_n (pc := 0) 0 dX3_takeAll_0 rfl rfl ?_
  refine eb_aload_n (pc := 1) 1 dX3_takeAll_1 rfl rfl ?_
  refine eb_callv (pc := 2) (eb_runV (pc := 2) (As := [.ref v1]) (rest := []) (ci := 3) (q0 := (RX3, TX3, 20)) (q := (RX3, TX3, 20)) ew_65 ew_66 ew_67 ew_68 rfl rfl ed_X3_takeGoods (ct_X3_takeGoods hG _ _ _) rfl ew_69 ⟨by decide, by decide⟩ (by decide) (by decide) (Nat.le_of_ble_eq_true rfl) rfl dX3_takeAll_2) (fun _u s1 => ?_)
  refine eb_aload_n (pc := 5) 1 dX3_takeAll_5 rfl rfl ?_
  refine eb_getR (pc := 6) ef_RX3_43 dX3_takeAll_6 (fun r2 => ?_)
  refine eb_iconst (pc := 9) (v := 0) dX3_takeAll_9 (by decide) ?_
  refine eb_aload_n (pc := 10) 0 dX3_takeAll_10 rfl rfl ?_
  refine eb_getR (pc := 11) ef_RX3_43 dX3_takeAll_11 (fun r3 => ?_)
  refine eb_iconst (pc := 14) (v := 0) dX3_takeAll_14 (by decide) ?_
  refine eb_iconst (pc := 15) (v := 3) dX3_takeAll_15 (by decide) ?_
  refine eb_copyi (pc := 16) ew_61 ew_62 ew_63 ew_64 (by decide) (Nat.le_of_ble_eq_true rfl) dX3_takeAll_16 (fun s4 => ?_)
  refine eb_aload_n (pc := 19) 1 dX3_takeAll_19 rfl rfl ?_
  refine eb_getR (pc := 20) ef_RX3_46 dX3_takeAll_20 (fun r5 => ?_)
  refine eb_iconst (pc := 23) (v := 0) dX3_takeAll_23 (by decide) ?_
  refine eb_aload_n (pc := 24) 0 dX3_takeAll_24 rfl rfl ?_
  refine eb_getR (pc := 25) ef_RX3_46 dX3_takeAll_25 (fun r6 => ?_)
  refine eb_iconst (pc := 28) (v := 0) dX3_takeAll_28 (by decide) ?_
  refine eb_iconst (pc := 29) (v := 3) dX3_takeAll_29 (by decide) ?_
  refine eb_copyi (pc := 30) ew_61 ew_62 ew_63 ew_64 (by decide) (Nat.le_of_ble_eq_true rfl) dX3_takeAll_30 (fun s7 => ?_)
  refine eb_aload_n (pc := 33) 1 dX3_takeAll_33 rfl rfl ?_
  refine eb_getR (pc := 34) ef_RX3_49 dX3_takeAll_34 (fun r8 => ?_)
  refine eb_iconst (pc := 37) (v := 0) dX3_takeAll_37 (by decide) ?_
  refine eb_aload_n (pc := 38) 0 dX3_takeAll_38 rfl rfl ?_
  refine eb_getR (pc := 39) ef_RX3_49 dX3_takeAll_39 (fun r9 => ?_)
  refine eb_iconst (pc := 42) (v := 0) dX3_takeAll_42 (by decide) ?_
  refine eb_iconst (pc := 43) (v := 2) dX3_takeAll_43 (by decide) ?_
  refine eb_copyi (pc := 44) ew_61 ew_62 ew_63 ew_64 (by decide) (Nat.le_of_ble_eq_true rfl) dX3_takeAll_44 (fun s10 => ?_)
  refine eb_aload_n (pc := 47) 0 dX3_takeAll_47 rfl rfl ?_
  refine eb_aload_n (pc := 48) 1 dX3_takeAll_48 rfl rfl ?_
  refine eb_getI (pc := 49) ef_RX3_52 dX3_takeAll_49 (fun x11 => ?_)
  refine eb_putI (pc := 52) ef_RX3_52 eg_RX3_52 dX3_takeAll_52 (fun s12 => ?_)
  refine eb_aload_n (pc := 55) 1 dX3_takeAll_55 rfl rfl ?_
  refine eb_getR (pc := 56) ef_RX3_55 dX3_takeAll_56 (fun r13 => ?_)
  refine eb_iconst (pc := 59) (v := 0) dX3_takeAll_59 (by decide) ?_
  refine eb_aload_n (pc := 60) 0 dX3_takeAll_60 rfl rfl ?_
  refine eb_getR (pc := 61) ef_RX3_55 dX3_takeAll_61 (fun r14 => ?_)
  refine eb_iconst (pc := 64) (v := 0) dX3_takeAll_64 (by decide) ?_
  refine eb_bipush (pc := 65) (v := 8) dX3_takeAll_65 (by decide) ?_
  refine eb_copyi (pc := 67) ew_61 ew_62 ew_63 ew_64 (by decide) (Nat.le_of_ble_eq_true rfl) dX3_takeAll_67 (fun s15 => ?_)
  refine eb_aload_n (pc := 70) 1 dX3_takeAll_70 rfl rfl ?_
  refine eb_getR (pc := 71) ef_RX3_58 dX3_takeAll_71 (fun r16 => ?_)
  refine eb_iconst (pc := 74) (v := 0) dX3_takeAll_74 (by decide) ?_
  refine eb_aload_n (pc := 75) 0 dX3_takeAll_75 rfl rfl ?_
  refine eb_getR (pc := 76) ef_RX3_58 dX3_takeAll_76 (fun r17 => ?_)
  refine eb_iconst (pc := 79) (v := 0) dX3_takeAll_79 (by decide) ?_
  refine eb_bipush (pc := 80) (v := 8) dX3_takeAll_80 (by decide) ?_
  refine eb_copyi (pc := 82) ew_61 ew_62 ew_63 ew_64 (by decide) (Nat.le_of_ble_eq_true rfl) dX3_takeAll_82 (fun s18 => ?_)
  refine eb_aload_n (pc := 85) 1 dX3_takeAll_85 rfl rfl ?_
  refine eb_getR (pc := 86) ef_RX3_61 dX3_takeAll_86 (fun r19 => ?_)
  refine eb_iconst (pc := 89) (v := 0) dX3_takeAll_89 (by decide) ?_
  refine eb_aload_n (pc := 90) 0 dX3_takeAll_90 rfl rfl ?_
  refine eb_getR (pc := 91) ef_RX3_61 dX3_takeAll_91 (fun r20 => ?_)
  refine eb_iconst (pc := 94) (v := 0) dX3_takeAll_94 (by decide) ?_
  refine eb_bipush (pc := 95) (v := 8) dX3_takeAll_95 (by decide) ?_
  refine eb_copyi (pc := 97) ew_61 ew_62 ew_63 ew_64 (by decide) (Nat.le_of_ble_eq_true rfl) dX3_takeAll_97 (fun s21 => ?_)
  refine eb_aload_n (pc := 100) 0 dX3_takeAll_100 rfl rfl ?_
  refine eb_aload_n (pc := 101) 1 dX3_takeAll_101 rfl rfl ?_
  refine eb_getI (pc := 102) ef_RX3_64 dX3_takeAll_102 (fun x22 => ?_)
  refine eb_putI (pc := 105) ef_RX3_64 eg_RX3_64 dX3_takeAll_105 (fun s23 => ?_)
  refine eb_aload_n (pc := 108) 1 dX3_takeAll_108 rfl rfl ?_
  refine eb_getR (pc := 109) ef_RX3_67 dX3_takeAll_109 (fun r24 => ?_)
  refine eb_iconst (pc := 112) (v := 0) dX3_takeAll_112 (by decide) ?_
  refine eb_aload_n (pc := 113) 0 dX3_takeAll_113 rfl rfl ?_
  refine eb_getR (pc := 114) ef_RX3_67 dX3_takeAll_114 (fun r25 => ?_)
  refine eb_iconst (pc := 117) (v := 0) dX3_takeAll_117 (by decide) ?_
  refine eb_bipush (pc := 118) (v := 6) dX3_takeAll_118 (by decide) ?_
  refine eb_copyi (pc := 120) ew_61 ew_62 ew_63 ew_64 (by decide) (Nat.le_of_ble_eq_true rfl) dX3_takeAll_120 (fun s26 => ?_)
  refine eb_aload_n (pc := 123) 1 dX3_takeAll_123 rfl rfl ?_
  refine eb_getR (pc := 124) ef_RX3_70 dX3_takeAll_124 (fun r27 => ?_)
  refine eb_iconst (pc := 127) (v := 0) dX3_takeAll_127 (by decide) ?_
  refine eb_aload_n (pc := 128) 0 dX3_takeAll_128 rfl rfl ?_
  refine eb_getR (pc := 129) ef_RX3_70 dX3_takeAll_129 (fun r28 => ?_)
  refine eb_iconst (pc := 132) (v := 0) dX3_takeAll_132 (by decide) ?_
  refine eb_bipush (pc := 133) (v := 6) dX3_takeAll_133 (by decide) ?_
  refine eb_copyi (pc := 135) ew_61 ew_62 ew_63 ew_64 (by decide) (Nat.le_of_ble_eq_true rfl) dX3_takeAll_135 (fun s29 => ?_)
  exact eb_vret (pc := 138) dX3_takeAll_138 (by decide) (by decide)

def f_X3_steepness (v0 : Nat) (v1 : Int32) (s : eb_S) : Option (Int32 × eb_S) := eb_gR s [3] v0 9 fun r1 => eb_ai s r1 v1 fun x2 => some ((1 : Int32) + x2, s)
set_option maxRecDepth 100000 in
theorem ct_X3_steepness {G : eb_G} (hG : eb_ok G) (v0 : Nat) (v1 : Int32) (s : eb_S) : eb_ct G yX3_steepness cX3_steepness 2 (some .int) 1 0 0 eb_ei [.ref v0, .int v1] s (f_X3_steepness v0 v1 s) := by
  refine eb_ct_i (by decide) (Nat.le_of_ble_eq_true rfl) (fun v hv => by simp at hv; rcases hv with rfl | rfl <;> simp [Value.category]) ?_
  show eb_go G yX3_steepness cX3_steepness 2 (some .int) (1) 0 0 .ireturn (fun r : Int32 => [.int r]) 0 [(0, .ref v0), (1, .int v1)] [] s 0 0 _
  unfold f_X3_steepness
  refine eb_iconst (pc := 0) (v := 1) dX3_steepness_0 (by decide) ?_
  refine eb_aload_n (pc := 1) 0 dX3_steepness_1 rfl rfl ?_
  refine eb_getR (pc := 2) ef_RX3_40 dX3_steepness_2 (fun r1 => ?_)
  refine eb_iload_n (pc := 5) 1 dX3_steepness_5 rfl rfl ?_
  refine eb_iaload (pc := 6) dX3_steepness_6 (fun x2 => ?_)
  refine eb_iadd (pc := 7) dX3_steepness_7 ?_
  exact eb_iret (pc := 8) dX3_steepness_8 (by decide) (by decide)

def f_X3_wholeWay_L4 (n : Nat) (v0 : Nat)  : Nat → Int32 → Int32 → eb_S → Option (Int32 × eb_S)
  | 0, _, _, _ => none
  | m + 1, v1, v2, s => eb_gI s [3] v0 7 fun x1 => if x1 ≤ v2 then (some (v1, s)) else (eb_gR s [3] v0 8 fun r2 => eb_ai s r2 v2 fun x3 => f_X3_wholeWay_L4 n v0 m (v1 + x3) (v2 + 1) s)
def f_X3_wholeWay (n : Nat) (v0 : Nat) (s : eb_S) : Option (Int32 × eb_S) := f_X3_wholeWay_L4 n v0  n 0 0 s
set_option maxRecDepth 100000 in
theorem gl_X3_wholeWay_L4 {G : eb_G} (hG : eb_ok G) {n : Nat} {v0 : Nat}   : ∀ (m : Nat) (v1 : Int32) (v2 : Int32) (s : eb_S), eb_go G yX3_wholeWay cX3_wholeWay 3 (some .int) (1) 0 0 .ireturn (fun r : Int32 => [.int r]) 4 [(0, .ref v0), (1, .int v1), (2, .int v2)] [] s 0 0 (f_X3_wholeWay_L4 n v0 m v1 v2 s) := by
  intro m
  induction m with
  | zero => intro v1 v2 s; exact eb_none
  | succ m ih =>
    intro v1 v2 s
    rw [f_X3_wholeWay_L4.eq_2]
    refine eb_iload_n (pc := 4) 2 dX3_wholeWay_4 rfl rfl ?_
    refine eb_aload_n (pc := 5) 0 dX3_wholeWay_5 rfl rfl ?_
    refine eb_getI (pc := 6) ef_RX3_34 dX3_wholeWay_6 (fun x1 => ?_)
    refine eb_icmp_ge (pc := 9) (tgt := 27) dX3_wholeWay_9 (by decide) ?_ ?_
    · refine eb_iload_n (pc := 27) 1 dX3_wholeWay_27 rfl rfl ?_
      exact eb_iret (pc := 28) dX3_wholeWay_28 (by decide) (by decide)
    · refine eb_iload_n (pc := 12) 1 dX3_wholeWay_12 rfl rfl ?_
      refine eb_aload_n (pc := 13) 0 dX3_wholeWay_13 rfl rfl ?_
      refine eb_getR (pc := 14) ef_RX3_37 dX3_wholeWay_14 (fun r2 => ?_)
      refine eb_iload_n (pc := 17) 2 dX3_wholeWay_17 rfl rfl ?_
      refine eb_iaload (pc := 18) dX3_wholeWay_18 (fun x3 => ?_)
      refine eb_iadd (pc := 19) dX3_wholeWay_19 ?_
      refine eb_istore_n (pc := 20) (L' := [(1, .int (v1 + x3)), (0, .ref v0), (2, .int v2)]) dX3_wholeWay_20 rfl (by decide) rfl ?_
      refine eb_iinc (pc := 21) (v := v2 + 1) (L' := [(2, .int (v2 + 1)), (1, .int (v1 + x3)), (0, .ref v0)]) 2 dX3_wholeWay_21 rfl rfl (by decide) rfl ?_
      refine eb_goto (pc := 24) (tgt := 4) dX3_wholeWay_24 (by decide) ?_
      refine eb_sub [2, 1, 0] rfl ?_
      exact ih _ _ _
set_option maxRecDepth 100000 in
theorem ct_X3_wholeWay {G : eb_G} (hG : eb_ok G) (n : Nat) (v0 : Nat) (s : eb_S) : eb_ct G yX3_wholeWay cX3_wholeWay 3 (some .int) 1 0 0 eb_ei [.ref v0] s (f_X3_wholeWay n v0 s) := by
  refine eb_ct_i (by decide) (Nat.le_of_ble_eq_true rfl) (fun v hv => by simp at hv; rcases hv with rfl <;> simp [Value.category]) ?_
  show eb_go G yX3_wholeWay cX3_wholeWay 3 (some .int) (1) 0 0 .ireturn (fun r : Int32 => [.int r]) 0 [(0, .ref v0)] [] s 0 0 _
  unfold f_X3_wholeWay
  refine eb_iconst (pc := 0) (v := 0) dX3_wholeWay_0 (by decide) ?_
  refine eb_istore_n (pc := 1) (L' := [(1, .int 0), (0, .ref v0)]) dX3_wholeWay_1 rfl (by decide) rfl ?_
  refine eb_iconst (pc := 2) (v := 0) dX3_wholeWay_2 (by decide) ?_
  refine eb_istore_n (pc := 3) (L' := [(2, .int 0), (1, .int 0), (0, .ref v0)]) dX3_wholeWay_3 rfl (by decide) rfl ?_
  refine eb_sub [2, 1, 0] rfl ?_
  refine gl_X3_wholeWay_L4 hG  n _ _ _

def f_X3_thingLoad (v0 : Nat) (v1 : Int32) (v2 : Int32) (s : eb_S) : Option (Int32 × eb_S) := eb_gR s [3] v0 4 fun r1 => eb_ai s r1 v1 fun x2 => if v2 < x2 then (eb_gR s [3] v0 3 fun r3 => eb_ai s r3 v1 fun x4 => eb_gR s [3] v0 2 fun r5 => eb_ai s r5 v1 fun x6 => eb_xi 4 eb_k1 x6 fun x7 => some (if (0 : Int32) < (x4 - (x7 * v2)) then (x4 - (x7 * v2)) else 0, s)) else (some (0, s))
set_option maxRecDepth 100000 in
theorem ct_X3_thingLoad {G : eb_G} (hG : eb_ok G) (v0 : Nat) (v1 : Int32) (v2 : Int32) (s : eb_S) : eb_ct G yX3_thingLoad cX3_thingLoad 3 (some .int) 1 0 0 eb_ei [.ref v0, .int v1, .int v2] s (f_X3_thingLoad v0 v1 v2 s) := by
  refine eb_ct_i (by decide) (Nat.le_of_ble_eq_true rfl) (fun v hv => by simp at hv; rcases hv with rfl | rfl | rfl <;> simp [Value.category]) ?_
  show eb_go G yX3_thingLoad cX3_thingLoad 3 (some .int) (1) 0 0 .ireturn (fun r : Int32 => [.int r]) 0 [(0, .ref v0), (1, .int v1), (2, .int v2)] [] s 0 0 _
  unfold f_X3_thingLoad
  refine eb_iload_n (pc := 0) 2 dX3_thingLoad_0 rfl rfl ?_
  refine eb_aload_n (pc := 1) 0 dX3_thingLoad_1 rfl rfl ?_
  refine eb_getR (pc := 2) ef_RX3_25 dX3_thingLoad_2 (fun r1 => ?_)
  refine eb_iload_n (pc := 5) 1 dX3_thingLoad_5 rfl rfl ?_
  refine eb_iaload (pc := 6) dX3_thingLoad_6 (fun x2 => ?_)
  refine eb_icmp_lt (pc := 7) (tgt := 12) dX3_thingLoad_7 (by decide) ?_ ?_
  · refine eb_iconst (pc := 12) (v := 0) dX3_thingLoad_12 (by decide) ?_
    refine eb_aload_n (pc := 13) 0 dX3_thingLoad_13 rfl rfl ?_
    refine eb_getR (pc := 14) ef_RX3_22 dX3_thingLoad_14 (fun r3 => ?_)
    refine eb_iload_n (pc := 17) 1 dX3_thingLoad_17 rfl rfl ?_
    refine eb_iaload (pc := 18) dX3_thingLoad_18 (fun x4 => ?_)
    refine eb_gets (pc := 19) (r := 1) (C := RX3) (n := "MELTS") (by decide) (by decide) ew_71 dX3_thingLoad_19 ?_
    refine eb_aload_n (pc := 22) 0 dX3_thingLoad_22 rfl rfl ?_
    refine eb_getR (pc := 23) ef_RX3_18 dX3_thingLoad_23 (fun r5 => ?_)
    refine eb_iload_n (pc := 26) 1 dX3_thingLoad_26 rfl rfl ?_
    refine eb_iaload (pc := 27) dX3_thingLoad_27 (fun x6 => ?_)
    refine eb_ialoadx (pc := 28) (by decide) (hG.1).1 (hG.1).2 dX3_thingLoad_28 (fun x7 => ?_)
    refine eb_iload_n (pc := 29) 2 dX3_thingLoad_29 rfl rfl ?_
    refine eb_imul (pc := 30) dX3_thingLoad_30 ?_
    refine eb_isub (pc := 31) dX3_thingLoad_31 ?_
    refine eb_mmax (pc := 32) ew_70 ew_20 ew_17 ew_21 (by decide) (Nat.le_of_ble_eq_true rfl) (by decide) (by decide) dX3_thingLoad_32 ?_
    exact eb_iret (pc := 35) dX3_thingLoad_35 (by decide) (by decide)
  · refine eb_iconst (pc := 10) (v := 0) dX3_thingLoad_10 (by decide) ?_
    exact eb_iret (pc := 11) dX3_thingLoad_11 (by decide) (by decide)

def f_X3_isWet (v0 : Nat) (v1 : Int32) (s : eb_S) : Option (Bool × eb_S) := eb_gR s [3] v0 2 fun r1 => eb_ai s r1 v1 fun x2 => eb_xi 4 eb_k1 x2 fun x3 => if x3 ≤ 0 then (some (false, s)) else (some (true, s))
set_option maxRecDepth 100000 in
theorem ct_X3_isWet {G : eb_G} (hG : eb_ok G) (v0 : Nat) (v1 : Int32) (s : eb_S) : eb_ct G yX3_isWet cX3_isWet 2 (some .boolean) 1 0 0 eb_eb [.ref v0, .int v1] s (f_X3_isWet v0 v1 s) := by
  refine eb_ct_b (by decide) (Nat.le_of_ble_eq_true rfl) (fun v hv => by simp at hv; rcases hv with rfl | rfl <;> simp [Value.category]) ?_
  show eb_go G yX3_isWet cX3_isWet 2 (some .boolean) (1) 0 0 .ireturn (fun r : Bool => [.int (eb_b r)]) 0 [(0, .ref v0), (1, .int v1)] [] s 0 0 _
  unfold f_X3_isWet
  refine eb_gets (pc := 0) (r := 1) (C := RX3) (n := "MELTS") (by decide) (by decide) ew_71 dX3_isWet_0 ?_
  refine eb_aload_n (pc := 3) 0 dX3_isWet_3 rfl rfl ?_
  refine eb_getR (pc := 4) ef_RX3_18 dX3_isWet_4 (fun r1 => ?_)
  refine eb_iload_n (pc := 7) 1 dX3_isWet_7 rfl rfl ?_
  refine eb_iaload (pc := 8) dX3_isWet_8 (fun x2 => ?_)
  refine eb_ialoadx (pc := 9) (by decide) (hG.1).1 (hG.1).2 dX3_isWet_9 (fun x3 => ?_)
  refine eb_if_le (pc := 10) (tgt := 17) dX3_isWet_10 (by decide) ?_ ?_
  · refine eb_iconst (pc := 17) (v := 0) dX3_isWet_17 (by decide) ?_
    exact eb_bret (pc := 18) (b := false) dX3_isWet_18 (by decide) (by decide)
  · refine eb_iconst (pc := 13) (v := 1) dX3_isWet_13 (by decide) ?_
    refine eb_goto (pc := 14) (tgt := 18) dX3_isWet_14 (by decide) ?_
    exact eb_bret (pc := 18) (b := true) dX3_isWet_18 (by decide) (by decide)

def f_X3_bagLoad_L5 (n : Nat) (v0 : Nat) (v1 : Int32) (v2 : Int32)  : Nat → Int32 → Int32 → eb_S → Option (Int32 × eb_S)
  | 0, _, _, _ => none
  | m + 1, v3, v4, s => eb_gI s [3] v0 1 fun x1 => if x1 ≤ v4 then (some (v3, s)) else (eb_gR s [3] v0 6 fun r2 => eb_ai s r2 v4 fun x3 => eb_jn (fun (y4 : Int32) (s5 : eb_S) => f_X3_bagLoad_L5 n v0 v1 v2 m (v3 + y4) (v4 + 1) s5) fun j6 => if x3 = v1 then (eb_cl (eb_tg s v0 3 (f_X3_thingLoad v0 v4 v2 s)) fun x8 s7 => j6 x8 s7) else (j6 0 s))
def f_X3_bagLoad (n : Nat) (v0 : Nat) (v1 : Int32) (v2 : Int32) (s : eb_S) : Option (Int32 × eb_S) := f_X3_bagLoad_L5 n v0 v1 v2  n 0 0 s
set_option maxRecDepth 100000 in
theorem gl_X3_bagLoad_L5 {G : eb_G} (hG : eb_ok G) {n : Nat} {v0 : Nat} {v1 : Int32} {v2 : Int32}   : ∀ (m : Nat) (v3 : Int32) (v4 : Int32) (s : eb_S), eb_go G yX3_bagLoad cX3_bagLoad 5 (some .int) (2) 0 0 .ireturn (fun r : Int32 => [.int r]) 5 [(0, .ref v0), (1, .int v1), (2, .int v2), (3, .int v3), (4, .int v4)] [] s 0 0 (f_X3_bagLoad_L5 n v0 v1 v2 m v3 v4 s) := by
  intro m
  induction m with
  | zero => intro v3 v4 s; exact eb_none
  | succ m ih =>
    intro v3 v4 s
    rw [f_X3_bagLoad_L5.eq_2]
    refine eb_iload (pc := 5) 4 dX3_bagLoad_5 rfl ?_
    refine eb_aload_n (pc := 7) 0 dX3_bagLoad_7 rfl rfl ?_
    refine eb_getI (pc := 8) ef_RX3_15 dX3_bagLoad_8 (fun x1 => ?_)
    refine eb_icmp_ge (pc := 11) (tgt := 45) dX3_bagLoad_11 (by decide) ?_ ?_
    · refine eb_iload_n (pc := 45) 3 dX3_bagLoad_45 rfl rfl ?_
      exact eb_iret (pc := 46) dX3_bagLoad_46 (by decide) (by decide)
    · refine eb_iload_n (pc := 14) 3 dX3_bagLoad_14 rfl rfl ?_
      refine eb_aload_n (pc := 15) 0 dX3_bagLoad_15 rfl rfl ?_
      refine eb_getR (pc := 16) ef_RX3_31 dX3_bagLoad_16 (fun r2 => ?_)
      refine eb_iload (pc := 19) 4 dX3_bagLoad_19 rfl ?_
      refine eb_iaload (pc := 21) dX3_bagLoad_21 (fun x3 => ?_)
      refine eb_iload_n (pc := 22) 1 dX3_bagLoad_22 rfl rfl ?_
      refine eb_join (fun j6 : Int32 → eb_S → Option (Int32 × eb_S) => ∀ (y4 : Int32) (s5 : eb_S), eb_go G yX3_bagLoad cX3_bagLoad 5 (some .int) (2) 0 0 .ireturn (fun r : Int32 => [.int r]) 37 [(0, .ref v0), (1, .int v1), (2, .int v2), (4, .int v4)] [.int y4, .int v3] s5 0 0 (j6 y4 s5)) ?_ (fun j6 hj6 => ?_)
      · intro y4 s5
        refine eb_iadd (pc := 37) dX3_bagLoad_37 ?_
        refine eb_istore_n (pc := 38) (L' := [(3, .int (v3 + y4)), (0, .ref v0), (1, .int v1), (2, .int v2), (4, .int v4)]) dX3_bagLoad_38 rfl (by decide) rfl ?_
        refine eb_iinc (pc := 39) (v := v4 + 1) (L' := [(4, .int (v4 + 1)), (3, .int (v3 + y4)), (0, .ref v0), (1, .int v1), (2, .int v2)]) 4 dX3_bagLoad_39 rfl rfl (by decide) rfl ?_
        refine eb_goto (pc := 42) (tgt := 5) dX3_bagLoad_42 (by decide) ?_
        refine eb_sub [2, 3, 4, 1, 0] rfl ?_
        exact ih _ _ _
      refine eb_icmp_ne (pc := 23) (tgt := 36) dX3_bagLoad_23 (by decide) ?_ ?_
      · refine eb_iconst (pc := 36) (v := 0) dX3_bagLoad_36 (by decide) ?_
        refine eb_sub [0, 1, 2, 4] rfl ?_
        exact hj6 _ _
      · refine eb_aload_n (pc := 26) 0 dX3_bagLoad_26 rfl rfl ?_
        refine eb_iload (pc := 27) 4 dX3_bagLoad_27 rfl ?_
        refine eb_iload_n (pc := 29) 2 dX3_bagLoad_29 rfl rfl ?_
        refine eb_calli (pc := 30) (eb_runV (pc := 30) (As := [.int v4, .int v2]) (rest := [.int v3]) (ci := 3) (q0 := (RX3, TX3, 20)) (q := (RX3, TX3, 20)) ew_72 ew_73 ew_74 ew_68 rfl rfl ed_X3_thingLoad (ct_X3_thingLoad hG _ _ _ _) rfl ew_75 ⟨by decide, by decide⟩ (by decide) (by decide) (Nat.le_of_ble_eq_true rfl) rfl dX3_bagLoad_30) (fun x8 s7 => ?_)
        refine eb_goto (pc := 33) (tgt := 37) dX3_bagLoad_33 (by decide) ?_
        refine eb_sub [0, 1, 2, 4] rfl ?_
        exact hj6 _ _
set_option maxRecDepth 100000 in
theorem ct_X3_bagLoad {G : eb_G} (hG : eb_ok G) (n : Nat) (v0 : Nat) (v1 : Int32) (v2 : Int32) (s : eb_S) : eb_ct G yX3_bagLoad cX3_bagLoad 5 (some .int) 2 0 0 eb_ei [.ref v0, .int v1, .int v2] s (f_X3_bagLoad n v0 v1 v2 s) := by
  refine eb_ct_i (by decide) (Nat.le_of_ble_eq_true rfl) (fun v hv => by simp at hv; rcases hv with rfl | rfl | rfl <;> simp [Value.category]) ?_
  show eb_go G yX3_bagLoad cX3_bagLoad 5 (some .int) (2) 0 0 .ireturn (fun r : Int32 => [.int r]) 0 [(0, .ref v0), (1, .int v1), (2, .int v2)] [] s 0 0 _
  unfold f_X3_bagLoad
  refine eb_iconst (pc := 0) (v := 0) dX3_bagLoad_0 (by decide) ?_
  refine eb_istore_n (pc := 1) (L' := [(3, .int 0), (0, .ref v0), (1, .int v1), (2, .int v2)]) dX3_bagLoad_1 rfl (by decide) rfl ?_
  refine eb_iconst (pc := 2) (v := 0) dX3_bagLoad_2 (by decide) ?_
  refine eb_istore (pc := 3) (L' := [(4, .int 0), (3, .int 0), (0, .ref v0), (1, .int v1), (2, .int v2)]) dX3_bagLoad_3 (by decide) rfl ?_
  refine eb_sub [2, 3, 4, 1, 0] rfl ?_
  refine gl_X3_bagLoad_L5 hG  n _ _ _

def f_X3_wetLoad_L5 (n : Nat) (v0 : Nat) (v1 : Int32) (v2 : Int32)  : Nat → Int32 → Int32 → eb_S → Option (Int32 × eb_S)
  | 0, _, _, _ => none
  | m + 1, v3, v4, s => eb_gI s [3] v0 1 fun x1 => if x1 ≤ v4 then (some (v3, s)) else (eb_gR s [3] v0 6 fun r2 => eb_ai s r2 v4 fun x3 => eb_jn (fun (y4 : Int32) (s5 : eb_S) => f_X3_wetLoad_L5 n v0 v1 v2 m (v3 + y4) (v4 + 1) s5) fun j6 => eb_jn (fun (s7 : eb_S) => j6 0 s7) fun j8 => if x3 = v1 then (eb_cl (eb_tg s v0 3 (f_X3_isWet v0 v4 s)) fun b10 s9 => if (eb_b b10) = 0 then (j8 s9) else (eb_cl (eb_tg s9 v0 3 (f_X3_thingLoad v0 v4 v2 s9)) fun x12 s11 => j6 x12 s11)) else (j8 s))
def f_X3_wetLoad (n : Nat) (v0 : Nat) (v1 : Int32) (v2 : Int32) (s : eb_S) : Option (Int32 × eb_S) := f_X3_wetLoad_L5 n v0 v1 v2  n 0 0 s
set_option maxRecDepth 100000 in
theorem gl_X3_wetLoad_L5 {G : eb_G} (hG : eb_ok G) {n : Nat} {v0 : Nat} {v1 : Int32} {v2 : Int32}   : ∀ (m : Nat) (v3 : Int32) (v4 : Int32) (s : eb_S), eb_go G yX3_wetLoad cX3_wetLoad 5 (some .int) (2) 0 0 .ireturn (fun r : Int32 => [.int r]) 5 [(0, .ref v0), (1, .int v1), (2, .int v2), (3, .int v3), (4, .int v4)] [] s 0 0 (f_X3_wetLoad_L5 n v0 v1 v2 m v3 v4 s) := by
  intro m
  induction m with
  | zero => intro v3 v4 s; exact eb_none
  | succ m ih =>
    intro v3 v4 s
    rw [f_X3_wetLoad_L5.eq_2]
    refine eb_iload (pc := 5) 4 dX3_wetLoad_5 rfl ?_
    refine eb_aload_n (pc := 7) 0 dX3_wetLoad_7 rfl rfl ?_
    refine eb_getI (pc := 8) ef_RX3_15 dX3_wetLoad_8 (fun x1 => ?_)
    refine eb_icmp_ge (pc := 11) (tgt := 54) dX3_wetLoad_11 (by decide) ?_ ?_
    · refine eb_iload_n (pc := 54) 3 dX3_wetLoad_54 rfl rfl ?_
      exact eb_iret (pc := 55) dX3_wetLoad_55 (by decide) (by decide)
    · refine eb_iload_n (pc := 14) 3 dX3_wetLoad_14 rfl rfl ?_
      refine eb_aload_n (pc := 15) 0 dX3_wetLoad_15 rfl rfl ?_
      refine eb_getR (pc := 16) ef_RX3_31 dX3_wetLoad_16 (fun r2 => ?_)
      refine eb_iload (pc := 19) 4 dX3_wetLoad_19 rfl ?_
      refine eb_iaload (pc := 21) dX3_wetLoad_21 (fun x3 => ?_)
      refine eb_iload_n (pc := 22) 1 dX3_wetLoad_22 rfl rfl ?_
      refine eb_join (fun j6 : Int32 → eb_S → Option (Int32 × eb_S) => ∀ (y4 : Int32) (s5 : eb_S), eb_go G yX3_wetLoad cX3_wetLoad 5 (some .int) (2) 0 0 .ireturn (fun r : Int32 => [.int r]) 46 [(0, .ref v0), (1, .int v1), (2, .int v2), (4, .int v4)] [.int y4, .int v3] s5 0 0 (j6 y4 s5)) ?_ (fun j6 hj6 => ?_)
      · intro y4 s5
        refine eb_iadd (pc := 46) dX3_wetLoad_46 ?_
        refine eb_istore_n (pc := 47) (L' := [(3, .int (v3 + y4)), (0, .ref v0), (1, .int v1), (2, .int v2), (4, .int v4)]) dX3_wetLoad_47 rfl (by decide) rfl ?_
        refine eb_iinc (pc := 48) (v := v4 + 1) (L' := [(4, .int (v4 + 1)), (3, .int (v3 + y4)), (0, .ref v0), (1, .int v1), (2, .int v2)]) 4 dX3_wetLoad_48 rfl rfl (by decide) rfl ?_
        refine eb_goto (pc := 51) (tgt := 5) dX3_wetLoad_51 (by decide) ?_
        refine eb_sub [2, 3, 4, 1, 0] rfl ?_
        exact ih _ _ _
      refine eb_join (fun j8 : eb_S → Option (Int32 × eb_S) => ∀  (s7 : eb_S), eb_go G yX3_wetLoad cX3_wetLoad 5 (some .int) (2) 0 0 .ireturn (fun r : Int32 => [.int r]) 45 [(0, .ref v0), (1, .int v1), (2, .int v2), (4, .int v4)] [.int v3] s7 0 0 (j8  s7)) ?_ (fun j8 hj8 => ?_)
      · intro  s7
        refine eb_iconst (pc := 45) (v := 0) dX3_wetLoad_45 (by decide) ?_
        exact hj6 _ _
      refine eb_icmp_ne (pc := 23) (tgt := 45) dX3_wetLoad_23 (by decide) ?_ ?_
      · refine eb_sub [0, 1, 2, 4] rfl ?_
        exact hj8 _
      · refine eb_aload_n (pc := 26) 0 dX3_wetLoad_26 rfl rfl ?_
        refine eb_iload (pc := 27) 4 dX3_wetLoad_27 rfl ?_
        refine eb_callb (pc := 29) (eb_runV (pc := 29) (As := [.int v4]) (rest := [.int v3]) (ci := 3) (q0 := (RX3, TX3, 20)) (q := (RX3, TX3, 20)) ew_76 ew_77 ew_78 ew_68 rfl rfl ed_X3_isWet (ct_X3_isWet hG _ _ _) rfl ew_79 ⟨by decide, by decide⟩ (by decide) (by decide) (Nat.le_of_ble_eq_true rfl) rfl dX3_wetLoad_29) (fun b10 s9 => ?_)
        refine eb_if_eq (pc := 32) (tgt := 45) dX3_wetLoad_32 (by decide) ?_ ?_
        · refine eb_sub [0, 1, 2, 4] rfl ?_
          exact hj8 _
        · refine eb_aload_n (pc := 35) 0 dX3_wetLoad_35 rfl rfl ?_
          refine eb_iload (pc := 36) 4 dX3_wetLoad_36 rfl ?_
          refine eb_iload_n (pc := 38) 2 dX3_wetLoad_38 rfl rfl ?_
          refine eb_calli (pc := 39) (eb_runV (pc := 39) (As := [.int v4, .int v2]) (rest := [.int v3]) (ci := 3) (q0 := (RX3, TX3, 20)) (q := (RX3, TX3, 20)) ew_72 ew_73 ew_74 ew_68 rfl rfl ed_X3_thingLoad (ct_X3_thingLoad hG _ _ _ _) rfl ew_75 ⟨by decide, by decide⟩ (by decide) (by decide) (Nat.le_of_ble_eq_true rfl) rfl dX3_wetLoad_39) (fun x12 s11 => ?_)
          refine eb_goto (pc := 42) (tgt := 46) dX3_wetLoad_42 (by decide) ?_
          refine eb_sub [0, 1, 2, 4] rfl ?_
          exact hj6 _ _
set_option maxRecDepth 100000 in
theorem ct_X3_wetLoad {G : eb_G} (hG : eb_ok G) (n : Nat) (v0 : Nat) (v1 : Int32) (v2 : Int32) (s : eb_S) : eb_ct G yX3_wetLoad cX3_wetLoad 5 (some .int) 2 0 0 eb_ei [.ref v0, .int v1, .int v2] s (f_X3_wetLoad n v0 v1 v2 s) := by
  refine eb_ct_i (by decide) (Nat.le_of_ble_eq_true rfl) (fun v hv => by simp at hv; rcases hv with rfl | rfl | rfl <;> simp [Value.category]) ?_
  show eb_go G yX3_wetLoad cX3_wetLoad 5 (some .int) (2) 0 0 .ireturn (fun r : Int32 => [.int r]) 0 [(0, .ref v0), (1, .int v1), (2, .int v2)] [] s 0 0 _
  unfold f_X3_wetLoad
  refine eb_iconst (pc := 0) (v := 0) dX3_wetLoad_0 (by decide) ?_
  refine eb_istore_n (pc := 1) (L' := [(3, .int 0), (0, .ref v0), (1, .int v1), (2, .int v2)]) dX3_wetLoad_1 rfl (by decide) rfl ?_
  refine eb_iconst (pc := 2) (v := 0) dX3_wetLoad_2 (by decide) ?_
  refine eb_istore (pc := 3) (L' := [(4, .int 0), (3, .int 0), (0, .ref v0), (1, .int v1), (2, .int v2)]) dX3_wetLoad_3 (by decide) rfl ?_
  refine eb_sub [2, 3, 4, 1, 0] rfl ?_
  refine gl_X3_wetLoad_L5 hG  n _ _ _

def f_X3_offBetween (v0 : Nat) (v1 : Int32) (v2 : Int32) (s : eb_S) : Option (Int32 × eb_S) := eb_gR s [3] v0 12 fun r1 => eb_ai s r1 1 fun x2 => eb_gR s [3] v0 12 fun r3 => eb_ai s r3 0 fun x4 => some ((v1 * x2) - (v2 * x4), s)
set_option maxRecDepth 100000 in
theorem ct_X3_offBetween {G : eb_G} (hG : eb_ok G) (v0 : Nat) (v1 : Int32) (v2 : Int32) (s : eb_S) : eb_ct G yX3_offBetween cX3_offBetween 3 (some .int) 1 0 0 eb_ei [.ref v0, .int v1, .int v2] s (f_X3_offBetween v0 v1 v2 s) := by
  refine eb_ct_i (by decide) (Nat.le_of_ble_eq_true rfl) (fun v hv => by simp at hv; rcases hv with rfl | rfl | rfl <;> simp [Value.category]) ?_
  show eb_go G yX3_offBetween cX3_offBetween 3 (some .int) (1) 0 0 .ireturn (fun r : Int32 => [.int r]) 0 [(0, .ref v0), (1, .int v1), (2, .int v2)] [] s 0 0 _
  unfold f_X3_offBetween
  refine eb_iload_n (pc := 0) 1 dX3_offBetween_0 rfl rfl ?_
  refine eb_aload_n (pc := 1) 0 dX3_offBetween_1 rfl rfl ?_
  refine eb_getR (pc := 2) ef_RX3_49 dX3_offBetween_2 (fun r1 => ?_)
  refine eb_iconst (pc := 5) (v := 1) dX3_offBetween_5 (by decide) ?_
  refine eb_iaload (pc := 6) dX3_offBetween_6 (fun x2 => ?_)
  refine eb_imul (pc := 7) dX3_offBetween_7 ?_
  refine eb_iload_n (pc := 8) 2 dX3_offBetween_8 rfl rfl ?_
  refine eb_aload_n (pc := 9) 0 dX3_offBetween_9 rfl rfl ?_
  refine eb_getR (pc := 10) ef_RX3_49 dX3_offBetween_10 (fun r3 => ?_)
  refine eb_iconst (pc := 13) (v := 0) dX3_offBetween_13 (by decide) ?_
  refine eb_iaload (pc := 14) dX3_offBetween_14 (fun x4 => ?_)
  refine eb_imul (pc := 15) dX3_offBetween_15 ?_
  refine eb_isub (pc := 16) dX3_offBetween_16 ?_
  exact eb_iret (pc := 17) dX3_offBetween_17 (by decide) (by decide)

def f_X3_offOn (n : Nat) (v0 : Nat) (v1 : Int32) (s : eb_S) : Option (Int32 × eb_S) := eb_cl (eb_tg s v0 3 (f_X3_bagLoad n v0 0 v1 s)) fun x2 s1 => eb_cl (eb_tg s1 v0 3 (f_X3_bagLoad n v0 1 v1 s1)) fun x4 s3 => eb_cl (eb_tg s3 v0 3 (f_X3_offBetween v0 x2 x4 s3)) fun x6 s5 => some (x6, s5)
set_option maxRecDepth 100000 in
theorem ct_X3_offOn {G : eb_G} (hG : eb_ok G) (n : Nat) (v0 : Nat) (v1 : Int32) (s : eb_S) : eb_ct G yX3_offOn cX3_offOn 2 (some .int) 3 0 0 eb_ei [.ref v0, .int v1] s (f_X3_offOn n v0 v1 s) := by
  refine eb_ct_i (by decide) (Nat.le_of_ble_eq_true rfl) (fun v hv => by simp at hv; rcases hv with rfl | rfl <;> simp [Value.category]) ?_
  show eb_go G yX3_offOn cX3_offOn 2 (some .int) (3) 0 0 .ireturn (fun r : Int32 => [.int r]) 0 [(0, .ref v0), (1, .int v1)] [] s 0 0 _
  unfold f_X3_offOn
  refine eb_aload_n (pc := 0) 0 dX3_offOn_0 rfl rfl ?_
  refine eb_aload_n (pc := 1) 0 dX3_offOn_1 rfl rfl ?_
  refine eb_iconst (pc := 2) (v := 0) dX3_offOn_2 (by decide) ?_
  refine eb_iload_n (pc := 3) 1 dX3_offOn_3 rfl rfl ?_
  refine eb_calli (pc := 4) (eb_runV (pc := 4) (As := [.int 0, .int v1]) (rest := [.ref v0]) (ci := 3) (q0 := (RX3, TX3, 20)) (q := (RX3, TX3, 20)) ew_80 ew_81 ew_82 ew_68 rfl rfl ed_X3_bagLoad (ct_X3_bagLoad hG n _ _ _ _) rfl ew_83 ⟨by decide, by decide⟩ (by decide) (by decide) (Nat.le_of_ble_eq_true rfl) rfl dX3_offOn_4) (fun x2 s1 => ?_)
  refine eb_aload_n (pc := 7) 0 dX3_offOn_7 rfl rfl ?_
  refine eb_iconst (pc := 8) (v := 1) dX3_offOn_8 (by decide) ?_
  refine eb_iload_n (pc := 9) 1 dX3_offOn_9 rfl rfl ?_
  refine eb_calli (pc := 10) (eb_runV (pc := 10) (As := [.int 1, .int v1]) (rest := [.int x2, .ref v0]) (ci := 3) (q0 := (RX3, TX3, 20)) (q := (RX3, TX3, 20)) ew_80 ew_81 ew_82 ew_68 rfl rfl ed_X3_bagLoad (ct_X3_bagLoad hG n _ _ _ _) rfl ew_83 ⟨by decide, by decide⟩ (by decide) (by decide) (Nat.le_of_ble_eq_true rfl) rfl dX3_offOn_10) (fun x4 s3 => ?_)
  refine eb_calli (pc := 13) (eb_runV (pc := 13) (As := [.int x2, .int x4]) (rest := []) (ci := 3) (q0 := (RX3, TX3, 20)) (q := (RX3, TX3, 20)) ew_84 ew_85 ew_86 ew_68 rfl rfl ed_X3_offBetween (ct_X3_offBetween hG _ _ _ _) rfl ew_87 ⟨by decide, by decide⟩ (by decide) (by decide) (Nat.le_of_ble_eq_true rfl) rfl dX3_offOn_13) (fun x6 s5 => ?_)
  exact eb_iret (pc := 16) dX3_offOn_16 (by decide) (by decide)

def f_X3_worst_L4 (n : Nat) (v0 : Nat)  : Nat → Int32 → Int32 → eb_S → Option (Int32 × eb_S)
  | 0, _, _, _ => none
  | m + 1, v1, v2, s => eb_gI s [3] v0 7 fun x1 => if x1 ≤ v2 then (some (v1, s)) else (eb_cl (eb_tg s v0 3 (f_X3_offOn n v0 v2 s)) fun x3 s2 => f_X3_worst_L4 n v0 m (if v1 < (if 0 ≤ x3 then x3 else 0 - x3) then (if 0 ≤ x3 then x3 else 0 - x3) else v1) (v2 + 1) s2)
def f_X3_worst (n : Nat) (v0 : Nat) (s : eb_S) : Option (Int32 × eb_S) := f_X3_worst_L4 n v0  n 0 0 s
set_option maxRecDepth 100000 in
theorem gl_X3_worst_L4 {G : eb_G} (hG : eb_ok G) {n : Nat} {v0 : Nat}   : ∀ (m : Nat) (v1 : Int32) (v2 : Int32) (s : eb_S), eb_go G yX3_worst cX3_worst 3 (some .int) (4) 0 0 .ireturn (fun r : Int32 => [.int r]) 4 [(0, .ref v0), (1, .int v1), (2, .int v2)] [] s 0 0 (f_X3_worst_L4 n v0 m v1 v2 s) := by
  intro m
  induction m with
  | zero => intro v1 v2 s; exact eb_none
  | succ m ih =>
    intro v1 v2 s
    rw [f_X3_worst_L4.eq_2]
    refine eb_iload_n (pc := 4) 2 dX3_worst_4 rfl rfl ?_
    refine eb_aload_n (pc := 5) 0 dX3_worst_5 rfl rfl ?_
    refine eb_getI (pc := 6) ef_RX3_34 dX3_worst_6 (fun x1 => ?_)
    refine eb_icmp_ge (pc := 9) (tgt := 31) dX3_worst_9 (by decide) ?_ ?_
    · refine eb_iload_n (pc := 31) 1 dX3_worst_31 rfl rfl ?_
      exact eb_iret (pc := 32) dX3_worst_32 (by decide) (by decide)
    · refine eb_iload_n (pc := 12) 1 dX3_worst_12 rfl rfl ?_
      refine eb_aload_n (pc := 13) 0 dX3_worst_13 rfl rfl ?_
      refine eb_iload_n (pc := 14) 2 dX3_worst_14 rfl rfl ?_
      refine eb_calli (pc := 15) (eb_runV (pc := 15) (As := [.int v2]) (rest := [.int v1]) (ci := 3) (q0 := (RX3, TX3, 20)) (q := (RX3, TX3, 20)) ew_88 ew_89 ew_90 ew_68 rfl rfl ed_X3_offOn (ct_X3_offOn hG n _ _ _) rfl ew_91 ⟨by decide, by decide⟩ (by decide) (by decide) (Nat.le_of_ble_eq_true rfl) rfl dX3_worst_15) (fun x3 s2 => ?_)
      refine eb_mabs (pc := 18) ew_92 ew_93 ew_17 ew_94 (by decide) (Nat.le_of_ble_eq_true rfl) (by decide) (by decide) dX3_worst_18 ?_
      refine eb_mmax (pc := 21) ew_70 ew_20 ew_17 ew_21 (by decide) (Nat.le_of_ble_eq_true rfl) (by decide) (by decide) dX3_worst_21 ?_
      refine eb_istore_n (pc := 24) (L' := [(1, .int (if v1 < (if 0 ≤ x3 then x3 else 0 - x3) then (if 0 ≤ x3 then x3 else 0 - x3) else v1)), (0, .ref v0), (2, .int v2)]) dX3_worst_24 rfl (by decide) rfl ?_
      refine eb_iinc (pc := 25) (v := v2 + 1) (L' := [(2, .int (v2 + 1)), (1, .int (if v1 < (if 0 ≤ x3 then x3 else 0 - x3) then (if 0 ≤ x3 then x3 else 0 - x3) else v1)), (0, .ref v0)]) 2 dX3_worst_25 rfl rfl (by decide) rfl ?_
      refine eb_goto (pc := 28) (tgt := 4) dX3_worst_28 (by decide) ?_
      refine eb_sub [2, 1, 0] rfl ?_
      exact ih _ _ _
set_option maxRecDepth 100000 in
theorem ct_X3_worst {G : eb_G} (hG : eb_ok G) (n : Nat) (v0 : Nat) (s : eb_S) : eb_ct G yX3_worst cX3_worst 3 (some .int) 4 0 0 eb_ei [.ref v0] s (f_X3_worst n v0 s) := by
  refine eb_ct_i (by decide) (Nat.le_of_ble_eq_true rfl) (fun v hv => by simp at hv; rcases hv with rfl <;> simp [Value.category]) ?_
  show eb_go G yX3_worst cX3_worst 3 (some .int) (4) 0 0 .ireturn (fun r : Int32 => [.int r]) 0 [(0, .ref v0)] [] s 0 0 _
  unfold f_X3_worst
  refine eb_iconst (pc := 0) (v := 0) dX3_worst_0 (by decide) ?_
  refine eb_istore_n (pc := 1) (L' := [(1, .int 0), (0, .ref v0)]) dX3_worst_1 rfl (by decide) rfl ?_
  refine eb_iconst (pc := 2) (v := 0) dX3_worst_2 (by decide) ?_
  refine eb_istore_n (pc := 3) (L' := [(2, .int 0), (1, .int 0), (0, .ref v0)]) dX3_worst_3 rfl (by decide) rfl ?_
  refine eb_sub [2, 1, 0] rfl ?_
  refine gl_X3_worst_L4 hG  n _ _ _

def f_X3_whole_L4 (n : Nat) (v0 : Nat)  : Nat → Int32 → Int32 → eb_S → Option (Int32 × eb_S)
  | 0, _, _, _ => none
  | m + 1, v1, v2, s => eb_gI s [3] v0 7 fun x1 => if x1 ≤ v2 then (some (v1, s)) else (eb_cl (eb_tg s v0 3 (f_X3_offOn n v0 v2 s)) fun x3 s2 => eb_gR s2 [3] v0 8 fun r4 => eb_ai s2 r4 v2 fun x5 => eb_cl (eb_tg s2 v0 3 (f_X3_steepness v0 v2 s2)) fun x7 s6 => f_X3_whole_L4 n v0 m (v1 + (((if 0 ≤ x3 then x3 else 0 - x3) * x5) * x7)) (v2 + 1) s6)
def f_X3_whole (n : Nat) (v0 : Nat) (s : eb_S) : Option (Int32 × eb_S) := f_X3_whole_L4 n v0  n 0 0 s
set_option maxRecDepth 100000 in
theorem gl_X3_whole_L4 {G : eb_G} (hG : eb_ok G) {n : Nat} {v0 : Nat}   : ∀ (m : Nat) (v1 : Int32) (v2 : Int32) (s : eb_S), eb_go G yX3_whole cX3_whole 3 (some .int) (4) 0 0 .ireturn (fun r : Int32 => [.int r]) 4 [(0, .ref v0), (1, .int v1), (2, .int v2)] [] s 0 0 (f_X3_whole_L4 n v0 m v1 v2 s) := by
  intro m
  induction m with
  | zero => intro v1 v2 s; exact eb_none
  | succ m ih =>
    intro v1 v2 s
    rw [f_X3_whole_L4.eq_2]
    refine eb_iload_n (pc := 4) 2 dX3_whole_4 rfl rfl ?_
    refine eb_aload_n (pc := 5) 0 dX3_whole_5 rfl rfl ?_
    refine eb_getI (pc := 6) ef_RX3_34 dX3_whole_6 (fun x1 => ?_)
    refine eb_icmp_ge (pc := 9) (tgt := 42) dX3_whole_9 (by decide) ?_ ?_
    · refine eb_iload_n (pc := 42) 1 dX3_whole_42 rfl rfl ?_
      exact eb_iret (pc := 43) dX3_whole_43 (by decide) (by decide)
    · refine eb_iload_n (pc := 12) 1 dX3_whole_12 rfl rfl ?_
      refine eb_aload_n (pc := 13) 0 dX3_whole_13 rfl rfl ?_
      refine eb_iload_n (pc := 14) 2 dX3_whole_14 rfl rfl ?_
      refine eb_calli (pc := 15) (eb_runV (pc := 15) (As := [.int v2]) (rest := [.int v1]) (ci := 3) (q0 := (RX3, TX3, 20)) (q := (RX3, TX3, 20)) ew_88 ew_89 ew_90 ew_68 rfl rfl ed_X3_offOn (ct_X3_offOn hG n _ _ _) rfl ew_91 ⟨by decide, by decide⟩ (by decide) (by decide) (Nat.le_of_ble_eq_true rfl) rfl dX3_whole_15) (fun x3 s2 => ?_)
      refine eb_mabs (pc := 18) ew_92 ew_93 ew_17 ew_94 (by decide) (Nat.le_of_ble_eq_true rfl) (by decide) (by decide) dX3_whole_18 ?_
      refine eb_aload_n (pc := 21) 0 dX3_whole_21 rfl rfl ?_
      refine eb_getR (pc := 22) ef_RX3_37 dX3_whole_22 (fun r4 => ?_)
      refine eb_iload_n (pc := 25) 2 dX3_whole_25 rfl rfl ?_
      refine eb_iaload (pc := 26) dX3_whole_26 (fun x5 => ?_)
      refine eb_imul (pc := 27) dX3_whole_27 ?_
      refine eb_aload_n (pc := 28) 0 dX3_whole_28 rfl rfl ?_
      refine eb_iload_n (pc := 29) 2 dX3_whole_29 rfl rfl ?_
      refine eb_calli (pc := 30) (eb_runV (pc := 30) (As := [.int v2]) (rest := [.int ((if 0 ≤ x3 then x3 else 0 - x3) * x5), .int v1]) (ci := 3) (q0 := (RX3, TX3, 20)) (q := (RX3, TX3, 20)) ew_95 ew_96 ew_97 ew_68 rfl rfl ed_X3_steepness (ct_X3_steepness hG _ _ _) rfl ew_98 ⟨by decide, by decide⟩ (by decide) (by decide) (Nat.le_of_ble_eq_true rfl) rfl dX3_whole_30) (fun x7 s6 => ?_)
      refine eb_imul (pc := 33) dX3_whole_33 ?_
      refine eb_iadd (pc := 34) dX3_whole_34 ?_
      refine eb_istore_n (pc := 35) (L' := [(1, .int (v1 + (((if 0 ≤ x3 then x3 else 0 - x3) * x5) * x7))), (0, .ref v0), (2, .int v2)]) dX3_whole_35 rfl (by decide) rfl ?_
      refine eb_iinc (pc := 36) (v := v2 + 1) (L' := [(2, .int (v2 + 1)), (1, .int (v1 + (((if 0 ≤ x3 then x3 else 0 - x3) * x5) * x7))), (0, .ref v0)]) 2 dX3_whole_36 rfl rfl (by decide) rfl ?_
      refine eb_goto (pc := 39) (tgt := 4) dX3_whole_39 (by decide) ?_
      refine eb_sub [2, 1, 0] rfl ?_
      exact ih _ _ _
set_option maxRecDepth 100000 in
theorem ct_X3_whole {G : eb_G} (hG : eb_ok G) (n : Nat) (v0 : Nat) (s : eb_S) : eb_ct G yX3_whole cX3_whole 3 (some .int) 4 0 0 eb_ei [.ref v0] s (f_X3_whole n v0 s) := by
  refine eb_ct_i (by decide) (Nat.le_of_ble_eq_true rfl) (fun v hv => by simp at hv; rcases hv with rfl <;> simp [Value.category]) ?_
  show eb_go G yX3_whole cX3_whole 3 (some .int) (4) 0 0 .ireturn (fun r : Int32 => [.int r]) 0 [(0, .ref v0)] [] s 0 0 _
  unfold f_X3_whole
  refine eb_iconst (pc := 0) (v := 0) dX3_whole_0 (by decide) ?_
  refine eb_istore_n (pc := 1) (L' := [(1, .int 0), (0, .ref v0)]) dX3_whole_1 rfl (by decide) rfl ?_
  refine eb_iconst (pc := 2) (v := 0) dX3_whole_2 (by decide) ?_
  refine eb_istore_n (pc := 3) (L' := [(2, .int 0), (1, .int 0), (0, .ref v0)]) dX3_whole_3 rfl (by decide) rfl ?_
  refine eb_sub [2, 1, 0] rfl ?_
  refine gl_X3_whole_L4 hG  n _ _ _

def f_X3_bagsHold_L12 (n : Nat) (v0 : Nat) (v1 : Int32) (K : eb_S → Option (Bool × eb_S)) : Nat → Int32 → eb_S → Option (Bool × eb_S)
  | 0, _, _ => none
  | m + 1, v2, s => if 3 ≤ v2 then (K s) else (eb_cl (eb_tg s v0 3 (f_X3_bagLoad n v0 v2 v1 s)) fun x3 s2 => eb_gR s2 [3] v0 10 fun r4 => eb_ai s2 r4 v2 fun x5 => if x3 ≤ x5 then (f_X3_bagsHold_L12 n v0 v1 K m (v2 + 1) s2) else (some (false, s2)))
def f_X3_bagsHold_L2 (n : Nat) (v0 : Nat)  : Nat → Int32 → eb_S → Option (Bool × eb_S)
  | 0, _, _ => none
  | m + 1, v1, s => eb_gI s [3] v0 7 fun x1 => if x1 ≤ v1 then (some (true, s)) else (f_X3_bagsHold_L12 n v0 v1 (fun  (s6 : eb_S) => f_X3_bagsHold_L2 n v0 m (v1 + 1) s6) n 0 s)
def f_X3_bagsHold (n : Nat) (v0 : Nat) (s : eb_S) : Option (Bool × eb_S) := f_X3_bagsHold_L2 n v0  n 0 s
set_option maxRecDepth 100000 in
theorem gl_X3_bagsHold_L12 {G : eb_G} (hG : eb_ok G) {n : Nat} {v0 : Nat} {v1 : Int32} {K : eb_S → Option (Bool × eb_S)} (hK : ∀  (s : eb_S), eb_go G yX3_bagsHold cX3_bagsHold 3 (some .boolean) (3) 0 0 .ireturn (fun r : Bool => [.int (eb_b r)]) 40 [(0, .ref v0), (1, .int v1)] [] s 0 0 (K  s)) : ∀ (m : Nat) (v2 : Int32) (s : eb_S), eb_go G yX3_bagsHold cX3_bagsHold 3 (some .boolean) (3) 0 0 .ireturn (fun r : Bool => [.int (eb_b r)]) 12 [(0, .ref v0), (1, .int v1), (2, .int v2)] [] s 0 0 (f_X3_bagsHold_L12 n v0 v1 K m v2 s) := by
  intro m
  induction m with
  | zero => intro v2 s; exact eb_none
  | succ m ih =>
    intro v2 s
    rw [f_X3_bagsHold_L12.eq_2]
    refine eb_iload_n (pc := 12) 2 dX3_bagsHold_12 rfl rfl ?_
    refine eb_iconst (pc := 13) (v := 3) dX3_bagsHold_13 (by decide) ?_
    refine eb_icmp_ge (pc := 14) (tgt := 40) dX3_bagsHold_14 (by decide) ?_ ?_
    · refine eb_sub [0, 1] rfl ?_
      exact hK _
    · refine eb_aload_n (pc := 17) 0 dX3_bagsHold_17 rfl rfl ?_
      refine eb_iload_n (pc := 18) 2 dX3_bagsHold_18 rfl rfl ?_
      refine eb_iload_n (pc := 19) 1 dX3_bagsHold_19 rfl rfl ?_
      refine eb_calli (pc := 20) (eb_runV (pc := 20) (As := [.int v2, .int v1]) (rest := []) (ci := 3) (q0 := (RX3, TX3, 20)) (q := (RX3, TX3, 20)) ew_80 ew_81 ew_82 ew_68 rfl rfl ed_X3_bagLoad (ct_X3_bagLoad hG n _ _ _ _) rfl ew_83 ⟨by decide, by decide⟩ (by decide) (by decide) (Nat.le_of_ble_eq_true rfl) rfl dX3_bagsHold_20) (fun x3 s2 => ?_)
      refine eb_aload_n (pc := 23) 0 dX3_bagsHold_23 rfl rfl ?_
      refine eb_getR (pc := 24) ef_RX3_43 dX3_bagsHold_24 (fun r4 => ?_)
      refine eb_iload_n (pc := 27) 2 dX3_bagsHold_27 rfl rfl ?_
      refine eb_iaload (pc := 28) dX3_bagsHold_28 (fun x5 => ?_)
      refine eb_icmp_le (pc := 29) (tgt := 34) dX3_bagsHold_29 (by decide) ?_ ?_
      · refine eb_iinc (pc := 34) (v := v2 + 1) (L' := [(2, .int (v2 + 1)), (0, .ref v0), (1, .int v1)]) 2 dX3_bagsHold_34 rfl rfl (by decide) rfl ?_
        refine eb_goto (pc := 37) (tgt := 12) dX3_bagsHold_37 (by decide) ?_
        refine eb_sub [1, 2, 0] rfl ?_
        exact ih _ _
      · refine eb_iconst (pc := 32) (v := 0) dX3_bagsHold_32 (by decide) ?_
        exact eb_bret (pc := 33) (b := false) dX3_bagsHold_33 (by decide) (by decide)
set_option maxRecDepth 100000 in
theorem gl_X3_bagsHold_L2 {G : eb_G} (hG : eb_ok G) {n : Nat} {v0 : Nat}   : ∀ (m : Nat) (v1 : Int32) (s : eb_S), eb_go G yX3_bagsHold cX3_bagsHold 3 (some .boolean) (3) 0 0 .ireturn (fun r : Bool => [.int (eb_b r)]) 2 [(0, .ref v0), (1, .int v1)] [] s 0 0 (f_X3_bagsHold_L2 n v0 m v1 s) := by
  intro m
  induction m with
  | zero => intro v1 s; exact eb_none
  | succ m ih =>
    intro v1 s
    rw [f_X3_bagsHold_L2.eq_2]
    refine eb_iload_n (pc := 2) 1 dX3_bagsHold_2 rfl rfl ?_
    refine eb_aload_n (pc := 3) 0 dX3_bagsHold_3 rfl rfl ?_
    refine eb_getI (pc := 4) ef_RX3_34 dX3_bagsHold_4 (fun x1 => ?_)
    refine eb_icmp_ge (pc := 7) (tgt := 46) dX3_bagsHold_7 (by decide) ?_ ?_
    · refine eb_iconst (pc := 46) (v := 1) dX3_bagsHold_46 (by decide) ?_
      exact eb_bret (pc := 47) (b := true) dX3_bagsHold_47 (by decide) (by decide)
    · refine eb_iconst (pc := 10) (v := 0) dX3_bagsHold_10 (by decide) ?_
      refine eb_istore_n (pc := 11) (L' := [(2, .int 0), (0, .ref v0), (1, .int v1)]) dX3_bagsHold_11 rfl (by decide) rfl ?_
      refine eb_sub [1, 2, 0] rfl ?_
      refine gl_X3_bagsHold_L12 hG (fun s6 => ?_) n _ _
      refine eb_iinc (pc := 40) (v := v1 + 1) (L' := [(1, .int (v1 + 1)), (0, .ref v0)]) 1 dX3_bagsHold_40 rfl rfl (by decide) rfl ?_
      refine eb_goto (pc := 43) (tgt := 2) dX3_bagsHold_43 (by decide) ?_
      refine eb_sub [1, 0] rfl ?_
      exact ih _ _
set_option maxRecDepth 100000 in
theorem ct_X3_bagsHold {G : eb_G} (hG : eb_ok G) (n : Nat) (v0 : Nat) (s : eb_S) : eb_ct G yX3_bagsHold cX3_bagsHold 3 (some .boolean) 3 0 0 eb_eb [.ref v0] s (f_X3_bagsHold n v0 s) := by
  refine eb_ct_b (by decide) (Nat.le_of_ble_eq_true rfl) (fun v hv => by simp at hv; rcases hv with rfl <;> simp [Value.category]) ?_
  show eb_go G yX3_bagsHold cX3_bagsHold 3 (some .boolean) (3) 0 0 .ireturn (fun r : Bool => [.int (eb_b r)]) 0 [(0, .ref v0)] [] s 0 0 _
  unfold f_X3_bagsHold
  refine eb_iconst (pc := 0) (v := 0) dX3_bagsHold_0 (by decide) ?_
  refine eb_istore_n (pc := 1) (L' := [(1, .int 0), (0, .ref v0)]) dX3_bagsHold_1 rfl (by decide) rfl ?_
  refine eb_sub [1, 0] rfl ?_
  refine gl_X3_bagsHold_L2 hG  n _ _

def f_X3_keepsLaws_L2 (n : Nat) (v0 : Nat) (v1 : Nat) (v2 : Int32)  : Nat → Int32 → eb_S → Option (Bool × eb_S)
  | 0, _, _ => none
  | m + 1, v3, s => eb_gI s [3] v0 13 fun x1 => if x1 ≤ v3 then (some (true, s)) else (eb_gR s [3] v0 14 fun r2 => eb_ai s r2 v3 fun x3 => eb_gR s [3] v0 15 fun r4 => eb_ai s r4 v3 fun x5 => eb_jn (fun (p6 : Int32) (s7 : eb_S) => f_X3_keepsLaws_L2 n v0 v1 v2 m (p6 + 1) s7) fun j8 => if (if x3 < x5 then x5 else x3) = v2 then (eb_gR s [3] v0 14 fun r9 => eb_ai s r9 v3 fun x10 => eb_ai s v1 x10 fun x11 => eb_gR s [3] v0 15 fun r12 => eb_ai s r12 v3 fun x13 => eb_ai s v1 x13 fun x14 => eb_jn (fun (y15 : Int32) (s16 : eb_S) => eb_gR s16 [3] v0 16 fun r18 => eb_ai s16 r18 v3 fun x19 => eb_jn (fun (y20 : Int32) (s21 : eb_S) => if y15 = y20 then (some (false, s21)) else (j8 v3 s21)) fun j22 => if x19 = 0 then (j22 1 s16) else (j22 0 s16)) fun j17 => if x11 = x14 then (j17 1 s) else (j17 0 s)) else (j8 v3 s))
def f_X3_keepsLaws (n : Nat) (v0 : Nat) (v1 : Nat) (v2 : Int32) (s : eb_S) : Option (Bool × eb_S) := f_X3_keepsLaws_L2 n v0 v1 v2  n 0 s
set_option maxRecDepth 100000 in
theorem gl_X3_keepsLaws_L2 {G : eb_G} (hG : eb_ok G) {n : Nat} {v0 : Nat} {v1 : Nat} {v2 : Int32}   : ∀ (m : Nat) (v3 : Int32) (s : eb_S), eb_go G yX3_keepsLaws cX3_keepsLaws 5 (some .boolean) (1) 0 0 .ireturn (fun r : Bool => [.int (eb_b r)]) 2 [(0, .ref v0), (1, .ref v1), (2, .int v2), (3, .int v3)] [] s 0 0 (f_X3_keepsLaws_L2 n v0 v1 v2 m v3 s) := by
  intro m
  induction m with
  | zero => intro v3 s; exact eb_none
  | succ m ih =>
    intro v3 s
    rw [f_X3_keepsLaws_L2.eq_2]
    refine eb_iload_n (pc := 2) 3 dX3_keepsLaws_2 rfl rfl ?_
    refine eb_aload_n (pc := 3) 0 dX3_keepsLaws_3 rfl rfl ?_
    refine eb_getI (pc := 4) ef_RX3_52 dX3_keepsLaws_4 (fun x1 => ?_)
    refine eb_icmp_ge (pc := 7) (tgt := 82) dX3_keepsLaws_7 (by decide) ?_ ?_
    · refine eb_iconst (pc := 82) (v := 1) dX3_keepsLaws_82 (by decide) ?_
      exact eb_bret (pc := 83) (b := true) dX3_keepsLaws_83 (by decide) (by decide)
    · refine eb_aload_n (pc := 10) 0 dX3_keepsLaws_10 rfl rfl ?_
      refine eb_getR (pc := 11) ef_RX3_55 dX3_keepsLaws_11 (fun r2 => ?_)
      refine eb_iload_n (pc := 14) 3 dX3_keepsLaws_14 rfl rfl ?_
      refine eb_iaload (pc := 15) dX3_keepsLaws_15 (fun x3 => ?_)
      refine eb_aload_n (pc := 16) 0 dX3_keepsLaws_16 rfl rfl ?_
      refine eb_getR (pc := 17) ef_RX3_58 dX3_keepsLaws_17 (fun r4 => ?_)
      refine eb_iload_n (pc := 20) 3 dX3_keepsLaws_20 rfl rfl ?_
      refine eb_iaload (pc := 21) dX3_keepsLaws_21 (fun x5 => ?_)
      refine eb_mmax (pc := 22) ew_70 ew_20 ew_17 ew_21 (by decide) (Nat.le_of_ble_eq_true rfl) (by decide) (by decide) dX3_keepsLaws_22 ?_
      refine eb_iload_n (pc := 25) 2 dX3_keepsLaws_25 rfl rfl ?_
      refine eb_join (fun j8 : Int32 → eb_S → Option (Bool × eb_S) => ∀ (p6 : Int32) (s7 : eb_S), eb_go G yX3_keepsLaws cX3_keepsLaws 5 (some .boolean) (1) 0 0 .ireturn (fun r : Bool => [.int (eb_b r)]) 76 [(0, .ref v0), (1, .ref v1), (2, .int v2), (3, .int p6)] [] s7 0 0 (j8 p6 s7)) ?_ (fun j8 hj8 => ?_)
      · intro p6 s7
        refine eb_iinc (pc := 76) (v := p6 + 1) (L' := [(3, .int (p6 + 1)), (0, .ref v0), (1, .ref v1), (2, .int v2)]) 3 dX3_keepsLaws_76 rfl rfl (by decide) rfl ?_
        refine eb_goto (pc := 79) (tgt := 2) dX3_keepsLaws_79 (by decide) ?_
        refine eb_sub [1, 2, 3, 0] rfl ?_
        exact ih _ _
      refine eb_icmp_ne (pc := 26) (tgt := 76) dX3_keepsLaws_26 (by decide) ?_ ?_
      · exact hj8 _ _
      · refine eb_aload_n (pc := 29) 1 dX3_keepsLaws_29 rfl rfl ?_
        refine eb_aload_n (pc := 30) 0 dX3_keepsLaws_30 rfl rfl ?_
        refine eb_getR (pc := 31) ef_RX3_55 dX3_keepsLaws_31 (fun r9 => ?_)
        refine eb_iload_n (pc := 34) 3 dX3_keepsLaws_34 rfl rfl ?_
        refine eb_iaload (pc := 35) dX3_keepsLaws_35 (fun x10 => ?_)
        refine eb_iaload (pc := 36) dX3_keepsLaws_36 (fun x11 => ?_)
        refine eb_aload_n (pc := 37) 1 dX3_keepsLaws_37 rfl rfl ?_
        refine eb_aload_n (pc := 38) 0 dX3_keepsLaws_38 rfl rfl ?_
        refine eb_getR (pc := 39) ef_RX3_58 dX3_keepsLaws_39 (fun r12 => ?_)
        refine eb_iload_n (pc := 42) 3 dX3_keepsLaws_42 rfl rfl ?_
        refine eb_iaload (pc := 43) dX3_keepsLaws_43 (fun x13 => ?_)
        refine eb_iaload (pc := 44) dX3_keepsLaws_44 (fun x14 => ?_)
        refine eb_join (fun j17 : Int32 → eb_S → Option (Bool × eb_S) => ∀ (y15 : Int32) (s16 : eb_S), eb_go G yX3_keepsLaws cX3_keepsLaws 5 (some .boolean) (1) 0 0 .ireturn (fun r : Bool => [.int (eb_b r)]) 53 [(0, .ref v0), (1, .ref v1), (2, .int v2), (3, .int v3)] [.int y15] s16 0 0 (j17 y15 s16)) ?_ (fun j17 hj17 => ?_)
        · intro y15 s16
          refine eb_istore (pc := 53) (L' := [(4, .int y15), (0, .ref v0), (1, .ref v1), (2, .int v2), (3, .int v3)]) dX3_keepsLaws_53 (by decide) rfl ?_
          refine eb_iload (pc := 55) 0 dX3_keepsLaws_55 rfl ?_
          refine eb_aload_n (pc := 57) 1 dX3_keepsLaws_57 rfl rfl ?_
          refine eb_getR (pc := 58) ef_RX3_61 dX3_keepsLaws_58 (fun r18 => ?_)
          refine eb_iload_n (pc := 61) 4 dX3_keepsLaws_61 rfl rfl ?_
          refine eb_iaload (pc := 62) dX3_keepsLaws_62 (fun x19 => ?_)
          refine eb_join (fun j22 : Int32 → eb_S → Option (Bool × eb_S) => ∀ (y20 : Int32) (s21 : eb_S), eb_go G yX3_keepsLaws cX3_keepsLaws 5 (some .boolean) (1) 0 0 .ireturn (fun r : Bool => [.int (eb_b r)]) 71 [(0, .ref v0), (1, .ref v1), (2, .int v2), (3, .int v3)] [.int y20, .int y15] s21 0 0 (j22 y20 s21)) ?_ (fun j22 hj22 => ?_)
          · intro y20 s21
            refine eb_icmp_ne (pc := 71) (tgt := 76) dX3_keepsLaws_71 (by decide) ?_ ?_
            · exact hj8 _ _
            · refine eb_iconst (pc := 74) (v := 0) dX3_keepsLaws_74 (by decide) ?_
              exact eb_bret (pc := 75) (b := false) dX3_keepsLaws_75 (by decide) (by decide)
          refine eb_if_ne (pc := 63) (tgt := 70) dX3_keepsLaws_63 (by decide) ?_ ?_
          · refine eb_iconst (pc := 70) (v := 0) dX3_keepsLaws_70 (by decide) ?_
            refine eb_sub [1, 2, 3, 4] rfl ?_
            exact hj22 _ _
          · refine eb_iconst (pc := 66) (v := 1) dX3_keepsLaws_66 (by decide) ?_
            refine eb_goto (pc := 67) (tgt := 71) dX3_keepsLaws_67 (by decide) ?_
            refine eb_sub [1, 2, 3, 4] rfl ?_
            exact hj22 _ _
        refine eb_icmp_ne (pc := 45) (tgt := 52) dX3_keepsLaws_45 (by decide) ?_ ?_
        · refine eb_iconst (pc := 52) (v := 0) dX3_keepsLaws_52 (by decide) ?_
          exact hj17 _ _
        · refine eb_iconst (pc := 48) (v := 1) dX3_keepsLaws_48 (by decide) ?_
          refine eb_goto (pc := 49) (tgt := 53) dX3_keepsLaws_49 (by decide) ?_
          exact hj17 _ _
set_option maxRecDepth 100000 in
theorem ct_X3_keepsLaws {G : eb_G} (hG : eb_ok G) (n : Nat) (v0 : Nat) (v1 : Nat) (v2 : Int32) (s : eb_S) : eb_ct G yX3_keepsLaws cX3_keepsLaws 5 (some .boolean) 1 0 0 eb_eb [.ref v0, .ref v1, .int v2] s (f_X3_keepsLaws n v0 v1 v2 s) := by
  refine eb_ct_b (by decide) (Nat.le_of_ble_eq_true rfl) (fun v hv => by simp at hv; rcases hv with rfl | rfl | rfl <;> simp [Value.category]) ?_
  show eb_go G yX3_keepsLaws cX3_keepsLaws 5 (some .boolean) (1) 0 0 .ireturn (fun r : Bool => [.int (eb_b r)]) 0 [(0, .ref v0), (1, .ref v1), (2, .int v2)] [] s 0 0 _
  unfold f_X3_keepsLaws
  refine eb_iconst (pc := 0) (v := 0) dX3_keepsLaws_0 (by decide) ?_
  refine eb_istore_n (pc := 1) (L' := [(3, .int 0), (0, .ref v0), (1, .ref v1), (2, .int v2)]) dX3_keepsLaws_1 rfl (by decide) rfl ?_
  refine eb_sub [1, 2, 3, 0] rfl ?_
  refine gl_X3_keepsLaws_L2 hG  n _ _

def f_X3_crushes (v0 : Nat) (v1 : Int32) (v2 : Int32) (s : eb_S) : Option (Bool × eb_S) := eb_gR s [3] v0 2 fun r1 => eb_ai s r1 v2 fun x2 => if x2 = 2 then (eb_gR s [3] v0 3 fun r3 => eb_ai s r3 v1 fun x4 => eb_gR s [3] v0 3 fun r5 => eb_ai s r5 v2 fun x6 => if x4 ≤ x6 then (some (false, s)) else (some (true, s))) else (some (false, s))
set_option maxRecDepth 100000 in
theorem ct_X3_crushes {G : eb_G} (hG : eb_ok G) (v0 : Nat) (v1 : Int32) (v2 : Int32) (s : eb_S) : eb_ct G yX3_crushes cX3_crushes 3 (some .boolean) 1 0 0 eb_eb [.ref v0, .int v1, .int v2] s (f_X3_crushes v0 v1 v2 s) := by
  refine eb_ct_b (by decide) (Nat.le_of_ble_eq_true rfl) (fun v hv => by simp at hv; rcases hv with rfl | rfl | rfl <;> simp [Value.category]) ?_
  show eb_go G yX3_crushes cX3_crushes 3 (some .boolean) (1) 0 0 .ireturn (fun r : Bool => [.int (eb_b r)]) 0 [(0, .ref v0), (1, .int v1), (2, .int v2)] [] s 0 0 _
  unfold f_X3_crushes
  refine eb_aload_n (pc := 0) 0 dX3_crushes_0 rfl rfl ?_
  refine eb_getR (pc := 1) ef_RX3_18 dX3_crushes_1 (fun r1 => ?_)
  refine eb_iload_n (pc := 4) 2 dX3_crushes_4 rfl rfl ?_
  refine eb_iaload (pc := 5) dX3_crushes_5 (fun x2 => ?_)
  refine eb_iconst (pc := 6) (v := 2) dX3_crushes_6 (by decide) ?_
  refine eb_icmp_ne (pc := 7) (tgt := 29) dX3_crushes_7 (by decide) ?_ ?_
  · refine eb_iconst (pc := 29) (v := 0) dX3_crushes_29 (by decide) ?_
    exact eb_bret (pc := 30) (b := false) dX3_crushes_30 (by decide) (by decide)
  · refine eb_aload_n (pc := 10) 0 dX3_crushes_10 rfl rfl ?_
    refine eb_getR (pc := 11) ef_RX3_22 dX3_crushes_11 (fun r3 => ?_)
    refine eb_iload_n (pc := 14) 1 dX3_crushes_14 rfl rfl ?_
    refine eb_iaload (pc := 15) dX3_crushes_15 (fun x4 => ?_)
    refine eb_aload_n (pc := 16) 0 dX3_crushes_16 rfl rfl ?_
    refine eb_getR (pc := 17) ef_RX3_22 dX3_crushes_17 (fun r5 => ?_)
    refine eb_iload_n (pc := 20) 2 dX3_crushes_20 rfl rfl ?_
    refine eb_iaload (pc := 21) dX3_crushes_21 (fun x6 => ?_)
    refine eb_icmp_le (pc := 22) (tgt := 29) dX3_crushes_22 (by decide) ?_ ?_
    · refine eb_iconst (pc := 29) (v := 0) dX3_crushes_29 (by decide) ?_
      exact eb_bret (pc := 30) (b := false) dX3_crushes_30 (by decide) (by decide)
    · refine eb_iconst (pc := 25) (v := 1) dX3_crushes_25 (by decide) ?_
      refine eb_goto (pc := 26) (tgt := 30) dX3_crushes_26 (by decide) ?_
      exact eb_bret (pc := 30) (b := true) dX3_crushes_30 (by decide) (by decide)

def f_X3_liesSoftly_L2 (n : Nat) (v0 : Nat) (v1 : Nat) (v2 : Int32)  : Nat → Int32 → eb_S → Option (Bool × eb_S)
  | 0, _, _ => none
  | m + 1, v3, s => if v2 ≤ v3 then (some (true, s)) else (eb_ai s v1 v3 fun x1 => eb_ai s v1 v2 fun x2 => eb_jn (fun (p3 : Int32) (s4 : eb_S) => f_X3_liesSoftly_L2 n v0 v1 v2 m (p3 + 1) s4) fun j5 => if x1 = x2 then (eb_cl (eb_tg s v0 3 (f_X3_crushes v0 v3 v2 s)) fun b7 s6 => if (eb_b b7) = 0 then (eb_cl (eb_tg s6 v0 3 (f_X3_crushes v0 v2 v3 s6)) fun b9 s8 => if (eb_b b9) = 0 then (j5 v3 s8) else (some (false, s8))) else (some (false, s6))) else (j5 v3 s))
def f_X3_liesSoftly (n : Nat) (v0 : Nat) (v1 : Nat) (v2 : Int32) (s : eb_S) : Option (Bool × eb_S) := f_X3_liesSoftly_L2 n v0 v1 v2  n 0 s
set_option maxRecDepth 100000 in
theorem gl_X3_liesSoftly_L2 {G : eb_G} (hG : eb_ok G) {n : Nat} {v0 : Nat} {v1 : Nat} {v2 : Int32}   : ∀ (m : Nat) (v3 : Int32) (s : eb_S), eb_go G yX3_liesSoftly cX3_liesSoftly 4 (some .boolean) (2) 0 0 .ireturn (fun r : Bool => [.int (eb_b r)]) 2 [(0, .ref v0), (1, .ref v1), (2, .int v2), (3, .int v3)] [] s 0 0 (f_X3_liesSoftly_L2 n v0 v1 v2 m v3 s) := by
  intro m
  induction m with
  | zero => intro v3 s; exact eb_none
  | succ m ih =>
    intro v3 s
    rw [f_X3_liesSoftly_L2.eq_2]
    refine eb_iload_n (pc := 2) 3 dX3_liesSoftly_2 rfl rfl ?_
    refine eb_iload_n (pc := 3) 2 dX3_liesSoftly_3 rfl rfl ?_
    refine eb_icmp_ge (pc := 4) (tgt := 42) dX3_liesSoftly_4 (by decide) ?_ ?_
    · refine eb_iconst (pc := 42) (v := 1) dX3_liesSoftly_42 (by decide) ?_
      exact eb_bret (pc := 43) (b := true) dX3_liesSoftly_43 (by decide) (by decide)
    · refine eb_aload_n (pc := 7) 1 dX3_liesSoftly_7 rfl rfl ?_
      refine eb_iload_n (pc := 8) 3 dX3_liesSoftly_8 rfl rfl ?_
      refine eb_iaload (pc := 9) dX3_liesSoftly_9 (fun x1 => ?_)
      refine eb_aload_n (pc := 10) 1 dX3_liesSoftly_10 rfl rfl ?_
      refine eb_iload_n (pc := 11) 2 dX3_liesSoftly_11 rfl rfl ?_
      refine eb_iaload (pc := 12) dX3_liesSoftly_12 (fun x2 => ?_)
      refine eb_join (fun j5 : Int32 → eb_S → Option (Bool × eb_S) => ∀ (p3 : Int32) (s4 : eb_S), eb_go G yX3_liesSoftly cX3_liesSoftly 4 (some .boolean) (2) 0 0 .ireturn (fun r : Bool => [.int (eb_b r)]) 36 [(0, .ref v0), (1, .ref v1), (2, .int v2), (3, .int p3)] [] s4 0 0 (j5 p3 s4)) ?_ (fun j5 hj5 => ?_)
      · intro p3 s4
        refine eb_iinc (pc := 36) (v := p3 + 1) (L' := [(3, .int (p3 + 1)), (0, .ref v0), (1, .ref v1), (2, .int v2)]) 3 dX3_liesSoftly_36 rfl rfl (by decide) rfl ?_
        refine eb_goto (pc := 39) (tgt := 2) dX3_liesSoftly_39 (by decide) ?_
        refine eb_sub [1, 2, 3, 0] rfl ?_
        exact ih _ _
      refine eb_icmp_ne (pc := 13) (tgt := 36) dX3_liesSoftly_13 (by decide) ?_ ?_
      · exact hj5 _ _
      · refine eb_aload_n (pc := 16) 0 dX3_liesSoftly_16 rfl rfl ?_
        refine eb_iload_n (pc := 17) 3 dX3_liesSoftly_17 rfl rfl ?_
        refine eb_iload_n (pc := 18) 2 dX3_liesSoftly_18 rfl rfl ?_
        refine eb_callb (pc := 19) (eb_runV (pc := 19) (As := [.int v3, .int v2]) (rest := []) (ci := 3) (q0 := (RX3, TX3, 20)) (q := (RX3, TX3, 20)) ew_99 ew_100 ew_101 ew_68 rfl rfl ed_X3_crushes (ct_X3_crushes hG _ _ _ _) rfl ew_102 ⟨by decide, by decide⟩ (by decide) (by decide) (Nat.le_of_ble_eq_true rfl) rfl dX3_liesSoftly_19) (fun b7 s6 => ?_)
        refine eb_if_ne (pc := 22) (tgt := 34) dX3_liesSoftly_22 (by decide) ?_ ?_
        · refine eb_iconst (pc := 34) (v := 0) dX3_liesSoftly_34 (by decide) ?_
          exact eb_bret (pc := 35) (b := false) dX3_liesSoftly_35 (by decide) (by decide)
        · refine eb_aload_n (pc := 25) 0 dX3_liesSoftly_25 rfl rfl ?_
          refine eb_iload_n (pc := 26) 2 dX3_liesSoftly_26 rfl rfl ?_
          refine eb_iload_n (pc := 27) 3 dX3_liesSoftly_27 rfl rfl ?_
          refine eb_callb (pc := 28) (eb_runV (pc := 28) (As := [.int v2, .int v3]) (rest := []) (ci := 3) (q0 := (RX3, TX3, 20)) (q := (RX3, TX3, 20)) ew_99 ew_100 ew_101 ew_68 rfl rfl ed_X3_crushes (ct_X3_crushes hG _ _ _ _) rfl ew_102 ⟨by decide, by decide⟩ (by decide) (by decide) (Nat.le_of_ble_eq_true rfl) rfl dX3_liesSoftly_28) (fun b9 s8 => ?_)
          refine eb_if_eq (pc := 31) (tgt := 36) dX3_liesSoftly_31 (by decide) ?_ ?_
          · exact hj5 _ _
          · refine eb_iconst (pc := 34) (v := 0) dX3_liesSoftly_34 (by decide) ?_
            exact eb_bret (pc := 35) (b := false) dX3_liesSoftly_35 (by decide) (by decide)
set_option maxRecDepth 100000 in
theorem ct_X3_liesSoftly {G : eb_G} (hG : eb_ok G) (n : Nat) (v0 : Nat) (v1 : Nat) (v2 : Int32) (s : eb_S) : eb_ct G yX3_liesSoftly cX3_liesSoftly 4 (some .boolean) 2 0 0 eb_eb [.ref v0, .ref v1, .int v2] s (f_X3_liesSoftly n v0 v1 v2 s) := by
  refine eb_ct_b (by decide) (Nat.le_of_ble_eq_true rfl) (fun v hv => by simp at hv; rcases hv with rfl | rfl | rfl <;> simp [Value.category]) ?_
  show eb_go G yX3_liesSoftly cX3_liesSoftly 4 (some .boolean) (2) 0 0 .ireturn (fun r : Bool => [.int (eb_b r)]) 0 [(0, .ref v0), (1, .ref v1), (2, .int v2)] [] s 0 0 _
  unfold f_X3_liesSoftly
  refine eb_iconst (pc := 0) (v := 0) dX3_liesSoftly_0 (by decide) ?_
  refine eb_istore_n (pc := 1) (L' := [(3, .int 0), (0, .ref v0), (1, .ref v1), (2, .int v2)]) dX3_liesSoftly_1 rfl (by decide) rfl ?_
  refine eb_sub [1, 2, 3, 0] rfl ?_
  refine gl_X3_liesSoftly_L2 hG  n _ _

def f_X3_whyUnlawful_L11 (n : Nat) (v0 : Nat) (K : eb_S → Option (Int32 × eb_S)) : Nat → Int32 → eb_S → Option (Int32 × eb_S)
  | 0, _, _ => none
  | m + 1, v1, s => eb_gI s [3] v0 1 fun x3 => if x3 ≤ v1 then (K s) else (eb_gR s [3] v0 6 fun r4 => eb_cl (eb_tg s v0 3 (f_X3_keepsLaws n v0 r4 v1 s)) fun b6 s5 => if (eb_b b6) = 0 then (some (2, s5)) else (f_X3_whyUnlawful_L11 n v0 K m (v1 + 1) s5))
def f_X3_whyUnlawful_L41 (n : Nat) (v0 : Nat)  : Nat → Int32 → eb_S → Option (Int32 × eb_S)
  | 0, _, _ => none
  | m + 1, v1, s => eb_gI s [3] v0 1 fun x8 => if x8 ≤ v1 then (some (0, s)) else (eb_gR s [3] v0 6 fun r9 => eb_cl (eb_tg s v0 3 (f_X3_liesSoftly n v0 r9 v1 s)) fun b11 s10 => if (eb_b b11) = 0 then (some (3, s10)) else (f_X3_whyUnlawful_L41 n v0 m (v1 + 1) s10))
def f_X3_whyUnlawful (n : Nat) (v0 : Nat) (s : eb_S) : Option (Int32 × eb_S) := eb_cl (eb_tg s v0 3 (f_X3_bagsHold n v0 s)) fun b2 s1 => if (eb_b b2) = 0 then (some (1, s1)) else (f_X3_whyUnlawful_L11 n v0 (fun  (s7 : eb_S) => f_X3_whyUnlawful_L41 n v0  n 0 s7) n 0 s1)
set_option maxRecDepth 100000 in
theorem gl_X3_whyUnlawful_L11 {G : eb_G} (hG : eb_ok G) {n : Nat} {v0 : Nat} {K : eb_S → Option (Int32 × eb_S)} (hK : ∀  (s : eb_S), eb_go G yX3_whyUnlawful cX3_whyUnlawful 2 (some .int) (4) 0 0 .ireturn (fun r : Int32 => [.int r]) 39 [(0, .ref v0)] [] s 0 0 (K  s)) : ∀ (m : Nat) (v1 : Int32) (s : eb_S), eb_go G yX3_whyUnlawful cX3_whyUnlawful 2 (some .int) (4) 0 0 .ireturn (fun r : Int32 => [.int r]) 11 [(0, .ref v0), (1, .int v1)] [] s 0 0 (f_X3_whyUnlawful_L11 n v0 K m v1 s) := by
  intro m
  induction m with
  | zero => intro v1 s; exact eb_none
  | succ m ih =>
    intro v1 s
    rw [f_X3_whyUnlawful_L11.eq_2]
    refine eb_iload_n (pc := 11) 1 dX3_whyUnlawful_11 rfl rfl ?_
    refine eb_aload_n (pc := 12) 0 dX3_whyUnlawful_12 rfl rfl ?_
    refine eb_getI (pc := 13) ef_RX3_15 dX3_whyUnlawful_13 (fun x3 => ?_)
    refine eb_icmp_ge (pc := 16) (tgt := 39) dX3_whyUnlawful_16 (by decide) ?_ ?_
    · refine eb_sub [0] rfl ?_
      exact hK _
    · refine eb_aload_n (pc := 19) 0 dX3_whyUnlawful_19 rfl rfl ?_
      refine eb_aload_n (pc := 20) 0 dX3_whyUnlawful_20 rfl rfl ?_
      refine eb_getR (pc := 21) ef_RX3_31 dX3_whyUnlawful_21 (fun r4 => ?_)
      refine eb_iload_n (pc := 24) 1 dX3_whyUnlawful_24 rfl rfl ?_
      refine eb_callb (pc := 25) (eb_runV (pc := 25) (As := [.ref r4, .int v1]) (rest := []) (ci := 3) (q0 := (RX3, TX3, 20)) (q := (RX3, TX3, 20)) ew_107 ew_108 ew_109 ew_68 rfl rfl ed_X3_keepsLaws (ct_X3_keepsLaws hG n _ _ _ _) rfl ew_110 ⟨by decide, by decide⟩ (by decide) (by decide) (Nat.le_of_ble_eq_true rfl) rfl dX3_whyUnlawful_25) (fun b6 s5 => ?_)
      refine eb_if_ne (pc := 28) (tgt := 33) dX3_whyUnlawful_28 (by decide) ?_ ?_
      · refine eb_iinc (pc := 33) (v := v1 + 1) (L' := [(1, .int (v1 + 1)), (0, .ref v0)]) 1 dX3_whyUnlawful_33 rfl rfl (by decide) rfl ?_
        refine eb_goto (pc := 36) (tgt := 11) dX3_whyUnlawful_36 (by decide) ?_
        refine eb_sub [1, 0] rfl ?_
        exact ih _ _
      · refine eb_iconst (pc := 31) (v := 2) dX3_whyUnlawful_31 (by decide) ?_
        exact eb_iret (pc := 32) dX3_whyUnlawful_32 (by decide) (by decide)
set_option maxRecDepth 100000 in
theorem gl_X3_whyUnlawful_L41 {G : eb_G} (hG : eb_ok G) {n : Nat} {v0 : Nat}   : ∀ (m : Nat) (v1 : Int32) (s : eb_S), eb_go G yX3_whyUnlawful cX3_whyUnlawful 2 (some .int) (4) 0 0 .ireturn (fun r : Int32 => [.int r]) 41 [(0, .ref v0), (1, .int v1)] [] s 0 0 (f_X3_whyUnlawful_L41 n v0 m v1 s) := by
  intro m
  induction m with
  | zero => intro v1 s; exact eb_none
  | succ m ih =>
    intro v1 s
    rw [f_X3_whyUnlawful_L41.eq_2]
    refine eb_iload_n (pc := 41) 1 dX3_whyUnlawful_41 rfl rfl ?_
    refine eb_aload_n (pc := 42) 0 dX3_whyUnlawful_42 rfl rfl ?_
    refine eb_getI (pc := 43) ef_RX3_15 dX3_whyUnlawful_43 (fun x8 => ?_)
    refine eb_icmp_ge (pc := 46) (tgt := 69) dX3_whyUnlawful_46 (by decide) ?_ ?_
    · refine eb_iconst (pc := 69) (v := 0) dX3_whyUnlawful_69 (by decide) ?_
      exact eb_iret (pc := 70) dX3_whyUnlawful_70 (by decide) (by decide)
    · refine eb_aload_n (pc := 49) 0 dX3_whyUnlawful_49 rfl rfl ?_
      refine eb_aload_n (pc := 50) 0 dX3_whyUnlawful_50 rfl rfl ?_
      refine eb_getR (pc := 51) ef_RX3_31 dX3_whyUnlawful_51 (fun r9 => ?_)
      refine eb_iload_n (pc := 54) 1 dX3_whyUnlawful_54 rfl rfl ?_
      refine eb_callb (pc := 55) (eb_runV (pc := 55) (As := [.ref r9, .int v1]) (rest := []) (ci := 3) (q0 := (RX3, TX3, 20)) (q := (RX3, TX3, 20)) ew_111 ew_112 ew_113 ew_68 rfl rfl ed_X3_liesSoftly (ct_X3_liesSoftly hG n _ _ _ _) rfl ew_114 ⟨by decide, by decide⟩ (by decide) (by decide) (Nat.le_of_ble_eq_true rfl) rfl dX3_whyUnlawful_55) (fun b11 s10 => ?_)
      refine eb_if_ne (pc := 58) (tgt := 63) dX3_whyUnlawful_58 (by decide) ?_ ?_
      · refine eb_iinc (pc := 63) (v := v1 + 1) (L' := [(1, .int (v1 + 1)), (0, .ref v0)]) 1 dX3_whyUnlawful_63 rfl rfl (by decide) rfl ?_
        refine eb_goto (pc := 66) (tgt := 41) dX3_whyUnlawful_66 (by decide) ?_
        refine eb_sub [1, 0] rfl ?_
        exact ih _ _
      · refine eb_iconst (pc := 61) (v := 3) dX3_whyUnlawful_61 (by decide) ?_
        exact eb_iret (pc := 62) dX3_whyUnlawful_62 (by decide) (by decide)
set_option maxRecDepth 100000 in
theorem ct_X3_whyUnlawful {G : eb_G} (hG : eb_ok G) (n : Nat) (v0 : Nat) (s : eb_S) : eb_ct G yX3_whyUnlawful cX3_whyUnlawful 2 (some .int) 4 0 0 eb_ei [.ref v0] s (f_X3_whyUnlawful n v0 s) := by
  refine eb_ct_i (by decide) (Nat.le_of_ble_eq_true rfl) (fun v hv => by simp at hv; rcases hv with rfl <;> simp [Value.category]) ?_
  show eb_go G yX3_whyUnlawful cX3_whyUnlawful 2 (some .int) (4) 0 0 .ireturn (fun r : Int32 => [.int r]) 0 [(0, .ref v0)] [] s 0 0 _
  unfold f_X3_whyUnlawful
  refine eb_aload_n (pc := 0) 0 dX3_whyUnlawful_0 rfl rfl ?_
  refine eb_callb (pc := 1) (eb_runV (pc := 1) (As := []) (rest := []) (ci := 3) (q0 := (RX3, TX3, 20)) (q := (RX3, TX3, 20)) ew_103 ew_104 ew_105 ew_68 rfl rfl ed_X3_bagsHold (ct_X3_bagsHold hG n _ _) rfl ew_106 ⟨by decide, by decide⟩ (by decide) (by decide) (Nat.le_of_ble_eq_true rfl) rfl dX3_whyUnlawful_1) (fun b2 s1 => ?_)
  refine eb_if_ne (pc := 4) (tgt := 9) dX3_whyUnlawful_4 (by decide) ?_ ?_
  · refine eb_iconst (pc := 9) (v := 0) dX3_whyUnlawful_9 (by decide) ?_
    refine eb_istore_n (pc := 10) (L' := [(1, .int 0), (0, .ref v0)]) dX3_whyUnlawful_10 rfl (by decide) rfl ?_
    refine eb_sub [1, 0] rfl ?_
    refine gl_X3_whyUnlawful_L11 hG (fun s7 => ?_) n _ _
    refine eb_iconst (pc := 39) (v := 0) dX3_whyUnlawful_39 (by decide) ?_
    refine eb_istore_n (pc := 40) (L' := [(1, .int 0), (0, .ref v0)]) dX3_whyUnlawful_40 rfl (by decide) rfl ?_
    refine eb_sub [1, 0] rfl ?_
    refine gl_X3_whyUnlawful_L41 hG  n _ _
  · refine eb_iconst (pc := 7) (v := 1) dX3_whyUnlawful_7 (by decide) ?_
    exact eb_iret (pc := 8) dX3_whyUnlawful_8 (by decide) (by decide)

def f_X3_isInRight (v0 : Nat) (v1 : Int32) (v2 : Int32) (s : eb_S) : Option (Bool × eb_S) := eb_gI s [3] v0 1 fun x1 => if ((v1 >>> (((x1 - 1) - v2) &&& 31)) &&& 1) = 1 then (some (true, s)) else (some (false, s))
set_option maxRecDepth 100000 in
theorem ct_X3_isInRight {G : eb_G} (hG : eb_ok G) (v0 : Nat) (v1 : Int32) (v2 : Int32) (s : eb_S) : eb_ct G yX3_isInRight cX3_isInRight 3 (some .boolean) 1 0 0 eb_eb [.ref v0, .int v1, .int v2] s (f_X3_isInRight v0 v1 v2 s) := by
  refine eb_ct_b (by decide) (Nat.le_of_ble_eq_true rfl) (fun v hv => by simp at hv; rcases hv with rfl | rfl | rfl <;> simp [Value.category]) ?_
  show eb_go G yX3_isInRight cX3_isInRight 3 (some .boolean) (1) 0 0 .ireturn (fun r : Bool => [.int (eb_b r)]) 0 [(0, .ref v0), (1, .int v1), (2, .int v2)] [] s 0 0 _
  unfold f_X3_isInRight
  refine eb_iload_n (pc := 0) 1 dX3_isInRight_0 rfl rfl ?_
  refine eb_aload_n (pc := 1) 0 dX3_isInRight_1 rfl rfl ?_
  refine eb_getI (pc := 2) ef_RX3_15 dX3_isInRight_2 (fun x1 => ?_)
  refine eb_iconst (pc := 5) (v := 1) dX3_isInRight_5 (by decide) ?_
  refine eb_isub (pc := 6) dX3_isInRight_6 ?_
  refine eb_iload_n (pc := 7) 2 dX3_isInRight_7 rfl rfl ?_
  refine eb_isub (pc := 8) dX3_isInRight_8 ?_
  refine eb_ishr (pc := 9) dX3_isInRight_9 ?_
  refine eb_iconst (pc := 10) (v := 1) dX3_isInRight_10 (by decide) ?_
  refine eb_iand (pc := 11) dX3_isInRight_11 ?_
  refine eb_iconst (pc := 12) (v := 1) dX3_isInRight_12 (by decide) ?_
  refine eb_icmp_ne (pc := 13) (tgt := 20) dX3_isInRight_13 (by decide) ?_ ?_
  · refine eb_iconst (pc := 20) (v := 0) dX3_isInRight_20 (by decide) ?_
    exact eb_bret (pc := 21) (b := false) dX3_isInRight_21 (by decide) (by decide)
  · refine eb_iconst (pc := 16) (v := 1) dX3_isInRight_16 (by decide) ?_
    refine eb_goto (pc := 17) (tgt := 21) dX3_isInRight_17 (by decide) ?_
    exact eb_bret (pc := 21) (b := true) dX3_isInRight_21 (by decide) (by decide)

def f_X3_splitOff_L8 (n : Nat) (v0 : Nat) (v1 : Int32) (v2 : Int32) (K : Int32 → Int32 → eb_S → Option (Int32 × eb_S)) : Nat → Int32 → Int32 → Int32 → eb_S → Option (Int32 × eb_S)
  | 0, _, _, _, _ => none
  | m + 1, v3, v4, v5, s => eb_gI s [3] v0 1 fun x1 => if x1 ≤ v5 then (K v3 v4 s) else (eb_cl (eb_tg s v0 3 (f_X3_isInRight v0 v1 v5 s)) fun b3 s2 => eb_jn (fun (p4 : Int32) (p5 : Int32) (p6 : Int32) (s7 : eb_S) => f_X3_splitOff_L8 n v0 v1 v2 K m p4 p5 (p6 + 1) s7) fun j8 => if (eb_b b3) = 0 then (eb_cl (eb_tg s2 v0 3 (f_X3_thingLoad v0 v5 v2 s2)) fun x10 s9 => j8 (v3 + x10) v4 v5 s9) else (eb_cl (eb_tg s2 v0 3 (f_X3_thingLoad v0 v5 v2 s2)) fun x12 s11 => j8 v3 (v4 + x12) v5 s11))
def f_X3_splitOff (n : Nat) (v0 : Nat) (v1 : Int32) (v2 : Int32) (s : eb_S) : Option (Int32 × eb_S) := f_X3_splitOff_L8 n v0 v1 v2 (fun (w13 : Int32) (w14 : Int32) (s15 : eb_S) => eb_cl (eb_tg s15 v0 3 (f_X3_offBetween v0 w13 w14 s15)) fun x17 s16 => some (x17, s16)) n 0 0 0 s
set_option maxRecDepth 100000 in
theorem gl_X3_splitOff_L8 {G : eb_G} (hG : eb_ok G) {n : Nat} {v0 : Nat} {v1 : Int32} {v2 : Int32} {K : Int32 → Int32 → eb_S → Option (Int32 × eb_S)} (hK : ∀ (v3 : Int32) (v4 : Int32) (s : eb_S), eb_go G yX3_splitOff cX3_splitOff 6 (some .int) (2) 0 0 .ireturn (fun r : Int32 => [.int r]) 58 [(0, .ref v0), (3, .int v3), (4, .int v4)] [] s 0 0 (K v3 v4 s)) : ∀ (m : Nat) (v3 : Int32) (v4 : Int32) (v5 : Int32) (s : eb_S), eb_go G yX3_splitOff cX3_splitOff 6 (some .int) (2) 0 0 .ireturn (fun r : Int32 => [.int r]) 8 [(0, .ref v0), (1, .int v1), (2, .int v2), (3, .int v3), (4, .int v4), (5, .int v5)] [] s 0 0 (f_X3_splitOff_L8 n v0 v1 v2 K m v3 v4 v5 s) := by
  intro m
  induction m with
  | zero => intro v3 v4 v5 s; exact eb_none
  | succ m ih =>
    intro v3 v4 v5 s
    rw [f_X3_splitOff_L8.eq_2]
    refine eb_iload (pc := 8) 5 dX3_splitOff_8 rfl ?_
    refine eb_aload_n (pc := 10) 0 dX3_splitOff_10 rfl rfl ?_
    refine eb_getI (pc := 11) ef_RX3_15 dX3_splitOff_11 (fun x1 => ?_)
    refine eb_icmp_ge (pc := 14) (tgt := 58) dX3_splitOff_14 (by decide) ?_ ?_
    · refine eb_sub [0, 3, 4] rfl ?_
      exact hK _ _ _
    · refine eb_aload_n (pc := 17) 0 dX3_splitOff_17 rfl rfl ?_
      refine eb_iload_n (pc := 18) 1 dX3_splitOff_18 rfl rfl ?_
      refine eb_iload (pc := 19) 5 dX3_splitOff_19 rfl ?_
      refine eb_callb (pc := 21) (eb_runV (pc := 21) (As := [.int v1, .int v5]) (rest := []) (ci := 3) (q0 := (RX3, TX3, 20)) (q := (RX3, TX3, 20)) ew_115 ew_116 ew_117 ew_68 rfl rfl ed_X3_isInRight (ct_X3_isInRight hG _ _ _ _) rfl ew_118 ⟨by decide, by decide⟩ (by decide) (by decide) (Nat.le_of_ble_eq_true rfl) rfl dX3_splitOff_21) (fun b3 s2 => ?_)
      refine eb_join (fun j8 : Int32 → Int32 → Int32 → eb_S → Option (Int32 × eb_S) => ∀ (p4 : Int32) (p5 : Int32) (p6 : Int32) (s7 : eb_S), eb_go G yX3_splitOff cX3_splitOff 6 (some .int) (2) 0 0 .ireturn (fun r : Int32 => [.int r]) 52 [(0, .ref v0), (1, .int v1), (2, .int v2), (3, .int p4), (4, .int p5), (5, .int p6)] [] s7 0 0 (j8 p4 p5 p6 s7)) ?_ (fun j8 hj8 => ?_)
      · intro p4 p5 p6 s7
        refine eb_iinc (pc := 52) (v := p6 + 1) (L' := [(5, .int (p6 + 1)), (0, .ref v0), (1, .int v1), (2, .int v2), (3, .int p4), (4, .int p5)]) 5 dX3_splitOff_52 rfl rfl (by decide) rfl ?_
        refine eb_goto (pc := 55) (tgt := 8) dX3_splitOff_55 (by decide) ?_
        refine eb_sub [1, 2, 3, 4, 5, 0] rfl ?_
        exact ih _ _ _ _
      refine eb_if_eq (pc := 24) (tgt := 42) dX3_splitOff_24 (by decide) ?_ ?_
      · refine eb_iload_n (pc := 42) 3 dX3_splitOff_42 rfl rfl ?_
        refine eb_aload_n (pc := 43) 0 dX3_splitOff_43 rfl rfl ?_
        refine eb_iload (pc := 44) 5 dX3_splitOff_44 rfl ?_
        refine eb_iload_n (pc := 46) 2 dX3_splitOff_46 rfl rfl ?_
        refine eb_calli (pc := 47) (eb_runV (pc := 47) (As := [.int v5, .int v2]) (rest := [.int v3]) (ci := 3) (q0 := (RX3, TX3, 20)) (q := (RX3, TX3, 20)) ew_72 ew_73 ew_74 ew_68 rfl rfl ed_X3_thingLoad (ct_X3_thingLoad hG _ _ _ _) rfl ew_75 ⟨by decide, by decide⟩ (by decide) (by decide) (Nat.le_of_ble_eq_true rfl) rfl dX3_splitOff_47) (fun x10 s9 => ?_)
        refine eb_iadd (pc := 50) dX3_splitOff_50 ?_
        refine eb_istore_n (pc := 51) (L' := [(3, .int (v3 + x10)), (0, .ref v0), (1, .int v1), (2, .int v2), (4, .int v4), (5, .int v5)]) dX3_splitOff_51 rfl (by decide) rfl ?_
        refine eb_sub [1, 2, 3, 0, 4, 5] rfl ?_
        exact hj8 _ _ _ _
      · refine eb_iload (pc := 27) 4 dX3_splitOff_27 rfl ?_
        refine eb_aload_n (pc := 29) 0 dX3_splitOff_29 rfl rfl ?_
        refine eb_iload (pc := 30) 5 dX3_splitOff_30 rfl ?_
        refine eb_iload_n (pc := 32) 2 dX3_splitOff_32 rfl rfl ?_
        refine eb_calli (pc := 33) (eb_runV (pc := 33) (As := [.int v5, .int v2]) (rest := [.int v4]) (ci := 3) (q0 := (RX3, TX3, 20)) (q := (RX3, TX3, 20)) ew_72 ew_73 ew_74 ew_68 rfl rfl ed_X3_thingLoad (ct_X3_thingLoad hG _ _ _ _) rfl ew_75 ⟨by decide, by decide⟩ (by decide) (by decide) (Nat.le_of_ble_eq_true rfl) rfl dX3_splitOff_33) (fun x12 s11 => ?_)
        refine eb_iadd (pc := 36) dX3_splitOff_36 ?_
        refine eb_istore (pc := 37) (L' := [(4, .int (v4 + x12)), (0, .ref v0), (1, .int v1), (2, .int v2), (3, .int v3), (5, .int v5)]) dX3_splitOff_37 (by decide) rfl ?_
        refine eb_goto (pc := 39) (tgt := 52) dX3_splitOff_39 (by decide) ?_
        refine eb_sub [1, 2, 3, 4, 0, 5] rfl ?_
        exact hj8 _ _ _ _
set_option maxRecDepth 100000 in
theorem ct_X3_splitOff {G : eb_G} (hG : eb_ok G) (n : Nat) (v0 : Nat) (v1 : Int32) (v2 : Int32) (s : eb_S) : eb_ct G yX3_splitOff cX3_splitOff 6 (some .int) 2 0 0 eb_ei [.ref v0, .int v1, .int v2] s (f_X3_splitOff n v0 v1 v2 s) := by
  refine eb_ct_i (by decide) (Nat.le_of_ble_eq_true rfl) (fun v hv => by simp at hv; rcases hv with rfl | rfl | rfl <;> simp [Value.category]) ?_
  show eb_go G yX3_splitOff cX3_splitOff 6 (some .int) (2) 0 0 .ireturn (fun r : Int32 => [.int r]) 0 [(0, .ref v0), (1, .int v1), (2, .int v2)] [] s 0 0 _
  unfold f_X3_splitOff
  refine eb_iconst (pc := 0) (v := 0) dX3_splitOff_0 (by decide) ?_
  refine eb_istore_n (pc := 1) (L' := [(3, .int 0), (0, .ref v0), (1, .int v1), (2, .int v2)]) dX3_splitOff_1 rfl (by decide) rfl ?_
  refine eb_iconst (pc := 2) (v := 0) dX3_splitOff_2 (by decide) ?_
  refine eb_istore (pc := 3) (L' := [(4, .int 0), (3, .int 0), (0, .ref v0), (1, .int v1), (2, .int v2)]) dX3_splitOff_3 (by decide) rfl ?_
  refine eb_iconst (pc := 5) (v := 0) dX3_splitOff_5 (by decide) ?_
  refine eb_istore (pc := 6) (L' := [(5, .int 0), (4, .int 0), (3, .int 0), (0, .ref v0), (1, .int v1), (2, .int v2)]) dX3_splitOff_6 (by decide) rfl ?_
  refine eb_sub [3, 4, 5, 2, 1, 0] rfl ?_
  refine gl_X3_splitOff_L8 hG (fun w13 w14 s15 => ?_) n _ _ _ _
  refine eb_aload_n (pc := 58) 0 dX3_splitOff_58 rfl rfl ?_
  refine eb_iload_n (pc := 59) 1 dX3_splitOff_59 rfl rfl ?_
  refine eb_iload (pc := 60) 2 dX3_splitOff_60 rfl ?_
  refine eb_calli (pc := 62) (eb_runV (pc := 62) (As := [.int w13, .int w14]) (rest := []) (ci := 3) (q0 := (RX3, TX3, 20)) (q := (RX3, TX3, 20)) ew_84 ew_85 ew_86 ew_68 rfl rfl ed_X3_offBetween (ct_X3_offBetween hG _ _ _ _) rfl ew_87 ⟨by decide, by decide⟩ (by decide) (by decide) (Nat.le_of_ble_eq_true rfl) rfl dX3_splitOff_62) (fun x17 s16 => ?_)
  exact eb_iret (pc := 65) dX3_splitOff_65 (by decide) (by decide)

def f_X3_evenestSplit_L15 (n : Nat) (v0 : Nat) (v1 : Int32)  : Nat → Int32 → Int32 → Int32 → eb_S → Option (Int32 × eb_S)
  | 0, _, _, _, _ => none
  | m + 1, v2, v3, v4, s => eb_gI s [3] v0 1 fun x3 => if ((1 : Int32) <<< (x3 &&& 31)) ≤ v4 then (some (v2, s)) else (if v3 ≤ 0 then (some (v2, s)) else (eb_cl (eb_tg s v0 3 (f_X3_splitOff n v0 v4 v1 s)) fun x5 s4 => eb_jn (fun (p6 : Int32) (p7 : Int32) (p8 : Int32) (s9 : eb_S) => f_X3_evenestSplit_L15 n v0 v1 m p6 p7 (p8 + 1) s9) fun j10 => if v3 ≤ (if 0 ≤ x5 then x5 else 0 - x5) then (j10 v2 v3 v4 s4) else (j10 v4 (if 0 ≤ x5 then x5 else 0 - x5) v4 s4)))
def f_X3_evenestSplit (n : Nat) (v0 : Nat) (v1 : Int32) (s : eb_S) : Option (Int32 × eb_S) := eb_cl (eb_tg s v0 3 (f_X3_splitOff n v0 0 v1 s)) fun x2 s1 => f_X3_evenestSplit_L15 n v0 v1  n 0 (if 0 ≤ x2 then x2 else 0 - x2) 1 s1
set_option maxRecDepth 100000 in
theorem gl_X3_evenestSplit_L15 {G : eb_G} (hG : eb_ok G) {n : Nat} {v0 : Nat} {v1 : Int32}   : ∀ (m : Nat) (v2 : Int32) (v3 : Int32) (v4 : Int32) (s : eb_S), eb_go G yX3_evenestSplit cX3_evenestSplit 6 (some .int) (3) 0 0 .ireturn (fun r : Int32 => [.int r]) 15 [(0, .ref v0), (1, .int v1), (2, .int v2), (3, .int v3), (4, .int v4)] [] s 0 0 (f_X3_evenestSplit_L15 n v0 v1 m v2 v3 v4 s) := by
  intro m
  induction m with
  | zero => intro v2 v3 v4 s; exact eb_none
  | succ m ih =>
    intro v2 v3 v4 s
    rw [f_X3_evenestSplit_L15.eq_2]
    refine eb_iload (pc := 15) 4 dX3_evenestSplit_15 rfl ?_
    refine eb_iconst (pc := 17) (v := 1) dX3_evenestSplit_17 (by decide) ?_
    refine eb_aload_n (pc := 18) 0 dX3_evenestSplit_18 rfl rfl ?_
    refine eb_getI (pc := 19) ef_RX3_15 dX3_evenestSplit_19 (fun x3 => ?_)
    refine eb_ishl (pc := 22) dX3_evenestSplit_22 ?_
    refine eb_icmp_ge (pc := 23) (tgt := 60) dX3_evenestSplit_23 (by decide) ?_ ?_
    · refine eb_iload_n (pc := 60) 2 dX3_evenestSplit_60 rfl rfl ?_
      exact eb_iret (pc := 61) dX3_evenestSplit_61 (by decide) (by decide)
    · refine eb_iload_n (pc := 26) 3 dX3_evenestSplit_26 rfl rfl ?_
      refine eb_if_le (pc := 27) (tgt := 60) dX3_evenestSplit_27 (by decide) ?_ ?_
      · refine eb_iload_n (pc := 60) 2 dX3_evenestSplit_60 rfl rfl ?_
        exact eb_iret (pc := 61) dX3_evenestSplit_61 (by decide) (by decide)
      · refine eb_aload_n (pc := 30) 0 dX3_evenestSplit_30 rfl rfl ?_
        refine eb_iload (pc := 31) 4 dX3_evenestSplit_31 rfl ?_
        refine eb_iload_n (pc := 33) 1 dX3_evenestSplit_33 rfl rfl ?_
        refine eb_calli (pc := 34) (eb_runV (pc := 34) (As := [.int v4, .int v1]) (rest := []) (ci := 3) (q0 := (RX3, TX3, 20)) (q := (RX3, TX3, 20)) ew_119 ew_120 ew_121 ew_68 rfl rfl ed_X3_splitOff (ct_X3_splitOff hG n _ _ _ _) rfl ew_122 ⟨by decide, by decide⟩ (by decide) (by decide) (Nat.le_of_ble_eq_true rfl) rfl dX3_evenestSplit_34) (fun x5 s4 => ?_)
        refine eb_mabs (pc := 37) ew_92 ew_93 ew_17 ew_94 (by decide) (Nat.le_of_ble_eq_true rfl) (by decide) (by decide) dX3_evenestSplit_37 ?_
        refine eb_istore (pc := 40) (L' := [(5, .int (if 0 ≤ x5 then x5 else 0 - x5)), (0, .ref v0), (1, .int v1), (2, .int v2), (3, .int v3), (4, .int v4)]) dX3_evenestSplit_40 (by decide) rfl ?_
        refine eb_iload (pc := 42) 0 dX3_evenestSplit_42 rfl ?_
        refine eb_iload_n (pc := 44) 4 dX3_evenestSplit_44 rfl rfl ?_
        refine eb_join (fun j10 : Int32 → Int32 → Int32 → eb_S → Option (Int32 × eb_S) => ∀ (p6 : Int32) (p7 : Int32) (p8 : Int32) (s9 : eb_S), eb_go G yX3_evenestSplit cX3_evenestSplit 6 (some .int) (3) 0 0 .ireturn (fun r : Int32 => [.int r]) 54 [(0, .ref v0), (1, .int v1), (2, .int p6), (3, .int p7), (4, .int p8)] [] s9 0 0 (j10 p6 p7 p8 s9)) ?_ (fun j10 hj10 => ?_)
        · intro p6 p7 p8 s9
          refine eb_iinc (pc := 54) (v := p8 + 1) (L' := [(4, .int (p8 + 1)), (0, .ref v0), (1, .int v1), (2, .int p6), (3, .int p7)]) 4 dX3_evenestSplit_54 rfl rfl (by decide) rfl ?_
          refine eb_goto (pc := 57) (tgt := 15) dX3_evenestSplit_57 (by decide) ?_
          refine eb_sub [1, 2, 3, 4, 0] rfl ?_
          exact ih _ _ _ _
        refine eb_icmp_ge (pc := 45) (tgt := 54) dX3_evenestSplit_45 (by decide) ?_ ?_
        · refine eb_sub [1, 2, 3, 4, 5] rfl ?_
          exact hj10 _ _ _ _
        · refine eb_iload (pc := 48) 5 dX3_evenestSplit_48 rfl ?_
          refine eb_istore_n (pc := 50) (L' := [(2, .int v4), (5, .int (if 0 ≤ x5 then x5 else 0 - x5)), (0, .ref v0), (1, .int v1), (3, .int v3), (4, .int v4)]) dX3_evenestSplit_50 rfl (by decide) rfl ?_
          refine eb_iload (pc := 51) 1 dX3_evenestSplit_51 rfl ?_
          refine eb_istore_n (pc := 53) (L' := [(3, .int (if 0 ≤ x5 then x5 else 0 - x5)), (2, .int v4), (5, .int (if 0 ≤ x5 then x5 else 0 - x5)), (0, .ref v0), (1, .int v1), (4, .int v4)]) dX3_evenestSplit_53 rfl (by decide) rfl ?_
          refine eb_sub [3, 4, 1, 0, 5] rfl ?_
          exact hj10 _ _ _ _
set_option maxRecDepth 100000 in
theorem ct_X3_evenestSplit {G : eb_G} (hG : eb_ok G) (n : Nat) (v0 : Nat) (v1 : Int32) (s : eb_S) : eb_ct G yX3_evenestSplit cX3_evenestSplit 6 (some .int) 3 0 0 eb_ei [.ref v0, .int v1] s (f_X3_evenestSplit n v0 v1 s) := by
  refine eb_ct_i (by decide) (Nat.le_of_ble_eq_true rfl) (fun v hv => by simp at hv; rcases hv with rfl | rfl <;> simp [Value.category]) ?_
  show eb_go G yX3_evenestSplit cX3_evenestSplit 6 (some .int) (3) 0 0 .ireturn (fun r : Int32 => [.int r]) 0 [(0, .ref v0), (1, .int v1)] [] s 0 0 _
  unfold f_X3_evenestSplit
  refine eb_iconst (pc := 0) (v := 0) dX3_evenestSplit_0 (by decide) ?_
  refine eb_istore_n (pc := 1) (L' := [(2, .int 0), (0, .ref v0), (1, .int v1)]) dX3_evenestSplit_1 rfl (by decide) rfl ?_
  refine eb_aload_n (pc := 2) 1 dX3_evenestSplit_2 rfl rfl ?_
  refine eb_iconst (pc := 3) (v := 0) dX3_evenestSplit_3 (by decide) ?_
  refine eb_iload_n (pc := 4) 2 dX3_evenestSplit_4 rfl rfl ?_
  refine eb_calli (pc := 5) (eb_runV (pc := 5) (As := [.int 0, .int v1]) (rest := []) (ci := 3) (q0 := (RX3, TX3, 20)) (q := (RX3, TX3, 20)) ew_119 ew_120 ew_121 ew_68 rfl rfl ed_X3_splitOff (ct_X3_splitOff hG n _ _ _ _) rfl ew_122 ⟨by decide, by decide⟩ (by decide) (by decide) (Nat.le_of_ble_eq_true rfl) rfl dX3_evenestSplit_5) (fun x2 s1 => ?_)
  refine eb_mabs (pc := 8) ew_92 ew_93 ew_17 ew_94 (by decide) (Nat.le_of_ble_eq_true rfl) (by decide) (by decide) dX3_evenestSplit_8 ?_
  refine eb_istore_n (pc := 11) (L' := [(3, .int (if 0 ≤ x2 then x2 else 0 - x2)), (2, .int 0), (0, .ref v0), (1, .int v1)]) dX3_evenestSplit_11 rfl (by decide) rfl ?_
  refine eb_iconst (pc := 12) (v := 1) dX3_evenestSplit_12 (by decide) ?_
  refine eb_istore (pc := 13) (L' := [(4, .int 1), (3, .int (if 0 ≤ x2 then x2 else 0 - x2)), (2, .int 0), (0, .ref v0), (1, .int v1)]) dX3_evenestSplit_13 (by decide) rfl ?_
  refine eb_sub [3, 4, 2, 1, 0] rfl ?_
  refine gl_X3_evenestSplit_L15 hG  n _ _ _ _

def f_X3_hangs_L2 (n : Nat) (v0 : Nat) (v1 : Int32)  : Nat → Int32 → eb_S → Option (Bool × eb_S)
  | 0, _, _ => none
  | m + 1, v2, s => eb_gI s [3] v0 17 fun x1 => if x1 ≤ v2 then (some (false, s)) else (eb_gR s [3] v0 18 fun r2 => eb_ai s r2 v2 fun x3 => if x3 = v1 then (some (true, s)) else (eb_gR s [3] v0 19 fun r4 => eb_ai s r4 v2 fun x5 => if x5 = v1 then (some (true, s)) else (f_X3_hangs_L2 n v0 v1 m (v2 + 1) s)))
def f_X3_hangs (n : Nat) (v0 : Nat) (v1 : Int32) (s : eb_S) : Option (Bool × eb_S) := f_X3_hangs_L2 n v0 v1  n 0 s
set_option maxRecDepth 100000 in
theorem gl_X3_hangs_L2 {G : eb_G} (hG : eb_ok G) {n : Nat} {v0 : Nat} {v1 : Int32}   : ∀ (m : Nat) (v2 : Int32) (s : eb_S), eb_go G yX3_hangs cX3_hangs 3 (some .boolean) (1) 0 0 .ireturn (fun r : Bool => [.int (eb_b r)]) 2 [(0, .ref v0), (1, .int v1), (2, .int v2)] [] s 0 0 (f_X3_hangs_L2 n v0 v1 m v2 s) := by
  intro m
  induction m with
  | zero => intro v2 s; exact eb_none
  | succ m ih =>
    intro v2 s
    rw [f_X3_hangs_L2.eq_2]
    refine eb_iload_n (pc := 2) 2 dX3_hangs_2 rfl rfl ?_
    refine eb_aload_n (pc := 3) 0 dX3_hangs_3 rfl rfl ?_
    refine eb_getI (pc := 4) ef_RX3_64 dX3_hangs_4 (fun x1 => ?_)
    refine eb_icmp_ge (pc := 7) (tgt := 38) dX3_hangs_7 (by decide) ?_ ?_
    · refine eb_iconst (pc := 38) (v := 0) dX3_hangs_38 (by decide) ?_
      exact eb_bret (pc := 39) (b := false) dX3_hangs_39 (by decide) (by decide)
    · refine eb_aload_n (pc := 10) 0 dX3_hangs_10 rfl rfl ?_
      refine eb_getR (pc := 11) ef_RX3_67 dX3_hangs_11 (fun r2 => ?_)
      refine eb_iload_n (pc := 14) 2 dX3_hangs_14 rfl rfl ?_
      refine eb_iaload (pc := 15) dX3_hangs_15 (fun x3 => ?_)
      refine eb_iload_n (pc := 16) 1 dX3_hangs_16 rfl rfl ?_
      refine eb_icmp_eq (pc := 17) (tgt := 30) dX3_hangs_17 (by decide) ?_ ?_
      · refine eb_iconst (pc := 30) (v := 1) dX3_hangs_30 (by decide) ?_
        exact eb_bret (pc := 31) (b := true) dX3_hangs_31 (by decide) (by decide)
      · refine eb_aload_n (pc := 20) 0 dX3_hangs_20 rfl rfl ?_
        refine eb_getR (pc := 21) ef_RX3_70 dX3_hangs_21 (fun r4 => ?_)
        refine eb_iload_n (pc := 24) 2 dX3_hangs_24 rfl rfl ?_
        refine eb_iaload (pc := 25) dX3_hangs_25 (fun x5 => ?_)
        refine eb_iload_n (pc := 26) 1 dX3_hangs_26 rfl rfl ?_
        refine eb_icmp_ne (pc := 27) (tgt := 32) dX3_hangs_27 (by decide) ?_ ?_
        · refine eb_iinc (pc := 32) (v := v2 + 1) (L' := [(2, .int (v2 + 1)), (0, .ref v0), (1, .int v1)]) 2 dX3_hangs_32 rfl rfl (by decide) rfl ?_
          refine eb_goto (pc := 35) (tgt := 2) dX3_hangs_35 (by decide) ?_
          refine eb_sub [1, 2, 0] rfl ?_
          exact ih _ _
        · refine eb_iconst (pc := 30) (v := 1) dX3_hangs_30 (by decide) ?_
          exact eb_bret (pc := 31) (b := true) dX3_hangs_31 (by decide) (by decide)
set_option maxRecDepth 100000 in
theorem ct_X3_hangs {G : eb_G} (hG : eb_ok G) (n : Nat) (v0 : Nat) (v1 : Int32) (s : eb_S) : eb_ct G yX3_hangs cX3_hangs 3 (some .boolean) 1 0 0 eb_eb [.ref v0, .int v1] s (f_X3_hangs n v0 v1 s) := by
  refine eb_ct_b (by decide) (Nat.le_of_ble_eq_true rfl) (fun v hv => by simp at hv; rcases hv with rfl | rfl <;> simp [Value.category]) ?_
  show eb_go G yX3_hangs cX3_hangs 3 (some .boolean) (1) 0 0 .ireturn (fun r : Bool => [.int (eb_b r)]) 0 [(0, .ref v0), (1, .int v1)] [] s 0 0 _
  unfold f_X3_hangs
  refine eb_iconst (pc := 0) (v := 0) dX3_hangs_0 (by decide) ?_
  refine eb_istore_n (pc := 1) (L' := [(2, .int 0), (0, .ref v0), (1, .int v1)]) dX3_hangs_1 rfl (by decide) rfl ?_
  refine eb_sub [1, 2, 0] rfl ?_
  refine gl_X3_hangs_L2 hG  n _ _

def f_X3_weightOf_L4 (n : Nat) (v0 : Nat) (v1 : Int32)  : Nat → Int32 → Int32 → eb_S → Option (Int32 × eb_S)
  | 0, _, _, _ => none
  | m + 1, v2, v3, s => eb_gI s [3] v0 1 fun x1 => if x1 ≤ v3 then (some (v2, s)) else (eb_jn (fun (y2 : Int32) (s3 : eb_S) => f_X3_weightOf_L4 n v0 v1 m (v2 + y2) (v3 + 1) s3) fun j4 => if ((v1 >>> (v3 &&& 31)) &&& 1) = 1 then (eb_gR s [3] v0 3 fun r5 => eb_ai s r5 v3 fun x6 => j4 x6 s) else (j4 0 s))
def f_X3_weightOf (n : Nat) (v0 : Nat) (v1 : Int32) (s : eb_S) : Option (Int32 × eb_S) := f_X3_weightOf_L4 n v0 v1  n 0 0 s
set_option maxRecDepth 100000 in
theorem gl_X3_weightOf_L4 {G : eb_G} (hG : eb_ok G) {n : Nat} {v0 : Nat} {v1 : Int32}   : ∀ (m : Nat) (v2 : Int32) (v3 : Int32) (s : eb_S), eb_go G yX3_weightOf cX3_weightOf 4 (some .int) (1) 0 0 .ireturn (fun r : Int32 => [.int r]) 4 [(0, .ref v0), (1, .int v1), (2, .int v2), (3, .int v3)] [] s 0 0 (f_X3_weightOf_L4 n v0 v1 m v2 v3 s) := by
  intro m
  induction m with
  | zero => intro v2 v3 s; exact eb_none
  | succ m ih =>
    intro v2 v3 s
    rw [f_X3_weightOf_L4.eq_2]
    refine eb_iload_n (pc := 4) 3 dX3_weightOf_4 rfl rfl ?_
    refine eb_aload_n (pc := 5) 0 dX3_weightOf_5 rfl rfl ?_
    refine eb_getI (pc := 6) ef_RX3_15 dX3_weightOf_6 (fun x1 => ?_)
    refine eb_icmp_ge (pc := 9) (tgt := 40) dX3_weightOf_9 (by decide) ?_ ?_
    · refine eb_iload_n (pc := 40) 2 dX3_weightOf_40 rfl rfl ?_
      exact eb_iret (pc := 41) dX3_weightOf_41 (by decide) (by decide)
    · refine eb_iload_n (pc := 12) 2 dX3_weightOf_12 rfl rfl ?_
      refine eb_iload_n (pc := 13) 1 dX3_weightOf_13 rfl rfl ?_
      refine eb_iload_n (pc := 14) 3 dX3_weightOf_14 rfl rfl ?_
      refine eb_ishr (pc := 15) dX3_weightOf_15 ?_
      refine eb_iconst (pc := 16) (v := 1) dX3_weightOf_16 (by decide) ?_
      refine eb_iand (pc := 17) dX3_weightOf_17 ?_
      refine eb_iconst (pc := 18) (v := 1) dX3_weightOf_18 (by decide) ?_
      refine eb_join (fun j4 : Int32 → eb_S → Option (Int32 × eb_S) => ∀ (y2 : Int32) (s3 : eb_S), eb_go G yX3_weightOf cX3_weightOf 4 (some .int) (1) 0 0 .ireturn (fun r : Int32 => [.int r]) 32 [(0, .ref v0), (1, .int v1), (3, .int v3)] [.int y2, .int v2] s3 0 0 (j4 y2 s3)) ?_ (fun j4 hj4 => ?_)
      · intro y2 s3
        refine eb_iadd (pc := 32) dX3_weightOf_32 ?_
        refine eb_istore_n (pc := 33) (L' := [(2, .int (v2 + y2)), (0, .ref v0), (1, .int v1), (3, .int v3)]) dX3_weightOf_33 rfl (by decide) rfl ?_
        refine eb_iinc (pc := 34) (v := v3 + 1) (L' := [(3, .int (v3 + 1)), (2, .int (v2 + y2)), (0, .ref v0), (1, .int v1)]) 3 dX3_weightOf_34 rfl rfl (by decide) rfl ?_
        refine eb_goto (pc := 37) (tgt := 4) dX3_weightOf_37 (by decide) ?_
        refine eb_sub [2, 3, 1, 0] rfl ?_
        exact ih _ _ _
      refine eb_icmp_ne (pc := 19) (tgt := 31) dX3_weightOf_19 (by decide) ?_ ?_
      · refine eb_iconst (pc := 31) (v := 0) dX3_weightOf_31 (by decide) ?_
        refine eb_sub [0, 1, 3] rfl ?_
        exact hj4 _ _
      · refine eb_aload_n (pc := 22) 0 dX3_weightOf_22 rfl rfl ?_
        refine eb_getR (pc := 23) ef_RX3_22 dX3_weightOf_23 (fun r5 => ?_)
        refine eb_iload_n (pc := 26) 3 dX3_weightOf_26 rfl rfl ?_
        refine eb_iaload (pc := 27) dX3_weightOf_27 (fun x6 => ?_)
        refine eb_goto (pc := 28) (tgt := 32) dX3_weightOf_28 (by decide) ?_
        refine eb_sub [0, 1, 3] rfl ?_
        exact hj4 _ _
set_option maxRecDepth 100000 in
theorem ct_X3_weightOf {G : eb_G} (hG : eb_ok G) (n : Nat) (v0 : Nat) (v1 : Int32) (s : eb_S) : eb_ct G yX3_weightOf cX3_weightOf 4 (some .int) 1 0 0 eb_ei [.ref v0, .int v1] s (f_X3_weightOf n v0 v1 s) := by
  refine eb_ct_i (by decide) (Nat.le_of_ble_eq_true rfl) (fun v hv => by simp at hv; rcases hv with rfl | rfl <;> simp [Value.category]) ?_
  show eb_go G yX3_weightOf cX3_weightOf 4 (some .int) (1) 0 0 .ireturn (fun r : Int32 => [.int r]) 0 [(0, .ref v0), (1, .int v1)] [] s 0 0 _
  unfold f_X3_weightOf
  refine eb_iconst (pc := 0) (v := 0) dX3_weightOf_0 (by decide) ?_
  refine eb_istore_n (pc := 1) (L' := [(2, .int 0), (0, .ref v0), (1, .int v1)]) dX3_weightOf_1 rfl (by decide) rfl ?_
  refine eb_iconst (pc := 2) (v := 0) dX3_weightOf_2 (by decide) ?_
  refine eb_istore_n (pc := 3) (L' := [(3, .int 0), (2, .int 0), (0, .ref v0), (1, .int v1)]) dX3_weightOf_3 rfl (by decide) rfl ?_
  refine eb_sub [2, 3, 1, 0] rfl ?_
  refine gl_X3_weightOf_L4 hG  n _ _ _

def f_X3_endWeight_L11 (n : Nat) (v0 : Nat) (K : Int32 → eb_S → Option (Int32 × eb_S)) : Nat → Int32 → Int32 → eb_S → Option (Int32 × eb_S)
  | 0, _, _, _ => none
  | m + 1, v2, v3, s => if v3 < 0 then (K v2 s) else (eb_jn (fun (p2 : Int32) (p3 : Int32) (s4 : eb_S) => f_X3_endWeight_L11 n v0 K m p2 (p3 + (-1)) s4) fun j5 => if ((v2 >>> (((10 : Int32) + v3) &&& 31)) &&& 1) = 1 then (eb_gR s [3] v0 18 fun r6 => eb_ai s r6 v3 fun x7 => eb_gR s [3] v0 19 fun r8 => eb_ai s r8 v3 fun x9 => j5 (v2 ||| (((1 : Int32) <<< (x7 &&& 31)) ||| ((1 : Int32) <<< (x9 &&& 31)))) v3 s) else (j5 v2 v3 s))
def f_X3_endWeight (n : Nat) (v0 : Nat) (v1 : Int32) (s : eb_S) : Option (Int32 × eb_S) := eb_gI s [3] v0 17 fun x1 => f_X3_endWeight_L11 n v0 (fun (w10 : Int32) (s11 : eb_S) => eb_cl (eb_tg s11 v0 3 (f_X3_weightOf n v0 w10 s11)) fun x13 s12 => some (x13, s12)) n ((1 : Int32) <<< (v1 &&& 31)) (x1 - 1) s
set_option maxRecDepth 100000 in
theorem gl_X3_endWeight_L11 {G : eb_G} (hG : eb_ok G) {n : Nat} {v0 : Nat} {K : Int32 → eb_S → Option (Int32 × eb_S)} (hK : ∀ (v2 : Int32) (s : eb_S), eb_go G yX3_endWeight cX3_endWeight 4 (some .int) (2) 0 0 .ireturn (fun r : Int32 => [.int r]) 53 [(0, .ref v0), (2, .int v2)] [] s 0 0 (K v2 s)) : ∀ (m : Nat) (v2 : Int32) (v3 : Int32) (s : eb_S), eb_go G yX3_endWeight cX3_endWeight 4 (some .int) (2) 0 0 .ireturn (fun r : Int32 => [.int r]) 11 [(0, .ref v0), (2, .int v2), (3, .int v3)] [] s 0 0 (f_X3_endWeight_L11 n v0 K m v2 v3 s) := by
  intro m
  induction m with
  | zero => intro v2 v3 s; exact eb_none
  | succ m ih =>
    intro v2 v3 s
    rw [f_X3_endWeight_L11.eq_2]
    refine eb_iload_n (pc := 11) 2 dX3_endWeight_11 rfl rfl ?_
    refine eb_if_lt (pc := 12) (tgt := 53) dX3_endWeight_12 (by decide) ?_ ?_
    · refine eb_sub [0, 1] rfl ?_
      exact hK _ _
    · refine eb_iload_n (pc := 15) 1 dX3_endWeight_15 rfl rfl ?_
      refine eb_bipush (pc := 16) (v := 10) dX3_endWeight_16 (by decide) ?_
      refine eb_iload_n (pc := 18) 2 dX3_endWeight_18 rfl rfl ?_
      refine eb_iadd (pc := 19) dX3_endWeight_19 ?_
      refine eb_ishr (pc := 20) dX3_endWeight_20 ?_
      refine eb_iconst (pc := 21) (v := 1) dX3_endWeight_21 (by decide) ?_
      refine eb_iand (pc := 22) dX3_endWeight_22 ?_
      refine eb_iconst (pc := 23) (v := 1) dX3_endWeight_23 (by decide) ?_
      refine eb_join (fun j5 : Int32 → Int32 → eb_S → Option (Int32 × eb_S) => ∀ (p2 : Int32) (p3 : Int32) (s4 : eb_S), eb_go G yX3_endWeight cX3_endWeight 4 (some .int) (2) 0 0 .ireturn (fun r : Int32 => [.int r]) 47 [(0, .ref v0), (2, .int p2), (3, .int p3)] [] s4 0 0 (j5 p2 p3 s4)) ?_ (fun j5 hj5 => ?_)
      · intro p2 p3 s4
        refine eb_iinc (pc := 47) (v := p3 + (-1)) (L' := [(3, .int (p3 + (-1))), (0, .ref v0), (2, .int p2)]) 2 dX3_endWeight_47 rfl rfl (by decide) rfl ?_
        refine eb_goto (pc := 50) (tgt := 11) dX3_endWeight_50 (by decide) ?_
        refine eb_sub [1, 2, 0] rfl ?_
        exact ih _ _ _
      refine eb_icmp_ne (pc := 24) (tgt := 47) dX3_endWeight_24 (by decide) ?_ ?_
      · exact hj5 _ _ _
      · refine eb_iload_n (pc := 27) 1 dX3_endWeight_27 rfl rfl ?_
        refine eb_iconst (pc := 28) (v := 1) dX3_endWeight_28 (by decide) ?_
        refine eb_aload_n (pc := 29) 0 dX3_endWeight_29 rfl rfl ?_
        refine eb_getR (pc := 30) ef_RX3_67 dX3_endWeight_30 (fun r6 => ?_)
        refine eb_iload_n (pc := 33) 2 dX3_endWeight_33 rfl rfl ?_
        refine eb_iaload (pc := 34) dX3_endWeight_34 (fun x7 => ?_)
        refine eb_ishl (pc := 35) dX3_endWeight_35 ?_
        refine eb_iconst (pc := 36) (v := 1) dX3_endWeight_36 (by decide) ?_
        refine eb_aload_n (pc := 37) 0 dX3_endWeight_37 rfl rfl ?_
        refine eb_getR (pc := 38) ef_RX3_70 dX3_endWeight_38 (fun r8 => ?_)
        refine eb_iload_n (pc := 41) 2 dX3_endWeight_41 rfl rfl ?_
        refine eb_iaload (pc := 42) dX3_endWeight_42 (fun x9 => ?_)
        refine eb_ishl (pc := 43) dX3_endWeight_43 ?_
        refine eb_ior (pc := 44) dX3_endWeight_44 ?_
        refine eb_ior (pc := 45) dX3_endWeight_45 ?_
        refine eb_istore_n (pc := 46) (L' := [(2, .int (v2 ||| (((1 : Int32) <<< (x7 &&& 31)) ||| ((1 : Int32) <<< (x9 &&& 31))))), (0, .ref v0), (3, .int v3)]) dX3_endWeight_46 rfl (by decide) rfl ?_
        refine eb_sub [1, 0, 2] rfl ?_
        exact hj5 _ _ _
set_option maxRecDepth 100000 in
theorem ct_X3_endWeight {G : eb_G} (hG : eb_ok G) (n : Nat) (v0 : Nat) (v1 : Int32) (s : eb_S) : eb_ct G yX3_endWeight cX3_endWeight 4 (some .int) 2 0 0 eb_ei [.ref v0, .int v1] s (f_X3_endWeight n v0 v1 s) := by
  refine eb_ct_i (by decide) (Nat.le_of_ble_eq_true rfl) (fun v hv => by simp at hv; rcases hv with rfl | rfl <;> simp [Value.category]) ?_
  show eb_go G yX3_endWeight cX3_endWeight 4 (some .int) (2) 0 0 .ireturn (fun r : Int32 => [.int r]) 0 [(0, .ref v0), (1, .int v1)] [] s 0 0 _
  unfold f_X3_endWeight
  refine eb_iconst (pc := 0) (v := 1) dX3_endWeight_0 (by decide) ?_
  refine eb_iload_n (pc := 1) 1 dX3_endWeight_1 rfl rfl ?_
  refine eb_ishl (pc := 2) dX3_endWeight_2 ?_
  refine eb_istore_n (pc := 3) (L' := [(2, .int ((1 : Int32) <<< (v1 &&& 31))), (0, .ref v0), (1, .int v1)]) dX3_endWeight_3 rfl (by decide) rfl ?_
  refine eb_aload_n (pc := 4) 1 dX3_endWeight_4 rfl rfl ?_
  refine eb_getI (pc := 5) ef_RX3_64 dX3_endWeight_5 (fun x1 => ?_)
  refine eb_iconst (pc := 8) (v := 1) dX3_endWeight_8 (by decide) ?_
  refine eb_isub (pc := 9) dX3_endWeight_9 ?_
  refine eb_istore_n (pc := 10) (L' := [(3, .int (x1 - 1)), (2, .int ((1 : Int32) <<< (v1 &&& 31))), (0, .ref v0), (1, .int v1)]) dX3_endWeight_10 rfl (by decide) rfl ?_
  refine eb_sub [2, 1, 0] rfl ?_
  refine gl_X3_endWeight_L11 hG (fun w10 s11 => ?_) n _ _ _
  refine eb_aload_n (pc := 53) 0 dX3_endWeight_53 rfl rfl ?_
  refine eb_iload_n (pc := 54) 1 dX3_endWeight_54 rfl rfl ?_
  refine eb_calli (pc := 55) (eb_runV (pc := 55) (As := [.int w10]) (rest := []) (ci := 3) (q0 := (RX3, TX3, 20)) (q := (RX3, TX3, 20)) ew_123 ew_124 ew_125 ew_68 rfl rfl ed_X3_weightOf (ct_X3_weightOf hG n _ _ _) rfl ew_126 ⟨by decide, by decide⟩ (by decide) (by decide) (Nat.le_of_ble_eq_true rfl) rfl dX3_endWeight_55) (fun x13 s12 => ?_)
  exact eb_iret (pc := 58) dX3_endWeight_58 (by decide) (by decide)
