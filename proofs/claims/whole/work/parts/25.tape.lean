def f_X8_readThing (n : Nat) (v0 : Nat) (v1 : Nat) (s : eb_S) : Option (Bool × eb_S) := eb_cl (eb_tg s v0 7 (f_X8_skipBlanks n v0 s)) fun _u s1 => eb_gI s1 [7] v0 2 fun x2 => eb_gI s1 [7] v0 0 fun x3 => eb_jn (fun (y4 : Int32) (s5 : eb_S) => if 0 ≤ y4 then (eb_gI s5 [7] v0 2 fun x7 => eb_pI s5 [7] v0 2 (x7 + 1) fun s8 => eb_cl (eb_tg s8 v0 7 (f_X8_readNumber n v0 s8)) fun x10 s9 => if x10 = 0 then (some (false, s9)) else (eb_cl (eb_tg s9 v0 7 (f_X8_passes n v0 64 s9)) fun b12 s11 => eb_jn (fun (y13 : Int32) (s14 : eb_S) => if 0 ≤ y13 then (eb_cl (eb_tg s14 v1 3 (f_X3_addThing v1 y4 x10 y13 s14)) fun x17 s16 => some (true, s16)) else (some (false, s14))) fun j15 => if (eb_b b12) = 0 then (j15 5 s11) else (eb_cl (eb_tg s11 v0 7 (f_X8_readStop n v0 s11)) fun x19 s18 => j15 x19 s18))) else (some (false, s5))) fun j6 => if x3 ≤ x2 then (j6 ((-1)) s1) else (eb_gR s1 [7] v0 1 fun r20 => eb_gI s1 [7] v0 2 fun x21 => eb_ac s1 r20 x21 fun x22 => eb_cl (f_J0_indexOf_0f7a4 n x22 s1) fun x24 s23 => j6 x24 s23)
set_option maxRecDepth 100000 in
theorem ct_X8_readThing {G : eb_G} (hG : eb_ok G) (n : Nat) (v0 : Nat) (v1 : Nat) (s : eb_S) : eb_ct G yX8_readThing cX8_readThing 5 (some .boolean) 5 0 0 eb_eb [.ref v0, .ref v1] s (f_X8_readThing n v0 v1 s) := by
  refine eb_ct_b (by decide) (Nat.le_of_ble_eq_true rfl) (fun v hv => by simp at hv; rcases hv with rfl | rfl <;> simp [Value.category]) ?_
  show eb_go G yX8_readThing cX8_readThing 5 (some .boolean) (5) 0 0 .ireturn (fun r : Bool => [.int (eb_b r)]) 0 [(0, .ref v0), (1, .ref v1)] [] s 0 0 _
  unfold f_X8_readThing
  refine eb_aload_n (pc := 0) 0 dX8_readThing_0 rfl rfl ?_
  refine eb_callv (pc := 1) (eb_runV (pc := 1) (As := []) (rest := []) (ci := 7) (q0 := (RX8, TX8, 3)) (q := (RX8, TX8, 3)) ew_369 ew_370 ew_371 ew_372 rfl rfl ed_X8_skipBlanks (ct_X8_skipBlanks hG n _ _) rfl ew_373 ⟨by decide, by decide⟩ (by decide) (by decide) (Nat.le_of_ble_eq_true rfl) rfl dX8_readThing_1) (fun _u s1 => ?_)
  refine eb_aload_n (pc := 4) 0 dX8_readThing_4 rfl rfl ?_
  refine eb_getI (pc := 5) ef_RX8_19 dX8_readThing_5 (fun x2 => ?_)
  refine eb_aload_n (pc := 8) 0 dX8_readThing_8 rfl rfl ?_
  refine eb_getI (pc := 9) ef_RX8_9 dX8_readThing_9 (fun x3 => ?_)
  refine eb_join (fun j6 : Int32 → eb_S → Option (Bool × eb_S) => ∀ (y4 : Int32) (s5 : eb_S), eb_go G yX8_readThing cX8_readThing 5 (some .boolean) (5) 0 0 .ireturn (fun r : Bool => [.int (eb_b r)]) 33 [(0, .ref v0), (1, .ref v1)] [.int y4] s5 0 0 (j6 y4 s5)) ?_ (fun j6 hj6 => ?_)
  · intro y4 s5
    refine eb_istore_n (pc := 33) (L' := [(2, .int y4), (0, .ref v0), (1, .ref v1)]) dX8_readThing_33 rfl (by decide) rfl ?_
    refine eb_iload_n (pc := 34) 0 dX8_readThing_34 rfl rfl ?_
    refine eb_if_ge (pc := 35) (tgt := 40) dX8_readThing_35 (by decide) ?_ ?_
    · refine eb_aload_n (pc := 40) 1 dX8_readThing_40 rfl rfl ?_
      refine eb_dup (pc := 41) dX8_readThing_41 rfl ?_
      refine eb_getI (pc := 42) ef_RX8_19 dX8_readThing_42 (fun x7 => ?_)
      refine eb_iconst (pc := 45) (v := 1) dX8_readThing_45 (by decide) ?_
      refine eb_iadd (pc := 46) dX8_readThing_46 ?_
      refine eb_putI (pc := 47) ef_RX8_19 eg_RX8_19 dX8_readThing_47 (fun s8 => ?_)
      refine eb_aload_n (pc := 50) 1 dX8_readThing_50 rfl rfl ?_
      refine eb_calli (pc := 51) (eb_runV (pc := 51) (As := []) (rest := []) (ci := 7) (q0 := (RX8, TX8, 3)) (q := (RX8, TX8, 3)) ew_859 ew_860 ew_861 ew_372 rfl rfl ed_X8_readNumber (ct_X8_readNumber hG n _ _) rfl ew_862 ⟨by decide, by decide⟩ (by decide) (by decide) (Nat.le_of_ble_eq_true rfl) rfl dX8_readThing_51) (fun x10 s9 => ?_)
      refine eb_istore_n (pc := 54) (L' := [(3, .int x10), (2, .int y4), (0, .ref v0), (1, .ref v1)]) dX8_readThing_54 rfl (by decide) rfl ?_
      refine eb_iload_n (pc := 55) 0 dX8_readThing_55 rfl rfl ?_
      refine eb_if_ne (pc := 56) (tgt := 61) dX8_readThing_56 (by decide) ?_ ?_
      · refine eb_aload_n (pc := 61) 2 dX8_readThing_61 rfl rfl ?_
        refine eb_bipush (pc := 62) (v := 64) dX8_readThing_62 (by decide) ?_
        refine eb_callb (pc := 64) (eb_runV (pc := 64) (As := [.int 64]) (rest := []) (ci := 7) (q0 := (RX8, TX8, 3)) (q := (RX8, TX8, 3)) ew_863 ew_864 ew_865 ew_372 rfl rfl ed_X8_passes (ct_X8_passes hG n _ _ _) rfl ew_866 ⟨by decide, by decide⟩ (by decide) (by decide) (Nat.le_of_ble_eq_true rfl) rfl dX8_readThing_64) (fun b12 s11 => ?_)
        refine eb_join (fun j15 : Int32 → eb_S → Option (Bool × eb_S) => ∀ (y13 : Int32) (s14 : eb_S), eb_go G yX8_readThing cX8_readThing 5 (some .boolean) (5) 0 0 .ireturn (fun r : Bool => [.int (eb_b r)]) 78 [(1, .ref v1), (2, .int y4), (3, .int x10)] [.int y13] s14 0 0 (j15 y13 s14)) ?_ (fun j15 hj15 => ?_)
        · intro y13 s14
          refine eb_istore (pc := 78) (L' := [(4, .int y13), (1, .ref v1), (2, .int y4), (3, .int x10)]) dX8_readThing_78 (by decide) rfl ?_
          refine eb_iload (pc := 80) 0 dX8_readThing_80 rfl ?_
          refine eb_if_ge (pc := 82) (tgt := 87) dX8_readThing_82 (by decide) ?_ ?_
          · refine eb_aload_n (pc := 87) 1 dX8_readThing_87 rfl rfl ?_
            refine eb_iload_n (pc := 88) 2 dX8_readThing_88 rfl rfl ?_
            refine eb_iload_n (pc := 89) 3 dX8_readThing_89 rfl rfl ?_
            refine eb_iload (pc := 90) 0 dX8_readThing_90 rfl ?_
            refine eb_calli (pc := 92) (eb_runV (pc := 92) (As := [.int y4, .int x10, .int y13]) (rest := []) (ci := 3) (q0 := (RX3, TX3, 20)) (q := (RX3, TX3, 20)) ew_867 ew_431 ew_432 ew_68 rfl rfl ed_X3_addThing (ct_X3_addThing hG _ _ _ _ _) rfl ew_433 ⟨by decide, by decide⟩ (by decide) (by decide) (Nat.le_of_ble_eq_true rfl) rfl dX8_readThing_92) (fun x17 s16 => ?_)
            refine eb_pop (pc := 95) dX8_readThing_95 rfl ?_
            refine eb_iconst (pc := 96) (v := 1) dX8_readThing_96 (by decide) ?_
            exact eb_bret (pc := 97) (b := true) dX8_readThing_97 (by decide) (by decide)
          · refine eb_iconst (pc := 85) (v := 0) dX8_readThing_85 (by decide) ?_
            exact eb_bret (pc := 86) (b := false) dX8_readThing_86 (by decide) (by decide)
        refine eb_if_eq (pc := 67) (tgt := 77) dX8_readThing_67 (by decide) ?_ ?_
        · refine eb_iconst (pc := 77) (v := 5) dX8_readThing_77 (by decide) ?_
          refine eb_sub [3, 1, 0] rfl ?_
          exact hj15 _ _
        · refine eb_aload_n (pc := 70) 2 dX8_readThing_70 rfl rfl ?_
          refine eb_calli (pc := 71) (eb_runV (pc := 71) (As := []) (rest := []) (ci := 7) (q0 := (RX8, TX8, 3)) (q := (RX8, TX8, 3)) ew_868 ew_869 ew_870 ew_372 rfl rfl ed_X8_readStop (ct_X8_readStop hG n _ _) rfl ew_871 ⟨by decide, by decide⟩ (by decide) (by decide) (Nat.le_of_ble_eq_true rfl) rfl dX8_readThing_71) (fun x19 s18 => ?_)
          refine eb_goto (pc := 74) (tgt := 78) dX8_readThing_74 (by decide) ?_
          refine eb_sub [3, 1, 0] rfl ?_
          exact hj15 _ _
      · refine eb_iconst (pc := 59) (v := 0) dX8_readThing_59 (by decide) ?_
        exact eb_bret (pc := 60) (b := false) dX8_readThing_60 (by decide) (by decide)
    · refine eb_iconst (pc := 38) (v := 0) dX8_readThing_38 (by decide) ?_
      exact eb_bret (pc := 39) (b := false) dX8_readThing_39 (by decide) (by decide)
  refine eb_icmp_ge (pc := 12) (tgt := 32) dX8_readThing_12 (by decide) ?_ ?_
  · refine eb_iconst (pc := 32) (v := (-1)) dX8_readThing_32 (by decide) ?_
    exact hj6 _ _
  · refine eb_ldcs (pc := 15) dX8_readThing_15 rfl ?_
    refine eb_aload_n (pc := 17) 0 dX8_readThing_17 rfl rfl ?_
    refine eb_getR (pc := 18) ef_RX8_15 dX8_readThing_18 (fun r20 => ?_)
    refine eb_aload_n (pc := 21) 0 dX8_readThing_21 rfl rfl ?_
    refine eb_getI (pc := 22) ef_RX8_19 dX8_readThing_22 (fun x21 => ?_)
    refine eb_caload (pc := 25) dX8_readThing_25 (fun x22 => ?_)
    refine eb_calli (pc := 26) (eb_runF (pc := 26) (n := 1) (As := [.int x22]) (rest := []) ew_872 ew_873 ew_874 ew_6 rfl ed_J0_indexOf_0f7a4 (ct_J0_indexOf_0f7a4 hG n _ _) ew_875 ⟨by decide, by decide⟩ (by decide) (by decide) (Nat.le_of_ble_eq_true rfl) rfl dX8_readThing_26) (fun x24 s23 => ?_)
    refine eb_goto (pc := 29) (tgt := 33) dX8_readThing_29 (by decide) ?_
    exact hj6 _ _

def f_X8_readThings_L8 (n : Nat) (v0 : Nat) (v1 : Nat)  : Nat → Int32 → Int32 → eb_S → Option (Bool × eb_S)
  | 0, _, _, _ => none
  | m + 1, v2, v3, s => if 10 ≤ v3 then (eb_zb v2 fun b => some (b, s)) else (if v2 = 0 then (eb_zb v2 fun b => some (b, s)) else (eb_cl (eb_tg s v0 7 (f_X8_passes n v0 44 s)) fun b4 s3 => if (eb_b b4) = 0 then (eb_zb v2 fun b => some (b, s3)) else (eb_cl (eb_tg s3 v0 7 (f_X8_readThing n v0 v1 s3)) fun b6 s5 => f_X8_readThings_L8 n v0 v1 m (eb_b b6) (v3 + 1) s5)))
def f_X8_readThings (n : Nat) (v0 : Nat) (v1 : Nat) (s : eb_S) : Option (Bool × eb_S) := eb_cl (eb_tg s v0 7 (f_X8_readThing n v0 v1 s)) fun b2 s1 => f_X8_readThings_L8 n v0 v1  n (eb_b b2) 1 s1
set_option maxRecDepth 100000 in
theorem gl_X8_readThings_L8 {G : eb_G} (hG : eb_ok G) {n : Nat} {v0 : Nat} {v1 : Nat}   : ∀ (m : Nat) (v2 : Int32) (v3 : Int32) (s : eb_S), eb_go G yX8_readThings cX8_readThings 4 (some .boolean) (6) 0 0 .ireturn (fun r : Bool => [.int (eb_b r)]) 8 [(0, .ref v0), (1, .ref v1), (2, .int v2), (3, .int v3)] [] s 0 0 (f_X8_readThings_L8 n v0 v1 m v2 v3 s) := by
  intro m
  induction m with
  | zero => intro v2 v3 s; exact eb_none
  | succ m ih =>
    intro v2 v3 s
    rw [f_X8_readThings_L8.eq_2]
    refine eb_iload_n (pc := 8) 3 dX8_readThings_8 rfl rfl ?_
    refine eb_bipush (pc := 9) (v := 10) dX8_readThings_9 (by decide) ?_
    refine eb_icmp_ge (pc := 11) (tgt := 39) dX8_readThings_11 (by decide) ?_ ?_
    · refine eb_iload_n (pc := 39) 2 dX8_readThings_39 rfl rfl ?_
      exact eb_zret (pc := 40) dX8_readThings_40 (by decide) (by decide)
    · refine eb_iload_n (pc := 14) 2 dX8_readThings_14 rfl rfl ?_
      refine eb_if_eq (pc := 15) (tgt := 39) dX8_readThings_15 (by decide) ?_ ?_
      · refine eb_iload_n (pc := 39) 2 dX8_readThings_39 rfl rfl ?_
        exact eb_zret (pc := 40) dX8_readThings_40 (by decide) (by decide)
      · refine eb_aload_n (pc := 18) 0 dX8_readThings_18 rfl rfl ?_
        refine eb_bipush (pc := 19) (v := 44) dX8_readThings_19 (by decide) ?_
        refine eb_callb (pc := 21) (eb_runV (pc := 21) (As := [.int 44]) (rest := []) (ci := 7) (q0 := (RX8, TX8, 3)) (q := (RX8, TX8, 3)) ew_863 ew_864 ew_865 ew_372 rfl rfl ed_X8_passes (ct_X8_passes hG n _ _ _) rfl ew_866 ⟨by decide, by decide⟩ (by decide) (by decide) (Nat.le_of_ble_eq_true rfl) rfl dX8_readThings_21) (fun b4 s3 => ?_)
        refine eb_if_eq (pc := 24) (tgt := 39) dX8_readThings_24 (by decide) ?_ ?_
        · refine eb_iload_n (pc := 39) 2 dX8_readThings_39 rfl rfl ?_
          exact eb_zret (pc := 40) dX8_readThings_40 (by decide) (by decide)
        · refine eb_aload_n (pc := 27) 0 dX8_readThings_27 rfl rfl ?_
          refine eb_aload_n (pc := 28) 1 dX8_readThings_28 rfl rfl ?_
          refine eb_callb (pc := 29) (eb_runV (pc := 29) (As := [.ref v1]) (rest := []) (ci := 7) (q0 := (RX8, TX8, 3)) (q := (RX8, TX8, 3)) ew_876 ew_877 ew_878 ew_372 rfl rfl ed_X8_readThing (ct_X8_readThing hG n _ _ _) rfl ew_879 ⟨by decide, by decide⟩ (by decide) (by decide) (Nat.le_of_ble_eq_true rfl) rfl dX8_readThings_29) (fun b6 s5 => ?_)
          refine eb_istore_n (pc := 32) (L' := [(2, .int (eb_b b6)), (0, .ref v0), (1, .ref v1), (3, .int v3)]) dX8_readThings_32 rfl (by decide) rfl ?_
          refine eb_iinc (pc := 33) (v := v3 + 1) (L' := [(3, .int (v3 + 1)), (2, .int (eb_b b6)), (0, .ref v0), (1, .ref v1)]) 3 dX8_readThings_33 rfl rfl (by decide) rfl ?_
          refine eb_goto (pc := 36) (tgt := 8) dX8_readThings_36 (by decide) ?_
          refine eb_sub [2, 3, 1, 0] rfl ?_
          exact ih _ _ _
set_option maxRecDepth 100000 in
theorem ct_X8_readThings {G : eb_G} (hG : eb_ok G) (n : Nat) (v0 : Nat) (v1 : Nat) (s : eb_S) : eb_ct G yX8_readThings cX8_readThings 4 (some .boolean) 6 0 0 eb_eb [.ref v0, .ref v1] s (f_X8_readThings n v0 v1 s) := by
  refine eb_ct_b (by decide) (Nat.le_of_ble_eq_true rfl) (fun v hv => by simp at hv; rcases hv with rfl | rfl <;> simp [Value.category]) ?_
  show eb_go G yX8_readThings cX8_readThings 4 (some .boolean) (6) 0 0 .ireturn (fun r : Bool => [.int (eb_b r)]) 0 [(0, .ref v0), (1, .ref v1)] [] s 0 0 _
  unfold f_X8_readThings
  refine eb_aload_n (pc := 0) 0 dX8_readThings_0 rfl rfl ?_
  refine eb_aload_n (pc := 1) 1 dX8_readThings_1 rfl rfl ?_
  refine eb_callb (pc := 2) (eb_runV (pc := 2) (As := [.ref v1]) (rest := []) (ci := 7) (q0 := (RX8, TX8, 3)) (q := (RX8, TX8, 3)) ew_876 ew_877 ew_878 ew_372 rfl rfl ed_X8_readThing (ct_X8_readThing hG n _ _ _) rfl ew_879 ⟨by decide, by decide⟩ (by decide) (by decide) (Nat.le_of_ble_eq_true rfl) rfl dX8_readThings_2) (fun b2 s1 => ?_)
  refine eb_istore_n (pc := 5) (L' := [(2, .int (eb_b b2)), (0, .ref v0), (1, .ref v1)]) dX8_readThings_5 rfl (by decide) rfl ?_
  refine eb_iconst (pc := 6) (v := 1) dX8_readThings_6 (by decide) ?_
  refine eb_istore_n (pc := 7) (L' := [(3, .int 1), (2, .int (eb_b b2)), (0, .ref v0), (1, .ref v1)]) dX8_readThings_7 rfl (by decide) rfl ?_
  refine eb_sub [2, 3, 1, 0] rfl ?_
  refine gl_X8_readThings_L8 hG  n _ _ _

def f_X8_readStretch (n : Nat) (v0 : Nat) (v1 : Nat) (s : eb_S) : Option (Bool × eb_S) := eb_cl (eb_tg s v0 7 (f_X8_readNumber n v0 s)) fun x2 s1 => if x2 = 0 then (some (false, s1)) else (eb_cl (eb_tg s1 v0 7 (f_X8_passes n v0 117 s1)) fun b4 s3 => eb_jn (fun (y5 : Int32) (s6 : eb_S) => eb_cl (eb_tg s6 v1 3 (f_X3_addStretch v1 x2 y5 s6)) fun x9 s8 => some (true, s8)) fun j7 => if (eb_b b4) = 0 then (j7 0 s3) else (j7 1 s3))
set_option maxRecDepth 100000 in
theorem ct_X8_readStretch {G : eb_G} (hG : eb_ok G) (n : Nat) (v0 : Nat) (v1 : Nat) (s : eb_S) : eb_ct G yX8_readStretch cX8_readStretch 3 (some .boolean) 3 0 0 eb_eb [.ref v0, .ref v1] s (f_X8_readStretch n v0 v1 s) := by
  refine eb_ct_b (by decide) (Nat.le_of_ble_eq_true rfl) (fun v hv => by simp at hv; rcases hv with rfl | rfl <;> simp [Value.category]) ?_
  show eb_go G yX8_readStretch cX8_readStretch 3 (some .boolean) (3) 0 0 .ireturn (fun r : Bool => [.int (eb_b r)]) 0 [(0, .ref v0), (1, .ref v1)] [] s 0 0 _
  unfold f_X8_readStretch
  refine eb_aload_n (pc := 0) 0 dX8_readStretch_0 rfl rfl ?_
  refine eb_calli (pc := 1) (eb_runV (pc := 1) (As := []) (rest := []) (ci := 7) (q0 := (RX8, TX8, 3)) (q := (RX8, TX8, 3)) ew_859 ew_860 ew_861 ew_372 rfl rfl ed_X8_readNumber (ct_X8_readNumber hG n _ _) rfl ew_862 ⟨by decide, by decide⟩ (by decide) (by decide) (Nat.le_of_ble_eq_true rfl) rfl dX8_readStretch_1) (fun x2 s1 => ?_)
  refine eb_istore_n (pc := 4) (L' := [(2, .int x2), (0, .ref v0), (1, .ref v1)]) dX8_readStretch_4 rfl (by decide) rfl ?_
  refine eb_iload_n (pc := 5) 0 dX8_readStretch_5 rfl rfl ?_
  refine eb_if_ne (pc := 6) (tgt := 11) dX8_readStretch_6 (by decide) ?_ ?_
  · refine eb_aload_n (pc := 11) 2 dX8_readStretch_11 rfl rfl ?_
    refine eb_iload_n (pc := 12) 0 dX8_readStretch_12 rfl rfl ?_
    refine eb_aload_n (pc := 13) 1 dX8_readStretch_13 rfl rfl ?_
    refine eb_bipush (pc := 14) (v := 117) dX8_readStretch_14 (by decide) ?_
    refine eb_callb (pc := 16) (eb_runV (pc := 16) (As := [.int 117]) (rest := [.int x2, .ref v1]) (ci := 7) (q0 := (RX8, TX8, 3)) (q := (RX8, TX8, 3)) ew_863 ew_864 ew_865 ew_372 rfl rfl ed_X8_passes (ct_X8_passes hG n _ _ _) rfl ew_866 ⟨by decide, by decide⟩ (by decide) (by decide) (Nat.le_of_ble_eq_true rfl) rfl dX8_readStretch_16) (fun b4 s3 => ?_)
    refine eb_join (fun j7 : Int32 → eb_S → Option (Bool × eb_S) => ∀ (y5 : Int32) (s6 : eb_S), eb_go G yX8_readStretch cX8_readStretch 3 (some .boolean) (3) 0 0 .ireturn (fun r : Bool => [.int (eb_b r)]) 27 [] [.int y5, .int x2, .ref v1] s6 0 0 (j7 y5 s6)) ?_ (fun j7 hj7 => ?_)
    · intro y5 s6
      refine eb_calli (pc := 27) (eb_runV (pc := 27) (As := [.int x2, .int y5]) (rest := []) (ci := 3) (q0 := (RX3, TX3, 20)) (q := (RX3, TX3, 20)) ew_880 ew_456 ew_457 ew_68 rfl rfl ed_X3_addStretch (ct_X3_addStretch hG _ _ _ _) rfl ew_458 ⟨by decide, by decide⟩ (by decide) (by decide) (Nat.le_of_ble_eq_true rfl) rfl dX8_readStretch_27) (fun x9 s8 => ?_)
      refine eb_pop (pc := 30) dX8_readStretch_30 rfl ?_
      refine eb_iconst (pc := 31) (v := 1) dX8_readStretch_31 (by decide) ?_
      exact eb_bret (pc := 32) (b := true) dX8_readStretch_32 (by decide) (by decide)
    refine eb_if_eq (pc := 19) (tgt := 26) dX8_readStretch_19 (by decide) ?_ ?_
    · refine eb_iconst (pc := 26) (v := 0) dX8_readStretch_26 (by decide) ?_
      refine eb_sub [] rfl ?_
      exact hj7 _ _
    · refine eb_iconst (pc := 22) (v := 1) dX8_readStretch_22 (by decide) ?_
      refine eb_goto (pc := 23) (tgt := 27) dX8_readStretch_23 (by decide) ?_
      refine eb_sub [] rfl ?_
      exact hj7 _ _
  · refine eb_iconst (pc := 9) (v := 0) dX8_readStretch_9 (by decide) ?_
    exact eb_bret (pc := 10) (b := false) dX8_readStretch_10 (by decide) (by decide)

def f_X8_readStretches_L8 (n : Nat) (v0 : Nat) (v1 : Nat)  : Nat → Int32 → Int32 → eb_S → Option (Bool × eb_S)
  | 0, _, _, _ => none
  | m + 1, v2, v3, s => if 5 ≤ v3 then (eb_zb v2 fun b => some (b, s)) else (if v2 = 0 then (eb_zb v2 fun b => some (b, s)) else (eb_cl (eb_tg s v0 7 (f_X8_passes n v0 44 s)) fun b4 s3 => if (eb_b b4) = 0 then (eb_zb v2 fun b => some (b, s3)) else (eb_cl (eb_tg s3 v0 7 (f_X8_readStretch n v0 v1 s3)) fun b6 s5 => f_X8_readStretches_L8 n v0 v1 m (eb_b b6) (v3 + 1) s5)))
def f_X8_readStretches (n : Nat) (v0 : Nat) (v1 : Nat) (s : eb_S) : Option (Bool × eb_S) := eb_cl (eb_tg s v0 7 (f_X8_readStretch n v0 v1 s)) fun b2 s1 => f_X8_readStretches_L8 n v0 v1  n (eb_b b2) 1 s1
set_option maxRecDepth 100000 in
theorem gl_X8_readStretches_L8 {G : eb_G} (hG : eb_ok G) {n : Nat} {v0 : Nat} {v1 : Nat}   : ∀ (m : Nat) (v2 : Int32) (v3 : Int32) (s : eb_S), eb_go G yX8_readStretches cX8_readStretches 4 (some .boolean) (4) 0 0 .ireturn (fun r : Bool => [.int (eb_b r)]) 8 [(0, .ref v0), (1, .ref v1), (2, .int v2), (3, .int v3)] [] s 0 0 (f_X8_readStretches_L8 n v0 v1 m v2 v3 s) := by
  intro m
  induction m with
  | zero => intro v2 v3 s; exact eb_none
  | succ m ih =>
    intro v2 v3 s
    rw [f_X8_readStretches_L8.eq_2]
    refine eb_iload_n (pc := 8) 3 dX8_readStretches_8 rfl rfl ?_
    refine eb_iconst (pc := 9) (v := 5) dX8_readStretches_9 (by decide) ?_
    refine eb_icmp_ge (pc := 10) (tgt := 38) dX8_readStretches_10 (by decide) ?_ ?_
    · refine eb_iload_n (pc := 38) 2 dX8_readStretches_38 rfl rfl ?_
      exact eb_zret (pc := 39) dX8_readStretches_39 (by decide) (by decide)
    · refine eb_iload_n (pc := 13) 2 dX8_readStretches_13 rfl rfl ?_
      refine eb_if_eq (pc := 14) (tgt := 38) dX8_readStretches_14 (by decide) ?_ ?_
      · refine eb_iload_n (pc := 38) 2 dX8_readStretches_38 rfl rfl ?_
        exact eb_zret (pc := 39) dX8_readStretches_39 (by decide) (by decide)
      · refine eb_aload_n (pc := 17) 0 dX8_readStretches_17 rfl rfl ?_
        refine eb_bipush (pc := 18) (v := 44) dX8_readStretches_18 (by decide) ?_
        refine eb_callb (pc := 20) (eb_runV (pc := 20) (As := [.int 44]) (rest := []) (ci := 7) (q0 := (RX8, TX8, 3)) (q := (RX8, TX8, 3)) ew_863 ew_864 ew_865 ew_372 rfl rfl ed_X8_passes (ct_X8_passes hG n _ _ _) rfl ew_866 ⟨by decide, by decide⟩ (by decide) (by decide) (Nat.le_of_ble_eq_true rfl) rfl dX8_readStretches_20) (fun b4 s3 => ?_)
        refine eb_if_eq (pc := 23) (tgt := 38) dX8_readStretches_23 (by decide) ?_ ?_
        · refine eb_iload_n (pc := 38) 2 dX8_readStretches_38 rfl rfl ?_
          exact eb_zret (pc := 39) dX8_readStretches_39 (by decide) (by decide)
        · refine eb_aload_n (pc := 26) 0 dX8_readStretches_26 rfl rfl ?_
          refine eb_aload_n (pc := 27) 1 dX8_readStretches_27 rfl rfl ?_
          refine eb_callb (pc := 28) (eb_runV (pc := 28) (As := [.ref v1]) (rest := []) (ci := 7) (q0 := (RX8, TX8, 3)) (q := (RX8, TX8, 3)) ew_881 ew_882 ew_883 ew_372 rfl rfl ed_X8_readStretch (ct_X8_readStretch hG n _ _ _) rfl ew_884 ⟨by decide, by decide⟩ (by decide) (by decide) (Nat.le_of_ble_eq_true rfl) rfl dX8_readStretches_28) (fun b6 s5 => ?_)
          refine eb_istore_n (pc := 31) (L' := [(2, .int (eb_b b6)), (0, .ref v0), (1, .ref v1), (3, .int v3)]) dX8_readStretches_31 rfl (by decide) rfl ?_
          refine eb_iinc (pc := 32) (v := v3 + 1) (L' := [(3, .int (v3 + 1)), (2, .int (eb_b b6)), (0, .ref v0), (1, .ref v1)]) 3 dX8_readStretches_32 rfl rfl (by decide) rfl ?_
          refine eb_goto (pc := 35) (tgt := 8) dX8_readStretches_35 (by decide) ?_
          refine eb_sub [2, 3, 1, 0] rfl ?_
          exact ih _ _ _
set_option maxRecDepth 100000 in
theorem ct_X8_readStretches {G : eb_G} (hG : eb_ok G) (n : Nat) (v0 : Nat) (v1 : Nat) (s : eb_S) : eb_ct G yX8_readStretches cX8_readStretches 4 (some .boolean) 4 0 0 eb_eb [.ref v0, .ref v1] s (f_X8_readStretches n v0 v1 s) := by
  refine eb_ct_b (by decide) (Nat.le_of_ble_eq_true rfl) (fun v hv => by simp at hv; rcases hv with rfl | rfl <;> simp [Value.category]) ?_
  show eb_go G yX8_readStretches cX8_readStretches 4 (some .boolean) (4) 0 0 .ireturn (fun r : Bool => [.int (eb_b r)]) 0 [(0, .ref v0), (1, .ref v1)] [] s 0 0 _
  unfold f_X8_readStretches
  refine eb_aload_n (pc := 0) 0 dX8_readStretches_0 rfl rfl ?_
  refine eb_aload_n (pc := 1) 1 dX8_readStretches_1 rfl rfl ?_
  refine eb_callb (pc := 2) (eb_runV (pc := 2) (As := [.ref v1]) (rest := []) (ci := 7) (q0 := (RX8, TX8, 3)) (q := (RX8, TX8, 3)) ew_881 ew_882 ew_883 ew_372 rfl rfl ed_X8_readStretch (ct_X8_readStretch hG n _ _ _) rfl ew_884 ⟨by decide, by decide⟩ (by decide) (by decide) (Nat.le_of_ble_eq_true rfl) rfl dX8_readStretches_2) (fun b2 s1 => ?_)
  refine eb_istore_n (pc := 5) (L' := [(2, .int (eb_b b2)), (0, .ref v0), (1, .ref v1)]) dX8_readStretches_5 rfl (by decide) rfl ?_
  refine eb_iconst (pc := 6) (v := 1) dX8_readStretches_6 (by decide) ?_
  refine eb_istore_n (pc := 7) (L' := [(3, .int 1), (2, .int (eb_b b2)), (0, .ref v0), (1, .ref v1)]) dX8_readStretches_7 rfl (by decide) rfl ?_
  refine eb_sub [2, 3, 1, 0] rfl ?_
  refine gl_X8_readStretches_L8 hG  n _ _ _

def f_X8_read (n : Nat) (v0 : Nat) (v1 : Nat) (s : eb_S) : Option (Int32 × eb_S) := eb_pI s [7] v0 2 0 fun s1 => eb_cl (eb_tg s1 v1 3 (f_X3_clearGoods v1 s1)) fun _u s2 => eb_cl (eb_tg s2 v0 7 (f_X8_readThings n v0 v1 s2)) fun b4 s3 => eb_jn (fun (y5 : Int32) (s6 : eb_S) => eb_jn (fun (s8 : eb_S) => eb_jn (fun (s10 : eb_S) => eb_gI s10 [7] v0 2 fun x12 => some (((-20) : Int32) - x12, s10)) fun j11 => if y5 = 0 then (j11 s8) else (eb_gI s8 [7] v0 2 fun x13 => eb_gI s8 [7] v0 0 fun x14 => if x13 < x14 then (j11 s8) else (eb_gI s8 [3] v1 1 fun x15 => some (x15, s8)))) fun j9 => if y5 = 0 then (j9 s6) else (eb_cl (eb_tg s6 v0 7 (f_X8_skipBlanks n v0 s6)) fun _u s16 => j9 s16)) fun j7 => eb_jn (fun (s17 : eb_S) => j7 0 s17) fun j18 => if (eb_b b4) = 0 then (j18 s3) else (eb_cl (eb_tg s3 v0 7 (f_X8_passes n v0 59 s3)) fun b20 s19 => eb_jn (fun (s21 : eb_S) => j7 1 s21) fun j22 => if (eb_b b20) = 0 then (j22 s19) else (eb_cl (eb_tg s19 v0 7 (f_X8_readStretches n v0 v1 s19)) fun b24 s23 => if (eb_b b24) = 0 then (j18 s23) else (j22 s23)))
set_option maxRecDepth 100000 in
theorem ct_X8_read {G : eb_G} (hG : eb_ok G) (n : Nat) (v0 : Nat) (v1 : Nat) (s : eb_S) : eb_ct G yX8_read cX8_read 3 (some .int) 7 0 0 eb_ei [.ref v0, .ref v1] s (f_X8_read n v0 v1 s) := by
  refine eb_ct_i (by decide) (Nat.le_of_ble_eq_true rfl) (fun v hv => by simp at hv; rcases hv with rfl | rfl <;> simp [Value.category]) ?_
  show eb_go G yX8_read cX8_read 3 (some .int) (7) 0 0 .ireturn (fun r : Int32 => [.int r]) 0 [(0, .ref v0), (1, .ref v1)] [] s 0 0 _
  unfold f_X8_read
  refine eb_aload_n (pc := 0) 0 dX8_read_0 rfl rfl ?_
  refine eb_iconst (pc := 1) (v := 0) dX8_read_1 (by decide) ?_
  refine eb_putI (pc := 2) ef_RX8_19 eg_RX8_19 dX8_read_2 (fun s1 => ?_)
  refine eb_aload_n (pc := 5) 1 dX8_read_5 rfl rfl ?_
  refine eb_callv (pc := 6) (eb_runV (pc := 6) (As := []) (rest := []) (ci := 3) (q0 := (RX3, TX3, 20)) (q := (RX3, TX3, 20)) ew_885 ew_886 ew_887 ew_68 rfl rfl ed_X3_clearGoods (ct_X3_clearGoods hG _ _) rfl ew_888 ⟨by decide, by decide⟩ (by decide) (by decide) (Nat.le_of_ble_eq_true rfl) rfl dX8_read_6) (fun _u s2 => ?_)
  refine eb_aload_n (pc := 9) 0 dX8_read_9 rfl rfl ?_
  refine eb_aload_n (pc := 10) 1 dX8_read_10 rfl rfl ?_
  refine eb_callb (pc := 11) (eb_runV (pc := 11) (As := [.ref v1]) (rest := []) (ci := 7) (q0 := (RX8, TX8, 3)) (q := (RX8, TX8, 3)) ew_889 ew_890 ew_891 ew_372 rfl rfl ed_X8_readThings (ct_X8_readThings hG n _ _ _) rfl ew_892 ⟨by decide, by decide⟩ (by decide) (by decide) (Nat.le_of_ble_eq_true rfl) rfl dX8_read_11) (fun b4 s3 => ?_)
  refine eb_join (fun j7 : Int32 → eb_S → Option (Int32 × eb_S) => ∀ (y5 : Int32) (s6 : eb_S), eb_go G yX8_read cX8_read 3 (some .int) (7) 0 0 .ireturn (fun r : Int32 => [.int r]) 39 [(0, .ref v0), (1, .ref v1)] [.int y5] s6 0 0 (j7 y5 s6)) ?_ (fun j7 hj7 => ?_)
  · intro y5 s6
    refine eb_istore_n (pc := 39) (L' := [(2, .int y5), (0, .ref v0), (1, .ref v1)]) dX8_read_39 rfl (by decide) rfl ?_
    refine eb_iload_n (pc := 40) 0 dX8_read_40 rfl rfl ?_
    refine eb_join (fun j9 : eb_S → Option (Int32 × eb_S) => ∀  (s8 : eb_S), eb_go G yX8_read cX8_read 3 (some .int) (7) 0 0 .ireturn (fun r : Int32 => [.int r]) 48 [(0, .ref v0), (1, .ref v1), (2, .int y5)] [] s8 0 0 (j9  s8)) ?_ (fun j9 hj9 => ?_)
    · intro  s8
      refine eb_iload_n (pc := 48) 2 dX8_read_48 rfl rfl ?_
      refine eb_join (fun j11 : eb_S → Option (Int32 × eb_S) => ∀  (s10 : eb_S), eb_go G yX8_read cX8_read 3 (some .int) (7) 0 0 .ireturn (fun r : Int32 => [.int r]) 70 [(0, .ref v0)] [] s10 0 0 (j11  s10)) ?_ (fun j11 hj11 => ?_)
      · intro  s10
        refine eb_bipush (pc := 70) (v := (-20)) dX8_read_70 (by decide) ?_
        refine eb_aload_n (pc := 72) 0 dX8_read_72 rfl rfl ?_
        refine eb_getI (pc := 73) ef_RX8_19 dX8_read_73 (fun x12 => ?_)
        refine eb_isub (pc := 76) dX8_read_76 ?_
        exact eb_iret (pc := 77) dX8_read_77 (by decide) (by decide)
      refine eb_if_eq (pc := 49) (tgt := 70) dX8_read_49 (by decide) ?_ ?_
      · refine eb_sub [0] rfl ?_
        exact hj11 _
      · refine eb_aload_n (pc := 52) 0 dX8_read_52 rfl rfl ?_
        refine eb_getI (pc := 53) ef_RX8_19 dX8_read_53 (fun x13 => ?_)
        refine eb_aload_n (pc := 56) 0 dX8_read_56 rfl rfl ?_
        refine eb_getI (pc := 57) ef_RX8_9 dX8_read_57 (fun x14 => ?_)
        refine eb_icmp_lt (pc := 60) (tgt := 70) dX8_read_60 (by decide) ?_ ?_
        · refine eb_sub [0] rfl ?_
          exact hj11 _
        · refine eb_aload_n (pc := 63) 1 dX8_read_63 rfl rfl ?_
          refine eb_getI (pc := 64) ef_RX8_41 dX8_read_64 (fun x15 => ?_)
          refine eb_goto (pc := 67) (tgt := 77) dX8_read_67 (by decide) ?_
          exact eb_iret (pc := 77) dX8_read_77 (by decide) (by decide)
    refine eb_if_eq (pc := 41) (tgt := 48) dX8_read_41 (by decide) ?_ ?_
    · refine eb_sub [1, 2, 0] rfl ?_
      exact hj9 _
    · refine eb_aload_n (pc := 44) 1 dX8_read_44 rfl rfl ?_
      refine eb_callv (pc := 45) (eb_runV (pc := 45) (As := []) (rest := []) (ci := 7) (q0 := (RX8, TX8, 3)) (q := (RX8, TX8, 3)) ew_369 ew_370 ew_371 ew_372 rfl rfl ed_X8_skipBlanks (ct_X8_skipBlanks hG n _ _) rfl ew_373 ⟨by decide, by decide⟩ (by decide) (by decide) (Nat.le_of_ble_eq_true rfl) rfl dX8_read_45) (fun _u s16 => ?_)
      refine eb_sub [1, 2, 0] rfl ?_
      exact hj9 _
  refine eb_join (fun j18 : eb_S → Option (Int32 × eb_S) => ∀  (s17 : eb_S), eb_go G yX8_read cX8_read 3 (some .int) (7) 0 0 .ireturn (fun r : Int32 => [.int r]) 38 [(0, .ref v0), (1, .ref v1)] [] s17 0 0 (j18  s17)) ?_ (fun j18 hj18 => ?_)
  · intro  s17
    refine eb_iconst (pc := 38) (v := 0) dX8_read_38 (by decide) ?_
    exact hj7 _ _
  refine eb_if_eq (pc := 14) (tgt := 38) dX8_read_14 (by decide) ?_ ?_
  · exact hj18 _
  · refine eb_aload_n (pc := 17) 0 dX8_read_17 rfl rfl ?_
    refine eb_bipush (pc := 18) (v := 59) dX8_read_18 (by decide) ?_
    refine eb_callb (pc := 20) (eb_runV (pc := 20) (As := [.int 59]) (rest := []) (ci := 7) (q0 := (RX8, TX8, 3)) (q := (RX8, TX8, 3)) ew_863 ew_864 ew_865 ew_372 rfl rfl ed_X8_passes (ct_X8_passes hG n _ _ _) rfl ew_866 ⟨by decide, by decide⟩ (by decide) (by decide) (Nat.le_of_ble_eq_true rfl) rfl dX8_read_20) (fun b20 s19 => ?_)
    refine eb_join (fun j22 : eb_S → Option (Int32 × eb_S) => ∀  (s21 : eb_S), eb_go G yX8_read cX8_read 3 (some .int) (7) 0 0 .ireturn (fun r : Int32 => [.int r]) 34 [(0, .ref v0), (1, .ref v1)] [] s21 0 0 (j22  s21)) ?_ (fun j22 hj22 => ?_)
    · intro  s21
      refine eb_iconst (pc := 34) (v := 1) dX8_read_34 (by decide) ?_
      refine eb_goto (pc := 35) (tgt := 39) dX8_read_35 (by decide) ?_
      exact hj7 _ _
    refine eb_if_eq (pc := 23) (tgt := 34) dX8_read_23 (by decide) ?_ ?_
    · exact hj22 _
    · refine eb_aload_n (pc := 26) 0 dX8_read_26 rfl rfl ?_
      refine eb_aload_n (pc := 27) 1 dX8_read_27 rfl rfl ?_
      refine eb_callb (pc := 28) (eb_runV (pc := 28) (As := [.ref v1]) (rest := []) (ci := 7) (q0 := (RX8, TX8, 3)) (q := (RX8, TX8, 3)) ew_894 ew_895 ew_896 ew_372 rfl rfl ed_X8_readStretches (ct_X8_readStretches hG n _ _ _) rfl ew_897 ⟨by decide, by decide⟩ (by decide) (by decide) (Nat.le_of_ble_eq_true rfl) rfl dX8_read_28) (fun b24 s23 => ?_)
      refine eb_if_eq (pc := 31) (tgt := 38) dX8_read_31 (by decide) ?_ ?_
      · exact hj18 _
      · exact hj22 _

def f_X9_market (n : Nat) (v0 : Nat) (s : eb_S) : Option (Int32 × eb_S) := eb_gR s [8] v0 3 fun r1 => eb_gR s [8] v0 2 fun r2 => eb_cl (eb_tg s r1 7 (f_X8_read n r1 r2 s)) fun x4 s3 => eb_jn (fun (s5 : eb_S) => eb_gR s5 [8] v0 3 fun r7 => eb_pI s5 [7] r7 0 0 fun s8 => some (x4, s8)) fun j6 => if x4 < 0 then (j6 s3) else (eb_gR s3 [8] v0 0 fun r9 => eb_gR s3 [8] v0 2 fun r10 => eb_cl (eb_tg s3 r9 3 (f_X3_takeGoods r9 r10 s3)) fun _u s11 => eb_gR s11 [8] v0 0 fun r12 => eb_cl (eb_tg s11 r12 3 (f_X3_clearLawsAndBars r12 s11)) fun _u s13 => j6 s13)
set_option maxRecDepth 100000 in
theorem ct_X9_market {G : eb_G} (hG : eb_ok G) (n : Nat) (v0 : Nat) (s : eb_S) : eb_ct G yX9_market cX9_market 2 (some .int) 8 0 0 eb_ei [.ref v0] s (f_X9_market n v0 s) := by
  refine eb_ct_i (by decide) (Nat.le_of_ble_eq_true rfl) (fun v hv => by simp at hv; rcases hv with rfl <;> simp [Value.category]) ?_
  show eb_go G yX9_market cX9_market 2 (some .int) (8) 0 0 .ireturn (fun r : Int32 => [.int r]) 0 [(0, .ref v0)] [] s 0 0 _
  unfold f_X9_market
  refine eb_aload_n (pc := 0) 0 dX9_market_0 rfl rfl ?_
  refine eb_getR (pc := 1) ef_RX9_25 dX9_market_1 (fun r1 => ?_)
  refine eb_aload_n (pc := 4) 0 dX9_market_4 rfl rfl ?_
  refine eb_getR (pc := 5) ef_RX9_19 dX9_market_5 (fun r2 => ?_)
  refine eb_calli (pc := 8) (eb_runV (pc := 8) (As := [.ref r2]) (rest := []) (ci := 7) (q0 := (RX8, TX8, 3)) (q := (RX8, TX8, 3)) ew_898 ew_899 ew_900 ew_372 rfl rfl ed_X8_read (ct_X8_read hG n _ _ _) rfl ew_901 ⟨by decide, by decide⟩ (by decide) (by decide) (Nat.le_of_ble_eq_true rfl) rfl dX9_market_8) (fun x4 s3 => ?_)
  refine eb_istore_n (pc := 11) (L' := [(1, .int x4), (0, .ref v0)]) dX9_market_11 rfl (by decide) rfl ?_
  refine eb_iload_n (pc := 12) 0 dX9_market_12 rfl rfl ?_
  refine eb_join (fun j6 : eb_S → Option (Int32 × eb_S) => ∀  (s5 : eb_S), eb_go G yX9_market cX9_market 2 (some .int) (8) 0 0 .ireturn (fun r : Int32 => [.int r]) 34 [(0, .ref v0), (1, .int x4)] [] s5 0 0 (j6  s5)) ?_ (fun j6 hj6 => ?_)
  · intro  s5
    refine eb_aload_n (pc := 34) 0 dX9_market_34 rfl rfl ?_
    refine eb_getR (pc := 35) ef_RX9_25 dX9_market_35 (fun r7 => ?_)
    refine eb_iconst (pc := 38) (v := 0) dX9_market_38 (by decide) ?_
    refine eb_putI (pc := 39) ef_RX9_157 eg_RX9_157 dX9_market_39 (fun s8 => ?_)
    refine eb_iload_n (pc := 42) 1 dX9_market_42 rfl rfl ?_
    exact eb_iret (pc := 43) dX9_market_43 (by decide) (by decide)
  refine eb_if_lt (pc := 13) (tgt := 34) dX9_market_13 (by decide) ?_ ?_
  · refine eb_sub [1, 0] rfl ?_
    exact hj6 _
  · refine eb_aload_n (pc := 16) 1 dX9_market_16 rfl rfl ?_
    refine eb_getR (pc := 17) ef_RX9_10 dX9_market_17 (fun r9 => ?_)
    refine eb_aload_n (pc := 20) 1 dX9_market_20 rfl rfl ?_
    refine eb_getR (pc := 21) ef_RX9_19 dX9_market_21 (fun r10 => ?_)
    refine eb_callv (pc := 24) (eb_runV (pc := 24) (As := [.ref r10]) (rest := []) (ci := 3) (q0 := (RX3, TX3, 20)) (q := (RX3, TX3, 20)) ew_902 ew_66 ew_67 ew_68 rfl rfl ed_X3_takeGoods (ct_X3_takeGoods hG _ _ _) rfl ew_69 ⟨by decide, by decide⟩ (by decide) (by decide) (Nat.le_of_ble_eq_true rfl) rfl dX9_market_24) (fun _u s11 => ?_)
    refine eb_aload_n (pc := 27) 1 dX9_market_27 rfl rfl ?_
    refine eb_getR (pc := 28) ef_RX9_10 dX9_market_28 (fun r12 => ?_)
    refine eb_callv (pc := 31) (eb_runV (pc := 31) (As := []) (rest := []) (ci := 3) (q0 := (RX3, TX3, 20)) (q := (RX3, TX3, 20)) ew_903 ew_904 ew_905 ew_68 rfl rfl ed_X3_clearLawsAndBars (ct_X3_clearLawsAndBars hG _ _) rfl ew_906 ⟨by decide, by decide⟩ (by decide) (by decide) (Nat.le_of_ble_eq_true rfl) rfl dX9_market_31) (fun _u s13 => ?_)
    refine eb_sub [1, 0] rfl ?_
    exact hj6 _
