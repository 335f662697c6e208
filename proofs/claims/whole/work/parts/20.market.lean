def f_X3_thingLoad (v0 : Nat) (v1 : Int32) (v2 : Int32) (s : eb_S) : Option (Int32 × eb_S) := eb_gR s [3] v0 4 fun r1 => eb_ai s r1 v1 fun x2 => if v2 < x2 then (eb_gR s [3] v0 3 fun r3 => eb_ai s r3 v1 fun x4 => eb_gR s [3] v0 2 fun r5 => eb_ai s r5 v1 fun x6 => eb_xi 4 eb_k1 x6 fun x7 => some (if (0 : Int32) < (x4 - (x7 * v2)) then (x4 - (x7 * v2)) else 0, s)) else (some (0, s))
set_option maxRecDepth 100000 in
theorem ct_X3_thingLoad {G : eb_G} (hG : eb_ok G) (v0 : Nat) (v1 : Int32) (v2 : Int32) (s : eb_S) : eb_ct G yX3_thingLoad cX3_thingLoad 3 (some .int) 1 0 0 eb_ei [.ref v0, .int v1, .int v2] s (f_X3_thingLoad v0 v1 v2 s) := by
  refine eb_ct_i (by decide) (Nat.le_of_ble_eq_true rfl) (fun v hv => by simp at hv; rcases hv with rfl | rfl | rfl <;> simp [Value.category]) ?_
  show eb_go G yX3_thingLoad cX3_thingLoad 3 (some .int) (1) 0 0 .ireturn (fun r : Int32 => [.int r]) 0 [(0, .ref v0), (1, .int v1), (2, .int v2)] [] s 0 0 _
  unfold f_X3_thingLoad
  refine eb_iload_n (pc := 0) 2 dX3_thingLoad_0 rfl rfl ?_
  refine eb_aload_n (pc := 1) 0 dX3_thingLoad_1 rfl rfl ?_
  refine eb_getR (pc := 2) ef_RX3_25 dX3_thingLoad_2 (fun r1 => ?_)
  refine eb_iload_n (pc := 5) 1 dX3_thingLoad_5 rfl rfl ?_
  refine eb_iaload (pc := 6) dX3_thingLoad_6 (fun x2 => ?_)
  refine eb_icmp_lt (pc := 7) (tgt := 12) dX3_thingLoad_7 (by decide) ?_ ?_
  · refine eb_iconst (pc := 12) (v := 0) dX3_thingLoad_12 (by decide) ?_
    refine eb_aload_n (pc := 13) 0 dX3_thingLoad_13 rfl rfl ?_
    refine eb_getR (pc := 14) ef_RX3_22 dX3_thingLoad_14 (fun r3 => ?_)
    refine eb_iload_n (pc := 17) 1 dX3_thingLoad_17 rfl rfl ?_
    refine eb_iaload (pc := 18) dX3_thingLoad_18 (fun x4 => ?_)
    refine eb_gets (pc := 19) (r := 1) (C := RX3) (n := "MELTS") (by decide) (by decide) ew_7 dX3_thingLoad_19 ?_
    refine eb_aload_n (pc := 22) 0 dX3_thingLoad_22 rfl rfl ?_
    refine eb_getR (pc := 23) ef_RX3_18 dX3_thingLoad_23 (fun r5 => ?_)
    refine eb_iload_n (pc := 26) 1 dX3_thingLoad_26 rfl rfl ?_
    refine eb_iaload (pc := 27) dX3_thingLoad_27 (fun x6 => ?_)
    refine eb_ialoadx (pc := 28) (by decide) (hG.1).1 (hG.1).2 dX3_thingLoad_28 (fun x7 => ?_)
    refine eb_iload_n (pc := 29) 2 dX3_thingLoad_29 rfl rfl ?_
    refine eb_imul (pc := 30) dX3_thingLoad_30 ?_
    refine eb_isub (pc := 31) dX3_thingLoad_31 ?_
    refine eb_mmax (pc := 32) ew_3 ew_4 ew_5 ew_6 (by decide) (Nat.le_of_ble_eq_true rfl) (by decide) (by decide) dX3_thingLoad_32 ?_
    exact eb_iret (pc := 35) dX3_thingLoad_35 (by decide) (by decide)
  · refine eb_iconst (pc := 10) (v := 0) dX3_thingLoad_10 (by decide) ?_
    exact eb_iret (pc := 11) dX3_thingLoad_11 (by decide) (by decide)

def f_X3_bagLoad_L5 (n : Nat) (v0 : Nat) (v1 : Int32) (v2 : Int32)  : Nat → Int32 → Int32 → eb_S → Option (Int32 × eb_S)
  | 0, _, _, _ => none
  | m + 1, v3, v4, s => eb_gI s [3] v0 1 fun x1 => if x1 ≤ v4 then (some (v3, s)) else (eb_gR s [3] v0 6 fun r2 => eb_ai s r2 v4 fun x3 => eb_jn (fun (y4 : Int32) (s5 : eb_S) => f_X3_bagLoad_L5 n v0 v1 v2 m (v3 + y4) (v4 + 1) s5) fun j6 => if x3 = v1 then (eb_cl (eb_tg s v0 3 (f_X3_thingLoad v0 v4 v2 s)) fun x8 s7 => j6 x8 s7) else (j6 0 s))
def f_X3_bagLoad (n : Nat) (v0 : Nat) (v1 : Int32) (v2 : Int32) (s : eb_S) : Option (Int32 × eb_S) := f_X3_bagLoad_L5 n v0 v1 v2  n 0 0 s
set_option maxRecDepth 100000 in
theorem gl_X3_bagLoad_L5 {G : eb_G} (hG : eb_ok G) {n : Nat} {v0 : Nat} {v1 : Int32} {v2 : Int32}   : ∀ (m : Nat) (v3 : Int32) (v4 : Int32) (s : eb_S), eb_go G yX3_bagLoad cX3_bagLoad 5 (some .int) (2) 0 0 .ireturn (fun r : Int32 => [.int r]) 5 [(0, .ref v0), (1, .int v1), (2, .int v2), (3, .int v3), (4, .int v4)] [] s 0 0 (f_X3_bagLoad_L5 n v0 v1 v2 m v3 v4 s) := by
  intro m
  induction m with
  | zero => intro v3 v4 s; exact eb_none
  | succ m ih =>
    intro v3 v4 s
    rw [f_X3_bagLoad_L5.eq_2]
    refine eb_iload (pc := 5) 4 dX3_bagLoad_5 rfl ?_
    refine eb_aload_n (pc := 7) 0 dX3_bagLoad_7 rfl rfl ?_
    refine eb_getI (pc := 8) ef_RX3_15 dX3_bagLoad_8 (fun x1 => ?_)
    refine eb_icmp_ge (pc := 11) (tgt := 45) dX3_bagLoad_11 (by decide) ?_ ?_
    · refine eb_iload_n (pc := 45) 3 dX3_bagLoad_45 rfl rfl ?_
      exact eb_iret (pc := 46) dX3_bagLoad_46 (by decide) (by decide)
    · refine eb_iload_n (pc := 14) 3 dX3_bagLoad_14 rfl rfl ?_
      refine eb_aload_n (pc := 15) 0 dX3_bagLoad_15 rfl rfl ?_
      refine eb_getR (pc := 16) ef_RX3_31 dX3_bagLoad_16 (fun r2 => ?_)
      refine eb_iload (pc := 19) 4 dX3_bagLoad_19 rfl ?_
      refine eb_iaload (pc := 21) dX3_bagLoad_21 (fun x3 => ?_)
      refine eb_iload_n (pc := 22) 1 dX3_bagLoad_22 rfl rfl ?_
      refine eb_join (fun j6 : Int32 → eb_S → Option (Int32 × eb_S) => ∀ (y4 : Int32) (s5 : eb_S), eb_go G yX3_bagLoad cX3_bagLoad 5 (some .int) (2) 0 0 .ireturn (fun r : Int32 => [.int r]) 37 [(0, .ref v0), (1, .int v1), (2, .int v2), (4, .int v4)] [.int y4, .int v3] s5 0 0 (j6 y4 s5)) ?_ (fun j6 hj6 => ?_)
      · intro y4 s5
        refine eb_iadd (pc := 37) dX3_bagLoad_37 ?_
        refine eb_istore_n (pc := 38) (L' := [(3, .int (v3 + y4)), (0, .ref v0), (1, .int v1), (2, .int v2), (4, .int v4)]) dX3_bagLoad_38 rfl (by decide) rfl ?_
        refine eb_iinc (pc := 39) (v := v4 + 1) (L' := [(4, .int (v4 + 1)), (3, .int (v3 + y4)), (0, .ref v0), (1, .int v1), (2, .int v2)]) 4 dX3_bagLoad_39 rfl rfl (by decide) rfl ?_
        refine eb_goto (pc := 42) (tgt := 5) dX3_bagLoad_42 (by decide) ?_
        refine eb_sub [2, 3, 4, 1, 0] rfl ?_
        exact ih _ _ _
      refine eb_icmp_ne (pc := 23) (tgt := 36) dX3_bagLoad_23 (by decide) ?_ ?_
      · refine eb_iconst (pc := 36) (v := 0) dX3_bagLoad_36 (by decide) ?_
        refine eb_sub [0, 1, 2, 4] rfl ?_
        exact hj6 _ _
      · refine eb_aload_n (pc := 26) 0 dX3_bagLoad_26 rfl rfl ?_
        refine eb_iload (pc := 27) 4 dX3_bagLoad_27 rfl ?_
        refine eb_iload_n (pc := 29) 2 dX3_bagLoad_29 rfl rfl ?_
        refine eb_calli (pc := 30) (eb_runV (pc := 30) (As := [.int v4, .int v2]) (rest := [.int v3]) (ci := 3) (q0 := (RX3, TX3, 20)) (q := (RX3, TX3, 20)) ew_10 ew_11 ew_12 ew_13 rfl rfl ed_X3_thingLoad (ct_X3_thingLoad hG _ _ _ _) rfl ew_14 ⟨by decide, by decide⟩ (by decide) (by decide) (Nat.le_of_ble_eq_true rfl) rfl dX3_bagLoad_30) (fun x8 s7 => ?_)
        refine eb_goto (pc := 33) (tgt := 37) dX3_bagLoad_33 (by decide) ?_
        refine eb_sub [0, 1, 2, 4] rfl ?_
        exact hj6 _ _
set_option maxRecDepth 100000 in
theorem ct_X3_bagLoad {G : eb_G} (hG : eb_ok G) (n : Nat) (v0 : Nat) (v1 : Int32) (v2 : Int32) (s : eb_S) : eb_ct G yX3_bagLoad cX3_bagLoad 5 (some .int) 2 0 0 eb_ei [.ref v0, .int v1, .int v2] s (f_X3_bagLoad n v0 v1 v2 s) := by
  refine eb_ct_i (by decide) (Nat.le_of_ble_eq_true rfl) (fun v hv => by simp at hv; rcases hv with rfl | rfl | rfl <;> simp [Value.category]) ?_
  show eb_go G yX3_bagLoad cX3_bagLoad 5 (some .int) (2) 0 0 .ireturn (fun r : Int32 => [.int r]) 0 [(0, .ref v0), (1, .int v1), (2, .int v2)] [] s 0 0 _
  unfold f_X3_bagLoad
  refine eb_iconst (pc := 0) (v := 0) dX3_bagLoad_0 (by decide) ?_
  refine eb_istore_n (pc := 1) (L' := [(3, .int 0), (0, .ref v0), (1, .int v1), (2, .int v2)]) dX3_bagLoad_1 rfl (by decide) rfl ?_
  refine eb_iconst (pc := 2) (v := 0) dX3_bagLoad_2 (by decide) ?_
  refine eb_istore (pc := 3) (L' := [(4, .int 0), (3, .int 0), (0, .ref v0), (1, .int v1), (2, .int v2)]) dX3_bagLoad_3 (by decide) rfl ?_
  refine eb_sub [2, 3, 4, 1, 0] rfl ?_
  refine gl_X3_bagLoad_L5 hG  n _ _ _

def f_X3_isWet (v0 : Nat) (v1 : Int32) (s : eb_S) : Option (Bool × eb_S) := eb_gR s [3] v0 2 fun r1 => eb_ai s r1 v1 fun x2 => eb_xi 4 eb_k1 x2 fun x3 => if x3 ≤ 0 then (some (false, s)) else (some (true, s))
set_option maxRecDepth 100000 in
theorem ct_X3_isWet {G : eb_G} (hG : eb_ok G) (v0 : Nat) (v1 : Int32) (s : eb_S) : eb_ct G yX3_isWet cX3_isWet 2 (some .boolean) 1 0 0 eb_eb [.ref v0, .int v1] s (f_X3_isWet v0 v1 s) := by
  refine eb_ct_b (by decide) (Nat.le_of_ble_eq_true rfl) (fun v hv => by simp at hv; rcases hv with rfl | rfl <;> simp [Value.category]) ?_
  show eb_go G yX3_isWet cX3_isWet 2 (some .boolean) (1) 0 0 .ireturn (fun r : Bool => [.int (eb_b r)]) 0 [(0, .ref v0), (1, .int v1)] [] s 0 0 _
  unfold f_X3_isWet
  refine eb_gets (pc := 0) (r := 1) (C := RX3) (n := "MELTS") (by decide) (by decide) ew_7 dX3_isWet_0 ?_
  refine eb_aload_n (pc := 3) 0 dX3_isWet_3 rfl rfl ?_
  refine eb_getR (pc := 4) ef_RX3_18 dX3_isWet_4 (fun r1 => ?_)
  refine eb_iload_n (pc := 7) 1 dX3_isWet_7 rfl rfl ?_
  refine eb_iaload (pc := 8) dX3_isWet_8 (fun x2 => ?_)
  refine eb_ialoadx (pc := 9) (by decide) (hG.1).1 (hG.1).2 dX3_isWet_9 (fun x3 => ?_)
  refine eb_if_le (pc := 10) (tgt := 17) dX3_isWet_10 (by decide) ?_ ?_
  · refine eb_iconst (pc := 17) (v := 0) dX3_isWet_17 (by decide) ?_
    exact eb_bret (pc := 18) (b := false) dX3_isWet_18 (by decide) (by decide)
  · refine eb_iconst (pc := 13) (v := 1) dX3_isWet_13 (by decide) ?_
    refine eb_goto (pc := 14) (tgt := 18) dX3_isWet_14 (by decide) ?_
    exact eb_bret (pc := 18) (b := true) dX3_isWet_18 (by decide) (by decide)

def f_X3_addThing (v0 : Nat) (v1 : Int32) (v2 : Int32) (v3 : Int32) (s : eb_S) : Option (Int32 × eb_S) := eb_gI s [3] v0 0 fun x1 => eb_pI s [3] v0 0 (x1 + 1) fun s2 => eb_gR s2 [3] v0 2 fun r3 => eb_gI s2 [3] v0 1 fun x4 => eb_wi s2 r3 x4 v1 fun s5 => eb_gR s5 [3] v0 3 fun r6 => eb_gI s5 [3] v0 1 fun x7 => eb_wi s5 r6 x7 v2 fun s8 => eb_gR s8 [3] v0 4 fun r9 => eb_gI s8 [3] v0 1 fun x10 => eb_wi s8 r9 x10 v3 fun s11 => eb_gR s11 [3] v0 5 fun r12 => eb_gI s11 [3] v0 1 fun x13 => eb_wi s11 r12 x13 0 fun s14 => eb_gR s14 [3] v0 6 fun r15 => eb_gI s14 [3] v0 1 fun x16 => eb_wi s14 r15 x16 0 fun s17 => eb_gI s17 [3] v0 1 fun x18 => eb_pI s17 [3] v0 1 (x18 + 1) fun s19 => some (x18, s19)
set_option maxRecDepth 100000 in
theorem ct_X3_addThing {G : eb_G} (hG : eb_ok G) (v0 : Nat) (v1 : Int32) (v2 : Int32) (v3 : Int32) (s : eb_S) : eb_ct G yX3_addThing cX3_addThing 4 (some .int) 1 0 0 eb_ei [.ref v0, .int v1, .int v2, .int v3] s (f_X3_addThing v0 v1 v2 v3 s) := by
  refine eb_ct_i (by decide) (Nat.le_of_ble_eq_true rfl) (fun v hv => by simp at hv; rcases hv with rfl | rfl | rfl | rfl <;> simp [Value.category]) ?_
  show eb_go G yX3_addThing cX3_addThing 4 (some .int) (1) 0 0 .ireturn (fun r : Int32 => [.int r]) 0 [(0, .ref v0), (1, .int v1), (2, .int v2), (3, .int v3)] [] s 0 0 _
  unfold f_X3_addThing
  refine eb_aload_n (pc := 0) 0 dX3_addThing_0 rfl rfl ?_
  refine eb_dup (pc := 1) dX3_addThing_1 rfl ?_
  refine eb_getI (pc := 2) ef_RX3_9 dX3_addThing_2 (fun x1 => ?_)
  refine eb_iconst (pc := 5) (v := 1) dX3_addThing_5 (by decide) ?_
  refine eb_iadd (pc := 6) dX3_addThing_6 ?_
  refine eb_putI (pc := 7) ef_RX3_9 eg_RX3_9 dX3_addThing_7 (fun s2 => ?_)
  refine eb_aload_n (pc := 10) 0 dX3_addThing_10 rfl rfl ?_
  refine eb_getR (pc := 11) ef_RX3_18 dX3_addThing_11 (fun r3 => ?_)
  refine eb_aload_n (pc := 14) 0 dX3_addThing_14 rfl rfl ?_
  refine eb_getI (pc := 15) ef_RX3_15 dX3_addThing_15 (fun x4 => ?_)
  refine eb_iload_n (pc := 18) 1 dX3_addThing_18 rfl rfl ?_
  refine eb_iastore (pc := 19) dX3_addThing_19 (fun s5 => ?_)
  refine eb_aload_n (pc := 20) 0 dX3_addThing_20 rfl rfl ?_
  refine eb_getR (pc := 21) ef_RX3_22 dX3_addThing_21 (fun r6 => ?_)
  refine eb_aload_n (pc := 24) 0 dX3_addThing_24 rfl rfl ?_
  refine eb_getI (pc := 25) ef_RX3_15 dX3_addThing_25 (fun x7 => ?_)
  refine eb_iload_n (pc := 28) 2 dX3_addThing_28 rfl rfl ?_
  refine eb_iastore (pc := 29) dX3_addThing_29 (fun s8 => ?_)
  refine eb_aload_n (pc := 30) 0 dX3_addThing_30 rfl rfl ?_
  refine eb_getR (pc := 31) ef_RX3_25 dX3_addThing_31 (fun r9 => ?_)
  refine eb_aload_n (pc := 34) 0 dX3_addThing_34 rfl rfl ?_
  refine eb_getI (pc := 35) ef_RX3_15 dX3_addThing_35 (fun x10 => ?_)
  refine eb_iload_n (pc := 38) 3 dX3_addThing_38 rfl rfl ?_
  refine eb_iastore (pc := 39) dX3_addThing_39 (fun s11 => ?_)
  refine eb_aload_n (pc := 40) 0 dX3_addThing_40 rfl rfl ?_
  refine eb_getR (pc := 41) ef_RX3_28 dX3_addThing_41 (fun r12 => ?_)
  refine eb_aload_n (pc := 44) 0 dX3_addThing_44 rfl rfl ?_
  refine eb_getI (pc := 45) ef_RX3_15 dX3_addThing_45 (fun x13 => ?_)
  refine eb_iconst (pc := 48) (v := 0) dX3_addThing_48 (by decide) ?_
  refine eb_iastore (pc := 49) dX3_addThing_49 (fun s14 => ?_)
  refine eb_aload_n (pc := 50) 0 dX3_addThing_50 rfl rfl ?_
  refine eb_getR (pc := 51) ef_RX3_31 dX3_addThing_51 (fun r15 => ?_)
  refine eb_aload_n (pc := 54) 0 dX3_addThing_54 rfl rfl ?_
  refine eb_getI (pc := 55) ef_RX3_15 dX3_addThing_55 (fun x16 => ?_)
  refine eb_iconst (pc := 58) (v := 0) dX3_addThing_58 (by decide) ?_
  refine eb_iastore (pc := 59) dX3_addThing_59 (fun s17 => ?_)
  refine eb_aload_n (pc := 60) 0 dX3_addThing_60 rfl rfl ?_
  refine eb_dup (pc := 61) dX3_addThing_61 rfl ?_
  refine eb_getI (pc := 62) ef_RX3_15 dX3_addThing_62 (fun x18 => ?_)
  refine eb_dup_x1 (pc := 65) dX3_addThing_65 rfl rfl ?_
  refine eb_iconst (pc := 66) (v := 1) dX3_addThing_66 (by decide) ?_
  refine eb_iadd (pc := 67) dX3_addThing_67 ?_
  refine eb_putI (pc := 68) ef_RX3_15 eg_RX3_15 dX3_addThing_68 (fun s19 => ?_)
  exact eb_iret (pc := 71) dX3_addThing_71 (by decide) (by decide)
