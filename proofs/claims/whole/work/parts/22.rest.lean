def f_X1_init (v0 : Nat) (v1 : Nat) (s : eb_S) : Option (Unit × eb_S) := eb_pI s [1] v0 0 0 fun s1 => eb_na s1 11 10 10 fun r2 s3 => eb_pR s3 [1] v0 1 r2 fun s4 => eb_na s4 11 0 0 fun r5 s6 => eb_pR s6 [1] v0 3 r5 fun s7 => eb_pI s7 [1] v0 4 ((-1)) fun s8 => eb_pR s8 [1] v0 2 v1 fun s9 => some ((), s9)
set_option maxRecDepth 100000 in
theorem ct_X1_init {G : eb_G} (hG : eb_ok G) (v0 : Nat) (v1 : Nat) (s : eb_S) : eb_ct G yX1_init cX1_init 2 none 1 2 10 eb_ev [.ref v0, .ref v1] s (f_X1_init v0 v1 s) := by
  refine eb_ct_v (by decide) (Nat.le_of_ble_eq_true rfl) (fun v hv => by simp at hv; rcases hv with rfl | rfl <;> simp [Value.category]) ?_
  show eb_go G yX1_init cX1_init 2 none (1) 2 10 .return_ (fun _ : Unit => []) 0 [(0, .ref v0), (1, .ref v1)] [] s 0 0 _
  unfold f_X1_init
  refine eb_aload_n (pc := 0) 0 dX1_init_0 rfl rfl ?_
  refine eb_obj (pc := 1) ew_307 ew_59 ew_60 (by decide) (Nat.le_of_ble_eq_true rfl) dX1_init_1 ?_
  refine eb_aload_n (pc := 4) 0 dX1_init_4 rfl rfl ?_
  refine eb_iconst (pc := 5) (v := 0) dX1_init_5 (by decide) ?_
  refine eb_putI (pc := 6) ef_RX1_9 eg_RX1_9 dX1_init_6 (fun s1 => ?_)
  refine eb_aload_n (pc := 9) 0 dX1_init_9 rfl rfl ?_
  refine eb_bipush (pc := 10) (v := 10) dX1_init_10 (by decide) ?_
  refine eb_newi (pc := 12) ew_57 dX1_init_12 (by decide) (by decide) (by decide) (fun r2 s3 => ?_)
  refine eb_putR (pc := 14) ef_RX1_15 eg_RX1_15 (fun _ => ⟨rfl, rfl⟩) dX1_init_14 (fun s4 => ?_)
  refine eb_aload_n (pc := 17) 0 dX1_init_17 rfl rfl ?_
  refine eb_iconst (pc := 18) (v := 0) dX1_init_18 (by decide) ?_
  refine eb_newi (pc := 19) ew_57 dX1_init_19 (by decide) (by decide) (by decide) (fun r5 s6 => ?_)
  refine eb_putR (pc := 21) ef_RX1_19 eg_RX1_19 (fun _ => ⟨rfl, rfl⟩) dX1_init_21 (fun s7 => ?_)
  refine eb_aload_n (pc := 24) 0 dX1_init_24 rfl rfl ?_
  refine eb_iconst (pc := 25) (v := (-1)) dX1_init_25 (by decide) ?_
  refine eb_putI (pc := 26) ef_RX1_22 eg_RX1_22 dX1_init_26 (fun s8 => ?_)
  refine eb_aload_n (pc := 29) 0 dX1_init_29 rfl rfl ?_
  refine eb_aload_n (pc := 30) 1 dX1_init_30 rfl rfl ?_
  refine eb_putR (pc := 31) ef_RX1_25 eg_RX1_25 (fun _ => ⟨rfl, rfl⟩) dX1_init_31 (fun s9 => ?_)
  exact eb_vret (pc := 34) dX1_init_34 (by decide) (by decide)

def f_X1_at (v0 : Int32) (v1 : Int32) (s : eb_S) : Option (Int32 × eb_S) := some ((v0 * 10) + v1, s)
set_option maxRecDepth 100000 in
theorem ct_X1_at {G : eb_G} (hG : eb_ok G) (v0 : Int32) (v1 : Int32) (s : eb_S) : eb_ct G yX1_at cX1_at 2 (some .int) 1 0 0 eb_ei [.int v0, .int v1] s (f_X1_at v0 v1 s) := by
  refine eb_ct_i (by decide) (Nat.le_of_ble_eq_true rfl) (fun v hv => by simp at hv; rcases hv with rfl | rfl <;> simp [Value.category]) ?_
  show eb_go G yX1_at cX1_at 2 (some .int) (1) 0 0 .ireturn (fun r : Int32 => [.int r]) 0 [(0, .int v0), (1, .int v1)] [] s 0 0 _
  unfold f_X1_at
  refine eb_iload_n (pc := 0) 0 dX1_at_0 rfl rfl ?_
  refine eb_bipush (pc := 1) (v := 10) dX1_at_1 (by decide) ?_
  refine eb_imul (pc := 3) dX1_at_3 ?_
  refine eb_iload_n (pc := 4) 1 dX1_at_4 rfl rfl ?_
  refine eb_iadd (pc := 5) dX1_at_5 ?_
  exact eb_iret (pc := 6) dX1_at_6 (by decide) (by decide)

def f_X1_costBy (v0 : Nat) (v1 : Int32) (v2 : Int32) (v3 : Int32) (v4 : Int32) (s : eb_S) : Option (Int32 × eb_S) := eb_jn (fun (y1 : Int32) (s2 : eb_S) => eb_gR s2 [1] v0 2 fun r4 => eb_gR s2 [3] r4 5 fun r5 => eb_ai s2 r5 v4 fun x6 => eb_gR s2 [1] v0 3 fun r7 => eb_cl (f_X1_at (v1 ||| ((1 : Int32) <<< (v4 &&& 31))) v4 s2) fun x9 s8 => eb_ai s8 r7 x9 fun x10 => some ((v3 * (if 0 ≤ (x6 - y1) then (x6 - y1) else 0 - (x6 - y1))) + x10, s8)) fun j3 => if 0 ≤ v2 then (eb_gR s [1] v0 2 fun r11 => eb_gR s [3] r11 5 fun r12 => eb_ai s r12 v2 fun x13 => j3 x13 s) else (j3 0 s)
set_option maxRecDepth 100000 in
theorem ct_X1_costBy {G : eb_G} (hG : eb_ok G) (v0 : Nat) (v1 : Int32) (v2 : Int32) (v3 : Int32) (v4 : Int32) (s : eb_S) : eb_ct G yX1_costBy cX1_costBy 6 (some .int) 2 0 0 eb_ei [.ref v0, .int v1, .int v2, .int v3, .int v4] s (f_X1_costBy v0 v1 v2 v3 v4 s) := by
  refine eb_ct_i (by decide) (Nat.le_of_ble_eq_true rfl) (fun v hv => by simp at hv; rcases hv with rfl | rfl | rfl | rfl | rfl <;> simp [Value.category]) ?_
  show eb_go G yX1_costBy cX1_costBy 6 (some .int) (2) 0 0 .ireturn (fun r : Int32 => [.int r]) 0 [(0, .ref v0), (1, .int v1), (2, .int v2), (3, .int v3), (4, .int v4)] [] s 0 0 _
  unfold f_X1_costBy
  refine eb_iload_n (pc := 0) 2 dX1_costBy_0 rfl rfl ?_
  refine eb_join (fun j3 : Int32 → eb_S → Option (Int32 × eb_S) => ∀ (y1 : Int32) (s2 : eb_S), eb_go G yX1_costBy cX1_costBy 6 (some .int) (2) 0 0 .ireturn (fun r : Int32 => [.int r]) 17 [(0, .ref v0), (1, .int v1), (3, .int v3), (4, .int v4)] [.int y1] s2 0 0 (j3 y1 s2)) ?_ (fun j3 hj3 => ?_)
  · intro y1 s2
    refine eb_istore (pc := 17) (L' := [(5, .int y1), (0, .ref v0), (1, .int v1), (3, .int v3), (4, .int v4)]) dX1_costBy_17 (by decide) rfl ?_
    refine eb_iload_n (pc := 19) 3 dX1_costBy_19 rfl rfl ?_
    refine eb_aload_n (pc := 20) 1 dX1_costBy_20 rfl rfl ?_
    refine eb_getR (pc := 21) ef_RX1_25 dX1_costBy_21 (fun r4 => ?_)
    refine eb_getR (pc := 24) ef_RX1_52 dX1_costBy_24 (fun r5 => ?_)
    refine eb_iload (pc := 27) 4 dX1_costBy_27 rfl ?_
    refine eb_iaload (pc := 29) dX1_costBy_29 (fun x6 => ?_)
    refine eb_iload (pc := 30) 0 dX1_costBy_30 rfl ?_
    refine eb_isub (pc := 32) dX1_costBy_32 ?_
    refine eb_mabs (pc := 33) ew_313 ew_93 ew_17 ew_94 (by decide) (Nat.le_of_ble_eq_true rfl) (by decide) (by decide) dX1_costBy_33 ?_
    refine eb_imul (pc := 36) dX1_costBy_36 ?_
    refine eb_aload_n (pc := 37) 1 dX1_costBy_37 rfl rfl ?_
    refine eb_getR (pc := 38) ef_RX1_19 dX1_costBy_38 (fun r7 => ?_)
    refine eb_iload_n (pc := 41) 2 dX1_costBy_41 rfl rfl ?_
    refine eb_iconst (pc := 42) (v := 1) dX1_costBy_42 (by decide) ?_
    refine eb_iload (pc := 43) 4 dX1_costBy_43 rfl ?_
    refine eb_ishl (pc := 45) dX1_costBy_45 ?_
    refine eb_ior (pc := 46) dX1_costBy_46 ?_
    refine eb_iload (pc := 47) 4 dX1_costBy_47 rfl ?_
    refine eb_calli (pc := 49) (eb_runS (pc := 49) (As := [.int (v1 ||| ((1 : Int32) <<< (v4 &&& 31))), .int v4]) (rest := [.ref r7, .int (v3 * (if 0 ≤ (x6 - y1) then (x6 - y1) else 0 - (x6 - y1)))]) ew_309 ew_310 ew_311 rfl ed_X1_at (ct_X1_at hG _ _ _) ew_312 ⟨by decide, by decide⟩ (by decide) (by decide) (Nat.le_of_ble_eq_true rfl) rfl dX1_costBy_49) (fun x9 s8 => ?_)
    refine eb_iaload (pc := 52) dX1_costBy_52 (fun x10 => ?_)
    refine eb_iadd (pc := 53) dX1_costBy_53 ?_
    exact eb_iret (pc := 54) dX1_costBy_54 (by decide) (by decide)
  refine eb_if_ge (pc := 1) (tgt := 8) dX1_costBy_1 (by decide) ?_ ?_
  · refine eb_aload_n (pc := 8) 0 dX1_costBy_8 rfl rfl ?_
    refine eb_getR (pc := 9) ef_RX1_25 dX1_costBy_9 (fun r11 => ?_)
    refine eb_getR (pc := 12) ef_RX1_52 dX1_costBy_12 (fun r12 => ?_)
    refine eb_iload_n (pc := 15) 2 dX1_costBy_15 rfl rfl ?_
    refine eb_iaload (pc := 16) dX1_costBy_16 (fun x13 => ?_)
    refine eb_sub [0, 1, 3, 4] rfl ?_
    exact hj3 _ _
  · refine eb_iconst (pc := 4) (v := 0) dX1_costBy_4 (by decide) ?_
    refine eb_goto (pc := 5) (tgt := 17) dX1_costBy_5 (by decide) ?_
    refine eb_sub [0, 1, 3, 4] rfl ?_
    exact hj3 _ _

def f_X1_nextBehind_L10 (n : Nat) (v0 : Nat) (v1 : Int32) (v2 : Int32) (v3 : Int32)  : Nat → Int32 → Int32 → Int32 → eb_S → Option (Int32 × eb_S)
  | 0, _, _, _, _ => none
  | m + 1, v4, v5, v6, s => eb_gR s [1] v0 2 fun r1 => eb_gI s [3] r1 1 fun x2 => if x2 ≤ v6 then (some (v4, s)) else (eb_jn (fun (p3 : Int32) (p4 : Int32) (p5 : Int32) (s6 : eb_S) => f_X1_nextBehind_L10 n v0 v1 v2 v3 m p3 p4 (p5 + 1) s6) fun j7 => if ((v1 >>> (v6 &&& 31)) &&& 1) = 0 then (eb_cl (eb_tg s v0 1 (f_X1_costBy v0 v1 v2 v3 v6 s)) fun x9 s8 => if v5 ≤ x9 then (j7 v4 v5 v6 s8) else (j7 v6 x9 v6 s8)) else (j7 v4 v5 v6 s))
def f_X1_nextBehind (n : Nat) (v0 : Nat) (v1 : Int32) (v2 : Int32) (v3 : Int32) (s : eb_S) : Option (Int32 × eb_S) := f_X1_nextBehind_L10 n v0 v1 v2 v3  n 0 1000000 0 s
set_option maxRecDepth 100000 in
theorem gl_X1_nextBehind_L10 {G : eb_G} (hG : eb_ok G) {n : Nat} {v0 : Nat} {v1 : Int32} {v2 : Int32} {v3 : Int32}   : ∀ (m : Nat) (v4 : Int32) (v5 : Int32) (v6 : Int32) (s : eb_S), eb_go G yX1_nextBehind cX1_nextBehind 8 (some .int) (3) 0 0 .ireturn (fun r : Int32 => [.int r]) 10 [(0, .ref v0), (1, .int v1), (2, .int v2), (3, .int v3), (4, .int v4), (5, .int v5), (6, .int v6)] [] s 0 0 (f_X1_nextBehind_L10 n v0 v1 v2 v3 m v4 v5 v6 s) := by
  intro m
  induction m with
  | zero => intro v4 v5 v6 s; exact eb_none
  | succ m ih =>
    intro v4 v5 v6 s
    rw [f_X1_nextBehind_L10.eq_2]
    refine eb_iload (pc := 10) 6 dX1_nextBehind_10 rfl ?_
    refine eb_aload_n (pc := 12) 0 dX1_nextBehind_12 rfl rfl ?_
    refine eb_getR (pc := 13) ef_RX1_25 dX1_nextBehind_13 (fun r1 => ?_)
    refine eb_getI (pc := 16) ef_RX1_34 dX1_nextBehind_16 (fun x2 => ?_)
    refine eb_icmp_ge (pc := 19) (tgt := 63) dX1_nextBehind_19 (by decide) ?_ ?_
    · refine eb_iload (pc := 63) 4 dX1_nextBehind_63 rfl ?_
      exact eb_iret (pc := 65) dX1_nextBehind_65 (by decide) (by decide)
    · refine eb_iload_n (pc := 22) 1 dX1_nextBehind_22 rfl rfl ?_
      refine eb_iload (pc := 23) 6 dX1_nextBehind_23 rfl ?_
      refine eb_ishr (pc := 25) dX1_nextBehind_25 ?_
      refine eb_iconst (pc := 26) (v := 1) dX1_nextBehind_26 (by decide) ?_
      refine eb_iand (pc := 27) dX1_nextBehind_27 ?_
      refine eb_join (fun j7 : Int32 → Int32 → Int32 → eb_S → Option (Int32 × eb_S) => ∀ (p3 : Int32) (p4 : Int32) (p5 : Int32) (s6 : eb_S), eb_go G yX1_nextBehind cX1_nextBehind 8 (some .int) (3) 0 0 .ireturn (fun r : Int32 => [.int r]) 57 [(0, .ref v0), (1, .int v1), (2, .int v2), (3, .int v3), (4, .int p3), (5, .int p4), (6, .int p5)] [] s6 0 0 (j7 p3 p4 p5 s6)) ?_ (fun j7 hj7 => ?_)
      · intro p3 p4 p5 s6
        refine eb_iinc (pc := 57) (v := p5 + 1) (L' := [(6, .int (p5 + 1)), (0, .ref v0), (1, .int v1), (2, .int v2), (3, .int v3), (4, .int p3), (5, .int p4)]) 6 dX1_nextBehind_57 rfl rfl (by decide) rfl ?_
        refine eb_goto (pc := 60) (tgt := 10) dX1_nextBehind_60 (by decide) ?_
        refine eb_sub [1, 2, 3, 4, 5, 6, 0] rfl ?_
        exact ih _ _ _ _
      refine eb_if_ne (pc := 28) (tgt := 57) dX1_nextBehind_28 (by decide) ?_ ?_
      · exact hj7 _ _ _ _
      · refine eb_aload_n (pc := 31) 0 dX1_nextBehind_31 rfl rfl ?_
        refine eb_iload_n (pc := 32) 1 dX1_nextBehind_32 rfl rfl ?_
        refine eb_iload_n (pc := 33) 2 dX1_nextBehind_33 rfl rfl ?_
        refine eb_iload_n (pc := 34) 3 dX1_nextBehind_34 rfl rfl ?_
        refine eb_iload (pc := 35) 6 dX1_nextBehind_35 rfl ?_
        refine eb_calli (pc := 37) (eb_runV (pc := 37) (As := [.int v1, .int v2, .int v3, .int v6]) (rest := []) (ci := 1) (q0 := (RX1, TX1, 5)) (q := (RX1, TX1, 5)) ew_315 ew_316 ew_317 ew_311 rfl rfl ed_X1_costBy (ct_X1_costBy hG _ _ _ _ _ _) rfl ew_318 ⟨by decide, by decide⟩ (by decide) (by decide) (Nat.le_of_ble_eq_true rfl) rfl dX1_nextBehind_37) (fun x9 s8 => ?_)
        refine eb_istore (pc := 40) (L' := [(7, .int x9), (0, .ref v0), (1, .int v1), (2, .int v2), (3, .int v3), (4, .int v4), (5, .int v5), (6, .int v6)]) dX1_nextBehind_40 (by decide) rfl ?_
        refine eb_iload (pc := 42) 0 dX1_nextBehind_42 rfl ?_
        refine eb_iload (pc := 44) 6 dX1_nextBehind_44 rfl ?_
        refine eb_icmp_ge (pc := 46) (tgt := 57) dX1_nextBehind_46 (by decide) ?_ ?_
        · refine eb_sub [1, 2, 3, 4, 5, 6, 7] rfl ?_
          exact hj7 _ _ _ _
        · refine eb_iload (pc := 49) 0 dX1_nextBehind_49 rfl ?_
          refine eb_istore (pc := 51) (L' := [(5, .int x9), (7, .int x9), (0, .ref v0), (1, .int v1), (2, .int v2), (3, .int v3), (4, .int v4), (6, .int v6)]) dX1_nextBehind_51 (by decide) rfl ?_
          refine eb_iload (pc := 53) 7 dX1_nextBehind_53 rfl ?_
          refine eb_istore (pc := 55) (L' := [(4, .int v6), (5, .int x9), (7, .int x9), (0, .ref v0), (1, .int v1), (2, .int v2), (3, .int v3), (6, .int v6)]) dX1_nextBehind_55 (by decide) rfl ?_
          refine eb_sub [3, 4, 5, 6, 0, 1, 7] rfl ?_
          exact hj7 _ _ _ _
set_option maxRecDepth 100000 in
theorem ct_X1_nextBehind {G : eb_G} (hG : eb_ok G) (n : Nat) (v0 : Nat) (v1 : Int32) (v2 : Int32) (v3 : Int32) (s : eb_S) : eb_ct G yX1_nextBehind cX1_nextBehind 8 (some .int) 3 0 0 eb_ei [.ref v0, .int v1, .int v2, .int v3] s (f_X1_nextBehind n v0 v1 v2 v3 s) := by
  refine eb_ct_i (by decide) (Nat.le_of_ble_eq_true rfl) (fun v hv => by simp at hv; rcases hv with rfl | rfl | rfl | rfl <;> simp [Value.category]) ?_
  show eb_go G yX1_nextBehind cX1_nextBehind 8 (some .int) (3) 0 0 .ireturn (fun r : Int32 => [.int r]) 0 [(0, .ref v0), (1, .int v1), (2, .int v2), (3, .int v3)] [] s 0 0 _
  unfold f_X1_nextBehind
  refine eb_iconst (pc := 0) (v := 0) dX1_nextBehind_0 (by decide) ?_
  refine eb_istore (pc := 1) (L' := [(4, .int 0), (0, .ref v0), (1, .int v1), (2, .int v2), (3, .int v3)]) dX1_nextBehind_1 (by decide) rfl ?_
  refine eb_ldc (pc := 3) (v := 1000000) dX1_nextBehind_3 ew_319 ?_
  refine eb_istore (pc := 5) (L' := [(5, .int 1000000), (4, .int 0), (0, .ref v0), (1, .int v1), (2, .int v2), (3, .int v3)]) dX1_nextBehind_5 (by decide) rfl ?_
  refine eb_iconst (pc := 7) (v := 0) dX1_nextBehind_7 (by decide) ?_
  refine eb_istore (pc := 8) (L' := [(6, .int 0), (5, .int 1000000), (4, .int 0), (0, .ref v0), (1, .int v1), (2, .int v2), (3, .int v3)]) dX1_nextBehind_8 (by decide) rfl ?_
  refine eb_sub [3, 4, 5, 6, 2, 1, 0] rfl ?_
  refine gl_X1_nextBehind_L10 hG  n _ _ _ _

def f_X1_weigh_L12 (n : Nat) (v0 : Nat) (v1 : Int32) (v2 : Int32) (v3 : Int32)  : Nat → Int32 → eb_S → Option (Unit × eb_S)
  | 0, _, _ => none
  | m + 1, v4, s => eb_gR s [1] v0 2 fun r4 => eb_gI s [3] r4 1 fun x5 => if x5 ≤ v4 then (some ((), s)) else (eb_jn (fun (p6 : Int32) (s7 : eb_S) => f_X1_weigh_L12 n v0 v1 v2 v3 m (p6 + 1) s7) fun j8 => if ((v1 >>> (v4 &&& 31)) &&& 1) = 1 then (eb_gR s [1] v0 3 fun r9 => eb_cl (f_X1_at v1 v4 s) fun x11 s10 => eb_jn (fun (y12 : Int32) (s13 : eb_S) => eb_wi s13 r9 x11 y12 fun s15 => j8 v4 s15) fun j14 => if v2 = 0 then (eb_cl (eb_tg s10 v0 1 (f_X1_nextBehind n v0 v1 v4 v3 s10)) fun x17 s16 => eb_cl (eb_tg s16 v0 1 (f_X1_costBy v0 v1 v4 v3 x17 s16)) fun x19 s18 => j14 x19 s18) else (eb_gR s10 [1] v0 2 fun r20 => eb_gR s10 [3] r20 5 fun r21 => eb_ai s10 r21 v4 fun x22 => j14 (v3 * (if 0 ≤ x22 then x22 else 0 - x22)) s10)) else (j8 v4 s))
def f_X1_weigh (n : Nat) (v0 : Nat) (v1 : Int32) (v2 : Int32) (s : eb_S) : Option (Unit × eb_S) := eb_gR s [1] v0 2 fun r1 => eb_cl (eb_tg s r1 3 (f_X3_weightOf n r1 v1 s)) fun x3 s2 => f_X1_weigh_L12 n v0 v1 v2 x3  n 0 s2
set_option maxRecDepth 100000 in
theorem gl_X1_weigh_L12 {G : eb_G} (hG : eb_ok G) {n : Nat} {v0 : Nat} {v1 : Int32} {v2 : Int32} {v3 : Int32}   : ∀ (m : Nat) (v4 : Int32) (s : eb_S), eb_go G yX1_weigh cX1_weigh 5 none (4) 0 0 .return_ (fun _ : Unit => []) 12 [(0, .ref v0), (1, .int v1), (2, .int v2), (3, .int v3), (4, .int v4)] [] s 0 0 (f_X1_weigh_L12 n v0 v1 v2 v3 m v4 s) := by
  intro m
  induction m with
  | zero => intro v4 s; exact eb_none
  | succ m ih =>
    intro v4 s
    rw [f_X1_weigh_L12.eq_2]
    refine eb_iload (pc := 12) 4 dX1_weigh_12 rfl ?_
    refine eb_aload_n (pc := 14) 0 dX1_weigh_14 rfl rfl ?_
    refine eb_getR (pc := 15) ef_RX1_25 dX1_weigh_15 (fun r4 => ?_)
    refine eb_getI (pc := 18) ef_RX1_34 dX1_weigh_18 (fun x5 => ?_)
    refine eb_icmp_ge (pc := 21) (tgt := 89) dX1_weigh_21 (by decide) ?_ ?_
    · exact eb_vret (pc := 89) dX1_weigh_89 (by decide) (by decide)
    · refine eb_iload_n (pc := 24) 1 dX1_weigh_24 rfl rfl ?_
      refine eb_iload (pc := 25) 4 dX1_weigh_25 rfl ?_
      refine eb_ishr (pc := 27) dX1_weigh_27 ?_
      refine eb_iconst (pc := 28) (v := 1) dX1_weigh_28 (by decide) ?_
      refine eb_iand (pc := 29) dX1_weigh_29 ?_
      refine eb_iconst (pc := 30) (v := 1) dX1_weigh_30 (by decide) ?_
      refine eb_join (fun j8 : Int32 → eb_S → Option (Unit × eb_S) => ∀ (p6 : Int32) (s7 : eb_S), eb_go G yX1_weigh cX1_weigh 5 none (4) 0 0 .return_ (fun _ : Unit => []) 83 [(0, .ref v0), (1, .int v1), (2, .int v2), (3, .int v3), (4, .int p6)] [] s7 0 0 (j8 p6 s7)) ?_ (fun j8 hj8 => ?_)
      · intro p6 s7
        refine eb_iinc (pc := 83) (v := p6 + 1) (L' := [(4, .int (p6 + 1)), (0, .ref v0), (1, .int v1), (2, .int v2), (3, .int v3)]) 4 dX1_weigh_83 rfl rfl (by decide) rfl ?_
        refine eb_goto (pc := 86) (tgt := 12) dX1_weigh_86 (by decide) ?_
        refine eb_sub [1, 2, 3, 4, 0] rfl ?_
        exact ih _ _
      refine eb_icmp_ne (pc := 31) (tgt := 83) dX1_weigh_31 (by decide) ?_ ?_
      · exact hj8 _ _
      · refine eb_aload_n (pc := 34) 0 dX1_weigh_34 rfl rfl ?_
        refine eb_getR (pc := 35) ef_RX1_19 dX1_weigh_35 (fun r9 => ?_)
        refine eb_iload_n (pc := 38) 1 dX1_weigh_38 rfl rfl ?_
        refine eb_iload (pc := 39) 4 dX1_weigh_39 rfl ?_
        refine eb_calli (pc := 41) (eb_runS (pc := 41) (As := [.int v1, .int v4]) (rest := [.ref r9]) ew_309 ew_310 ew_311 rfl ed_X1_at (ct_X1_at hG _ _ _) ew_312 ⟨by decide, by decide⟩ (by decide) (by decide) (Nat.le_of_ble_eq_true rfl) rfl dX1_weigh_41) (fun x11 s10 => ?_)
        refine eb_iload_n (pc := 44) 2 dX1_weigh_44 rfl rfl ?_
        refine eb_join (fun j14 : Int32 → eb_S → Option (Unit × eb_S) => ∀ (y12 : Int32) (s13 : eb_S), eb_go G yX1_weigh cX1_weigh 5 none (4) 0 0 .return_ (fun _ : Unit => []) 82 [(0, .ref v0), (1, .int v1), (2, .int v2), (3, .int v3), (4, .int v4)] [.int y12, .int x11, .ref r9] s13 0 0 (j14 y12 s13)) ?_ (fun j14 hj14 => ?_)
        · intro y12 s13
          refine eb_iastore (pc := 82) dX1_weigh_82 (fun s15 => ?_)
          exact hj8 _ _
        refine eb_if_eq (pc := 45) (tgt := 66) dX1_weigh_45 (by decide) ?_ ?_
        · refine eb_aload_n (pc := 66) 0 dX1_weigh_66 rfl rfl ?_
          refine eb_iload_n (pc := 67) 1 dX1_weigh_67 rfl rfl ?_
          refine eb_iload (pc := 68) 4 dX1_weigh_68 rfl ?_
          refine eb_iload_n (pc := 70) 3 dX1_weigh_70 rfl rfl ?_
          refine eb_aload_n (pc := 71) 0 dX1_weigh_71 rfl rfl ?_
          refine eb_iload_n (pc := 72) 1 dX1_weigh_72 rfl rfl ?_
          refine eb_iload (pc := 73) 4 dX1_weigh_73 rfl ?_
          refine eb_iload_n (pc := 75) 3 dX1_weigh_75 rfl rfl ?_
          refine eb_calli (pc := 76) (eb_runV (pc := 76) (As := [.int v1, .int v4, .int v3]) (rest := [.int v3, .int v4, .int v1, .ref v0, .int x11, .ref r9]) (ci := 1) (q0 := (RX1, TX1, 5)) (q := (RX1, TX1, 5)) ew_321 ew_322 ew_323 ew_311 rfl rfl ed_X1_nextBehind (ct_X1_nextBehind hG n _ _ _ _ _) rfl ew_324 ⟨by decide, by decide⟩ (by decide) (by decide) (Nat.le_of_ble_eq_true rfl) rfl dX1_weigh_76) (fun x17 s16 => ?_)
          refine eb_calli (pc := 79) (eb_runV (pc := 79) (As := [.int v1, .int v4, .int v3, .int x17]) (rest := [.int x11, .ref r9]) (ci := 1) (q0 := (RX1, TX1, 5)) (q := (RX1, TX1, 5)) ew_315 ew_316 ew_317 ew_311 rfl rfl ed_X1_costBy (ct_X1_costBy hG _ _ _ _ _ _) rfl ew_318 ⟨by decide, by decide⟩ (by decide) (by decide) (Nat.le_of_ble_eq_true rfl) rfl dX1_weigh_79) (fun x19 s18 => ?_)
          exact hj14 _ _
        · refine eb_iload_n (pc := 48) 3 dX1_weigh_48 rfl rfl ?_
          refine eb_aload_n (pc := 49) 0 dX1_weigh_49 rfl rfl ?_
          refine eb_getR (pc := 50) ef_RX1_25 dX1_weigh_50 (fun r20 => ?_)
          refine eb_getR (pc := 53) ef_RX1_52 dX1_weigh_53 (fun r21 => ?_)
          refine eb_iload (pc := 56) 4 dX1_weigh_56 rfl ?_
          refine eb_iaload (pc := 58) dX1_weigh_58 (fun x22 => ?_)
          refine eb_mabs (pc := 59) ew_313 ew_93 ew_17 ew_94 (by decide) (Nat.le_of_ble_eq_true rfl) (by decide) (by decide) dX1_weigh_59 ?_
          refine eb_imul (pc := 62) dX1_weigh_62 ?_
          refine eb_goto (pc := 63) (tgt := 82) dX1_weigh_63 (by decide) ?_
          exact hj14 _ _
set_option maxRecDepth 100000 in
theorem ct_X1_weigh {G : eb_G} (hG : eb_ok G) (n : Nat) (v0 : Nat) (v1 : Int32) (v2 : Int32) (s : eb_S) : eb_ct G yX1_weigh cX1_weigh 5 none 4 0 0 eb_ev [.ref v0, .int v1, .int v2] s (f_X1_weigh n v0 v1 v2 s) := by
  refine eb_ct_v (by decide) (Nat.le_of_ble_eq_true rfl) (fun v hv => by simp at hv; rcases hv with rfl | rfl | rfl <;> simp [Value.category]) ?_
  show eb_go G yX1_weigh cX1_weigh 5 none (4) 0 0 .return_ (fun _ : Unit => []) 0 [(0, .ref v0), (1, .int v1), (2, .int v2)] [] s 0 0 _
  unfold f_X1_weigh
  refine eb_aload_n (pc := 0) 0 dX1_weigh_0 rfl rfl ?_
  refine eb_getR (pc := 1) ef_RX1_25 dX1_weigh_1 (fun r1 => ?_)
  refine eb_iload_n (pc := 4) 1 dX1_weigh_4 rfl rfl ?_
  refine eb_calli (pc := 5) (eb_runV (pc := 5) (As := [.int v1]) (rest := []) (ci := 3) (q0 := (RX3, TX3, 20)) (q := (RX3, TX3, 20)) ew_320 ew_124 ew_125 ew_68 rfl rfl ed_X3_weightOf (ct_X3_weightOf hG n _ _ _) rfl ew_126 ⟨by decide, by decide⟩ (by decide) (by decide) (Nat.le_of_ble_eq_true rfl) rfl dX1_weigh_5) (fun x3 s2 => ?_)
  refine eb_istore_n (pc := 8) (L' := [(3, .int x3), (0, .ref v0), (1, .int v1), (2, .int v2)]) dX1_weigh_8 rfl (by decide) rfl ?_
  refine eb_iconst (pc := 9) (v := 0) dX1_weigh_9 (by decide) ?_
  refine eb_istore (pc := 10) (L' := [(4, .int 0), (3, .int x3), (0, .ref v0), (1, .int v1), (2, .int v2)]) dX1_weigh_10 (by decide) rfl ?_
  refine eb_sub [2, 3, 4, 1, 0] rfl ?_
  refine gl_X1_weigh_L12 hG  n _ _

def f_X1_goShopping_L14 (n : Nat) (v0 : Nat)  : Nat → Int32 → Int32 → Int32 → Int32 → eb_S → Option (Unit × eb_S)
  | 0, _, _, _, _, _ => none
  | m + 1, v1, v2, v3, v4, s => eb_gR s [1] v0 2 fun r2 => eb_gI s [3] r2 1 fun x3 => if x3 ≤ v4 then (some ((), s)) else (eb_cl (eb_tg s v0 1 (f_X1_nextBehind n v0 v1 v3 v2 s)) fun x5 s4 => eb_jn (fun (s6 : eb_S) => eb_gR s6 [1] v0 1 fun r8 => eb_wi s6 r8 v4 x5 fun s9 => eb_gR s9 [1] v0 2 fun r10 => eb_gR s9 [3] r10 3 fun r11 => eb_ai s9 r11 x5 fun x12 => f_X1_goShopping_L14 n v0 m (v1 ||| ((1 : Int32) <<< (x5 &&& 31))) (v2 + x12) x5 (v4 + 1) s9) fun j7 => if v4 = 0 then (eb_cl (eb_tg s4 v0 1 (f_X1_costBy v0 v1 v3 v2 x5 s4)) fun x14 s13 => eb_pI s13 [1] v0 0 x14 fun s15 => j7 s15) else (j7 s4))
def f_X1_goShopping (n : Nat) (v0 : Nat) (s : eb_S) : Option (Unit × eb_S) := eb_pI s [1] v0 0 0 fun s1 => f_X1_goShopping_L14 n v0  n 0 0 ((-1)) 0 s1
set_option maxRecDepth 100000 in
theorem gl_X1_goShopping_L14 {G : eb_G} (hG : eb_ok G) {n : Nat} {v0 : Nat}   : ∀ (m : Nat) (v1 : Int32) (v2 : Int32) (v3 : Int32) (v4 : Int32) (s : eb_S), eb_go G yX1_goShopping cX1_goShopping 6 none (4) 0 0 .return_ (fun _ : Unit => []) 14 [(0, .ref v0), (1, .int v1), (2, .int v2), (3, .int v3), (4, .int v4)] [] s 0 0 (f_X1_goShopping_L14 n v0 m v1 v2 v3 v4 s) := by
  intro m
  induction m with
  | zero => intro v1 v2 v3 v4 s; exact eb_none
  | succ m ih =>
    intro v1 v2 v3 v4 s
    rw [f_X1_goShopping_L14.eq_2]
    refine eb_iload (pc := 14) 4 dX1_goShopping_14 rfl ?_
    refine eb_aload_n (pc := 16) 0 dX1_goShopping_16 rfl rfl ?_
    refine eb_getR (pc := 17) ef_RX1_25 dX1_goShopping_17 (fun r2 => ?_)
    refine eb_getI (pc := 20) ef_RX1_34 dX1_goShopping_20 (fun x3 => ?_)
    refine eb_icmp_ge (pc := 23) (tgt := 91) dX1_goShopping_23 (by decide) ?_ ?_
    · exact eb_vret (pc := 91) dX1_goShopping_91 (by decide) (by decide)
    · refine eb_aload_n (pc := 26) 0 dX1_goShopping_26 rfl rfl ?_
      refine eb_iload_n (pc := 27) 1 dX1_goShopping_27 rfl rfl ?_
      refine eb_iload_n (pc := 28) 3 dX1_goShopping_28 rfl rfl ?_
      refine eb_iload_n (pc := 29) 2 dX1_goShopping_29 rfl rfl ?_
      refine eb_calli (pc := 30) (eb_runV (pc := 30) (As := [.int v1, .int v3, .int v2]) (rest := []) (ci := 1) (q0 := (RX1, TX1, 5)) (q := (RX1, TX1, 5)) ew_321 ew_322 ew_323 ew_311 rfl rfl ed_X1_nextBehind (ct_X1_nextBehind hG n _ _ _ _ _) rfl ew_324 ⟨by decide, by decide⟩ (by decide) (by decide) (Nat.le_of_ble_eq_true rfl) rfl dX1_goShopping_30) (fun x5 s4 => ?_)
      refine eb_istore (pc := 33) (L' := [(5, .int x5), (0, .ref v0), (1, .int v1), (2, .int v2), (3, .int v3), (4, .int v4)]) dX1_goShopping_33 (by decide) rfl ?_
      refine eb_iload (pc := 35) 5 dX1_goShopping_35 rfl ?_
      refine eb_join (fun j7 : eb_S → Option (Unit × eb_S) => ∀  (s6 : eb_S), eb_go G yX1_goShopping cX1_goShopping 6 none (4) 0 0 .return_ (fun _ : Unit => []) 53 [(0, .ref v0), (1, .int v1), (2, .int v2), (4, .int v4), (5, .int x5)] [] s6 0 0 (j7  s6)) ?_ (fun j7 hj7 => ?_)
      · intro  s6
        refine eb_aload_n (pc := 53) 0 dX1_goShopping_53 rfl rfl ?_
        refine eb_getR (pc := 54) ef_RX1_15 dX1_goShopping_54 (fun r8 => ?_)
        refine eb_iload (pc := 57) 3 dX1_goShopping_57 rfl ?_
        refine eb_iload (pc := 59) 4 dX1_goShopping_59 rfl ?_
        refine eb_iastore (pc := 61) dX1_goShopping_61 (fun s9 => ?_)
        refine eb_iload_n (pc := 62) 1 dX1_goShopping_62 rfl rfl ?_
        refine eb_iconst (pc := 63) (v := 1) dX1_goShopping_63 (by decide) ?_
        refine eb_iload (pc := 64) 4 dX1_goShopping_64 rfl ?_
        refine eb_ishl (pc := 66) dX1_goShopping_66 ?_
        refine eb_ior (pc := 67) dX1_goShopping_67 ?_
        refine eb_istore_n (pc := 68) (L' := [(1, .int (v1 ||| ((1 : Int32) <<< (x5 &&& 31)))), (0, .ref v0), (2, .int v2), (4, .int v4), (5, .int x5)]) dX1_goShopping_68 rfl (by decide) rfl ?_
        refine eb_iload_n (pc := 69) 2 dX1_goShopping_69 rfl rfl ?_
        refine eb_aload_n (pc := 70) 1 dX1_goShopping_70 rfl rfl ?_
        refine eb_getR (pc := 71) ef_RX1_25 dX1_goShopping_71 (fun r10 => ?_)
        refine eb_getR (pc := 74) ef_RX1_68 dX1_goShopping_74 (fun r11 => ?_)
        refine eb_iload (pc := 77) 4 dX1_goShopping_77 rfl ?_
        refine eb_iaload (pc := 79) dX1_goShopping_79 (fun x12 => ?_)
        refine eb_iadd (pc := 80) dX1_goShopping_80 ?_
        refine eb_istore_n (pc := 81) (L' := [(2, .int (v2 + x12)), (1, .int (v1 ||| ((1 : Int32) <<< (x5 &&& 31)))), (0, .ref v0), (4, .int v4), (5, .int x5)]) dX1_goShopping_81 rfl (by decide) rfl ?_
        refine eb_iload (pc := 82) 4 dX1_goShopping_82 rfl ?_
        refine eb_istore_n (pc := 84) (L' := [(3, .int x5), (2, .int (v2 + x12)), (1, .int (v1 ||| ((1 : Int32) <<< (x5 &&& 31)))), (0, .ref v0), (4, .int v4), (5, .int x5)]) dX1_goShopping_84 rfl (by decide) rfl ?_
        refine eb_iinc (pc := 85) (v := v4 + 1) (L' := [(4, .int (v4 + 1)), (3, .int x5), (2, .int (v2 + x12)), (1, .int (v1 ||| ((1 : Int32) <<< (x5 &&& 31)))), (0, .ref v0), (5, .int x5)]) 4 dX1_goShopping_85 rfl rfl (by decide) rfl ?_
        refine eb_goto (pc := 88) (tgt := 14) dX1_goShopping_88 (by decide) ?_
        refine eb_sub [4, 3, 2, 1, 0] rfl ?_
        exact ih _ _ _ _ _
      refine eb_if_ne (pc := 37) (tgt := 53) dX1_goShopping_37 (by decide) ?_ ?_
      · refine eb_sub [1, 2, 3, 5, 0] rfl ?_
        exact hj7 _
      · refine eb_aload_n (pc := 40) 1 dX1_goShopping_40 rfl rfl ?_
        refine eb_aload_n (pc := 41) 1 dX1_goShopping_41 rfl rfl ?_
        refine eb_iload_n (pc := 42) 2 dX1_goShopping_42 rfl rfl ?_
        refine eb_iload_n (pc := 43) 4 dX1_goShopping_43 rfl rfl ?_
        refine eb_iload_n (pc := 44) 3 dX1_goShopping_44 rfl rfl ?_
        refine eb_iload (pc := 45) 0 dX1_goShopping_45 rfl ?_
        refine eb_calli (pc := 47) (eb_runV (pc := 47) (As := [.int v1, .int v3, .int v2, .int x5]) (rest := [.ref v0]) (ci := 1) (q0 := (RX1, TX1, 5)) (q := (RX1, TX1, 5)) ew_315 ew_316 ew_317 ew_311 rfl rfl ed_X1_costBy (ct_X1_costBy hG _ _ _ _ _ _) rfl ew_318 ⟨by decide, by decide⟩ (by decide) (by decide) (Nat.le_of_ble_eq_true rfl) rfl dX1_goShopping_47) (fun x14 s13 => ?_)
        refine eb_putI (pc := 50) ef_RX1_9 eg_RX1_9 dX1_goShopping_50 (fun s15 => ?_)
        refine eb_sub [1, 2, 3, 5, 0] rfl ?_
        exact hj7 _
set_option maxRecDepth 100000 in
theorem ct_X1_goShopping {G : eb_G} (hG : eb_ok G) (n : Nat) (v0 : Nat) (s : eb_S) : eb_ct G yX1_goShopping cX1_goShopping 6 none 4 0 0 eb_ev [.ref v0] s (f_X1_goShopping n v0 s) := by
  refine eb_ct_v (by decide) (Nat.le_of_ble_eq_true rfl) (fun v hv => by simp at hv; rcases hv with rfl <;> simp [Value.category]) ?_
  show eb_go G yX1_goShopping cX1_goShopping 6 none (4) 0 0 .return_ (fun _ : Unit => []) 0 [(0, .ref v0)] [] s 0 0 _
  unfold f_X1_goShopping
  refine eb_iconst (pc := 0) (v := 0) dX1_goShopping_0 (by decide) ?_
  refine eb_istore_n (pc := 1) (L' := [(1, .int 0), (0, .ref v0)]) dX1_goShopping_1 rfl (by decide) rfl ?_
  refine eb_iconst (pc := 2) (v := 0) dX1_goShopping_2 (by decide) ?_
  refine eb_istore_n (pc := 3) (L' := [(2, .int 0), (1, .int 0), (0, .ref v0)]) dX1_goShopping_3 rfl (by decide) rfl ?_
  refine eb_iconst (pc := 4) (v := (-1)) dX1_goShopping_4 (by decide) ?_
  refine eb_istore_n (pc := 5) (L' := [(3, .int ((-1))), (2, .int 0), (1, .int 0), (0, .ref v0)]) dX1_goShopping_5 rfl (by decide) rfl ?_
  refine eb_aload_n (pc := 6) 3 dX1_goShopping_6 rfl rfl ?_
  refine eb_iconst (pc := 7) (v := 0) dX1_goShopping_7 (by decide) ?_
  refine eb_putI (pc := 8) ef_RX1_9 eg_RX1_9 dX1_goShopping_8 (fun s1 => ?_)
  refine eb_iconst (pc := 11) (v := 0) dX1_goShopping_11 (by decide) ?_
  refine eb_istore (pc := 12) (L' := [(4, .int 0), (3, .int ((-1))), (2, .int 0), (1, .int 0), (0, .ref v0)]) dX1_goShopping_12 (by decide) rfl ?_
  refine eb_sub [4, 3, 2, 1, 0] rfl ?_
  refine gl_X1_goShopping_L14 hG  n _ _ _ _ _

def f_X1_solve_L62 (n : Nat) (v0 : Nat) (v1 : Int32) (K : eb_S → Option (Unit × eb_S)) : Nat → Int32 → eb_S → Option (Unit × eb_S)
  | 0, _, _ => none
  | m + 1, v2, s => if v2 ≤ 0 then (K s) else (eb_jn (fun (y13 : Int32) (s14 : eb_S) => eb_cl (eb_tg s14 v0 1 (f_X1_weigh n v0 v2 y13 s14)) fun _u s16 => f_X1_solve_L62 n v0 v1 K m (v2 + (-1)) s16) fun j15 => if v2 = (v1 - 1) then (j15 1 s) else (j15 0 s))
def f_X1_solve (n : Nat) (v0 : Nat) (s : eb_S) : Option (Unit × eb_S) := eb_gI s [1] v0 4 fun x1 => eb_gR s [1] v0 2 fun r2 => eb_gI s [3] r2 0 fun x3 => if x1 = x3 then (some ((), s)) else (eb_gR s [1] v0 2 fun r4 => eb_gI s [3] r4 0 fun x5 => eb_pI s [1] v0 4 x5 fun s6 => eb_gR s6 [1] v0 2 fun r7 => eb_gI s6 [3] r7 1 fun x8 => eb_gR s6 [1] v0 3 fun r9 => eb_ln s6 r9 fun x10 => eb_jn (fun (s11 : eb_S) => f_X1_solve_L62 n v0 ((1 : Int32) <<< (x8 &&& 31)) (fun  (s17 : eb_S) => eb_cl (eb_tg s17 v0 1 (f_X1_goShopping n v0 s17)) fun _u s18 => some ((), s18)) n (((1 : Int32) <<< (x8 &&& 31)) - 1) s11) fun j12 => if (((1 : Int32) <<< (x8 &&& 31)) * 10) ≤ x10 then (j12 s6) else (eb_na s6 11 10240 (((1 : Int32) <<< (x8 &&& 31)) * 10) fun r19 s20 => eb_pR s20 [1] v0 3 r19 fun s21 => j12 s21))
set_option maxRecDepth 100000 in
theorem gl_X1_solve_L62 {G : eb_G} (hG : eb_ok G) {n : Nat} {v0 : Nat} {v1 : Int32} {K : eb_S → Option (Unit × eb_S)} (hK : ∀  (s : eb_S), eb_go G yX1_solve cX1_solve 3 none (5) 1 10240 .return_ (fun _ : Unit => []) 89 [(0, .ref v0)] [] s 1 10240 (K  s)) : ∀ (m : Nat) (v2 : Int32) (s : eb_S), eb_go G yX1_solve cX1_solve 3 none (5) 1 10240 .return_ (fun _ : Unit => []) 62 [(0, .ref v0), (1, .int v1), (2, .int v2)] [] s 1 10240 (f_X1_solve_L62 n v0 v1 K m v2 s) := by
  intro m
  induction m with
  | zero => intro v2 s; exact eb_none
  | succ m ih =>
    intro v2 s
    rw [f_X1_solve_L62.eq_2]
    refine eb_iload_n (pc := 62) 2 dX1_solve_62 rfl rfl ?_
    refine eb_if_le (pc := 63) (tgt := 89) dX1_solve_63 (by decide) ?_ ?_
    · refine eb_sub [0] rfl ?_
      exact hK _
    · refine eb_aload_n (pc := 66) 0 dX1_solve_66 rfl rfl ?_
      refine eb_iload_n (pc := 67) 2 dX1_solve_67 rfl rfl ?_
      refine eb_iload_n (pc := 68) 2 dX1_solve_68 rfl rfl ?_
      refine eb_iload_n (pc := 69) 1 dX1_solve_69 rfl rfl ?_
      refine eb_iconst (pc := 70) (v := 1) dX1_solve_70 (by decide) ?_
      refine eb_isub (pc := 71) dX1_solve_71 ?_
      refine eb_join (fun j15 : Int32 → eb_S → Option (Unit × eb_S) => ∀ (y13 : Int32) (s14 : eb_S), eb_go G yX1_solve cX1_solve 3 none (5) 1 10240 .return_ (fun _ : Unit => []) 80 [(0, .ref v0), (1, .int v1), (2, .int v2)] [.int y13, .int v2, .ref v0] s14 1 10240 (j15 y13 s14)) ?_ (fun j15 hj15 => ?_)
      · intro y13 s14
        refine eb_callv (pc := 80) (eb_runV (pc := 80) (As := [.int v2, .int y13]) (rest := []) (ci := 1) (q0 := (RX1, TX1, 5)) (q := (RX1, TX1, 5)) ew_327 ew_328 ew_329 ew_311 rfl rfl ed_X1_weigh (ct_X1_weigh hG n _ _ _ _) rfl ew_330 ⟨by decide, by decide⟩ (by decide) (by decide) (Nat.le_of_ble_eq_true rfl) rfl dX1_solve_80) (fun _u s16 => ?_)
        refine eb_iinc (pc := 83) (v := v2 + (-1)) (L' := [(2, .int (v2 + (-1))), (0, .ref v0), (1, .int v1)]) 2 dX1_solve_83 rfl rfl (by decide) rfl ?_
        refine eb_goto (pc := 86) (tgt := 62) dX1_solve_86 (by decide) ?_
        refine eb_sub [1, 2, 0] rfl ?_
        exact ih _ _
      refine eb_icmp_ne (pc := 72) (tgt := 79) dX1_solve_72 (by decide) ?_ ?_
      · refine eb_iconst (pc := 79) (v := 0) dX1_solve_79 (by decide) ?_
        exact hj15 _ _
      · refine eb_iconst (pc := 75) (v := 1) dX1_solve_75 (by decide) ?_
        refine eb_goto (pc := 76) (tgt := 80) dX1_solve_76 (by decide) ?_
        exact hj15 _ _
set_option maxRecDepth 100000 in
theorem ct_X1_solve {G : eb_G} (hG : eb_ok G) (n : Nat) (v0 : Nat) (s : eb_S) : eb_ct G yX1_solve cX1_solve 3 none 5 1 10240 eb_ev [.ref v0] s (f_X1_solve n v0 s) := by
  refine eb_ct_v (by decide) (Nat.le_of_ble_eq_true rfl) (fun v hv => by simp at hv; rcases hv with rfl <;> simp [Value.category]) ?_
  show eb_go G yX1_solve cX1_solve 3 none (5) 1 10240 .return_ (fun _ : Unit => []) 0 [(0, .ref v0)] [] s 0 0 _
  unfold f_X1_solve
  refine eb_aload_n (pc := 0) 0 dX1_solve_0 rfl rfl ?_
  refine eb_getI (pc := 1) ef_RX1_22 dX1_solve_1 (fun x1 => ?_)
  refine eb_aload_n (pc := 4) 0 dX1_solve_4 rfl rfl ?_
  refine eb_getR (pc := 5) ef_RX1_25 dX1_solve_5 (fun r2 => ?_)
  refine eb_getI (pc := 8) ef_RX1_29 dX1_solve_8 (fun x3 => ?_)
  refine eb_icmp_ne (pc := 11) (tgt := 15) dX1_solve_11 (by decide) ?_ ?_
  · refine eb_aload_n (pc := 15) 0 dX1_solve_15 rfl rfl ?_
    refine eb_aload_n (pc := 16) 0 dX1_solve_16 rfl rfl ?_
    refine eb_getR (pc := 17) ef_RX1_25 dX1_solve_17 (fun r4 => ?_)
    refine eb_getI (pc := 20) ef_RX1_29 dX1_solve_20 (fun x5 => ?_)
    refine eb_putI (pc := 23) ef_RX1_22 eg_RX1_22 dX1_solve_23 (fun s6 => ?_)
    refine eb_iconst (pc := 26) (v := 1) dX1_solve_26 (by decide) ?_
    refine eb_aload_n (pc := 27) 0 dX1_solve_27 rfl rfl ?_
    refine eb_getR (pc := 28) ef_RX1_25 dX1_solve_28 (fun r7 => ?_)
    refine eb_getI (pc := 31) ef_RX1_34 dX1_solve_31 (fun x8 => ?_)
    refine eb_ishl (pc := 34) dX1_solve_34 ?_
    refine eb_istore_n (pc := 35) (L' := [(1, .int ((1 : Int32) <<< (x8 &&& 31))), (0, .ref v0)]) dX1_solve_35 rfl (by decide) rfl ?_
    refine eb_aload_n (pc := 36) 1 dX1_solve_36 rfl rfl ?_
    refine eb_getR (pc := 37) ef_RX1_19 dX1_solve_37 (fun r9 => ?_)
    refine eb_alen (pc := 40) dX1_solve_40 (fun x10 => ?_)
    refine eb_iload_n (pc := 41) 0 dX1_solve_41 rfl rfl ?_
    refine eb_bipush (pc := 42) (v := 10) dX1_solve_42 (by decide) ?_
    refine eb_imul (pc := 44) dX1_solve_44 ?_
    refine eb_join (fun j12 : eb_S → Option (Unit × eb_S) => ∀  (s11 : eb_S), eb_go G yX1_solve cX1_solve 3 none (5) 1 10240 .return_ (fun _ : Unit => []) 58 [(0, .ref v0), (1, .int ((1 : Int32) <<< (x8 &&& 31)))] [] s11 1 10240 (j12  s11)) ?_ (fun j12 hj12 => ?_)
    · intro  s11
      refine eb_iload_n (pc := 58) 1 dX1_solve_58 rfl rfl ?_
      refine eb_iconst (pc := 59) (v := 1) dX1_solve_59 (by decide) ?_
      refine eb_isub (pc := 60) dX1_solve_60 ?_
      refine eb_istore_n (pc := 61) (L' := [(2, .int (((1 : Int32) <<< (x8 &&& 31)) - 1)), (0, .ref v0), (1, .int ((1 : Int32) <<< (x8 &&& 31)))]) dX1_solve_61 rfl (by decide) rfl ?_
      refine eb_sub [1, 2, 0] rfl ?_
      refine gl_X1_solve_L62 hG (fun s17 => ?_) n _ _
      refine eb_aload_n (pc := 89) 0 dX1_solve_89 rfl rfl ?_
      refine eb_callv (pc := 90) (eb_runV (pc := 90) (As := []) (rest := []) (ci := 1) (q0 := (RX1, TX1, 5)) (q := (RX1, TX1, 5)) ew_331 ew_332 ew_333 ew_311 rfl rfl ed_X1_goShopping (ct_X1_goShopping hG n _ _) rfl ew_334 ⟨by decide, by decide⟩ (by decide) (by decide) (Nat.le_of_ble_eq_true rfl) rfl dX1_solve_90) (fun _u s18 => ?_)
      exact eb_vret (pc := 93) dX1_solve_93 (by decide) (by decide)
    refine eb_icmp_ge (pc := 45) (tgt := 58) dX1_solve_45 (by decide) ?_ ?_
    · refine eb_sub [1, 0] rfl ?_
      refine eb_wide (cn' := 1) (sn' := 10240) (by decide) (by decide) ?_
      exact hj12 _
    · refine eb_aload_n (pc := 48) 1 dX1_solve_48 rfl rfl ?_
      refine eb_iload_n (pc := 49) 0 dX1_solve_49 rfl rfl ?_
      refine eb_bipush (pc := 50) (v := 10) dX1_solve_50 (by decide) ?_
      refine eb_imul (pc := 52) dX1_solve_52 ?_
      refine eb_newi (pc := 53) ew_57 dX1_solve_53 (by decide) (by decide) (by decide) (fun r19 s20 => ?_)
      refine eb_putR (pc := 55) ef_RX1_19 eg_RX1_19 (fun _ => ⟨rfl, rfl⟩) dX1_solve_55 (fun s21 => ?_)
      refine eb_sub [1, 0] rfl ?_
      exact hj12 _
  · exact eb_vret (pc := 14) dX1_solve_14 (by decide) (by decide)

def f_X2_init (v0 : Nat) (v1 : Nat) (s : eb_S) : Option (Unit × eb_S) := eb_pI s [2] v0 0 0 fun s1 => eb_na s1 11 8 8 fun r2 s3 => eb_pR s3 [2] v0 2 r2 fun s4 => eb_na s4 11 256 256 fun r5 s6 => eb_pR s6 [2] v0 3 r5 fun s7 => eb_pR s7 [2] v0 1 v1 fun s8 => some ((), s8)
set_option maxRecDepth 100000 in
theorem ct_X2_init {G : eb_G} (hG : eb_ok G) (v0 : Nat) (v1 : Nat) (s : eb_S) : eb_ct G yX2_init cX2_init 2 none 1 2 264 eb_ev [.ref v0, .ref v1] s (f_X2_init v0 v1 s) := by
  refine eb_ct_v (by decide) (Nat.le_of_ble_eq_true rfl) (fun v hv => by simp at hv; rcases hv with rfl | rfl <;> simp [Value.category]) ?_
  show eb_go G yX2_init cX2_init 2 none (1) 2 264 .return_ (fun _ : Unit => []) 0 [(0, .ref v0), (1, .ref v1)] [] s 0 0 _
  unfold f_X2_init
  refine eb_aload_n (pc := 0) 0 dX2_init_0 rfl rfl ?_
  refine eb_obj (pc := 1) ew_339 ew_59 ew_60 (by decide) (Nat.le_of_ble_eq_true rfl) dX2_init_1 ?_
  refine eb_aload_n (pc := 4) 0 dX2_init_4 rfl rfl ?_
  refine eb_iconst (pc := 5) (v := 0) dX2_init_5 (by decide) ?_
  refine eb_putI (pc := 6) ef_RX2_9 eg_RX2_9 dX2_init_6 (fun s1 => ?_)
  refine eb_aload_n (pc := 9) 0 dX2_init_9 rfl rfl ?_
  refine eb_bipush (pc := 10) (v := 8) dX2_init_10 (by decide) ?_
  refine eb_newi (pc := 12) ew_57 dX2_init_12 (by decide) (by decide) (by decide) (fun r2 s3 => ?_)
  refine eb_putR (pc := 14) ef_RX2_15 eg_RX2_15 (fun _ => ⟨rfl, rfl⟩) dX2_init_14 (fun s4 => ?_)
  refine eb_aload_n (pc := 17) 0 dX2_init_17 rfl rfl ?_
  refine eb_sipush (pc := 18) (v := 256) dX2_init_18 (by decide) ?_
  refine eb_newi (pc := 21) ew_57 dX2_init_21 (by decide) (by decide) (by decide) (fun r5 s6 => ?_)
  refine eb_putR (pc := 23) ef_RX2_19 eg_RX2_19 (fun _ => ⟨rfl, rfl⟩) dX2_init_23 (fun s7 => ?_)
  refine eb_aload_n (pc := 26) 0 dX2_init_26 rfl rfl ?_
  refine eb_aload_n (pc := 27) 1 dX2_init_27 rfl rfl ?_
  refine eb_putR (pc := 28) ef_RX2_22 eg_RX2_22 (fun _ => ⟨rfl, rfl⟩) dX2_init_28 (fun s8 => ?_)
  exact eb_vret (pc := 31) dX2_init_31 (by decide) (by decide)

def f_X2_seat_L10 (n : Nat) (v0 : Nat) (v1 : Nat) (v2 : Int32)  : Nat → Int32 → Int32 → eb_S → Option (Bool × eb_S)
  | 0, _, _, _ => none
  | m + 1, v3, v4, s => if 8 ≤ v4 then (some (true, s)) else (eb_gR s [6] v1 2 fun r2 => eb_al s r2 (v2 + v4) fun l3 => eb_gR s [2] v0 1 fun r4 => eb_gI s [3] r4 1 fun x5 => if (lg_cmp l3 ((x5).toInt64)) < 0 then (eb_jn (fun (p6 : Int32) (p7 : Int32) (s8 : eb_S) => f_X2_seat_L10 n v0 v1 v2 m p6 (p7 + 1) s8) fun j9 => if (lg_cmp l3 0) < 0 then (j9 v3 v4 s) else (if ((v3 >>> (((l3).toInt32) &&& 31)) &&& 1) = 1 then (some (false, s)) else (eb_gI s [2] v0 0 fun x10 => eb_pI s [2] v0 0 (x10 ||| ((1 : Int32) <<< (v4 &&& 31))) fun s11 => eb_gR s11 [2] v0 2 fun r12 => eb_gR s11 [2] v0 1 fun r13 => eb_gR s11 [3] r13 3 fun r14 => eb_ai s11 r14 ((l3).toInt32) fun x15 => eb_wi s11 r12 v4 x15 fun s16 => j9 (v3 ||| ((1 : Int32) <<< (((l3).toInt32) &&& 31))) v4 s16))) else (some (false, s)))
def f_X2_seat (n : Nat) (v0 : Nat) (v1 : Nat) (v2 : Int32) (s : eb_S) : Option (Bool × eb_S) := eb_pI s [2] v0 0 0 fun s1 => f_X2_seat_L10 n v0 v1 v2  n 0 0 s1
set_option maxRecDepth 100000 in
theorem gl_X2_seat_L10 {G : eb_G} (hG : eb_ok G) {n : Nat} {v0 : Nat} {v1 : Nat} {v2 : Int32}   : ∀ (m : Nat) (v3 : Int32) (v4 : Int32) (s : eb_S), eb_go G yX2_seat cX2_seat 8 (some .boolean) (1) 0 0 .ireturn (fun r : Bool => [.int (eb_b r)]) 10 [(0, .ref v0), (1, .ref v1), (2, .int v2), (3, .int v3), (4, .int v4)] [] s 0 0 (f_X2_seat_L10 n v0 v1 v2 m v3 v4 s) := by
  intro m
  induction m with
  | zero => intro v3 v4 s; exact eb_none
  | succ m ih =>
    intro v3 v4 s
    rw [f_X2_seat_L10.eq_2]
    refine eb_iload (pc := 10) 4 dX2_seat_10 rfl ?_
    refine eb_bipush (pc := 12) (v := 8) dX2_seat_12 (by decide) ?_
    refine eb_icmp_ge (pc := 14) (tgt := 111) dX2_seat_14 (by decide) ?_ ?_
    · refine eb_iconst (pc := 111) (v := 1) dX2_seat_111 (by decide) ?_
      exact eb_bret (pc := 112) (b := true) dX2_seat_112 (by decide) (by decide)
    · refine eb_aload_n (pc := 17) 1 dX2_seat_17 rfl rfl ?_
      refine eb_getR (pc := 18) ef_RX2_26 dX2_seat_18 (fun r2 => ?_)
      refine eb_iload_n (pc := 21) 2 dX2_seat_21 rfl rfl ?_
      refine eb_iload (pc := 22) 4 dX2_seat_22 rfl ?_
      refine eb_iadd (pc := 24) dX2_seat_24 ?_
      refine eb_laload (pc := 25) dX2_seat_25 (fun l3 => ?_)
      refine eb_lstore (pc := 26) (L' := [(5, .long l3), (0, .ref v0), (1, .ref v1), (2, .int v2), (3, .int v3), (4, .int v4)]) dX2_seat_26 (by decide) rfl ?_
      refine eb_lload (pc := 28) 0 dX2_seat_28 rfl ?_
      refine eb_aload_n (pc := 30) 1 dX2_seat_30 rfl rfl ?_
      refine eb_getR (pc := 31) ef_RX2_22 dX2_seat_31 (fun r4 => ?_)
      refine eb_getI (pc := 34) ef_RX2_32 dX2_seat_34 (fun x5 => ?_)
      refine eb_i2l (pc := 37) dX2_seat_37 ?_
      refine eb_lcmp (pc := 38) dX2_seat_38 ?_
      refine eb_if_lt (pc := 39) (tgt := 44) dX2_seat_39 (by decide) ?_ ?_
      · refine eb_lload (pc := 44) 0 dX2_seat_44 rfl ?_
        refine eb_lconst (pc := 46) (v := 0) dX2_seat_46 (by decide) ?_
        refine eb_lcmp (pc := 47) dX2_seat_47 ?_
        refine eb_join (fun j9 : Int32 → Int32 → eb_S → Option (Bool × eb_S) => ∀ (p6 : Int32) (p7 : Int32) (s8 : eb_S), eb_go G yX2_seat cX2_seat 8 (some .boolean) (1) 0 0 .ireturn (fun r : Bool => [.int (eb_b r)]) 105 [(0, .ref v0), (1, .ref v1), (2, .int v2), (3, .int p6), (4, .int p7)] [] s8 0 0 (j9 p6 p7 s8)) ?_ (fun j9 hj9 => ?_)
        · intro p6 p7 s8
          refine eb_iinc (pc := 105) (v := p7 + 1) (L' := [(4, .int (p7 + 1)), (0, .ref v0), (1, .ref v1), (2, .int v2), (3, .int p6)]) 4 dX2_seat_105 rfl rfl (by decide) rfl ?_
          refine eb_goto (pc := 108) (tgt := 10) dX2_seat_108 (by decide) ?_
          refine eb_sub [1, 2, 3, 4, 0] rfl ?_
          exact ih _ _ _
        refine eb_if_lt (pc := 48) (tgt := 105) dX2_seat_48 (by decide) ?_ ?_
        · refine eb_sub [1, 2, 3, 4, 5] rfl ?_
          exact hj9 _ _ _
        · refine eb_lload (pc := 51) 0 dX2_seat_51 rfl ?_
          refine eb_l2i (pc := 53) dX2_seat_53 ?_
          refine eb_istore (pc := 54) (L' := [(7, .int ((l3).toInt32)), (5, .long l3), (0, .ref v0), (1, .ref v1), (2, .int v2), (3, .int v3), (4, .int v4)]) dX2_seat_54 (by decide) rfl ?_
          refine eb_iload_n (pc := 56) 5 dX2_seat_56 rfl rfl ?_
          refine eb_iload (pc := 57) 0 dX2_seat_57 rfl ?_
          refine eb_ishr (pc := 59) dX2_seat_59 ?_
          refine eb_iconst (pc := 60) (v := 1) dX2_seat_60 (by decide) ?_
          refine eb_iand (pc := 61) dX2_seat_61 ?_
          refine eb_iconst (pc := 62) (v := 1) dX2_seat_62 (by decide) ?_
          refine eb_icmp_ne (pc := 63) (tgt := 68) dX2_seat_63 (by decide) ?_ ?_
          · refine eb_iload_n (pc := 68) 5 dX2_seat_68 rfl rfl ?_
            refine eb_iconst (pc := 69) (v := 1) dX2_seat_69 (by decide) ?_
            refine eb_iload (pc := 70) 0 dX2_seat_70 rfl ?_
            refine eb_ishl (pc := 72) dX2_seat_72 ?_
            refine eb_ior (pc := 73) dX2_seat_73 ?_
            refine eb_istore_n (pc := 74) (L' := [(3, .int (v3 ||| ((1 : Int32) <<< (((l3).toInt32) &&& 31)))), (7, .int ((l3).toInt32)), (5, .long l3), (0, .ref v0), (1, .ref v1), (2, .int v2), (4, .int v4)]) dX2_seat_74 rfl (by decide) rfl ?_
            refine eb_aload_n (pc := 75) 3 dX2_seat_75 rfl rfl ?_
            refine eb_dup (pc := 76) dX2_seat_76 rfl ?_
            refine eb_getI (pc := 77) ef_RX2_9 dX2_seat_77 (fun x10 => ?_)
            refine eb_iconst (pc := 80) (v := 1) dX2_seat_80 (by decide) ?_
            refine eb_iload (pc := 81) 6 dX2_seat_81 rfl ?_
            refine eb_ishl (pc := 83) dX2_seat_83 ?_
            refine eb_ior (pc := 84) dX2_seat_84 ?_
            refine eb_putI (pc := 85) ef_RX2_9 eg_RX2_9 dX2_seat_85 (fun s11 => ?_)
            refine eb_aload_n (pc := 88) 3 dX2_seat_88 rfl rfl ?_
            refine eb_getR (pc := 89) ef_RX2_15 dX2_seat_89 (fun r12 => ?_)
            refine eb_iload (pc := 92) 6 dX2_seat_92 rfl ?_
            refine eb_aload_n (pc := 94) 3 dX2_seat_94 rfl rfl ?_
            refine eb_getR (pc := 95) ef_RX2_22 dX2_seat_95 (fun r13 => ?_)
            refine eb_getR (pc := 98) ef_RX2_37 dX2_seat_98 (fun r14 => ?_)
            refine eb_iload (pc := 101) 1 dX2_seat_101 rfl ?_
            refine eb_iaload (pc := 103) dX2_seat_103 (fun x15 => ?_)
            refine eb_iastore (pc := 104) dX2_seat_104 (fun s16 => ?_)
            refine eb_sub [3, 4, 5, 0, 6] rfl ?_
            exact hj9 _ _ _
          · refine eb_iconst (pc := 66) (v := 0) dX2_seat_66 (by decide) ?_
            exact eb_bret (pc := 67) (b := false) dX2_seat_67 (by decide) (by decide)
      · refine eb_iconst (pc := 42) (v := 0) dX2_seat_42 (by decide) ?_
        exact eb_bret (pc := 43) (b := false) dX2_seat_43 (by decide) (by decide)
set_option maxRecDepth 100000 in
theorem ct_X2_seat {G : eb_G} (hG : eb_ok G) (n : Nat) (v0 : Nat) (v1 : Nat) (v2 : Int32) (s : eb_S) : eb_ct G yX2_seat cX2_seat 8 (some .boolean) 1 0 0 eb_eb [.ref v0, .ref v1, .int v2] s (f_X2_seat n v0 v1 v2 s) := by
  refine eb_ct_b (by decide) (Nat.le_of_ble_eq_true rfl) (fun v hv => by simp at hv; rcases hv with rfl | rfl | rfl <;> simp [Value.category]) ?_
  show eb_go G yX2_seat cX2_seat 8 (some .boolean) (1) 0 0 .ireturn (fun r : Bool => [.int (eb_b r)]) 0 [(0, .ref v0), (1, .ref v1), (2, .int v2)] [] s 0 0 _
  unfold f_X2_seat
  refine eb_iconst (pc := 0) (v := 0) dX2_seat_0 (by decide) ?_
  refine eb_istore_n (pc := 1) (L' := [(3, .int 0), (0, .ref v0), (1, .ref v1), (2, .int v2)]) dX2_seat_1 rfl (by decide) rfl ?_
  refine eb_aload_n (pc := 2) 1 dX2_seat_2 rfl rfl ?_
  refine eb_iconst (pc := 3) (v := 0) dX2_seat_3 (by decide) ?_
  refine eb_putI (pc := 4) ef_RX2_9 eg_RX2_9 dX2_seat_4 (fun s1 => ?_)
  refine eb_iconst (pc := 7) (v := 0) dX2_seat_7 (by decide) ?_
  refine eb_istore (pc := 8) (L' := [(4, .int 0), (3, .int 0), (0, .ref v0), (1, .ref v1), (2, .int v2)]) dX2_seat_8 (by decide) rfl ?_
  refine eb_sub [2, 3, 4, 1, 0] rfl ?_
  refine gl_X2_seat_L10 hG  n _ _ _

def f_X2_tips_L8 (n : Nat) (v0 : Nat) (v1 : Int32) (v2 : Int32) (K : Int32 → Int32 → eb_S → Option (Bool × eb_S)) : Nat → Int32 → Int32 → Int32 → eb_S → Option (Bool × eb_S)
  | 0, _, _, _, _ => none
  | m + 1, v3, v4, v5, s => if 8 ≤ v5 then (K v3 v4 s) else (eb_jn (fun (p1 : Int32) (p2 : Int32) (p3 : Int32) (s4 : eb_S) => f_X2_tips_L8 n v0 v1 v2 K m p1 p2 (p3 + 1) s4) fun j5 => if ((v1 >>> (v5 &&& 31)) &&& 1) = 1 then (eb_gR s [2] v0 2 fun r6 => eb_ai s r6 v5 fun x7 => eb_xi 8 eb_k2 v5 fun x8 => eb_gR s [2] v0 2 fun r9 => eb_ai s r9 v5 fun x10 => eb_xi 8 eb_k3 v5 fun x11 => j5 (v3 + (x7 * x8)) (v4 + (x10 * x11)) v5 s) else (j5 v3 v4 v5 s))
def f_X2_tips (n : Nat) (v0 : Nat) (v1 : Int32) (v2 : Int32) (s : eb_S) : Option (Bool × eb_S) := f_X2_tips_L8 n v0 v1 v2 (fun (w12 : Int32) (w13 : Int32) (s14 : eb_S) => if v2 < (if 0 ≤ w12 then w12 else 0 - w12) then (some (true, s14)) else (if (if 0 ≤ w13 then w13 else 0 - w13) ≤ v2 then (some (false, s14)) else (some (true, s14)))) n 0 0 0 s
set_option maxRecDepth 100000 in
theorem gl_X2_tips_L8 {G : eb_G} (hG : eb_ok G) {n : Nat} {v0 : Nat} {v1 : Int32} {v2 : Int32} {K : Int32 → Int32 → eb_S → Option (Bool × eb_S)} (hK : ∀ (v3 : Int32) (v4 : Int32) (s : eb_S), eb_go G yX2_tips cX2_tips 6 (some .boolean) (1) 0 0 .ireturn (fun r : Bool => [.int (eb_b r)]) 67 [(2, .int v2), (3, .int v3), (4, .int v4)] [] s 0 0 (K v3 v4 s)) : ∀ (m : Nat) (v3 : Int32) (v4 : Int32) (v5 : Int32) (s : eb_S), eb_go G yX2_tips cX2_tips 6 (some .boolean) (1) 0 0 .ireturn (fun r : Bool => [.int (eb_b r)]) 8 [(0, .ref v0), (1, .int v1), (2, .int v2), (3, .int v3), (4, .int v4), (5, .int v5)] [] s 0 0 (f_X2_tips_L8 n v0 v1 v2 K m v3 v4 v5 s) := by
  intro m
  induction m with
  | zero => intro v3 v4 v5 s; exact eb_none
  | succ m ih =>
    intro v3 v4 v5 s
    rw [f_X2_tips_L8.eq_2]
    refine eb_iload (pc := 8) 5 dX2_tips_8 rfl ?_
    refine eb_bipush (pc := 10) (v := 8) dX2_tips_10 (by decide) ?_
    refine eb_icmp_ge (pc := 12) (tgt := 67) dX2_tips_12 (by decide) ?_ ?_
    · refine eb_sub [2, 3, 4] rfl ?_
      exact hK _ _ _
    · refine eb_iload_n (pc := 15) 1 dX2_tips_15 rfl rfl ?_
      refine eb_iload (pc := 16) 5 dX2_tips_16 rfl ?_
      refine eb_ishr (pc := 18) dX2_tips_18 ?_
      refine eb_iconst (pc := 19) (v := 1) dX2_tips_19 (by decide) ?_
      refine eb_iand (pc := 20) dX2_tips_20 ?_
      refine eb_iconst (pc := 21) (v := 1) dX2_tips_21 (by decide) ?_
      refine eb_join (fun j5 : Int32 → Int32 → Int32 → eb_S → Option (Bool × eb_S) => ∀ (p1 : Int32) (p2 : Int32) (p3 : Int32) (s4 : eb_S), eb_go G yX2_tips cX2_tips 6 (some .boolean) (1) 0 0 .ireturn (fun r : Bool => [.int (eb_b r)]) 61 [(0, .ref v0), (1, .int v1), (2, .int v2), (3, .int p1), (4, .int p2), (5, .int p3)] [] s4 0 0 (j5 p1 p2 p3 s4)) ?_ (fun j5 hj5 => ?_)
      · intro p1 p2 p3 s4
        refine eb_iinc (pc := 61) (v := p3 + 1) (L' := [(5, .int (p3 + 1)), (0, .ref v0), (1, .int v1), (2, .int v2), (3, .int p1), (4, .int p2)]) 5 dX2_tips_61 rfl rfl (by decide) rfl ?_
        refine eb_goto (pc := 64) (tgt := 8) dX2_tips_64 (by decide) ?_
        refine eb_sub [1, 2, 3, 4, 5, 0] rfl ?_
        exact ih _ _ _ _
      refine eb_icmp_ne (pc := 22) (tgt := 61) dX2_tips_22 (by decide) ?_ ?_
      · exact hj5 _ _ _ _
      · refine eb_iload_n (pc := 25) 3 dX2_tips_25 rfl rfl ?_
        refine eb_aload_n (pc := 26) 0 dX2_tips_26 rfl rfl ?_
        refine eb_getR (pc := 27) ef_RX2_15 dX2_tips_27 (fun r6 => ?_)
        refine eb_iload (pc := 30) 5 dX2_tips_30 rfl ?_
        refine eb_iaload (pc := 32) dX2_tips_32 (fun x7 => ?_)
        refine eb_gets (pc := 33) (r := 2) (C := RX2) (n := "X") (by decide) (by decide) ew_344 dX2_tips_33 ?_
        refine eb_iload (pc := 36) 5 dX2_tips_36 rfl ?_
        refine eb_ialoadx (pc := 38) (by decide) (hG.2.1).1 (hG.2.1).2 dX2_tips_38 (fun x8 => ?_)
        refine eb_imul (pc := 39) dX2_tips_39 ?_
        refine eb_iadd (pc := 40) dX2_tips_40 ?_
        refine eb_istore_n (pc := 41) (L' := [(3, .int (v3 + (x7 * x8))), (0, .ref v0), (1, .int v1), (2, .int v2), (4, .int v4), (5, .int v5)]) dX2_tips_41 rfl (by decide) rfl ?_
        refine eb_iload (pc := 42) 4 dX2_tips_42 rfl ?_
        refine eb_aload_n (pc := 44) 1 dX2_tips_44 rfl rfl ?_
        refine eb_getR (pc := 45) ef_RX2_15 dX2_tips_45 (fun r9 => ?_)
        refine eb_iload (pc := 48) 5 dX2_tips_48 rfl ?_
        refine eb_iaload (pc := 50) dX2_tips_50 (fun x10 => ?_)
        refine eb_gets (pc := 51) (r := 3) (C := RX2) (n := "Y") (by decide) (by decide) ew_343 dX2_tips_51 ?_
        refine eb_iload (pc := 54) 5 dX2_tips_54 rfl ?_
        refine eb_ialoadx (pc := 56) (by decide) (hG.2.2).1 (hG.2.2).2 dX2_tips_56 (fun x11 => ?_)
        refine eb_imul (pc := 57) dX2_tips_57 ?_
        refine eb_iadd (pc := 58) dX2_tips_58 ?_
        refine eb_istore (pc := 59) (L' := [(4, .int (v4 + (x10 * x11))), (3, .int (v3 + (x7 * x8))), (0, .ref v0), (1, .int v1), (2, .int v2), (5, .int v5)]) dX2_tips_59 (by decide) rfl ?_
        refine eb_sub [2, 3, 4, 1, 0, 5] rfl ?_
        exact hj5 _ _ _ _
set_option maxRecDepth 100000 in
theorem ct_X2_tips {G : eb_G} (hG : eb_ok G) (n : Nat) (v0 : Nat) (v1 : Int32) (v2 : Int32) (s : eb_S) : eb_ct G yX2_tips cX2_tips 6 (some .boolean) 1 0 0 eb_eb [.ref v0, .int v1, .int v2] s (f_X2_tips n v0 v1 v2 s) := by
  refine eb_ct_b (by decide) (Nat.le_of_ble_eq_true rfl) (fun v hv => by simp at hv; rcases hv with rfl | rfl | rfl <;> simp [Value.category]) ?_
  show eb_go G yX2_tips cX2_tips 6 (some .boolean) (1) 0 0 .ireturn (fun r : Bool => [.int (eb_b r)]) 0 [(0, .ref v0), (1, .int v1), (2, .int v2)] [] s 0 0 _
  unfold f_X2_tips
  refine eb_iconst (pc := 0) (v := 0) dX2_tips_0 (by decide) ?_
  refine eb_istore_n (pc := 1) (L' := [(3, .int 0), (0, .ref v0), (1, .int v1), (2, .int v2)]) dX2_tips_1 rfl (by decide) rfl ?_
  refine eb_iconst (pc := 2) (v := 0) dX2_tips_2 (by decide) ?_
  refine eb_istore (pc := 3) (L' := [(4, .int 0), (3, .int 0), (0, .ref v0), (1, .int v1), (2, .int v2)]) dX2_tips_3 (by decide) rfl ?_
  refine eb_iconst (pc := 5) (v := 0) dX2_tips_5 (by decide) ?_
  refine eb_istore (pc := 6) (L' := [(5, .int 0), (4, .int 0), (3, .int 0), (0, .ref v0), (1, .int v1), (2, .int v2)]) dX2_tips_6 (by decide) rfl ?_
  refine eb_sub [3, 4, 5, 2, 1, 0] rfl ?_
  refine gl_X2_tips_L8 hG (fun w12 w13 s14 => ?_) n _ _ _ _
  refine eb_iload_n (pc := 67) 1 dX2_tips_67 rfl rfl ?_
  refine eb_mabs (pc := 68) ew_345 ew_93 ew_17 ew_94 (by decide) (Nat.le_of_ble_eq_true rfl) (by decide) (by decide) dX2_tips_68 ?_
  refine eb_iload_n (pc := 71) 0 dX2_tips_71 rfl rfl ?_
  refine eb_icmp_gt (pc := 72) (tgt := 84) dX2_tips_72 (by decide) ?_ ?_
  · refine eb_iconst (pc := 84) (v := 1) dX2_tips_84 (by decide) ?_
    refine eb_goto (pc := 85) (tgt := 89) dX2_tips_85 (by decide) ?_
    exact eb_bret (pc := 89) (b := true) dX2_tips_89 (by decide) (by decide)
  · refine eb_iload (pc := 75) 2 dX2_tips_75 rfl ?_
    refine eb_mabs (pc := 77) ew_345 ew_93 ew_17 ew_94 (by decide) (Nat.le_of_ble_eq_true rfl) (by decide) (by decide) dX2_tips_77 ?_
    refine eb_iload_n (pc := 80) 0 dX2_tips_80 rfl rfl ?_
    refine eb_icmp_le (pc := 81) (tgt := 88) dX2_tips_81 (by decide) ?_ ?_
    · refine eb_iconst (pc := 88) (v := 0) dX2_tips_88 (by decide) ?_
      exact eb_bret (pc := 89) (b := false) dX2_tips_89 (by decide) (by decide)
    · refine eb_iconst (pc := 84) (v := 1) dX2_tips_84 (by decide) ?_
      refine eb_goto (pc := 85) (tgt := 89) dX2_tips_85 (by decide) ?_
      exact eb_bret (pc := 89) (b := true) dX2_tips_89 (by decide) (by decide)

def f_X2_waysWithoutOne_L4 (n : Nat) (v0 : Nat) (v1 : Int32)  : Nat → Int32 → Int32 → eb_S → Option (Int32 × eb_S)
  | 0, _, _, _ => none
  | m + 1, v2, v3, s => if 8 ≤ v3 then (some (v2, s)) else (eb_jn (fun (y1 : Int32) (s2 : eb_S) => f_X2_waysWithoutOne_L4 n v0 v1 m (v2 + y1) (v3 + 1) s2) fun j3 => if ((v1 >>> (v3 &&& 31)) &&& 1) = 1 then (eb_gR s [2] v0 3 fun r4 => eb_ai s r4 (v1 &&& (((1 : Int32) <<< (v3 &&& 31)) ^^^ ((-1)))) fun x5 => j3 x5 s) else (j3 0 s))
def f_X2_waysWithoutOne (n : Nat) (v0 : Nat) (v1 : Int32) (s : eb_S) : Option (Int32 × eb_S) := f_X2_waysWithoutOne_L4 n v0 v1  n 0 0 s
set_option maxRecDepth 100000 in
theorem gl_X2_waysWithoutOne_L4 {G : eb_G} (hG : eb_ok G) {n : Nat} {v0 : Nat} {v1 : Int32}   : ∀ (m : Nat) (v2 : Int32) (v3 : Int32) (s : eb_S), eb_go G yX2_waysWithoutOne cX2_waysWithoutOne 4 (some .int) (1) 0 0 .ireturn (fun r : Int32 => [.int r]) 4 [(0, .ref v0), (1, .int v1), (2, .int v2), (3, .int v3)] [] s 0 0 (f_X2_waysWithoutOne_L4 n v0 v1 m v2 v3 s) := by
  intro m
  induction m with
  | zero => intro v2 v3 s; exact eb_none
  | succ m ih =>
    intro v2 v3 s
    rw [f_X2_waysWithoutOne_L4.eq_2]
    refine eb_iload_n (pc := 4) 3 dX2_waysWithoutOne_4 rfl rfl ?_
    refine eb_bipush (pc := 5) (v := 8) dX2_waysWithoutOne_5 (by decide) ?_
    refine eb_icmp_ge (pc := 7) (tgt := 44) dX2_waysWithoutOne_7 (by decide) ?_ ?_
    · refine eb_iload_n (pc := 44) 2 dX2_waysWithoutOne_44 rfl rfl ?_
      exact eb_iret (pc := 45) dX2_waysWithoutOne_45 (by decide) (by decide)
    · refine eb_iload_n (pc := 10) 2 dX2_waysWithoutOne_10 rfl rfl ?_
      refine eb_iload_n (pc := 11) 1 dX2_waysWithoutOne_11 rfl rfl ?_
      refine eb_iload_n (pc := 12) 3 dX2_waysWithoutOne_12 rfl rfl ?_
      refine eb_ishr (pc := 13) dX2_waysWithoutOne_13 ?_
      refine eb_iconst (pc := 14) (v := 1) dX2_waysWithoutOne_14 (by decide) ?_
      refine eb_iand (pc := 15) dX2_waysWithoutOne_15 ?_
      refine eb_iconst (pc := 16) (v := 1) dX2_waysWithoutOne_16 (by decide) ?_
      refine eb_join (fun j3 : Int32 → eb_S → Option (Int32 × eb_S) => ∀ (y1 : Int32) (s2 : eb_S), eb_go G yX2_waysWithoutOne cX2_waysWithoutOne 4 (some .int) (1) 0 0 .ireturn (fun r : Int32 => [.int r]) 36 [(0, .ref v0), (1, .int v1), (3, .int v3)] [.int y1, .int v2] s2 0 0 (j3 y1 s2)) ?_ (fun j3 hj3 => ?_)
      · intro y1 s2
        refine eb_iadd (pc := 36) dX2_waysWithoutOne_36 ?_
        refine eb_istore_n (pc := 37) (L' := [(2, .int (v2 + y1)), (0, .ref v0), (1, .int v1), (3, .int v3)]) dX2_waysWithoutOne_37 rfl (by decide) rfl ?_
        refine eb_iinc (pc := 38) (v := v3 + 1) (L' := [(3, .int (v3 + 1)), (2, .int (v2 + y1)), (0, .ref v0), (1, .int v1)]) 3 dX2_waysWithoutOne_38 rfl rfl (by decide) rfl ?_
        refine eb_goto (pc := 41) (tgt := 4) dX2_waysWithoutOne_41 (by decide) ?_
        refine eb_sub [2, 3, 1, 0] rfl ?_
        exact ih _ _ _
      refine eb_icmp_ne (pc := 17) (tgt := 35) dX2_waysWithoutOne_17 (by decide) ?_ ?_
      · refine eb_iconst (pc := 35) (v := 0) dX2_waysWithoutOne_35 (by decide) ?_
        refine eb_sub [0, 1, 3] rfl ?_
        exact hj3 _ _
      · refine eb_aload_n (pc := 20) 0 dX2_waysWithoutOne_20 rfl rfl ?_
        refine eb_getR (pc := 21) ef_RX2_19 dX2_waysWithoutOne_21 (fun r4 => ?_)
        refine eb_iload_n (pc := 24) 1 dX2_waysWithoutOne_24 rfl rfl ?_
        refine eb_iconst (pc := 25) (v := 1) dX2_waysWithoutOne_25 (by decide) ?_
        refine eb_iload_n (pc := 26) 3 dX2_waysWithoutOne_26 rfl rfl ?_
        refine eb_ishl (pc := 27) dX2_waysWithoutOne_27 ?_
        refine eb_iconst (pc := 28) (v := (-1)) dX2_waysWithoutOne_28 (by decide) ?_
        refine eb_ixor (pc := 29) dX2_waysWithoutOne_29 ?_
        refine eb_iand (pc := 30) dX2_waysWithoutOne_30 ?_
        refine eb_iaload (pc := 31) dX2_waysWithoutOne_31 (fun x5 => ?_)
        refine eb_goto (pc := 32) (tgt := 36) dX2_waysWithoutOne_32 (by decide) ?_
        refine eb_sub [0, 1, 3] rfl ?_
        exact hj3 _ _
set_option maxRecDepth 100000 in
theorem ct_X2_waysWithoutOne {G : eb_G} (hG : eb_ok G) (n : Nat) (v0 : Nat) (v1 : Int32) (s : eb_S) : eb_ct G yX2_waysWithoutOne cX2_waysWithoutOne 4 (some .int) 1 0 0 eb_ei [.ref v0, .int v1] s (f_X2_waysWithoutOne n v0 v1 s) := by
  refine eb_ct_i (by decide) (Nat.le_of_ble_eq_true rfl) (fun v hv => by simp at hv; rcases hv with rfl | rfl <;> simp [Value.category]) ?_
  show eb_go G yX2_waysWithoutOne cX2_waysWithoutOne 4 (some .int) (1) 0 0 .ireturn (fun r : Int32 => [.int r]) 0 [(0, .ref v0), (1, .int v1)] [] s 0 0 _
  unfold f_X2_waysWithoutOne
  refine eb_iconst (pc := 0) (v := 0) dX2_waysWithoutOne_0 (by decide) ?_
  refine eb_istore_n (pc := 1) (L' := [(2, .int 0), (0, .ref v0), (1, .int v1)]) dX2_waysWithoutOne_1 rfl (by decide) rfl ?_
  refine eb_iconst (pc := 2) (v := 0) dX2_waysWithoutOne_2 (by decide) ?_
  refine eb_istore_n (pc := 3) (L' := [(3, .int 0), (2, .int 0), (0, .ref v0), (1, .int v1)]) dX2_waysWithoutOne_3 rfl (by decide) rfl ?_
  refine eb_sub [2, 3, 1, 0] rfl ?_
  refine gl_X2_waysWithoutOne_L4 hG  n _ _ _

def f_X2_orders_L9 (n : Nat) (v0 : Nat) (v1 : Int32) (K : eb_S → Option (Int32 × eb_S)) : Nat → Int32 → eb_S → Option (Int32 × eb_S)
  | 0, _, _ => none
  | m + 1, v2, s => eb_gI s [2] v0 0 fun x3 => if x3 < v2 then (K s) else (eb_gI s [2] v0 0 fun x4 => eb_jn (fun (p5 : Int32) (s6 : eb_S) => f_X2_orders_L9 n v0 v1 K m (p5 + 1) s6) fun j7 => if (v2 &&& (x4 ^^^ ((-1)))) = 0 then (eb_gR s [2] v0 3 fun r8 => eb_cl (eb_tg s v0 2 (f_X2_tips n v0 v2 v1 s)) fun b10 s9 => eb_jn (fun (y11 : Int32) (s12 : eb_S) => eb_wi s12 r8 v2 y11 fun s14 => j7 v2 s14) fun j13 => if (eb_b b10) = 0 then (eb_cl (eb_tg s9 v0 2 (f_X2_waysWithoutOne n v0 v2 s9)) fun x16 s15 => j13 x16 s15) else (j13 0 s9)) else (j7 v2 s))
def f_X2_orders (n : Nat) (v0 : Nat) (v1 : Int32) (s : eb_S) : Option (Int32 × eb_S) := eb_gR s [2] v0 3 fun r1 => eb_wi s r1 0 1 fun s2 => f_X2_orders_L9 n v0 v1 (fun  (s17 : eb_S) => eb_gR s17 [2] v0 3 fun r18 => eb_gI s17 [2] v0 0 fun x19 => eb_ai s17 r18 x19 fun x20 => some (x20, s17)) n 1 s2
set_option maxRecDepth 100000 in
theorem gl_X2_orders_L9 {G : eb_G} (hG : eb_ok G) {n : Nat} {v0 : Nat} {v1 : Int32} {K : eb_S → Option (Int32 × eb_S)} (hK : ∀  (s : eb_S), eb_go G yX2_orders cX2_orders 3 (some .int) (2) 0 0 .ireturn (fun r : Int32 => [.int r]) 58 [(0, .ref v0)] [] s 0 0 (K  s)) : ∀ (m : Nat) (v2 : Int32) (s : eb_S), eb_go G yX2_orders cX2_orders 3 (some .int) (2) 0 0 .ireturn (fun r : Int32 => [.int r]) 9 [(0, .ref v0), (1, .int v1), (2, .int v2)] [] s 0 0 (f_X2_orders_L9 n v0 v1 K m v2 s) := by
  intro m
  induction m with
  | zero => intro v2 s; exact eb_none
  | succ m ih =>
    intro v2 s
    rw [f_X2_orders_L9.eq_2]
    refine eb_iload_n (pc := 9) 2 dX2_orders_9 rfl rfl ?_
    refine eb_aload_n (pc := 10) 0 dX2_orders_10 rfl rfl ?_
    refine eb_getI (pc := 11) ef_RX2_9 dX2_orders_11 (fun x3 => ?_)
    refine eb_icmp_gt (pc := 14) (tgt := 58) dX2_orders_14 (by decide) ?_ ?_
    · refine eb_sub [0] rfl ?_
      exact hK _
    · refine eb_iload_n (pc := 17) 2 dX2_orders_17 rfl rfl ?_
      refine eb_aload_n (pc := 18) 0 dX2_orders_18 rfl rfl ?_
      refine eb_getI (pc := 19) ef_RX2_9 dX2_orders_19 (fun x4 => ?_)
      refine eb_iconst (pc := 22) (v := (-1)) dX2_orders_22 (by decide) ?_
      refine eb_ixor (pc := 23) dX2_orders_23 ?_
      refine eb_iand (pc := 24) dX2_orders_24 ?_
      refine eb_join (fun j7 : Int32 → eb_S → Option (Int32 × eb_S) => ∀ (p5 : Int32) (s6 : eb_S), eb_go G yX2_orders cX2_orders 3 (some .int) (2) 0 0 .ireturn (fun r : Int32 => [.int r]) 52 [(0, .ref v0), (1, .int v1), (2, .int p5)] [] s6 0 0 (j7 p5 s6)) ?_ (fun j7 hj7 => ?_)
      · intro p5 s6
        refine eb_iinc (pc := 52) (v := p5 + 1) (L' := [(2, .int (p5 + 1)), (0, .ref v0), (1, .int v1)]) 2 dX2_orders_52 rfl rfl (by decide) rfl ?_
        refine eb_goto (pc := 55) (tgt := 9) dX2_orders_55 (by decide) ?_
        refine eb_sub [1, 2, 0] rfl ?_
        exact ih _ _
      refine eb_if_ne (pc := 25) (tgt := 52) dX2_orders_25 (by decide) ?_ ?_
      · exact hj7 _ _
      · refine eb_aload_n (pc := 28) 0 dX2_orders_28 rfl rfl ?_
        refine eb_getR (pc := 29) ef_RX2_19 dX2_orders_29 (fun r8 => ?_)
        refine eb_iload_n (pc := 32) 2 dX2_orders_32 rfl rfl ?_
        refine eb_aload_n (pc := 33) 0 dX2_orders_33 rfl rfl ?_
        refine eb_iload_n (pc := 34) 2 dX2_orders_34 rfl rfl ?_
        refine eb_iload_n (pc := 35) 1 dX2_orders_35 rfl rfl ?_
        refine eb_callb (pc := 36) (eb_runV (pc := 36) (As := [.int v2, .int v1]) (rest := [.int v2, .ref r8]) (ci := 2) (q0 := (RX2, TX2, 4)) (q := (RX2, TX2, 4)) ew_346 ew_347 ew_348 ew_349 rfl rfl ed_X2_tips (ct_X2_tips hG n _ _ _ _) rfl ew_350 ⟨by decide, by decide⟩ (by decide) (by decide) (Nat.le_of_ble_eq_true rfl) rfl dX2_orders_36) (fun b10 s9 => ?_)
        refine eb_join (fun j13 : Int32 → eb_S → Option (Int32 × eb_S) => ∀ (y11 : Int32) (s12 : eb_S), eb_go G yX2_orders cX2_orders 3 (some .int) (2) 0 0 .ireturn (fun r : Int32 => [.int r]) 51 [(0, .ref v0), (1, .int v1), (2, .int v2)] [.int y11, .int v2, .ref r8] s12 0 0 (j13 y11 s12)) ?_ (fun j13 hj13 => ?_)
        · intro y11 s12
          refine eb_iastore (pc := 51) dX2_orders_51 (fun s14 => ?_)
          exact hj7 _ _
        refine eb_if_eq (pc := 39) (tgt := 46) dX2_orders_39 (by decide) ?_ ?_
        · refine eb_aload_n (pc := 46) 0 dX2_orders_46 rfl rfl ?_
          refine eb_iload_n (pc := 47) 2 dX2_orders_47 rfl rfl ?_
          refine eb_calli (pc := 48) (eb_runV (pc := 48) (As := [.int v2]) (rest := [.int v2, .ref r8]) (ci := 2) (q0 := (RX2, TX2, 4)) (q := (RX2, TX2, 4)) ew_351 ew_352 ew_353 ew_349 rfl rfl ed_X2_waysWithoutOne (ct_X2_waysWithoutOne hG n _ _ _) rfl ew_354 ⟨by decide, by decide⟩ (by decide) (by decide) (Nat.le_of_ble_eq_true rfl) rfl dX2_orders_48) (fun x16 s15 => ?_)
          exact hj13 _ _
        · refine eb_iconst (pc := 42) (v := 0) dX2_orders_42 (by decide) ?_
          refine eb_goto (pc := 43) (tgt := 51) dX2_orders_43 (by decide) ?_
          exact hj13 _ _
set_option maxRecDepth 100000 in
theorem ct_X2_orders {G : eb_G} (hG : eb_ok G) (n : Nat) (v0 : Nat) (v1 : Int32) (s : eb_S) : eb_ct G yX2_orders cX2_orders 3 (some .int) 2 0 0 eb_ei [.ref v0, .int v1] s (f_X2_orders n v0 v1 s) := by
  refine eb_ct_i (by decide) (Nat.le_of_ble_eq_true rfl) (fun v hv => by simp at hv; rcases hv with rfl | rfl <;> simp [Value.category]) ?_
  show eb_go G yX2_orders cX2_orders 3 (some .int) (2) 0 0 .ireturn (fun r : Int32 => [.int r]) 0 [(0, .ref v0), (1, .int v1)] [] s 0 0 _
  unfold f_X2_orders
  refine eb_aload_n (pc := 0) 0 dX2_orders_0 rfl rfl ?_
  refine eb_getR (pc := 1) ef_RX2_19 dX2_orders_1 (fun r1 => ?_)
  refine eb_iconst (pc := 4) (v := 0) dX2_orders_4 (by decide) ?_
  refine eb_iconst (pc := 5) (v := 1) dX2_orders_5 (by decide) ?_
  refine eb_iastore (pc := 6) dX2_orders_6 (fun s2 => ?_)
  refine eb_iconst (pc := 7) (v := 1) dX2_orders_7 (by decide) ?_
  refine eb_istore_n (pc := 8) (L' := [(2, .int 1), (0, .ref v0), (1, .int v1)]) dX2_orders_8 rfl (by decide) rfl ?_
  refine eb_sub [1, 2, 0] rfl ?_
  refine gl_X2_orders_L9 hG (fun s17 => ?_) n _ _
  refine eb_aload_n (pc := 58) 0 dX2_orders_58 rfl rfl ?_
  refine eb_getR (pc := 59) ef_RX2_19 dX2_orders_59 (fun r18 => ?_)
  refine eb_aload_n (pc := 62) 0 dX2_orders_62 rfl rfl ?_
  refine eb_getI (pc := 63) ef_RX2_9 dX2_orders_63 (fun x19 => ?_)
  refine eb_iaload (pc := 66) dX2_orders_66 (fun x20 => ?_)
  exact eb_iret (pc := 67) dX2_orders_67 (by decide) (by decide)

def f_X2_safe_L4 (n : Nat) (v0 : Nat) (v1 : Int32)  : Nat → Int32 → Int32 → eb_S → Option (Int32 × eb_S)
  | 0, _, _, _ => none
  | m + 1, v2, v3, s => if 8 ≤ v3 then (some (v2, s)) else (eb_gI s [2] v0 0 fun x1 => eb_jn (fun (p2 : Int32) (p3 : Int32) (s4 : eb_S) => f_X2_safe_L4 n v0 v1 m p2 (p3 + 1) s4) fun j5 => if ((x1 >>> (v3 &&& 31)) &&& 1) = 1 then (eb_gI s [2] v0 0 fun x6 => eb_cl (eb_tg s v0 2 (f_X2_tips n v0 (x6 &&& (((1 : Int32) <<< (v3 &&& 31)) ^^^ ((-1)))) v1 s)) fun b8 s7 => if (eb_b b8) = 0 then (j5 (v2 ||| ((1 : Int32) <<< (v3 &&& 31))) v3 s7) else (j5 v2 v3 s7)) else (j5 v2 v3 s))
def f_X2_safe (n : Nat) (v0 : Nat) (v1 : Int32) (s : eb_S) : Option (Int32 × eb_S) := f_X2_safe_L4 n v0 v1  n 0 0 s
set_option maxRecDepth 100000 in
theorem gl_X2_safe_L4 {G : eb_G} (hG : eb_ok G) {n : Nat} {v0 : Nat} {v1 : Int32}   : ∀ (m : Nat) (v2 : Int32) (v3 : Int32) (s : eb_S), eb_go G yX2_safe cX2_safe 4 (some .int) (2) 0 0 .ireturn (fun r : Int32 => [.int r]) 4 [(0, .ref v0), (1, .int v1), (2, .int v2), (3, .int v3)] [] s 0 0 (f_X2_safe_L4 n v0 v1 m v2 v3 s) := by
  intro m
  induction m with
  | zero => intro v2 v3 s; exact eb_none
  | succ m ih =>
    intro v2 v3 s
    rw [f_X2_safe_L4.eq_2]
    refine eb_iload_n (pc := 4) 3 dX2_safe_4 rfl rfl ?_
    refine eb_bipush (pc := 5) (v := 8) dX2_safe_5 (by decide) ?_
    refine eb_icmp_ge (pc := 7) (tgt := 52) dX2_safe_7 (by decide) ?_ ?_
    · refine eb_iload_n (pc := 52) 2 dX2_safe_52 rfl rfl ?_
      exact eb_iret (pc := 53) dX2_safe_53 (by decide) (by decide)
    · refine eb_aload_n (pc := 10) 0 dX2_safe_10 rfl rfl ?_
      refine eb_getI (pc := 11) ef_RX2_9 dX2_safe_11 (fun x1 => ?_)
      refine eb_iload_n (pc := 14) 3 dX2_safe_14 rfl rfl ?_
      refine eb_ishr (pc := 15) dX2_safe_15 ?_
      refine eb_iconst (pc := 16) (v := 1) dX2_safe_16 (by decide) ?_
      refine eb_iand (pc := 17) dX2_safe_17 ?_
      refine eb_iconst (pc := 18) (v := 1) dX2_safe_18 (by decide) ?_
      refine eb_join (fun j5 : Int32 → Int32 → eb_S → Option (Int32 × eb_S) => ∀ (p2 : Int32) (p3 : Int32) (s4 : eb_S), eb_go G yX2_safe cX2_safe 4 (some .int) (2) 0 0 .ireturn (fun r : Int32 => [.int r]) 46 [(0, .ref v0), (1, .int v1), (2, .int p2), (3, .int p3)] [] s4 0 0 (j5 p2 p3 s4)) ?_ (fun j5 hj5 => ?_)
      · intro p2 p3 s4
        refine eb_iinc (pc := 46) (v := p3 + 1) (L' := [(3, .int (p3 + 1)), (0, .ref v0), (1, .int v1), (2, .int p2)]) 3 dX2_safe_46 rfl rfl (by decide) rfl ?_
        refine eb_goto (pc := 49) (tgt := 4) dX2_safe_49 (by decide) ?_
        refine eb_sub [1, 2, 3, 0] rfl ?_
        exact ih _ _ _
      refine eb_icmp_ne (pc := 19) (tgt := 46) dX2_safe_19 (by decide) ?_ ?_
      · exact hj5 _ _ _
      · refine eb_aload_n (pc := 22) 0 dX2_safe_22 rfl rfl ?_
        refine eb_aload_n (pc := 23) 0 dX2_safe_23 rfl rfl ?_
        refine eb_getI (pc := 24) ef_RX2_9 dX2_safe_24 (fun x6 => ?_)
        refine eb_iconst (pc := 27) (v := 1) dX2_safe_27 (by decide) ?_
        refine eb_iload_n (pc := 28) 3 dX2_safe_28 rfl rfl ?_
        refine eb_ishl (pc := 29) dX2_safe_29 ?_
        refine eb_iconst (pc := 30) (v := (-1)) dX2_safe_30 (by decide) ?_
        refine eb_ixor (pc := 31) dX2_safe_31 ?_
        refine eb_iand (pc := 32) dX2_safe_32 ?_
        refine eb_iload_n (pc := 33) 1 dX2_safe_33 rfl rfl ?_
        refine eb_callb (pc := 34) (eb_runV (pc := 34) (As := [.int (x6 &&& (((1 : Int32) <<< (v3 &&& 31)) ^^^ ((-1)))), .int v1]) (rest := []) (ci := 2) (q0 := (RX2, TX2, 4)) (q := (RX2, TX2, 4)) ew_346 ew_347 ew_348 ew_349 rfl rfl ed_X2_tips (ct_X2_tips hG n _ _ _ _) rfl ew_350 ⟨by decide, by decide⟩ (by decide) (by decide) (Nat.le_of_ble_eq_true rfl) rfl dX2_safe_34) (fun b8 s7 => ?_)
        refine eb_if_ne (pc := 37) (tgt := 46) dX2_safe_37 (by decide) ?_ ?_
        · exact hj5 _ _ _
        · refine eb_iload_n (pc := 40) 2 dX2_safe_40 rfl rfl ?_
          refine eb_iconst (pc := 41) (v := 1) dX2_safe_41 (by decide) ?_
          refine eb_iload_n (pc := 42) 3 dX2_safe_42 rfl rfl ?_
          refine eb_ishl (pc := 43) dX2_safe_43 ?_
          refine eb_ior (pc := 44) dX2_safe_44 ?_
          refine eb_istore_n (pc := 45) (L' := [(2, .int (v2 ||| ((1 : Int32) <<< (v3 &&& 31)))), (0, .ref v0), (1, .int v1), (3, .int v3)]) dX2_safe_45 rfl (by decide) rfl ?_
          refine eb_sub [1, 2, 0, 3] rfl ?_
          exact hj5 _ _ _
set_option maxRecDepth 100000 in
theorem ct_X2_safe {G : eb_G} (hG : eb_ok G) (n : Nat) (v0 : Nat) (v1 : Int32) (s : eb_S) : eb_ct G yX2_safe cX2_safe 4 (some .int) 2 0 0 eb_ei [.ref v0, .int v1] s (f_X2_safe n v0 v1 s) := by
  refine eb_ct_i (by decide) (Nat.le_of_ble_eq_true rfl) (fun v hv => by simp at hv; rcases hv with rfl | rfl <;> simp [Value.category]) ?_
  show eb_go G yX2_safe cX2_safe 4 (some .int) (2) 0 0 .ireturn (fun r : Int32 => [.int r]) 0 [(0, .ref v0), (1, .int v1)] [] s 0 0 _
  unfold f_X2_safe
  refine eb_iconst (pc := 0) (v := 0) dX2_safe_0 (by decide) ?_
  refine eb_istore_n (pc := 1) (L' := [(2, .int 0), (0, .ref v0), (1, .int v1)]) dX2_safe_1 rfl (by decide) rfl ?_
  refine eb_iconst (pc := 2) (v := 0) dX2_safe_2 (by decide) ?_
  refine eb_istore_n (pc := 3) (L' := [(3, .int 0), (2, .int 0), (0, .ref v0), (1, .int v1)]) dX2_safe_3 rfl (by decide) rfl ?_
  refine eb_sub [2, 3, 1, 0] rfl ?_
  refine gl_X2_safe_L4 hG  n _ _ _

def f_X7_init (v0 : Nat) (s : eb_S) : Option (Unit × eb_S) := eb_pI s [6] v0 0 ((-1)) fun s1 => eb_pI s1 [6] v0 1 0 fun s2 => eb_na s2 12 16 16 fun r3 s4 => eb_pR s4 [6] v0 2 r3 fun s5 => some ((), s5)
set_option maxRecDepth 100000 in
theorem ct_X7_init {G : eb_G} (hG : eb_ok G) (v0 : Nat) (s : eb_S) : eb_ct G yX7_init cX7_init 1 none 1 1 16 eb_ev [.ref v0] s (f_X7_init v0 s) := by
  refine eb_ct_v (by decide) (Nat.le_of_ble_eq_true rfl) (fun v hv => by simp at hv; rcases hv with rfl <;> simp [Value.category]) ?_
  show eb_go G yX7_init cX7_init 1 none (1) 1 16 .return_ (fun _ : Unit => []) 0 [(0, .ref v0)] [] s 0 0 _
  unfold f_X7_init
  refine eb_aload_n (pc := 0) 0 dX7_init_0 rfl rfl ?_
  refine eb_obj (pc := 1) ew_358 ew_59 ew_60 (by decide) (Nat.le_of_ble_eq_true rfl) dX7_init_1 ?_
  refine eb_aload_n (pc := 4) 0 dX7_init_4 rfl rfl ?_
  refine eb_iconst (pc := 5) (v := (-1)) dX7_init_5 (by decide) ?_
  refine eb_putI (pc := 6) ef_RX7_11 eg_RX7_11 dX7_init_6 (fun s1 => ?_)
  refine eb_aload_n (pc := 9) 0 dX7_init_9 rfl rfl ?_
  refine eb_iconst (pc := 10) (v := 0) dX7_init_10 (by decide) ?_
  refine eb_putI (pc := 11) ef_RX7_15 eg_RX7_15 dX7_init_11 (fun s2 => ?_)
  refine eb_aload_n (pc := 14) 0 dX7_init_14 rfl rfl ?_
  refine eb_bipush (pc := 15) (v := 16) dX7_init_15 (by decide) ?_
  refine eb_newl (pc := 17) ew_298 dX7_init_17 (by decide) (by decide) (by decide) (fun r3 s4 => ?_)
  refine eb_putR (pc := 19) ef_RX7_18 eg_RX7_18 (fun _ => ⟨rfl, rfl⟩) dX7_init_19 (fun s5 => ?_)
  exact eb_vret (pc := 22) dX7_init_22 (by decide) (by decide)

def f_X7_isMissing (v0 : Nat) (s : eb_S) : Option (Bool × eb_S) := eb_gI s [6] v0 0 fun x1 => if x1 = ((-1)) then (some (true, s)) else (some (false, s))
set_option maxRecDepth 100000 in
theorem ct_X7_isMissing {G : eb_G} (hG : eb_ok G) (v0 : Nat) (s : eb_S) : eb_ct G yX7_isMissing cX7_isMissing 1 (some .boolean) 1 0 0 eb_eb [.ref v0] s (f_X7_isMissing v0 s) := by
  refine eb_ct_b (by decide) (Nat.le_of_ble_eq_true rfl) (fun v hv => by simp at hv; rcases hv with rfl <;> simp [Value.category]) ?_
  show eb_go G yX7_isMissing cX7_isMissing 1 (some .boolean) (1) 0 0 .ireturn (fun r : Bool => [.int (eb_b r)]) 0 [(0, .ref v0)] [] s 0 0 _
  unfold f_X7_isMissing
  refine eb_aload_n (pc := 0) 0 dX7_isMissing_0 rfl rfl ?_
  refine eb_getI (pc := 1) ef_RX7_11 dX7_isMissing_1 (fun x1 => ?_)
  refine eb_iconst (pc := 4) (v := (-1)) dX7_isMissing_4 (by decide) ?_
  refine eb_icmp_ne (pc := 5) (tgt := 12) dX7_isMissing_5 (by decide) ?_ ?_
  · refine eb_iconst (pc := 12) (v := 0) dX7_isMissing_12 (by decide) ?_
    exact eb_bret (pc := 13) (b := false) dX7_isMissing_13 (by decide) (by decide)
  · refine eb_iconst (pc := 8) (v := 1) dX7_isMissing_8 (by decide) ?_
    refine eb_goto (pc := 9) (tgt := 13) dX7_isMissing_9 (by decide) ?_
    exact eb_bret (pc := 13) (b := true) dX7_isMissing_13 (by decide) (by decide)

def f_X7_renew_L12 (n : Nat) (v0 : Nat)  : Nat → Int32 → eb_S → Option (Unit × eb_S)
  | 0, _, _ => none
  | m + 1, v3, s => if 16 ≤ v3 then (some ((), s)) else (eb_gR s [6] v0 2 fun r3 => eb_wl s r3 v3 0 fun s4 => f_X7_renew_L12 n v0 m (v3 + 1) s4)
def f_X7_renew (n : Nat) (v0 : Nat) (v1 : Int32) (v2 : Int32) (s : eb_S) : Option (Unit × eb_S) := eb_pI s [6] v0 0 v1 fun s1 => eb_pI s1 [6] v0 1 v2 fun s2 => f_X7_renew_L12 n v0  n 0 s2
set_option maxRecDepth 100000 in
theorem gl_X7_renew_L12 {G : eb_G} (hG : eb_ok G) {n : Nat} {v0 : Nat}   : ∀ (m : Nat) (v3 : Int32) (s : eb_S), eb_go G yX7_renew cX7_renew 4 none (1) 0 0 .return_ (fun _ : Unit => []) 12 [(0, .ref v0), (3, .int v3)] [] s 0 0 (f_X7_renew_L12 n v0 m v3 s) := by
  intro m
  induction m with
  | zero => intro v3 s; exact eb_none
  | succ m ih =>
    intro v3 s
    rw [f_X7_renew_L12.eq_2]
    refine eb_iload_n (pc := 12) 1 dX7_renew_12 rfl rfl ?_
    refine eb_bipush (pc := 13) (v := 16) dX7_renew_13 (by decide) ?_
    refine eb_icmp_ge (pc := 15) (tgt := 31) dX7_renew_15 (by decide) ?_ ?_
    · exact eb_vret (pc := 31) dX7_renew_31 (by decide) (by decide)
    · refine eb_aload_n (pc := 18) 0 dX7_renew_18 rfl rfl ?_
      refine eb_getR (pc := 19) ef_RX7_18 dX7_renew_19 (fun r3 => ?_)
      refine eb_iload_n (pc := 22) 1 dX7_renew_22 rfl rfl ?_
      refine eb_lconst (pc := 23) (v := 0) dX7_renew_23 (by decide) ?_
      refine eb_lastore (pc := 24) dX7_renew_24 (fun s4 => ?_)
      refine eb_iinc (pc := 25) (v := v3 + 1) (L' := [(3, .int (v3 + 1)), (0, .ref v0)]) 1 dX7_renew_25 rfl rfl (by decide) rfl ?_
      refine eb_goto (pc := 28) (tgt := 12) dX7_renew_28 (by decide) ?_
      refine eb_sub [1, 0] rfl ?_
      exact ih _ _
set_option maxRecDepth 100000 in
theorem ct_X7_renew {G : eb_G} (hG : eb_ok G) (n : Nat) (v0 : Nat) (v1 : Int32) (v2 : Int32) (s : eb_S) : eb_ct G yX7_renew cX7_renew 4 none 1 0 0 eb_ev [.ref v0, .int v1, .int v2] s (f_X7_renew n v0 v1 v2 s) := by
  refine eb_ct_v (by decide) (Nat.le_of_ble_eq_true rfl) (fun v hv => by simp at hv; rcases hv with rfl | rfl | rfl <;> simp [Value.category]) ?_
  show eb_go G yX7_renew cX7_renew 4 none (1) 0 0 .return_ (fun _ : Unit => []) 0 [(0, .ref v0), (1, .int v1), (2, .int v2)] [] s 0 0 _
  unfold f_X7_renew
  refine eb_aload_n (pc := 0) 0 dX7_renew_0 rfl rfl ?_
  refine eb_iload_n (pc := 1) 1 dX7_renew_1 rfl rfl ?_
  refine eb_putI (pc := 2) ef_RX7_11 eg_RX7_11 dX7_renew_2 (fun s1 => ?_)
  refine eb_aload_n (pc := 5) 0 dX7_renew_5 rfl rfl ?_
  refine eb_iload_n (pc := 6) 2 dX7_renew_6 rfl rfl ?_
  refine eb_putI (pc := 7) ef_RX7_15 eg_RX7_15 dX7_renew_7 (fun s2 => ?_)
  refine eb_iconst (pc := 10) (v := 0) dX7_renew_10 (by decide) ?_
  refine eb_istore_n (pc := 11) (L' := [(3, .int 0), (0, .ref v0), (1, .int v1), (2, .int v2)]) dX7_renew_11 rfl (by decide) rfl ?_
  refine eb_sub [1, 0] rfl ?_
  refine gl_X7_renew_L12 hG  n _ _

def f_X7_lose (v0 : Nat) (s : eb_S) : Option (Unit × eb_S) := eb_pI s [6] v0 0 ((-1)) fun s1 => eb_pI s1 [6] v0 1 0 fun s2 => some ((), s2)
set_option maxRecDepth 100000 in
theorem ct_X7_lose {G : eb_G} (hG : eb_ok G) (v0 : Nat) (s : eb_S) : eb_ct G yX7_lose cX7_lose 1 none 1 0 0 eb_ev [.ref v0] s (f_X7_lose v0 s) := by
  refine eb_ct_v (by decide) (Nat.le_of_ble_eq_true rfl) (fun v hv => by simp at hv; rcases hv with rfl <;> simp [Value.category]) ?_
  show eb_go G yX7_lose cX7_lose 1 none (1) 0 0 .return_ (fun _ : Unit => []) 0 [(0, .ref v0)] [] s 0 0 _
  unfold f_X7_lose
  refine eb_aload_n (pc := 0) 0 dX7_lose_0 rfl rfl ?_
  refine eb_iconst (pc := 1) (v := (-1)) dX7_lose_1 (by decide) ?_
  refine eb_putI (pc := 2) ef_RX7_11 eg_RX7_11 dX7_lose_2 (fun s1 => ?_)
  refine eb_aload_n (pc := 5) 0 dX7_lose_5 rfl rfl ?_
  refine eb_iconst (pc := 6) (v := 0) dX7_lose_6 (by decide) ?_
  refine eb_putI (pc := 7) ef_RX7_15 eg_RX7_15 dX7_lose_7 (fun s2 => ?_)
  exact eb_vret (pc := 10) dX7_lose_10 (by decide) (by decide)

def f_X7_spans (v0 : Nat) (v1 : Int32) (v2 : Int32) (s : eb_S) : Option (Bool × eb_S) := if v2 < 0 then (some (false, s)) else (if v1 < 0 then (some (false, s)) else (eb_gI s [6] v0 1 fun x1 => if (x1 - v2) < v1 then (some (false, s)) else (some (true, s))))
set_option maxRecDepth 100000 in
theorem ct_X7_spans {G : eb_G} (hG : eb_ok G) (v0 : Nat) (v1 : Int32) (v2 : Int32) (s : eb_S) : eb_ct G yX7_spans cX7_spans 3 (some .boolean) 1 0 0 eb_eb [.ref v0, .int v1, .int v2] s (f_X7_spans v0 v1 v2 s) := by
  refine eb_ct_b (by decide) (Nat.le_of_ble_eq_true rfl) (fun v hv => by simp at hv; rcases hv with rfl | rfl | rfl <;> simp [Value.category]) ?_
  show eb_go G yX7_spans cX7_spans 3 (some .boolean) (1) 0 0 .ireturn (fun r : Bool => [.int (eb_b r)]) 0 [(0, .ref v0), (1, .int v1), (2, .int v2)] [] s 0 0 _
  unfold f_X7_spans
  refine eb_iload_n (pc := 0) 2 dX7_spans_0 rfl rfl ?_
  refine eb_if_lt (pc := 1) (tgt := 22) dX7_spans_1 (by decide) ?_ ?_
  · refine eb_iconst (pc := 22) (v := 0) dX7_spans_22 (by decide) ?_
    exact eb_bret (pc := 23) (b := false) dX7_spans_23 (by decide) (by decide)
  · refine eb_iload_n (pc := 4) 1 dX7_spans_4 rfl rfl ?_
    refine eb_if_lt (pc := 5) (tgt := 22) dX7_spans_5 (by decide) ?_ ?_
    · refine eb_iconst (pc := 22) (v := 0) dX7_spans_22 (by decide) ?_
      exact eb_bret (pc := 23) (b := false) dX7_spans_23 (by decide) (by decide)
    · refine eb_iload_n (pc := 8) 1 dX7_spans_8 rfl rfl ?_
      refine eb_aload_n (pc := 9) 0 dX7_spans_9 rfl rfl ?_
      refine eb_getI (pc := 10) ef_RX7_15 dX7_spans_10 (fun x1 => ?_)
      refine eb_iload_n (pc := 13) 2 dX7_spans_13 rfl rfl ?_
      refine eb_isub (pc := 14) dX7_spans_14 ?_
      refine eb_icmp_gt (pc := 15) (tgt := 22) dX7_spans_15 (by decide) ?_ ?_
      · refine eb_iconst (pc := 22) (v := 0) dX7_spans_22 (by decide) ?_
        exact eb_bret (pc := 23) (b := false) dX7_spans_23 (by decide) (by decide)
      · refine eb_iconst (pc := 18) (v := 1) dX7_spans_18 (by decide) ?_
        refine eb_goto (pc := 19) (tgt := 23) dX7_spans_19 (by decide) ?_
        exact eb_bret (pc := 23) (b := true) dX7_spans_23 (by decide) (by decide)

def f_X7_lowestBits (v0 : Nat) (v1 : Int64) (s : eb_S) : Option (Int64 × eb_S) := eb_gI s [6] v0 0 fun x1 => eb_sw x1 0 [(some ((((v1).toInt32).toInt8.toInt32).toInt64, s)), (some ((((v1).toInt32).toInt16.toInt32).toInt64, s)), (some (((v1).toInt32).toInt64, s))] (some (v1, s))
set_option maxRecDepth 100000 in
theorem ct_X7_lowestBits {G : eb_G} (hG : eb_ok G) (v0 : Nat) (v1 : Int64) (s : eb_S) : eb_ct G yX7_lowestBits cX7_lowestBits 3 (some .long) 1 0 0 eb_el [.ref v0, .long v1] s (f_X7_lowestBits v0 v1 s) := by
  refine eb_ct_l (by decide) (Nat.le_of_ble_eq_true rfl) (fun v hv => by simp at hv; rcases hv with rfl | rfl <;> simp [Value.category]) ?_
  show eb_go G yX7_lowestBits cX7_lowestBits 3 (some .long) (1) 0 0 .lreturn (fun r : Int64 => [.long r]) 0 [(0, .ref v0), (1, .long v1)] [] s 0 0 _
  unfold f_X7_lowestBits
  refine eb_aload_n (pc := 0) 0 dX7_lowestBits_0 rfl rfl ?_
  refine eb_getI (pc := 1) ef_RX7_11 dX7_lowestBits_1 (fun x1 => ?_)
  refine eb_tswitch (pc := 4) (i0 := 0) (tgs := [32, 37, 42]) (td := 46) dX7_lowestBits_4 rfl rfl rfl rfl (by decide) ⟨?_, ?_, ?_, trivial⟩ ?_
  · refine eb_lload_n (pc := 32) 1 dX7_lowestBits_32 rfl rfl ?_
    refine eb_l2i (pc := 33) dX7_lowestBits_33 ?_
    refine eb_i2b (pc := 34) dX7_lowestBits_34 ?_
    refine eb_i2l (pc := 35) dX7_lowestBits_35 ?_
    exact eb_lret (pc := 36) dX7_lowestBits_36 (by decide) (by decide)
  · refine eb_lload_n (pc := 37) 1 dX7_lowestBits_37 rfl rfl ?_
    refine eb_l2i (pc := 38) dX7_lowestBits_38 ?_
    refine eb_i2s (pc := 39) dX7_lowestBits_39 ?_
    refine eb_i2l (pc := 40) dX7_lowestBits_40 ?_
    exact eb_lret (pc := 41) dX7_lowestBits_41 (by decide) (by decide)
  · refine eb_lload_n (pc := 42) 1 dX7_lowestBits_42 rfl rfl ?_
    refine eb_l2i (pc := 43) dX7_lowestBits_43 ?_
    refine eb_i2l (pc := 44) dX7_lowestBits_44 ?_
    exact eb_lret (pc := 45) dX7_lowestBits_45 (by decide) (by decide)
  · refine eb_lload_n (pc := 46) 1 dX7_lowestBits_46 rfl rfl ?_
    exact eb_lret (pc := 47) dX7_lowestBits_47 (by decide) (by decide)

def f_X7_write (v0 : Nat) (v1 : Int32) (v2 : Int64) (s : eb_S) : Option (Unit × eb_S) := eb_gR s [6] v0 2 fun r1 => eb_cl (eb_tg s v0 6 (f_X7_lowestBits v0 v2 s)) fun l3 s2 => eb_wl s2 r1 v1 l3 fun s4 => some ((), s4)
set_option maxRecDepth 100000 in
theorem ct_X7_write {G : eb_G} (hG : eb_ok G) (v0 : Nat) (v1 : Int32) (v2 : Int64) (s : eb_S) : eb_ct G yX7_write cX7_write 4 none 2 0 0 eb_ev [.ref v0, .int v1, .long v2] s (f_X7_write v0 v1 v2 s) := by
  refine eb_ct_v (by decide) (Nat.le_of_ble_eq_true rfl) (fun v hv => by simp at hv; rcases hv with rfl | rfl | rfl <;> simp [Value.category]) ?_
  show eb_go G yX7_write cX7_write 4 none (2) 0 0 .return_ (fun _ : Unit => []) 0 [(0, .ref v0), (1, .int v1), (2, .long v2)] [] s 0 0 _
  unfold f_X7_write
  refine eb_aload_n (pc := 0) 0 dX7_write_0 rfl rfl ?_
  refine eb_getR (pc := 1) ef_RX7_18 dX7_write_1 (fun r1 => ?_)
  refine eb_iload_n (pc := 4) 1 dX7_write_4 rfl rfl ?_
  refine eb_aload_n (pc := 5) 0 dX7_write_5 rfl rfl ?_
  refine eb_lload_n (pc := 6) 2 dX7_write_6 rfl rfl ?_
  refine eb_calll (pc := 7) (eb_runV (pc := 7) (As := [.long v2]) (rest := [.int v1, .ref r1]) (ci := 6) (q0 := (RX7, TX7, 3)) (q := (RX7, TX7, 3)) ew_359 ew_360 ew_361 ew_362 rfl rfl ed_X7_lowestBits (ct_X7_lowestBits hG _ _ _) rfl ew_363 ⟨by decide, by decide⟩ (by decide) (by decide) (Nat.le_of_ble_eq_true rfl) rfl dX7_write_7) (fun l3 s2 => ?_)
  refine eb_lastore (pc := 10) dX7_write_10 (fun s4 => ?_)
  exact eb_vret (pc := 11) dX7_write_11 (by decide) (by decide)

def f_X8_init (v0 : Nat) (s : eb_S) : Option (Unit × eb_S) := eb_pI s [7] v0 0 0 fun s1 => eb_na s1 10 80 80 fun r2 s3 => eb_pR s3 [7] v0 1 r2 fun s4 => eb_pI s4 [7] v0 2 0 fun s5 => some ((), s5)
set_option maxRecDepth 100000 in
theorem ct_X8_init {G : eb_G} (hG : eb_ok G) (v0 : Nat) (s : eb_S) : eb_ct G yX8_init cX8_init 1 none 1 1 80 eb_ev [.ref v0] s (f_X8_init v0 s) := by
  refine eb_ct_v (by decide) (Nat.le_of_ble_eq_true rfl) (fun v hv => by simp at hv; rcases hv with rfl <;> simp [Value.category]) ?_
  show eb_go G yX8_init cX8_init 1 none (1) 1 80 .return_ (fun _ : Unit => []) 0 [(0, .ref v0)] [] s 0 0 _
  unfold f_X8_init
  refine eb_aload_n (pc := 0) 0 dX8_init_0 rfl rfl ?_
  refine eb_obj (pc := 1) ew_368 ew_59 ew_60 (by decide) (Nat.le_of_ble_eq_true rfl) dX8_init_1 ?_
  refine eb_aload_n (pc := 4) 0 dX8_init_4 rfl rfl ?_
  refine eb_iconst (pc := 5) (v := 0) dX8_init_5 (by decide) ?_
  refine eb_putI (pc := 6) ef_RX8_9 eg_RX8_9 dX8_init_6 (fun s1 => ?_)
  refine eb_aload_n (pc := 9) 0 dX8_init_9 rfl rfl ?_
  refine eb_bipush (pc := 10) (v := 80) dX8_init_10 (by decide) ?_
  refine eb_newc (pc := 12) ew_367 dX8_init_12 (by decide) (by decide) (by decide) (fun r2 s3 => ?_)
  refine eb_putR (pc := 14) ef_RX8_15 eg_RX8_15 (fun _ => ⟨rfl, rfl⟩) dX8_init_14 (fun s4 => ?_)
  refine eb_aload_n (pc := 17) 0 dX8_init_17 rfl rfl ?_
  refine eb_iconst (pc := 18) (v := 0) dX8_init_18 (by decide) ?_
  refine eb_putI (pc := 19) ef_RX8_19 eg_RX8_19 dX8_init_19 (fun s5 => ?_)
  exact eb_vret (pc := 22) dX8_init_22 (by decide) (by decide)

def f_X8_add (v0 : Nat) (v1 : Int32) (s : eb_S) : Option (Int32 × eb_S) := eb_gR s [7] v0 1 fun r1 => eb_gI s [7] v0 0 fun x2 => eb_wc s r1 x2 (((v1).toUInt32 % 65536).toInt32) fun s3 => eb_gI s3 [7] v0 0 fun x4 => eb_pI s3 [7] v0 0 (x4 + 1) fun s5 => eb_gI s5 [7] v0 0 fun x6 => some (x6, s5)
set_option maxRecDepth 100000 in
theorem ct_X8_add {G : eb_G} (hG : eb_ok G) (v0 : Nat) (v1 : Int32) (s : eb_S) : eb_ct G yX8_add cX8_add 2 (some .int) 1 0 0 eb_ei [.ref v0, .int v1] s (f_X8_add v0 v1 s) := by
  refine eb_ct_i (by decide) (Nat.le_of_ble_eq_true rfl) (fun v hv => by simp at hv; rcases hv with rfl | rfl <;> simp [Value.category]) ?_
  show eb_go G yX8_add cX8_add 2 (some .int) (1) 0 0 .ireturn (fun r : Int32 => [.int r]) 0 [(0, .ref v0), (1, .int v1)] [] s 0 0 _
  unfold f_X8_add
  refine eb_aload_n (pc := 0) 0 dX8_add_0 rfl rfl ?_
  refine eb_getR (pc := 1) ef_RX8_15 dX8_add_1 (fun r1 => ?_)
  refine eb_aload_n (pc := 4) 0 dX8_add_4 rfl rfl ?_
  refine eb_getI (pc := 5) ef_RX8_9 dX8_add_5 (fun x2 => ?_)
  refine eb_iload_n (pc := 8) 1 dX8_add_8 rfl rfl ?_
  refine eb_i2c (pc := 9) dX8_add_9 ?_
  refine eb_castore (pc := 10) dX8_add_10 (fun s3 => ?_)
  refine eb_aload_n (pc := 11) 0 dX8_add_11 rfl rfl ?_
  refine eb_dup (pc := 12) dX8_add_12 rfl ?_
  refine eb_getI (pc := 13) ef_RX8_9 dX8_add_13 (fun x4 => ?_)
  refine eb_iconst (pc := 16) (v := 1) dX8_add_16 (by decide) ?_
  refine eb_iadd (pc := 17) dX8_add_17 ?_
  refine eb_putI (pc := 18) ef_RX8_9 eg_RX8_9 dX8_add_18 (fun s5 => ?_)
  refine eb_aload_n (pc := 21) 0 dX8_add_21 rfl rfl ?_
  refine eb_getI (pc := 22) ef_RX8_9 dX8_add_22 (fun x6 => ?_)
  exact eb_iret (pc := 25) dX8_add_25 (by decide) (by decide)

def f_X8_skipBlanks_L0 (n : Nat) (v0 : Nat)  : Nat → eb_S → Option (Unit × eb_S)
  | 0, _ => none
  | m + 1, s => eb_gI s [7] v0 2 fun x1 => eb_gI s [7] v0 0 fun x2 => if x2 ≤ x1 then (some ((), s)) else (eb_gR s [7] v0 1 fun r3 => eb_gI s [7] v0 2 fun x4 => eb_ac s r3 x4 fun x5 => if x5 = 32 then (eb_gI s [7] v0 2 fun x6 => eb_pI s [7] v0 2 (x6 + 1) fun s7 => f_X8_skipBlanks_L0 n v0 m s7) else (some ((), s)))
def f_X8_skipBlanks (n : Nat) (v0 : Nat) (s : eb_S) : Option (Unit × eb_S) := f_X8_skipBlanks_L0 n v0  n  s
set_option maxRecDepth 100000 in
theorem gl_X8_skipBlanks_L0 {G : eb_G} (hG : eb_ok G) {n : Nat} {v0 : Nat}   : ∀ (m : Nat)  (s : eb_S), eb_go G yX8_skipBlanks cX8_skipBlanks 1 none (1) 0 0 .return_ (fun _ : Unit => []) 0 [(0, .ref v0)] [] s 0 0 (f_X8_skipBlanks_L0 n v0 m  s) := by
  intro m
  induction m with
  | zero => intro  s; exact eb_none
  | succ m ih =>
    intro  s
    rw [f_X8_skipBlanks_L0.eq_2]
    refine eb_aload_n (pc := 0) 0 dX8_skipBlanks_0 rfl rfl ?_
    refine eb_getI (pc := 1) ef_RX8_19 dX8_skipBlanks_1 (fun x1 => ?_)
    refine eb_aload_n (pc := 4) 0 dX8_skipBlanks_4 rfl rfl ?_
    refine eb_getI (pc := 5) ef_RX8_9 dX8_skipBlanks_5 (fun x2 => ?_)
    refine eb_icmp_ge (pc := 8) (tgt := 38) dX8_skipBlanks_8 (by decide) ?_ ?_
    · exact eb_vret (pc := 38) dX8_skipBlanks_38 (by decide) (by decide)
    · refine eb_aload_n (pc := 11) 0 dX8_skipBlanks_11 rfl rfl ?_
      refine eb_getR (pc := 12) ef_RX8_15 dX8_skipBlanks_12 (fun r3 => ?_)
      refine eb_aload_n (pc := 15) 0 dX8_skipBlanks_15 rfl rfl ?_
      refine eb_getI (pc := 16) ef_RX8_19 dX8_skipBlanks_16 (fun x4 => ?_)
      refine eb_caload (pc := 19) dX8_skipBlanks_19 (fun x5 => ?_)
      refine eb_bipush (pc := 20) (v := 32) dX8_skipBlanks_20 (by decide) ?_
      refine eb_icmp_ne (pc := 22) (tgt := 38) dX8_skipBlanks_22 (by decide) ?_ ?_
      · exact eb_vret (pc := 38) dX8_skipBlanks_38 (by decide) (by decide)
      · refine eb_aload_n (pc := 25) 0 dX8_skipBlanks_25 rfl rfl ?_
        refine eb_dup (pc := 26) dX8_skipBlanks_26 rfl ?_
        refine eb_getI (pc := 27) ef_RX8_19 dX8_skipBlanks_27 (fun x6 => ?_)
        refine eb_iconst (pc := 30) (v := 1) dX8_skipBlanks_30 (by decide) ?_
        refine eb_iadd (pc := 31) dX8_skipBlanks_31 ?_
        refine eb_putI (pc := 32) ef_RX8_19 eg_RX8_19 dX8_skipBlanks_32 (fun s7 => ?_)
        refine eb_goto (pc := 35) (tgt := 0) dX8_skipBlanks_35 (by decide) ?_
        exact ih _
set_option maxRecDepth 100000 in
theorem ct_X8_skipBlanks {G : eb_G} (hG : eb_ok G) (n : Nat) (v0 : Nat) (s : eb_S) : eb_ct G yX8_skipBlanks cX8_skipBlanks 1 none 1 0 0 eb_ev [.ref v0] s (f_X8_skipBlanks n v0 s) := by
  refine eb_ct_v (by decide) (Nat.le_of_ble_eq_true rfl) (fun v hv => by simp at hv; rcases hv with rfl <;> simp [Value.category]) ?_
  show eb_go G yX8_skipBlanks cX8_skipBlanks 1 none (1) 0 0 .return_ (fun _ : Unit => []) 0 [(0, .ref v0)] [] s 0 0 _
  unfold f_X8_skipBlanks
  refine gl_X8_skipBlanks_L0 hG  n _

def f_X8_readStop (n : Nat) (v0 : Nat) (s : eb_S) : Option (Int32 × eb_S) := eb_cl (eb_tg s v0 7 (f_X8_skipBlanks n v0 s)) fun _u s1 => eb_gI s1 [7] v0 2 fun x2 => eb_gI s1 [7] v0 0 fun x3 => if x3 ≤ x2 then (some ((-1), s1)) else (eb_gR s1 [7] v0 1 fun r4 => eb_gI s1 [7] v0 2 fun x5 => eb_ac s1 r4 x5 fun x6 => if x6 < 48 then (some ((-1), s1)) else (eb_gR s1 [7] v0 1 fun r7 => eb_gI s1 [7] v0 2 fun x8 => eb_ac s1 r7 x8 fun x9 => if x9 ≤ 53 then (eb_gR s1 [7] v0 1 fun r10 => eb_gI s1 [7] v0 2 fun x11 => eb_ac s1 r10 x11 fun x12 => eb_gI s1 [7] v0 2 fun x13 => eb_pI s1 [7] v0 2 (x13 + 1) fun s14 => some (x12 - 48, s14)) else (some ((-1), s1))))
set_option maxRecDepth 100000 in
theorem ct_X8_readStop {G : eb_G} (hG : eb_ok G) (n : Nat) (v0 : Nat) (s : eb_S) : eb_ct G yX8_readStop cX8_readStop 2 (some .int) 2 0 0 eb_ei [.ref v0] s (f_X8_readStop n v0 s) := by
  refine eb_ct_i (by decide) (Nat.le_of_ble_eq_true rfl) (fun v hv => by simp at hv; rcases hv with rfl <;> simp [Value.category]) ?_
  show eb_go G yX8_readStop cX8_readStop 2 (some .int) (2) 0 0 .ireturn (fun r : Int32 => [.int r]) 0 [(0, .ref v0)] [] s 0 0 _
  unfold f_X8_readStop
  refine eb_aload_n (pc := 0) 0 dX8_readStop_0 rfl rfl ?_
  refine eb_callv (pc := 1) (eb_runV (pc := 1) (As := []) (rest := []) (ci := 7) (q0 := (RX8, TX8, 3)) (q := (RX8, TX8, 3)) ew_369 ew_370 ew_371 ew_372 rfl rfl ed_X8_skipBlanks (ct_X8_skipBlanks hG n _ _) rfl ew_373 ⟨by decide, by decide⟩ (by decide) (by decide) (Nat.le_of_ble_eq_true rfl) rfl dX8_readStop_1) (fun _u s1 => ?_)
  refine eb_aload_n (pc := 4) 0 dX8_readStop_4 rfl rfl ?_
  refine eb_getI (pc := 5) ef_RX8_19 dX8_readStop_5 (fun x2 => ?_)
  refine eb_aload_n (pc := 8) 0 dX8_readStop_8 rfl rfl ?_
  refine eb_getI (pc := 9) ef_RX8_9 dX8_readStop_9 (fun x3 => ?_)
  refine eb_icmp_ge (pc := 12) (tgt := 43) dX8_readStop_12 (by decide) ?_ ?_
  · refine eb_iconst (pc := 43) (v := (-1)) dX8_readStop_43 (by decide) ?_
    exact eb_iret (pc := 44) dX8_readStop_44 (by decide) (by decide)
  · refine eb_aload_n (pc := 15) 0 dX8_readStop_15 rfl rfl ?_
    refine eb_getR (pc := 16) ef_RX8_15 dX8_readStop_16 (fun r4 => ?_)
    refine eb_aload_n (pc := 19) 0 dX8_readStop_19 rfl rfl ?_
    refine eb_getI (pc := 20) ef_RX8_19 dX8_readStop_20 (fun x5 => ?_)
    refine eb_caload (pc := 23) dX8_readStop_23 (fun x6 => ?_)
    refine eb_bipush (pc := 24) (v := 48) dX8_readStop_24 (by decide) ?_
    refine eb_icmp_lt (pc := 26) (tgt := 43) dX8_readStop_26 (by decide) ?_ ?_
    · refine eb_iconst (pc := 43) (v := (-1)) dX8_readStop_43 (by decide) ?_
      exact eb_iret (pc := 44) dX8_readStop_44 (by decide) (by decide)
    · refine eb_aload_n (pc := 29) 0 dX8_readStop_29 rfl rfl ?_
      refine eb_getR (pc := 30) ef_RX8_15 dX8_readStop_30 (fun r7 => ?_)
      refine eb_aload_n (pc := 33) 0 dX8_readStop_33 rfl rfl ?_
      refine eb_getI (pc := 34) ef_RX8_19 dX8_readStop_34 (fun x8 => ?_)
      refine eb_caload (pc := 37) dX8_readStop_37 (fun x9 => ?_)
      refine eb_bipush (pc := 38) (v := 53) dX8_readStop_38 (by decide) ?_
      refine eb_icmp_le (pc := 40) (tgt := 45) dX8_readStop_40 (by decide) ?_ ?_
      · refine eb_aload_n (pc := 45) 0 dX8_readStop_45 rfl rfl ?_
        refine eb_getR (pc := 46) ef_RX8_15 dX8_readStop_46 (fun r10 => ?_)
        refine eb_aload_n (pc := 49) 0 dX8_readStop_49 rfl rfl ?_
        refine eb_getI (pc := 50) ef_RX8_19 dX8_readStop_50 (fun x11 => ?_)
        refine eb_caload (pc := 53) dX8_readStop_53 (fun x12 => ?_)
        refine eb_bipush (pc := 54) (v := 48) dX8_readStop_54 (by decide) ?_
        refine eb_isub (pc := 56) dX8_readStop_56 ?_
        refine eb_istore_n (pc := 57) (L' := [(1, .int (x12 - 48)), (0, .ref v0)]) dX8_readStop_57 rfl (by decide) rfl ?_
        refine eb_aload_n (pc := 58) 1 dX8_readStop_58 rfl rfl ?_
        refine eb_dup (pc := 59) dX8_readStop_59 rfl ?_
        refine eb_getI (pc := 60) ef_RX8_19 dX8_readStop_60 (fun x13 => ?_)
        refine eb_iconst (pc := 63) (v := 1) dX8_readStop_63 (by decide) ?_
        refine eb_iadd (pc := 64) dX8_readStop_64 ?_
        refine eb_putI (pc := 65) ef_RX8_19 eg_RX8_19 dX8_readStop_65 (fun s14 => ?_)
        refine eb_iload_n (pc := 68) 0 dX8_readStop_68 rfl rfl ?_
        exact eb_iret (pc := 69) dX8_readStop_69 (by decide) (by decide)
      · refine eb_iconst (pc := 43) (v := (-1)) dX8_readStop_43 (by decide) ?_
        exact eb_iret (pc := 44) dX8_readStop_44 (by decide) (by decide)

def f_X8_readNumber_L11 (n : Nat) (v0 : Nat) (v1 : Int32) (K : Int32 → eb_S → Option (Int32 × eb_S)) : Nat → Int32 → eb_S → Option (Int32 × eb_S)
  | 0, _, _ => none
  | m + 1, v2, s => eb_gI s [7] v0 2 fun x3 => eb_gI s [7] v0 0 fun x4 => if x4 ≤ x3 then (K v2 s) else (eb_gR s [7] v0 1 fun r5 => eb_gI s [7] v0 2 fun x6 => eb_ac s r5 x6 fun x7 => if x7 < 48 then (K v2 s) else (eb_gR s [7] v0 1 fun r8 => eb_gI s [7] v0 2 fun x9 => eb_ac s r8 x9 fun x10 => if 57 < x10 then (K v2 s) else (eb_gR s [7] v0 1 fun r11 => eb_gI s [7] v0 2 fun x12 => eb_ac s r11 x12 fun x13 => eb_gI s [7] v0 2 fun x14 => eb_pI s [7] v0 2 (x14 + 1) fun s15 => f_X8_readNumber_L11 n v0 v1 K m (if (((v2 * 10) + x13) - 48) < 100 then (((v2 * 10) + x13) - 48) else 100) s15)))
def f_X8_readNumber (n : Nat) (v0 : Nat) (s : eb_S) : Option (Int32 × eb_S) := eb_cl (eb_tg s v0 7 (f_X8_skipBlanks n v0 s)) fun _u s1 => eb_gI s1 [7] v0 2 fun x2 => f_X8_readNumber_L11 n v0 x2 (fun (w16 : Int32) (s17 : eb_S) => eb_jn (fun (s18 : eb_S) => eb_pI s18 [7] v0 2 x2 fun s20 => some (0, s20)) fun j19 => if w16 < 1 then (j19 s17) else (eb_gI s17 [7] v0 2 fun x21 => if (x21 - x2) ≤ 2 then (some (w16, s17)) else (j19 s17))) n 0 s1
set_option maxRecDepth 100000 in
theorem gl_X8_readNumber_L11 {G : eb_G} (hG : eb_ok G) {n : Nat} {v0 : Nat} {v1 : Int32} {K : Int32 → eb_S → Option (Int32 × eb_S)} (hK : ∀ (v2 : Int32) (s : eb_S), eb_go G yX8_readNumber cX8_readNumber 3 (some .int) (2) 0 0 .ireturn (fun r : Int32 => [.int r]) 86 [(0, .ref v0), (1, .int v1), (2, .int v2)] [] s 0 0 (K v2 s)) : ∀ (m : Nat) (v2 : Int32) (s : eb_S), eb_go G yX8_readNumber cX8_readNumber 3 (some .int) (2) 0 0 .ireturn (fun r : Int32 => [.int r]) 11 [(0, .ref v0), (1, .int v1), (2, .int v2)] [] s 0 0 (f_X8_readNumber_L11 n v0 v1 K m v2 s) := by
  intro m
  induction m with
  | zero => intro v2 s; exact eb_none
  | succ m ih =>
    intro v2 s
    rw [f_X8_readNumber_L11.eq_2]
    refine eb_aload_n (pc := 11) 0 dX8_readNumber_11 rfl rfl ?_
    refine eb_getI (pc := 12) ef_RX8_19 dX8_readNumber_12 (fun x3 => ?_)
    refine eb_aload_n (pc := 15) 0 dX8_readNumber_15 rfl rfl ?_
    refine eb_getI (pc := 16) ef_RX8_9 dX8_readNumber_16 (fun x4 => ?_)
    refine eb_icmp_ge (pc := 19) (tgt := 86) dX8_readNumber_19 (by decide) ?_ ?_
    · exact hK _ _
    · refine eb_aload_n (pc := 22) 0 dX8_readNumber_22 rfl rfl ?_
      refine eb_getR (pc := 23) ef_RX8_15 dX8_readNumber_23 (fun r5 => ?_)
      refine eb_aload_n (pc := 26) 0 dX8_readNumber_26 rfl rfl ?_
      refine eb_getI (pc := 27) ef_RX8_19 dX8_readNumber_27 (fun x6 => ?_)
      refine eb_caload (pc := 30) dX8_readNumber_30 (fun x7 => ?_)
      refine eb_bipush (pc := 31) (v := 48) dX8_readNumber_31 (by decide) ?_
      refine eb_icmp_lt (pc := 33) (tgt := 86) dX8_readNumber_33 (by decide) ?_ ?_
      · exact hK _ _
      · refine eb_aload_n (pc := 36) 0 dX8_readNumber_36 rfl rfl ?_
        refine eb_getR (pc := 37) ef_RX8_15 dX8_readNumber_37 (fun r8 => ?_)
        refine eb_aload_n (pc := 40) 0 dX8_readNumber_40 rfl rfl ?_
        refine eb_getI (pc := 41) ef_RX8_19 dX8_readNumber_41 (fun x9 => ?_)
        refine eb_caload (pc := 44) dX8_readNumber_44 (fun x10 => ?_)
        refine eb_bipush (pc := 45) (v := 57) dX8_readNumber_45 (by decide) ?_
        refine eb_icmp_gt (pc := 47) (tgt := 86) dX8_readNumber_47 (by decide) ?_ ?_
        · exact hK _ _
        · refine eb_bipush (pc := 50) (v := 100) dX8_readNumber_50 (by decide) ?_
          refine eb_iload_n (pc := 52) 2 dX8_readNumber_52 rfl rfl ?_
          refine eb_bipush (pc := 53) (v := 10) dX8_readNumber_53 (by decide) ?_
          refine eb_imul (pc := 55) dX8_readNumber_55 ?_
          refine eb_aload_n (pc := 56) 0 dX8_readNumber_56 rfl rfl ?_
          refine eb_getR (pc := 57) ef_RX8_15 dX8_readNumber_57 (fun r11 => ?_)
          refine eb_aload_n (pc := 60) 0 dX8_readNumber_60 rfl rfl ?_
          refine eb_getI (pc := 61) ef_RX8_19 dX8_readNumber_61 (fun x12 => ?_)
          refine eb_caload (pc := 64) dX8_readNumber_64 (fun x13 => ?_)
          refine eb_iadd (pc := 65) dX8_readNumber_65 ?_
          refine eb_bipush (pc := 66) (v := 48) dX8_readNumber_66 (by decide) ?_
          refine eb_isub (pc := 68) dX8_readNumber_68 ?_
          refine eb_mmin (pc := 69) ew_374 ew_16 ew_17 ew_18 (by decide) (Nat.le_of_ble_eq_true rfl) (by decide) (by decide) dX8_readNumber_69 ?_
          refine eb_istore_n (pc := 72) (L' := [(2, .int (if (((v2 * 10) + x13) - 48) < 100 then (((v2 * 10) + x13) - 48) else 100)), (0, .ref v0), (1, .int v1)]) dX8_readNumber_72 rfl (by decide) rfl ?_
          refine eb_aload_n (pc := 73) 1 dX8_readNumber_73 rfl rfl ?_
          refine eb_dup (pc := 74) dX8_readNumber_74 rfl ?_
          refine eb_getI (pc := 75) ef_RX8_19 dX8_readNumber_75 (fun x14 => ?_)
          refine eb_iconst (pc := 78) (v := 1) dX8_readNumber_78 (by decide) ?_
          refine eb_iadd (pc := 79) dX8_readNumber_79 ?_
          refine eb_putI (pc := 80) ef_RX8_19 eg_RX8_19 dX8_readNumber_80 (fun s15 => ?_)
          refine eb_goto (pc := 83) (tgt := 11) dX8_readNumber_83 (by decide) ?_
          refine eb_sub [1, 2, 0] rfl ?_
          exact ih _ _
set_option maxRecDepth 100000 in
theorem ct_X8_readNumber {G : eb_G} (hG : eb_ok G) (n : Nat) (v0 : Nat) (s : eb_S) : eb_ct G yX8_readNumber cX8_readNumber 3 (some .int) 2 0 0 eb_ei [.ref v0] s (f_X8_readNumber n v0 s) := by
  refine eb_ct_i (by decide) (Nat.le_of_ble_eq_true rfl) (fun v hv => by simp at hv; rcases hv with rfl <;> simp [Value.category]) ?_
  show eb_go G yX8_readNumber cX8_readNumber 3 (some .int) (2) 0 0 .ireturn (fun r : Int32 => [.int r]) 0 [(0, .ref v0)] [] s 0 0 _
  unfold f_X8_readNumber
  refine eb_aload_n (pc := 0) 0 dX8_readNumber_0 rfl rfl ?_
  refine eb_callv (pc := 1) (eb_runV (pc := 1) (As := []) (rest := []) (ci := 7) (q0 := (RX8, TX8, 3)) (q := (RX8, TX8, 3)) ew_369 ew_370 ew_371 ew_372 rfl rfl ed_X8_skipBlanks (ct_X8_skipBlanks hG n _ _) rfl ew_373 ⟨by decide, by decide⟩ (by decide) (by decide) (Nat.le_of_ble_eq_true rfl) rfl dX8_readNumber_1) (fun _u s1 => ?_)
  refine eb_aload_n (pc := 4) 0 dX8_readNumber_4 rfl rfl ?_
  refine eb_getI (pc := 5) ef_RX8_19 dX8_readNumber_5 (fun x2 => ?_)
  refine eb_istore_n (pc := 8) (L' := [(1, .int x2), (0, .ref v0)]) dX8_readNumber_8 rfl (by decide) rfl ?_
  refine eb_iconst (pc := 9) (v := 0) dX8_readNumber_9 (by decide) ?_
  refine eb_istore_n (pc := 10) (L' := [(2, .int 0), (1, .int x2), (0, .ref v0)]) dX8_readNumber_10 rfl (by decide) rfl ?_
  refine eb_sub [2, 1, 0] rfl ?_
  refine gl_X8_readNumber_L11 hG (fun w16 s17 => ?_) n _ _
  refine eb_iload_n (pc := 86) 2 dX8_readNumber_86 rfl rfl ?_
  refine eb_iconst (pc := 87) (v := 1) dX8_readNumber_87 (by decide) ?_
  refine eb_join (fun j19 : eb_S → Option (Int32 × eb_S) => ∀  (s18 : eb_S), eb_go G yX8_readNumber cX8_readNumber 3 (some .int) (2) 0 0 .ireturn (fun r : Int32 => [.int r]) 101 [(0, .ref v0), (1, .int x2)] [] s18 0 0 (j19  s18)) ?_ (fun j19 hj19 => ?_)
  · intro  s18
    refine eb_aload_n (pc := 101) 0 dX8_readNumber_101 rfl rfl ?_
    refine eb_iload_n (pc := 102) 1 dX8_readNumber_102 rfl rfl ?_
    refine eb_putI (pc := 103) ef_RX8_19 eg_RX8_19 dX8_readNumber_103 (fun s20 => ?_)
    refine eb_iconst (pc := 106) (v := 0) dX8_readNumber_106 (by decide) ?_
    exact eb_iret (pc := 107) dX8_readNumber_107 (by decide) (by decide)
  refine eb_icmp_lt (pc := 88) (tgt := 101) dX8_readNumber_88 (by decide) ?_ ?_
  · refine eb_sub [0, 1] rfl ?_
    exact hj19 _
  · refine eb_aload_n (pc := 91) 0 dX8_readNumber_91 rfl rfl ?_
    refine eb_getI (pc := 92) ef_RX8_19 dX8_readNumber_92 (fun x21 => ?_)
    refine eb_iload_n (pc := 95) 1 dX8_readNumber_95 rfl rfl ?_
    refine eb_isub (pc := 96) dX8_readNumber_96 ?_
    refine eb_iconst (pc := 97) (v := 2) dX8_readNumber_97 (by decide) ?_
    refine eb_icmp_le (pc := 98) (tgt := 108) dX8_readNumber_98 (by decide) ?_ ?_
    · refine eb_iload_n (pc := 108) 2 dX8_readNumber_108 rfl rfl ?_
      exact eb_iret (pc := 109) dX8_readNumber_109 (by decide) (by decide)
    · refine eb_sub [0, 1] rfl ?_
      exact hj19 _

def f_X8_passes (n : Nat) (v0 : Nat) (v1 : Int32) (s : eb_S) : Option (Bool × eb_S) := eb_cl (eb_tg s v0 7 (f_X8_skipBlanks n v0 s)) fun _u s1 => eb_gI s1 [7] v0 2 fun x2 => eb_gI s1 [7] v0 0 fun x3 => if x3 ≤ x2 then (some (false, s1)) else (eb_gR s1 [7] v0 1 fun r4 => eb_gI s1 [7] v0 2 fun x5 => eb_ac s1 r4 x5 fun x6 => if x6 = v1 then (eb_gI s1 [7] v0 2 fun x7 => eb_pI s1 [7] v0 2 (x7 + 1) fun s8 => some (true, s8)) else (some (false, s1)))
set_option maxRecDepth 100000 in
theorem ct_X8_passes {G : eb_G} (hG : eb_ok G) (n : Nat) (v0 : Nat) (v1 : Int32) (s : eb_S) : eb_ct G yX8_passes cX8_passes 2 (some .boolean) 2 0 0 eb_eb [.ref v0, .int v1] s (f_X8_passes n v0 v1 s) := by
  refine eb_ct_b (by decide) (Nat.le_of_ble_eq_true rfl) (fun v hv => by simp at hv; rcases hv with rfl | rfl <;> simp [Value.category]) ?_
  show eb_go G yX8_passes cX8_passes 2 (some .boolean) (2) 0 0 .ireturn (fun r : Bool => [.int (eb_b r)]) 0 [(0, .ref v0), (1, .int v1)] [] s 0 0 _
  unfold f_X8_passes
  refine eb_aload_n (pc := 0) 0 dX8_passes_0 rfl rfl ?_
  refine eb_callv (pc := 1) (eb_runV (pc := 1) (As := []) (rest := []) (ci := 7) (q0 := (RX8, TX8, 3)) (q := (RX8, TX8, 3)) ew_369 ew_370 ew_371 ew_372 rfl rfl ed_X8_skipBlanks (ct_X8_skipBlanks hG n _ _) rfl ew_373 ⟨by decide, by decide⟩ (by decide) (by decide) (Nat.le_of_ble_eq_true rfl) rfl dX8_passes_1) (fun _u s1 => ?_)
  refine eb_aload_n (pc := 4) 0 dX8_passes_4 rfl rfl ?_
  refine eb_getI (pc := 5) ef_RX8_19 dX8_passes_5 (fun x2 => ?_)
  refine eb_aload_n (pc := 8) 0 dX8_passes_8 rfl rfl ?_
  refine eb_getI (pc := 9) ef_RX8_9 dX8_passes_9 (fun x3 => ?_)
  refine eb_icmp_ge (pc := 12) (tgt := 28) dX8_passes_12 (by decide) ?_ ?_
  · refine eb_iconst (pc := 28) (v := 0) dX8_passes_28 (by decide) ?_
    exact eb_bret (pc := 29) (b := false) dX8_passes_29 (by decide) (by decide)
  · refine eb_aload_n (pc := 15) 0 dX8_passes_15 rfl rfl ?_
    refine eb_getR (pc := 16) ef_RX8_15 dX8_passes_16 (fun r4 => ?_)
    refine eb_aload_n (pc := 19) 0 dX8_passes_19 rfl rfl ?_
    refine eb_getI (pc := 20) ef_RX8_19 dX8_passes_20 (fun x5 => ?_)
    refine eb_caload (pc := 23) dX8_passes_23 (fun x6 => ?_)
    refine eb_iload_n (pc := 24) 1 dX8_passes_24 rfl rfl ?_
    refine eb_icmp_eq (pc := 25) (tgt := 30) dX8_passes_25 (by decide) ?_ ?_
    · refine eb_aload_n (pc := 30) 0 dX8_passes_30 rfl rfl ?_
      refine eb_dup (pc := 31) dX8_passes_31 rfl ?_
      refine eb_getI (pc := 32) ef_RX8_19 dX8_passes_32 (fun x7 => ?_)
      refine eb_iconst (pc := 35) (v := 1) dX8_passes_35 (by decide) ?_
      refine eb_iadd (pc := 36) dX8_passes_36 ?_
      refine eb_putI (pc := 37) ef_RX8_19 eg_RX8_19 dX8_passes_37 (fun s8 => ?_)
      refine eb_iconst (pc := 40) (v := 1) dX8_passes_40 (by decide) ?_
      exact eb_bret (pc := 41) (b := true) dX8_passes_41 (by decide) (by decide)
    · refine eb_iconst (pc := 28) (v := 0) dX8_passes_28 (by decide) ?_
      exact eb_bret (pc := 29) (b := false) dX8_passes_29 (by decide) (by decide)
