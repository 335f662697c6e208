def f_X6_init (v0 : Nat) (v1 : Nat) (s : eb_S) : Option (Unit × eb_S) := eb_na s 11 10 10 fun r1 s2 => eb_pR s2 [0, 4, 5] v0 1 r1 fun s3 => eb_na s3 11 10 10 fun r4 s5 => eb_pR s5 [0, 4, 5] v0 2 r4 fun s6 => eb_na s6 11 15 15 fun r7 s8 => eb_pR s8 [0, 4, 5] v0 3 r7 fun s9 => eb_na s9 11 55 55 fun r10 s11 => eb_pR s11 [0, 4, 5] v0 4 r10 fun s12 => eb_pI s12 [0, 4, 5] v0 5 ((-1)) fun s13 => eb_pR s13 [0, 4, 5] v0 0 v1 fun s14 => some ((), s14)
set_option maxRecDepth 100000 in
theorem ct_X6_init {G : eb_G} (hG : eb_ok G) (v0 : Nat) (v1 : Nat) (s : eb_S) : eb_ct G yX6_init cX6_init 2 none 1 4 90 eb_ev [.ref v0, .ref v1] s (f_X6_init v0 v1 s) := by
  refine eb_ct_v (by decide) (Nat.le_of_ble_eq_true rfl) (fun v hv => by simp at hv; rcases hv with rfl | rfl <;> simp [Value.category]) ?_
  show eb_go G yX6_init cX6_init 2 none (1) 4 90 .return_ (fun _ : Unit => []) 0 [(0, .ref v0), (1, .ref v1)] [] s 0 0 _
  unfold f_X6_init
  refine eb_aload_n (pc := 0) 0 dX6_init_0 rfl rfl ?_
  refine eb_obj (pc := 1) ew_133 ew_59 ew_60 (by decide) (Nat.le_of_ble_eq_true rfl) dX6_init_1 ?_
  refine eb_aload_n (pc := 4) 0 dX6_init_4 rfl rfl ?_
  refine eb_bipush (pc := 5) (v := 10) dX6_init_5 (by decide) ?_
  refine eb_newi (pc := 7) ew_57 dX6_init_7 (by decide) (by decide) (by decide) (fun r1 s2 => ?_)
  refine eb_putR (pc := 9) ef_RX6_9 eg_RX6_9 (fun _ => ⟨rfl, rfl⟩) dX6_init_9 (fun s3 => ?_)
  refine eb_aload_n (pc := 12) 0 dX6_init_12 rfl rfl ?_
  refine eb_bipush (pc := 13) (v := 10) dX6_init_13 (by decide) ?_
  refine eb_newi (pc := 15) ew_57 dX6_init_15 (by decide) (by decide) (by decide) (fun r4 s5 => ?_)
  refine eb_putR (pc := 17) ef_RX6_15 eg_RX6_15 (fun _ => ⟨rfl, rfl⟩) dX6_init_17 (fun s6 => ?_)
  refine eb_aload_n (pc := 20) 0 dX6_init_20 rfl rfl ?_
  refine eb_bipush (pc := 21) (v := 15) dX6_init_21 (by decide) ?_
  refine eb_newi (pc := 23) ew_57 dX6_init_23 (by decide) (by decide) (by decide) (fun r7 s8 => ?_)
  refine eb_putR (pc := 25) ef_RX6_18 eg_RX6_18 (fun _ => ⟨rfl, rfl⟩) dX6_init_25 (fun s9 => ?_)
  refine eb_aload_n (pc := 28) 0 dX6_init_28 rfl rfl ?_
  refine eb_bipush (pc := 29) (v := 55) dX6_init_29 (by decide) ?_
  refine eb_newi (pc := 31) ew_57 dX6_init_31 (by decide) (by decide) (by decide) (fun r10 s11 => ?_)
  refine eb_putR (pc := 33) ef_RX6_21 eg_RX6_21 (fun _ => ⟨rfl, rfl⟩) dX6_init_33 (fun s12 => ?_)
  refine eb_aload_n (pc := 36) 0 dX6_init_36 rfl rfl ?_
  refine eb_iconst (pc := 37) (v := (-1)) dX6_init_37 (by decide) ?_
  refine eb_putI (pc := 38) ef_RX6_24 eg_RX6_24 dX6_init_38 (fun s13 => ?_)
  refine eb_aload_n (pc := 41) 0 dX6_init_41 rfl rfl ?_
  refine eb_aload_n (pc := 42) 1 dX6_init_42 rfl rfl ?_
  refine eb_putR (pc := 43) ef_RX6_28 eg_RX6_28 (fun _ => ⟨rfl, rfl⟩) dX6_init_43 (fun s14 => ?_)
  exact eb_vret (pc := 46) dX6_init_46 (by decide) (by decide)

def f_X6_loadAhead (v0 : Nat) (v1 : Int32) (v2 : Int32) (s : eb_S) : Option (Int32 × eb_S) := eb_gR s [0, 4, 5] v0 0 fun r1 => eb_gI s [3] r1 1 fun x2 => if x2 ≤ v1 then (some (0, s)) else (eb_gR s [0, 4, 5] v0 4 fun r3 => eb_ai s r3 ((v1 * 5) + v2) fun x4 => some (x4, s))
set_option maxRecDepth 100000 in
theorem ct_X6_loadAhead {G : eb_G} (hG : eb_ok G) (v0 : Nat) (v1 : Int32) (v2 : Int32) (s : eb_S) : eb_ct G yX6_loadAhead cX6_loadAhead 3 (some .int) 1 0 0 eb_ei [.ref v0, .int v1, .int v2] s (f_X6_loadAhead v0 v1 v2 s) := by
  refine eb_ct_i (by decide) (Nat.le_of_ble_eq_true rfl) (fun v hv => by simp at hv; rcases hv with rfl | rfl | rfl <;> simp [Value.category]) ?_
  show eb_go G yX6_loadAhead cX6_loadAhead 3 (some .int) (1) 0 0 .ireturn (fun r : Int32 => [.int r]) 0 [(0, .ref v0), (1, .int v1), (2, .int v2)] [] s 0 0 _
  unfold f_X6_loadAhead
  refine eb_iload_n (pc := 0) 1 dX6_loadAhead_0 rfl rfl ?_
  refine eb_aload_n (pc := 1) 0 dX6_loadAhead_1 rfl rfl ?_
  refine eb_getR (pc := 2) ef_RX6_28 dX6_loadAhead_2 (fun r1 => ?_)
  refine eb_getI (pc := 5) ef_RX6_47 dX6_loadAhead_5 (fun x2 => ?_)
  refine eb_icmp_ge (pc := 8) (tgt := 24) dX6_loadAhead_8 (by decide) ?_ ?_
  · refine eb_iconst (pc := 24) (v := 0) dX6_loadAhead_24 (by decide) ?_
    exact eb_iret (pc := 25) dX6_loadAhead_25 (by decide) (by decide)
  · refine eb_aload_n (pc := 11) 0 dX6_loadAhead_11 rfl rfl ?_
    refine eb_getR (pc := 12) ef_RX6_21 dX6_loadAhead_12 (fun r3 => ?_)
    refine eb_iload_n (pc := 15) 1 dX6_loadAhead_15 rfl rfl ?_
    refine eb_iconst (pc := 16) (v := 5) dX6_loadAhead_16 (by decide) ?_
    refine eb_imul (pc := 17) dX6_loadAhead_17 ?_
    refine eb_iload_n (pc := 18) 2 dX6_loadAhead_18 rfl rfl ?_
    refine eb_iadd (pc := 19) dX6_loadAhead_19 ?_
    refine eb_iaload (pc := 20) dX6_loadAhead_20 (fun x4 => ?_)
    refine eb_goto (pc := 21) (tgt := 25) dX6_loadAhead_21 (by decide) ?_
    exact eb_iret (pc := 25) dX6_loadAhead_25 (by decide) (by decide)

def f_X6_weighAhead_L16 (n : Nat) (v0 : Nat) (v1 : Int32) (K : eb_S → Option (Unit × eb_S)) : Nat → Int32 → eb_S → Option (Unit × eb_S)
  | 0, _, _ => none
  | m + 1, v2, s => eb_gR s [0, 4, 5] v0 0 fun r3 => eb_gI s [3] r3 7 fun x4 => if x4 ≤ v2 then (K s) else (eb_gR s [0, 4, 5] v0 4 fun r5 => eb_cl (eb_ts s v0 [0, 4, 5] (f_X6_loadAhead v0 (v1 + 1) v2 s)) fun x7 s6 => eb_gR s6 [0, 4, 5] v0 0 fun r8 => eb_cl (eb_tg s6 r8 3 (f_X3_thingLoad r8 v1 v2 s6)) fun x10 s9 => eb_wi s9 r5 ((v1 * 5) + v2) (x7 + x10) fun s11 => f_X6_weighAhead_L16 n v0 v1 K m (v2 + 1) s11)
def f_X6_weighAhead_L10 (n : Nat) (v0 : Nat)  : Nat → Int32 → eb_S → Option (Unit × eb_S)
  | 0, _, _ => none
  | m + 1, v1, s => if v1 < 0 then (some ((), s)) else (f_X6_weighAhead_L16 n v0 v1 (fun  (s12 : eb_S) => f_X6_weighAhead_L10 n v0 m (v1 + (-1)) s12) n 0 s)
def f_X6_weighAhead (n : Nat) (v0 : Nat) (s : eb_S) : Option (Unit × eb_S) := eb_gR s [0, 4, 5] v0 0 fun r1 => eb_gI s [3] r1 1 fun x2 => f_X6_weighAhead_L10 n v0  n (x2 - 1) s
set_option maxRecDepth 100000 in
theorem gl_X6_weighAhead_L16 {G : eb_G} (hG : eb_ok G) {n : Nat} {v0 : Nat} {v1 : Int32} {K : eb_S → Option (Unit × eb_S)} (hK : ∀  (s : eb_S), eb_go G yX6_weighAhead cX6_weighAhead 3 none (2) 0 0 .return_ (fun _ : Unit => []) 61 [(0, .ref v0), (1, .int v1)] [] s 0 0 (K  s)) : ∀ (m : Nat) (v2 : Int32) (s : eb_S), eb_go G yX6_weighAhead cX6_weighAhead 3 none (2) 0 0 .return_ (fun _ : Unit => []) 16 [(0, .ref v0), (1, .int v1), (2, .int v2)] [] s 0 0 (f_X6_weighAhead_L16 n v0 v1 K m v2 s) := by
  intro m
  induction m with
  | zero => intro v2 s; exact eb_none
  | succ m ih =>
    intro v2 s
    rw [f_X6_weighAhead_L16.eq_2]
    refine eb_iload_n (pc := 16) 2 dX6_weighAhead_16 rfl rfl ?_
    refine eb_aload_n (pc := 17) 0 dX6_weighAhead_17 rfl rfl ?_
    refine eb_getR (pc := 18) ef_RX6_28 dX6_weighAhead_18 (fun r3 => ?_)
    refine eb_getI (pc := 21) ef_RX6_50 dX6_weighAhead_21 (fun x4 => ?_)
    refine eb_icmp_ge (pc := 24) (tgt := 61) dX6_weighAhead_24 (by decide) ?_ ?_
    · refine eb_sub [0, 1] rfl ?_
      exact hK _
    · refine eb_aload_n (pc := 27) 0 dX6_weighAhead_27 rfl rfl ?_
      refine eb_getR (pc := 28) ef_RX6_21 dX6_weighAhead_28 (fun r5 => ?_)
      refine eb_iload_n (pc := 31) 1 dX6_weighAhead_31 rfl rfl ?_
      refine eb_iconst (pc := 32) (v := 5) dX6_weighAhead_32 (by decide) ?_
      refine eb_imul (pc := 33) dX6_weighAhead_33 ?_
      refine eb_iload_n (pc := 34) 2 dX6_weighAhead_34 rfl rfl ?_
      refine eb_iadd (pc := 35) dX6_weighAhead_35 ?_
      refine eb_aload_n (pc := 36) 0 dX6_weighAhead_36 rfl rfl ?_
      refine eb_iload_n (pc := 37) 1 dX6_weighAhead_37 rfl rfl ?_
      refine eb_iconst (pc := 38) (v := 1) dX6_weighAhead_38 (by decide) ?_
      refine eb_iadd (pc := 39) dX6_weighAhead_39 ?_
      refine eb_iload_n (pc := 40) 2 dX6_weighAhead_40 rfl rfl ?_
      refine eb_calli (pc := 41) (eb_runs3s (eb_runU (pc := 41) (n := 2) (As := [.int (v1 + 1), .int v2]) (rest := [.int ((v1 * 5) + v2), .ref r5]) (x2 := ⟨RX6, "loadAhead", "(II)I"⟩) (owner := RX6) (ci := 0) (q := (RX0, TX0, 11)) ew_136 ew_137 (fun q hq => by cases hq; exact ew_138) ew_139 ew_140 rfl (by decide +kernel) (ct_X6_loadAhead hG _ _ _ _) rfl ew_141 ⟨by decide, by decide⟩ (by decide) (by decide) (Nat.le_of_ble_eq_true rfl) rfl dX6_weighAhead_41) (eb_runU (pc := 41) (n := 2) (As := [.int (v1 + 1), .int v2]) (rest := [.int ((v1 * 5) + v2), .ref r5]) (x2 := ⟨RX6, "loadAhead", "(II)I"⟩) (owner := RX6) (ci := 4) (q := (RX4, TX4, 11)) ew_136 ew_137 (fun q hq => by cases hq; exact ew_142) ew_139 ew_140 rfl (by decide +kernel) (ct_X6_loadAhead hG _ _ _ _) rfl ew_141 ⟨by decide, by decide⟩ (by decide) (by decide) (Nat.le_of_ble_eq_true rfl) rfl dX6_weighAhead_41) (eb_runU (pc := 41) (n := 2) (As := [.int (v1 + 1), .int v2]) (rest := [.int ((v1 * 5) + v2), .ref r5]) (x2 := ⟨RX6, "loadAhead", "(II)I"⟩) (owner := RX6) (ci := 5) (q := (RX5, TX5, 9)) ew_136 ew_137 (fun q hq => by cases hq; exact ew_143) ew_139 ew_140 rfl (by decide +kernel) (ct_X6_loadAhead hG _ _ _ _) rfl ew_141 ⟨by decide, by decide⟩ (by decide) (by decide) (Nat.le_of_ble_eq_true rfl) rfl dX6_weighAhead_41)) (fun x7 s6 => ?_)
      refine eb_aload_n (pc := 44) 0 dX6_weighAhead_44 rfl rfl ?_
      refine eb_getR (pc := 45) ef_RX6_28 dX6_weighAhead_45 (fun r8 => ?_)
      refine eb_iload_n (pc := 48) 1 dX6_weighAhead_48 rfl rfl ?_
      refine eb_iload_n (pc := 49) 2 dX6_weighAhead_49 rfl rfl ?_
      refine eb_calli (pc := 50) (eb_runV (pc := 50) (As := [.int v1, .int v2]) (rest := [.int x7, .int ((v1 * 5) + v2), .ref r5]) (ci := 3) (q0 := (RX3, TX3, 20)) (q := (RX3, TX3, 20)) ew_144 ew_73 ew_74 ew_68 rfl rfl ed_X3_thingLoad (ct_X3_thingLoad hG _ _ _ _) rfl ew_75 ⟨by decide, by decide⟩ (by decide) (by decide) (Nat.le_of_ble_eq_true rfl) rfl dX6_weighAhead_50) (fun x10 s9 => ?_)
      refine eb_iadd (pc := 53) dX6_weighAhead_53 ?_
      refine eb_iastore (pc := 54) dX6_weighAhead_54 (fun s11 => ?_)
      refine eb_iinc (pc := 55) (v := v2 + 1) (L' := [(2, .int (v2 + 1)), (0, .ref v0), (1, .int v1)]) 2 dX6_weighAhead_55 rfl rfl (by decide) rfl ?_
      refine eb_goto (pc := 58) (tgt := 16) dX6_weighAhead_58 (by decide) ?_
      refine eb_sub [1, 2, 0] rfl ?_
      exact ih _ _
set_option maxRecDepth 100000 in
theorem gl_X6_weighAhead_L10 {G : eb_G} (hG : eb_ok G) {n : Nat} {v0 : Nat}   : ∀ (m : Nat) (v1 : Int32) (s : eb_S), eb_go G yX6_weighAhead cX6_weighAhead 3 none (2) 0 0 .return_ (fun _ : Unit => []) 10 [(0, .ref v0), (1, .int v1)] [] s 0 0 (f_X6_weighAhead_L10 n v0 m v1 s) := by
  intro m
  induction m with
  | zero => intro v1 s; exact eb_none
  | succ m ih =>
    intro v1 s
    rw [f_X6_weighAhead_L10.eq_2]
    refine eb_iload_n (pc := 10) 1 dX6_weighAhead_10 rfl rfl ?_
    refine eb_if_lt (pc := 11) (tgt := 67) dX6_weighAhead_11 (by decide) ?_ ?_
    · exact eb_vret (pc := 67) dX6_weighAhead_67 (by decide) (by decide)
    · refine eb_iconst (pc := 14) (v := 0) dX6_weighAhead_14 (by decide) ?_
      refine eb_istore_n (pc := 15) (L' := [(2, .int 0), (0, .ref v0), (1, .int v1)]) dX6_weighAhead_15 rfl (by decide) rfl ?_
      refine eb_sub [1, 2, 0] rfl ?_
      refine gl_X6_weighAhead_L16 hG (fun s12 => ?_) n _ _
      refine eb_iinc (pc := 61) (v := v1 + (-1)) (L' := [(1, .int (v1 + (-1))), (0, .ref v0)]) 1 dX6_weighAhead_61 rfl rfl (by decide) rfl ?_
      refine eb_goto (pc := 64) (tgt := 10) dX6_weighAhead_64 (by decide) ?_
      refine eb_sub [1, 0] rfl ?_
      exact ih _ _
set_option maxRecDepth 100000 in
theorem ct_X6_weighAhead {G : eb_G} (hG : eb_ok G) (n : Nat) (v0 : Nat) (s : eb_S) : eb_ct G yX6_weighAhead cX6_weighAhead 3 none 2 0 0 eb_ev [.ref v0] s (f_X6_weighAhead n v0 s) := by
  refine eb_ct_v (by decide) (Nat.le_of_ble_eq_true rfl) (fun v hv => by simp at hv; rcases hv with rfl <;> simp [Value.category]) ?_
  show eb_go G yX6_weighAhead cX6_weighAhead 3 none (2) 0 0 .return_ (fun _ : Unit => []) 0 [(0, .ref v0)] [] s 0 0 _
  unfold f_X6_weighAhead
  refine eb_aload_n (pc := 0) 0 dX6_weighAhead_0 rfl rfl ?_
  refine eb_getR (pc := 1) ef_RX6_28 dX6_weighAhead_1 (fun r1 => ?_)
  refine eb_getI (pc := 4) ef_RX6_47 dX6_weighAhead_4 (fun x2 => ?_)
  refine eb_iconst (pc := 7) (v := 1) dX6_weighAhead_7 (by decide) ?_
  refine eb_isub (pc := 8) dX6_weighAhead_8 ?_
  refine eb_istore_n (pc := 9) (L' := [(1, .int (x2 - 1)), (0, .ref v0)]) dX6_weighAhead_9 rfl (by decide) rfl ?_
  refine eb_sub [1, 0] rfl ?_
  refine gl_X6_weighAhead_L10 hG  n _ _

def f_X0_begin (v0 : Nat) (s : eb_S) : Option (Unit × eb_S) := eb_pZ s [0] v0 6 0 fun s1 => some ((), s1)
set_option maxRecDepth 100000 in
theorem ct_X0_begin {G : eb_G} (hG : eb_ok G) (v0 : Nat) (s : eb_S) : eb_ct G yX0_begin cX0_begin 1 none 1 0 0 eb_ev [.ref v0] s (f_X0_begin v0 s) := by
  refine eb_ct_v (by decide) (Nat.le_of_ble_eq_true rfl) (fun v hv => by simp at hv; rcases hv with rfl <;> simp [Value.category]) ?_
  show eb_go G yX0_begin cX0_begin 1 none (1) 0 0 .return_ (fun _ : Unit => []) 0 [(0, .ref v0)] [] s 0 0 _
  unfold f_X0_begin
  refine eb_aload_n (pc := 0) 0 dX0_begin_0 rfl rfl ?_
  refine eb_iconst (pc := 1) (v := 0) dX0_begin_1 (by decide) ?_
  refine eb_putZ (pc := 2) ef_RX0_7 eg_RX0_7 dX0_begin_2 (fun s1 => ?_)
  exact eb_vret (pc := 5) dX0_begin_5 (by decide) (by decide)

def f_X4_begin (v0 : Nat) (s : eb_S) : Option (Unit × eb_S) := eb_pZ s [4] v0 6 0 fun s1 => some ((), s1)
set_option maxRecDepth 100000 in
theorem ct_X4_begin {G : eb_G} (hG : eb_ok G) (v0 : Nat) (s : eb_S) : eb_ct G yX4_begin cX4_begin 1 none 1 0 0 eb_ev [.ref v0] s (f_X4_begin v0 s) := by
  refine eb_ct_v (by decide) (Nat.le_of_ble_eq_true rfl) (fun v hv => by simp at hv; rcases hv with rfl <;> simp [Value.category]) ?_
  show eb_go G yX4_begin cX4_begin 1 none (1) 0 0 .return_ (fun _ : Unit => []) 0 [(0, .ref v0)] [] s 0 0 _
  unfold f_X4_begin
  refine eb_aload_n (pc := 0) 0 dX4_begin_0 rfl rfl ?_
  refine eb_iconst (pc := 1) (v := 0) dX4_begin_1 (by decide) ?_
  refine eb_putZ (pc := 2) ef_RX4_7 eg_RX4_7 dX4_begin_2 (fun s1 => ?_)
  exact eb_vret (pc := 5) dX4_begin_5 (by decide) (by decide)

def f_X5_begin (v0 : Nat) (s : eb_S) : Option (Unit × eb_S) := eb_pI s [5] v0 6 0 fun s1 => eb_pI s1 [5] v0 7 0 fun s2 => some ((), s2)
set_option maxRecDepth 100000 in
theorem ct_X5_begin {G : eb_G} (hG : eb_ok G) (v0 : Nat) (s : eb_S) : eb_ct G yX5_begin cX5_begin 1 none 1 0 0 eb_ev [.ref v0] s (f_X5_begin v0 s) := by
  refine eb_ct_v (by decide) (Nat.le_of_ble_eq_true rfl) (fun v hv => by simp at hv; rcases hv with rfl <;> simp [Value.category]) ?_
  show eb_go G yX5_begin cX5_begin 1 none (1) 0 0 .return_ (fun _ : Unit => []) 0 [(0, .ref v0)] [] s 0 0 _
  unfold f_X5_begin
  refine eb_aload_n (pc := 0) 0 dX5_begin_0 rfl rfl ?_
  refine eb_iconst (pc := 1) (v := 0) dX5_begin_1 (by decide) ?_
  refine eb_putI (pc := 2) ef_RX5_9 eg_RX5_9 dX5_begin_2 (fun s1 => ?_)
  refine eb_aload_n (pc := 5) 0 dX5_begin_5 rfl rfl ?_
  refine eb_iconst (pc := 6) (v := 0) dX5_begin_6 (by decide) ?_
  refine eb_putI (pc := 7) ef_RX5_15 eg_RX5_15 dX5_begin_7 (fun s2 => ?_)
  exact eb_vret (pc := 10) dX5_begin_10 (by decide) (by decide)

def f_X6_leastOff (v0 : Nat) (v1 : Int32) (v2 : Int32) (s : eb_S) : Option (Int32 × eb_S) := eb_gR s [0, 4, 5] v0 0 fun r1 => eb_gR s [0, 4, 5] v0 3 fun r2 => eb_ai s r2 ((v2 * 3) + 0) fun x3 => eb_gR s [0, 4, 5] v0 3 fun r4 => eb_ai s r4 ((v2 * 3) + 1) fun x5 => eb_cl (eb_ts s v0 [0, 4, 5] (f_X6_loadAhead v0 v1 v2 s)) fun x7 s6 => eb_cl (eb_tg s6 r1 3 (f_X3_offBetween r1 x3 (x5 + x7) s6)) fun x9 s8 => some (x9, s8)
set_option maxRecDepth 100000 in
theorem ct_X6_leastOff {G : eb_G} (hG : eb_ok G) (v0 : Nat) (v1 : Int32) (v2 : Int32) (s : eb_S) : eb_ct G yX6_leastOff cX6_leastOff 4 (some .int) 2 0 0 eb_ei [.ref v0, .int v1, .int v2] s (f_X6_leastOff v0 v1 v2 s) := by
  refine eb_ct_i (by decide) (Nat.le_of_ble_eq_true rfl) (fun v hv => by simp at hv; rcases hv with rfl | rfl | rfl <;> simp [Value.category]) ?_
  show eb_go G yX6_leastOff cX6_leastOff 4 (some .int) (2) 0 0 .ireturn (fun r : Int32 => [.int r]) 0 [(0, .ref v0), (1, .int v1), (2, .int v2)] [] s 0 0 _
  unfold f_X6_leastOff
  refine eb_iload_n (pc := 0) 2 dX6_leastOff_0 rfl rfl ?_
  refine eb_iconst (pc := 1) (v := 3) dX6_leastOff_1 (by decide) ?_
  refine eb_imul (pc := 2) dX6_leastOff_2 ?_
  refine eb_istore_n (pc := 3) (L' := [(3, .int (v2 * 3)), (0, .ref v0), (1, .int v1), (2, .int v2)]) dX6_leastOff_3 rfl (by decide) rfl ?_
  refine eb_aload_n (pc := 4) 1 dX6_leastOff_4 rfl rfl ?_
  refine eb_getR (pc := 5) ef_RX6_28 dX6_leastOff_5 (fun r1 => ?_)
  refine eb_aload_n (pc := 8) 1 dX6_leastOff_8 rfl rfl ?_
  refine eb_getR (pc := 9) ef_RX6_18 dX6_leastOff_9 (fun r2 => ?_)
  refine eb_iload_n (pc := 12) 0 dX6_leastOff_12 rfl rfl ?_
  refine eb_iconst (pc := 13) (v := 0) dX6_leastOff_13 (by decide) ?_
  refine eb_iadd (pc := 14) dX6_leastOff_14 ?_
  refine eb_iaload (pc := 15) dX6_leastOff_15 (fun x3 => ?_)
  refine eb_aload_n (pc := 16) 1 dX6_leastOff_16 rfl rfl ?_
  refine eb_getR (pc := 17) ef_RX6_18 dX6_leastOff_17 (fun r4 => ?_)
  refine eb_iload_n (pc := 20) 0 dX6_leastOff_20 rfl rfl ?_
  refine eb_iconst (pc := 21) (v := 1) dX6_leastOff_21 (by decide) ?_
  refine eb_iadd (pc := 22) dX6_leastOff_22 ?_
  refine eb_iaload (pc := 23) dX6_leastOff_23 (fun x5 => ?_)
  refine eb_aload_n (pc := 24) 1 dX6_leastOff_24 rfl rfl ?_
  refine eb_iload_n (pc := 25) 2 dX6_leastOff_25 rfl rfl ?_
  refine eb_iload_n (pc := 26) 3 dX6_leastOff_26 rfl rfl ?_
  refine eb_calli (pc := 27) (eb_runs3s (eb_runU (pc := 27) (n := 2) (As := [.int v1, .int v2]) (rest := [.int x5, .int x3, .ref r1]) (x2 := ⟨RX6, "loadAhead", "(II)I"⟩) (owner := RX6) (ci := 0) (q := (RX0, TX0, 11)) ew_136 ew_137 (fun q hq => by cases hq; exact ew_138) ew_139 ew_140 rfl (by decide +kernel) (ct_X6_loadAhead hG _ _ _ _) rfl ew_141 ⟨by decide, by decide⟩ (by decide) (by decide) (Nat.le_of_ble_eq_true rfl) rfl dX6_leastOff_27) (eb_runU (pc := 27) (n := 2) (As := [.int v1, .int v2]) (rest := [.int x5, .int x3, .ref r1]) (x2 := ⟨RX6, "loadAhead", "(II)I"⟩) (owner := RX6) (ci := 4) (q := (RX4, TX4, 11)) ew_136 ew_137 (fun q hq => by cases hq; exact ew_142) ew_139 ew_140 rfl (by decide +kernel) (ct_X6_loadAhead hG _ _ _ _) rfl ew_141 ⟨by decide, by decide⟩ (by decide) (by decide) (Nat.le_of_ble_eq_true rfl) rfl dX6_leastOff_27) (eb_runU (pc := 27) (n := 2) (As := [.int v1, .int v2]) (rest := [.int x5, .int x3, .ref r1]) (x2 := ⟨RX6, "loadAhead", "(II)I"⟩) (owner := RX6) (ci := 5) (q := (RX5, TX5, 9)) ew_136 ew_137 (fun q hq => by cases hq; exact ew_143) ew_139 ew_140 rfl (by decide +kernel) (ct_X6_loadAhead hG _ _ _ _) rfl ew_141 ⟨by decide, by decide⟩ (by decide) (by decide) (Nat.le_of_ble_eq_true rfl) rfl dX6_leastOff_27)) (fun x7 s6 => ?_)
  refine eb_iadd (pc := 30) dX6_leastOff_30 ?_
  refine eb_calli (pc := 31) (eb_runV (pc := 31) (As := [.int x3, .int (x5 + x7)]) (rest := []) (ci := 3) (q0 := (RX3, TX3, 20)) (q := (RX3, TX3, 20)) ew_149 ew_85 ew_86 ew_68 rfl rfl ed_X3_offBetween (ct_X3_offBetween hG _ _ _ _) rfl ew_87 ⟨by decide, by decide⟩ (by decide) (by decide) (Nat.le_of_ble_eq_true rfl) rfl dX6_leastOff_31) (fun x9 s8 => ?_)
  exact eb_iret (pc := 34) dX6_leastOff_34 (by decide) (by decide)

def f_X6_mostOff (v0 : Nat) (v1 : Int32) (v2 : Int32) (s : eb_S) : Option (Int32 × eb_S) := eb_gR s [0, 4, 5] v0 0 fun r1 => eb_gR s [0, 4, 5] v0 3 fun r2 => eb_ai s r2 ((v2 * 3) + 0) fun x3 => eb_cl (eb_ts s v0 [0, 4, 5] (f_X6_loadAhead v0 v1 v2 s)) fun x5 s4 => eb_gR s4 [0, 4, 5] v0 3 fun r6 => eb_ai s4 r6 ((v2 * 3) + 1) fun x7 => eb_cl (eb_tg s4 r1 3 (f_X3_offBetween r1 (x3 + x5) x7 s4)) fun x9 s8 => some (x9, s8)
set_option maxRecDepth 100000 in
theorem ct_X6_mostOff {G : eb_G} (hG : eb_ok G) (v0 : Nat) (v1 : Int32) (v2 : Int32) (s : eb_S) : eb_ct G yX6_mostOff cX6_mostOff 4 (some .int) 2 0 0 eb_ei [.ref v0, .int v1, .int v2] s (f_X6_mostOff v0 v1 v2 s) := by
  refine eb_ct_i (by decide) (Nat.le_of_ble_eq_true rfl) (fun v hv => by simp at hv; rcases hv with rfl | rfl | rfl <;> simp [Value.category]) ?_
  show eb_go G yX6_mostOff cX6_mostOff 4 (some .int) (2) 0 0 .ireturn (fun r : Int32 => [.int r]) 0 [(0, .ref v0), (1, .int v1), (2, .int v2)] [] s 0 0 _
  unfold f_X6_mostOff
  refine eb_iload_n (pc := 0) 2 dX6_mostOff_0 rfl rfl ?_
  refine eb_iconst (pc := 1) (v := 3) dX6_mostOff_1 (by decide) ?_
  refine eb_imul (pc := 2) dX6_mostOff_2 ?_
  refine eb_istore_n (pc := 3) (L' := [(3, .int (v2 * 3)), (0, .ref v0), (1, .int v1), (2, .int v2)]) dX6_mostOff_3 rfl (by decide) rfl ?_
  refine eb_aload_n (pc := 4) 1 dX6_mostOff_4 rfl rfl ?_
  refine eb_getR (pc := 5) ef_RX6_28 dX6_mostOff_5 (fun r1 => ?_)
  refine eb_aload_n (pc := 8) 1 dX6_mostOff_8 rfl rfl ?_
  refine eb_getR (pc := 9) ef_RX6_18 dX6_mostOff_9 (fun r2 => ?_)
  refine eb_iload_n (pc := 12) 0 dX6_mostOff_12 rfl rfl ?_
  refine eb_iconst (pc := 13) (v := 0) dX6_mostOff_13 (by decide) ?_
  refine eb_iadd (pc := 14) dX6_mostOff_14 ?_
  refine eb_iaload (pc := 15) dX6_mostOff_15 (fun x3 => ?_)
  refine eb_aload_n (pc := 16) 1 dX6_mostOff_16 rfl rfl ?_
  refine eb_iload_n (pc := 17) 2 dX6_mostOff_17 rfl rfl ?_
  refine eb_iload_n (pc := 18) 3 dX6_mostOff_18 rfl rfl ?_
  refine eb_calli (pc := 19) (eb_runs3s (eb_runU (pc := 19) (n := 2) (As := [.int v1, .int v2]) (rest := [.int x3, .ref r1]) (x2 := ⟨RX6, "loadAhead", "(II)I"⟩) (owner := RX6) (ci := 0) (q := (RX0, TX0, 11)) ew_136 ew_137 (fun q hq => by cases hq; exact ew_138) ew_139 ew_140 rfl (by decide +kernel) (ct_X6_loadAhead hG _ _ _ _) rfl ew_141 ⟨by decide, by decide⟩ (by decide) (by decide) (Nat.le_of_ble_eq_true rfl) rfl dX6_mostOff_19) (eb_runU (pc := 19) (n := 2) (As := [.int v1, .int v2]) (rest := [.int x3, .ref r1]) (x2 := ⟨RX6, "loadAhead", "(II)I"⟩) (owner := RX6) (ci := 4) (q := (RX4, TX4, 11)) ew_136 ew_137 (fun q hq => by cases hq; exact ew_142) ew_139 ew_140 rfl (by decide +kernel) (ct_X6_loadAhead hG _ _ _ _) rfl ew_141 ⟨by decide, by decide⟩ (by decide) (by decide) (Nat.le_of_ble_eq_true rfl) rfl dX6_mostOff_19) (eb_runU (pc := 19) (n := 2) (As := [.int v1, .int v2]) (rest := [.int x3, .ref r1]) (x2 := ⟨RX6, "loadAhead", "(II)I"⟩) (owner := RX6) (ci := 5) (q := (RX5, TX5, 9)) ew_136 ew_137 (fun q hq => by cases hq; exact ew_143) ew_139 ew_140 rfl (by decide +kernel) (ct_X6_loadAhead hG _ _ _ _) rfl ew_141 ⟨by decide, by decide⟩ (by decide) (by decide) (Nat.le_of_ble_eq_true rfl) rfl dX6_mostOff_19)) (fun x5 s4 => ?_)
  refine eb_iadd (pc := 22) dX6_mostOff_22 ?_
  refine eb_aload_n (pc := 23) 1 dX6_mostOff_23 rfl rfl ?_
  refine eb_getR (pc := 24) ef_RX6_18 dX6_mostOff_24 (fun r6 => ?_)
  refine eb_iload_n (pc := 27) 0 dX6_mostOff_27 rfl rfl ?_
  refine eb_iconst (pc := 28) (v := 1) dX6_mostOff_28 (by decide) ?_
  refine eb_iadd (pc := 29) dX6_mostOff_29 ?_
  refine eb_iaload (pc := 30) dX6_mostOff_30 (fun x7 => ?_)
  refine eb_calli (pc := 31) (eb_runV (pc := 31) (As := [.int (x3 + x5), .int x7]) (rest := []) (ci := 3) (q0 := (RX3, TX3, 20)) (q := (RX3, TX3, 20)) ew_149 ew_85 ew_86 ew_68 rfl rfl ed_X3_offBetween (ct_X3_offBetween hG _ _ _ _) rfl ew_87 ⟨by decide, by decide⟩ (by decide) (by decide) (Nat.le_of_ble_eq_true rfl) rfl dX6_mostOff_31) (fun x9 s8 => ?_)
  exact eb_iret (pc := 34) dX6_mostOff_34 (by decide) (by decide)

def f_X6_nearestOff (v0 : Nat) (v1 : Int32) (v2 : Int32) (s : eb_S) : Option (Int32 × eb_S) := eb_cl (eb_ts s v0 [0, 4, 5] (f_X6_leastOff v0 v1 v2 s)) fun x2 s1 => eb_cl (eb_ts s1 v0 [0, 4, 5] (f_X6_mostOff v0 v1 v2 s1)) fun x4 s3 => some (if (0 : Int32) < (if x2 < (-x4) then (-x4) else x2) then (if x2 < (-x4) then (-x4) else x2) else 0, s3)
set_option maxRecDepth 100000 in
theorem ct_X6_nearestOff {G : eb_G} (hG : eb_ok G) (v0 : Nat) (v1 : Int32) (v2 : Int32) (s : eb_S) : eb_ct G yX6_nearestOff cX6_nearestOff 3 (some .int) 3 0 0 eb_ei [.ref v0, .int v1, .int v2] s (f_X6_nearestOff v0 v1 v2 s) := by
  refine eb_ct_i (by decide) (Nat.le_of_ble_eq_true rfl) (fun v hv => by simp at hv; rcases hv with rfl | rfl | rfl <;> simp [Value.category]) ?_
  show eb_go G yX6_nearestOff cX6_nearestOff 3 (some .int) (3) 0 0 .ireturn (fun r : Int32 => [.int r]) 0 [(0, .ref v0), (1, .int v1), (2, .int v2)] [] s 0 0 _
  unfold f_X6_nearestOff
  refine eb_iconst (pc := 0) (v := 0) dX6_nearestOff_0 (by decide) ?_
  refine eb_aload_n (pc := 1) 0 dX6_nearestOff_1 rfl rfl ?_
  refine eb_iload_n (pc := 2) 1 dX6_nearestOff_2 rfl rfl ?_
  refine eb_iload_n (pc := 3) 2 dX6_nearestOff_3 rfl rfl ?_
  refine eb_calli (pc := 4) (eb_runs3s (eb_runU (pc := 4) (n := 2) (As := [.int v1, .int v2]) (rest := [.int 0]) (x2 := ⟨RX6, "leastOff", "(II)I"⟩) (owner := RX6) (ci := 0) (q := (RX0, TX0, 11)) ew_150 ew_151 (fun q hq => by cases hq; exact ew_152) ew_153 ew_140 rfl (by decide +kernel) (ct_X6_leastOff hG _ _ _ _) rfl ew_154 ⟨by decide, by decide⟩ (by decide) (by decide) (Nat.le_of_ble_eq_true rfl) rfl dX6_nearestOff_4) (eb_runU (pc := 4) (n := 2) (As := [.int v1, .int v2]) (rest := [.int 0]) (x2 := ⟨RX6, "leastOff", "(II)I"⟩) (owner := RX6) (ci := 4) (q := (RX4, TX4, 11)) ew_150 ew_151 (fun q hq => by cases hq; exact ew_155) ew_153 ew_140 rfl (by decide +kernel) (ct_X6_leastOff hG _ _ _ _) rfl ew_154 ⟨by decide, by decide⟩ (by decide) (by decide) (Nat.le_of_ble_eq_true rfl) rfl dX6_nearestOff_4) (eb_runU (pc := 4) (n := 2) (As := [.int v1, .int v2]) (rest := [.int 0]) (x2 := ⟨RX6, "leastOff", "(II)I"⟩) (owner := RX6) (ci := 5) (q := (RX5, TX5, 9)) ew_150 ew_151 (fun q hq => by cases hq; exact ew_156) ew_153 ew_140 rfl (by decide +kernel) (ct_X6_leastOff hG _ _ _ _) rfl ew_154 ⟨by decide, by decide⟩ (by decide) (by decide) (Nat.le_of_ble_eq_true rfl) rfl dX6_nearestOff_4)) (fun x2 s1 => ?_)
  refine eb_aload_n (pc := 7) 0 dX6_nearestOff_7 rfl rfl ?_
  refine eb_iload_n (pc := 8) 1 dX6_nearestOff_8 rfl rfl ?_
  refine eb_iload_n (pc := 9) 2 dX6_nearestOff_9 rfl rfl ?_
  refine eb_calli (pc := 10) (eb_runs3s (eb_runU (pc := 10) (n := 2) (As := [.int v1, .int v2]) (rest := [.int x2, .int 0]) (x2 := ⟨RX6, "mostOff", "(II)I"⟩) (owner := RX6) (ci := 0) (q := (RX0, TX0, 11)) ew_157 ew_158 (fun q hq => by cases hq; exact ew_159) ew_160 ew_140 rfl (by decide +kernel) (ct_X6_mostOff hG _ _ _ _) rfl ew_161 ⟨by decide, by decide⟩ (by decide) (by decide) (Nat.le_of_ble_eq_true rfl) rfl dX6_nearestOff_10) (eb_runU (pc := 10) (n := 2) (As := [.int v1, .int v2]) (rest := [.int x2, .int 0]) (x2 := ⟨RX6, "mostOff", "(II)I"⟩) (owner := RX6) (ci := 4) (q := (RX4, TX4, 11)) ew_157 ew_158 (fun q hq => by cases hq; exact ew_162) ew_160 ew_140 rfl (by decide +kernel) (ct_X6_mostOff hG _ _ _ _) rfl ew_161 ⟨by decide, by decide⟩ (by decide) (by decide) (Nat.le_of_ble_eq_true rfl) rfl dX6_nearestOff_10) (eb_runU (pc := 10) (n := 2) (As := [.int v1, .int v2]) (rest := [.int x2, .int 0]) (x2 := ⟨RX6, "mostOff", "(II)I"⟩) (owner := RX6) (ci := 5) (q := (RX5, TX5, 9)) ew_157 ew_158 (fun q hq => by cases hq; exact ew_163) ew_160 ew_140 rfl (by decide +kernel) (ct_X6_mostOff hG _ _ _ _) rfl ew_161 ⟨by decide, by decide⟩ (by decide) (by decide) (Nat.le_of_ble_eq_true rfl) rfl dX6_nearestOff_10)) (fun x4 s3 => ?_)
  refine eb_ineg (pc := 13) dX6_nearestOff_13 ?_
  refine eb_mmax (pc := 14) ew_164 ew_20 ew_17 ew_21 (by decide) (Nat.le_of_ble_eq_true rfl) (by decide) (by decide) dX6_nearestOff_14 ?_
  refine eb_mmax (pc := 17) ew_164 ew_20 ew_17 ew_21 (by decide) (Nat.le_of_ble_eq_true rfl) (by decide) (by decide) dX6_nearestOff_17 ?_
  exact eb_iret (pc := 20) dX6_nearestOff_20 (by decide) (by decide)

def f_X0_isHopeless_L12 (n : Nat) (v0 : Nat) (v1 : Int32) (K : eb_S → Option (Bool × eb_S)) : Nat → Int32 → eb_S → Option (Bool × eb_S)
  | 0, _, _ => none
  | m + 1, v2, s => eb_gR s [0] v0 0 fun r3 => eb_gI s [3] r3 7 fun x4 => if x4 ≤ v2 then (K s) else (eb_cl (eb_tg s v0 0 (f_X6_nearestOff v0 v1 v2 s)) fun x6 s5 => eb_gI s5 [0] v0 9 fun x7 => eb_pI s5 [0] v0 9 (if x7 < x6 then x6 else x7) fun s8 => eb_gI s8 [0] v0 10 fun x9 => eb_gR s8 [0] v0 0 fun r10 => eb_gR s8 [3] r10 8 fun r11 => eb_ai s8 r11 v2 fun x12 => eb_gR s8 [0] v0 0 fun r13 => eb_cl (eb_tg s8 r13 3 (f_X3_steepness r13 v2 s8)) fun x15 s14 => eb_pI s14 [0] v0 10 (x9 + ((x6 * x12) * x15)) fun s16 => f_X0_isHopeless_L12 n v0 v1 K m (v2 + 1) s16)
def f_X0_isHopeless (n : Nat) (v0 : Nat) (v1 : Int32) (s : eb_S) : Option (Bool × eb_S) := eb_pI s [0] v0 9 0 fun s1 => eb_pI s1 [0] v0 10 0 fun s2 => f_X0_isHopeless_L12 n v0 v1 (fun  (s17 : eb_S) => eb_gI s17 [0] v0 6 fun x18 => if x18 = 0 then (some (false, s17)) else (eb_gI s17 [0] v0 9 fun x19 => eb_gI s17 [0] v0 7 fun x20 => if x20 < x19 then (some (true, s17)) else (eb_gI s17 [0] v0 9 fun x21 => eb_gI s17 [0] v0 7 fun x22 => if x21 = x22 then (eb_gI s17 [0] v0 10 fun x23 => eb_gI s17 [0] v0 8 fun x24 => if x23 < x24 then (some (false, s17)) else (some (true, s17))) else (some (false, s17))))) n 0 s2
set_option maxRecDepth 100000 in
theorem gl_X0_isHopeless_L12 {G : eb_G} (hG : eb_ok G) {n : Nat} {v0 : Nat} {v1 : Int32} {K : eb_S → Option (Bool × eb_S)} (hK : ∀  (s : eb_S), eb_go G yX0_isHopeless cX0_isHopeless 4 (some .boolean) (4) 0 0 .ireturn (fun r : Bool => [.int (eb_b r)]) 77 [(0, .ref v0)] [] s 0 0 (K  s)) : ∀ (m : Nat) (v2 : Int32) (s : eb_S), eb_go G yX0_isHopeless cX0_isHopeless 4 (some .boolean) (4) 0 0 .ireturn (fun r : Bool => [.int (eb_b r)]) 12 [(0, .ref v0), (1, .int v1), (2, .int v2)] [] s 0 0 (f_X0_isHopeless_L12 n v0 v1 K m v2 s) := by
  intro m
  induction m with
  | zero => intro v2 s; exact eb_none
  | succ m ih =>
    intro v2 s
    rw [f_X0_isHopeless_L12.eq_2]
    refine eb_iload_n (pc := 12) 2 dX0_isHopeless_12 rfl rfl ?_
    refine eb_aload_n (pc := 13) 0 dX0_isHopeless_13 rfl rfl ?_
    refine eb_getR (pc := 14) ef_RX0_26 dX0_isHopeless_14 (fun r3 => ?_)
    refine eb_getI (pc := 17) ef_RX0_30 dX0_isHopeless_17 (fun x4 => ?_)
    refine eb_icmp_ge (pc := 20) (tgt := 77) dX0_isHopeless_20 (by decide) ?_ ?_
    · refine eb_sub [0] rfl ?_
      exact hK _
    · refine eb_aload_n (pc := 23) 0 dX0_isHopeless_23 rfl rfl ?_
      refine eb_iload_n (pc := 24) 1 dX0_isHopeless_24 rfl rfl ?_
      refine eb_iload_n (pc := 25) 2 dX0_isHopeless_25 rfl rfl ?_
      refine eb_calli (pc := 26) (eb_runU (pc := 26) (n := 2) (As := [.int v1, .int v2]) (rest := []) (x2 := ⟨RX0, "nearestOff", "(II)I"⟩) (owner := RX6) (ci := 0) (q := (RX0, TX0, 11)) ew_170 ew_171 (fun q hq => by cases hq; exact ew_172) ew_173 ew_140 rfl (by decide +kernel) (ct_X6_nearestOff hG _ _ _ _) rfl ew_174 ⟨by decide, by decide⟩ (by decide) (by decide) (Nat.le_of_ble_eq_true rfl) rfl dX0_isHopeless_26) (fun x6 s5 => ?_)
      refine eb_istore_n (pc := 29) (L' := [(3, .int x6), (0, .ref v0), (1, .int v1), (2, .int v2)]) dX0_isHopeless_29 rfl (by decide) rfl ?_
      refine eb_aload_n (pc := 30) 1 dX0_isHopeless_30 rfl rfl ?_
      refine eb_aload_n (pc := 31) 1 dX0_isHopeless_31 rfl rfl ?_
      refine eb_getI (pc := 32) ef_RX0_20 dX0_isHopeless_32 (fun x7 => ?_)
      refine eb_iload_n (pc := 35) 0 dX0_isHopeless_35 rfl rfl ?_
      refine eb_mmax (pc := 36) ew_177 ew_20 ew_17 ew_21 (by decide) (Nat.le_of_ble_eq_true rfl) (by decide) (by decide) dX0_isHopeless_36 ?_
      refine eb_putI (pc := 39) ef_RX0_20 eg_RX0_20 dX0_isHopeless_39 (fun s8 => ?_)
      refine eb_aload_n (pc := 42) 1 dX0_isHopeless_42 rfl rfl ?_
      refine eb_dup (pc := 43) dX0_isHopeless_43 rfl ?_
      refine eb_getI (pc := 44) ef_RX0_23 dX0_isHopeless_44 (fun x9 => ?_)
      refine eb_iload_n (pc := 47) 0 dX0_isHopeless_47 rfl rfl ?_
      refine eb_aload_n (pc := 48) 1 dX0_isHopeless_48 rfl rfl ?_
      refine eb_getR (pc := 49) ef_RX0_26 dX0_isHopeless_49 (fun r10 => ?_)
      refine eb_getR (pc := 52) ef_RX0_44 dX0_isHopeless_52 (fun r11 => ?_)
      refine eb_iload_n (pc := 55) 3 dX0_isHopeless_55 rfl rfl ?_
      refine eb_iaload (pc := 56) dX0_isHopeless_56 (fun x12 => ?_)
      refine eb_imul (pc := 57) dX0_isHopeless_57 ?_
      refine eb_aload_n (pc := 58) 1 dX0_isHopeless_58 rfl rfl ?_
      refine eb_getR (pc := 59) ef_RX0_26 dX0_isHopeless_59 (fun r13 => ?_)
      refine eb_iload_n (pc := 62) 3 dX0_isHopeless_62 rfl rfl ?_
      refine eb_calli (pc := 63) (eb_runV (pc := 63) (As := [.int v2]) (rest := [.int (x6 * x12), .int x9, .ref v0]) (ci := 3) (q0 := (RX3, TX3, 20)) (q := (RX3, TX3, 20)) ew_176 ew_96 ew_97 ew_68 rfl rfl ed_X3_steepness (ct_X3_steepness hG _ _ _) rfl ew_98 ⟨by decide, by decide⟩ (by decide) (by decide) (Nat.le_of_ble_eq_true rfl) rfl dX0_isHopeless_63) (fun x15 s14 => ?_)
      refine eb_imul (pc := 66) dX0_isHopeless_66 ?_
      refine eb_iadd (pc := 67) dX0_isHopeless_67 ?_
      refine eb_putI (pc := 68) ef_RX0_23 eg_RX0_23 dX0_isHopeless_68 (fun s16 => ?_)
      refine eb_iinc (pc := 71) (v := v2 + 1) (L' := [(2, .int (v2 + 1)), (3, .int x6), (0, .ref v0), (1, .int v1)]) 3 dX0_isHopeless_71 rfl rfl (by decide) rfl ?_
      refine eb_goto (pc := 74) (tgt := 12) dX0_isHopeless_74 (by decide) ?_
      refine eb_sub [2, 3, 0] rfl ?_
      exact ih _ _
set_option maxRecDepth 100000 in
theorem ct_X0_isHopeless {G : eb_G} (hG : eb_ok G) (n : Nat) (v0 : Nat) (v1 : Int32) (s : eb_S) : eb_ct G yX0_isHopeless cX0_isHopeless 4 (some .boolean) 4 0 0 eb_eb [.ref v0, .int v1] s (f_X0_isHopeless n v0 v1 s) := by
  refine eb_ct_b (by decide) (Nat.le_of_ble_eq_true rfl) (fun v hv => by simp at hv; rcases hv with rfl | rfl <;> simp [Value.category]) ?_
  show eb_go G yX0_isHopeless cX0_isHopeless 4 (some .boolean) (4) 0 0 .ireturn (fun r : Bool => [.int (eb_b r)]) 0 [(0, .ref v0), (1, .int v1)] [] s 0 0 _
  unfold f_X0_isHopeless
  refine eb_aload_n (pc := 0) 0 dX0_isHopeless_0 rfl rfl ?_
  refine eb_iconst (pc := 1) (v := 0) dX0_isHopeless_1 (by decide) ?_
  refine eb_putI (pc := 2) ef_RX0_20 eg_RX0_20 dX0_isHopeless_2 (fun s1 => ?_)
  refine eb_aload_n (pc := 5) 0 dX0_isHopeless_5 rfl rfl ?_
  refine eb_iconst (pc := 6) (v := 0) dX0_isHopeless_6 (by decide) ?_
  refine eb_putI (pc := 7) ef_RX0_23 eg_RX0_23 dX0_isHopeless_7 (fun s2 => ?_)
  refine eb_iconst (pc := 10) (v := 0) dX0_isHopeless_10 (by decide) ?_
  refine eb_istore_n (pc := 11) (L' := [(2, .int 0), (0, .ref v0), (1, .int v1)]) dX0_isHopeless_11 rfl (by decide) rfl ?_
  refine eb_sub [1, 2, 0] rfl ?_
  refine gl_X0_isHopeless_L12 hG (fun s17 => ?_) n _ _
  refine eb_aload_n (pc := 77) 0 dX0_isHopeless_77 rfl rfl ?_
  refine eb_getI (pc := 78) ef_RX0_7 dX0_isHopeless_78 (fun x18 => ?_)
  refine eb_if_eq (pc := 81) (tgt := 121) dX0_isHopeless_81 (by decide) ?_ ?_
  · refine eb_iconst (pc := 121) (v := 0) dX0_isHopeless_121 (by decide) ?_
    exact eb_bret (pc := 122) (b := false) dX0_isHopeless_122 (by decide) (by decide)
  · refine eb_aload_n (pc := 84) 0 dX0_isHopeless_84 rfl rfl ?_
    refine eb_getI (pc := 85) ef_RX0_20 dX0_isHopeless_85 (fun x19 => ?_)
    refine eb_aload_n (pc := 88) 0 dX0_isHopeless_88 rfl rfl ?_
    refine eb_getI (pc := 89) ef_RX0_13 dX0_isHopeless_89 (fun x20 => ?_)
    refine eb_icmp_gt (pc := 92) (tgt := 117) dX0_isHopeless_92 (by decide) ?_ ?_
    · refine eb_iconst (pc := 117) (v := 1) dX0_isHopeless_117 (by decide) ?_
      refine eb_goto (pc := 118) (tgt := 122) dX0_isHopeless_118 (by decide) ?_
      exact eb_bret (pc := 122) (b := true) dX0_isHopeless_122 (by decide) (by decide)
    · refine eb_aload_n (pc := 95) 0 dX0_isHopeless_95 rfl rfl ?_
      refine eb_getI (pc := 96) ef_RX0_20 dX0_isHopeless_96 (fun x21 => ?_)
      refine eb_aload_n (pc := 99) 0 dX0_isHopeless_99 rfl rfl ?_
      refine eb_getI (pc := 100) ef_RX0_13 dX0_isHopeless_100 (fun x22 => ?_)
      refine eb_icmp_ne (pc := 103) (tgt := 121) dX0_isHopeless_103 (by decide) ?_ ?_
      · refine eb_iconst (pc := 121) (v := 0) dX0_isHopeless_121 (by decide) ?_
        exact eb_bret (pc := 122) (b := false) dX0_isHopeless_122 (by decide) (by decide)
      · refine eb_aload_n (pc := 106) 0 dX0_isHopeless_106 rfl rfl ?_
        refine eb_getI (pc := 107) ef_RX0_23 dX0_isHopeless_107 (fun x23 => ?_)
        refine eb_aload_n (pc := 110) 0 dX0_isHopeless_110 rfl rfl ?_
        refine eb_getI (pc := 111) ef_RX0_17 dX0_isHopeless_111 (fun x24 => ?_)
        refine eb_icmp_lt (pc := 114) (tgt := 121) dX0_isHopeless_114 (by decide) ?_ ?_
        · refine eb_iconst (pc := 121) (v := 0) dX0_isHopeless_121 (by decide) ?_
          exact eb_bret (pc := 122) (b := false) dX0_isHopeless_122 (by decide) (by decide)
        · refine eb_iconst (pc := 117) (v := 1) dX0_isHopeless_117 (by decide) ?_
          refine eb_goto (pc := 118) (tgt := 122) dX0_isHopeless_118 (by decide) ?_
          exact eb_bret (pc := 122) (b := true) dX0_isHopeless_122 (by decide) (by decide)

def f_X4_isHopeless_L7 (n : Nat) (v0 : Nat) (v1 : Int32) (K : eb_S → Option (Bool × eb_S)) : Nat → Int32 → eb_S → Option (Bool × eb_S)
  | 0, _, _ => none
  | m + 1, v2, s => if v1 ≤ v2 then (K s) else (eb_gI s [4] v0 10 fun x2 => eb_gR s [4] v0 1 fun r3 => eb_ai s r3 v2 fun x4 => eb_gR s [4] v0 0 fun r5 => eb_gR s [3] r5 6 fun r6 => eb_ai s r6 v2 fun x7 => eb_jn (fun (y8 : Int32) (s9 : eb_S) => eb_pI s9 [4] v0 10 (x2 + y8) fun s11 => f_X4_isHopeless_L7 n v0 v1 K m (v2 + 1) s11) fun j10 => if x4 = x7 then (j10 0 s) else (j10 1 s))
def f_X4_isHopeless_L75 (n : Nat) (v0 : Nat) (v1 : Int32)  : Nat → Int32 → eb_S → Option (Bool × eb_S)
  | 0, _, _ => none
  | m + 1, v2, s => eb_gR s [4] v0 0 fun r17 => eb_gI s [3] r17 7 fun x18 => if x18 ≤ v2 then (some (false, s)) else (eb_cl (eb_tg s v0 4 (f_X6_nearestOff v0 v1 v2 s)) fun x20 s19 => eb_gI s19 [4] v0 9 fun x21 => if x20 ≤ x21 then (f_X4_isHopeless_L75 n v0 v1 m (v2 + 1) s19) else (some (true, s19)))
def f_X4_isHopeless (n : Nat) (v0 : Nat) (v1 : Int32) (s : eb_S) : Option (Bool × eb_S) := eb_pI s [4] v0 10 0 fun s1 => f_X4_isHopeless_L7 n v0 v1 (fun  (s12 : eb_S) => eb_gI s12 [4] v0 6 fun x13 => eb_jn (fun (s14 : eb_S) => eb_gI s14 [4] v0 8 fun x16 => f_X4_isHopeless_L75 n v0 v1  n x16 s14) fun j15 => if x13 = 0 then (j15 s12) else (eb_gI s12 [4] v0 10 fun x22 => eb_gI s12 [4] v0 7 fun x23 => if x22 < x23 then (j15 s12) else (some (true, s12)))) n 0 s1
set_option maxRecDepth 100000 in
theorem gl_X4_isHopeless_L7 {G : eb_G} (hG : eb_ok G) {n : Nat} {v0 : Nat} {v1 : Int32} {K : eb_S → Option (Bool × eb_S)} (hK : ∀  (s : eb_S), eb_go G yX4_isHopeless cX4_isHopeless 3 (some .boolean) (4) 0 0 .ireturn (fun r : Bool => [.int (eb_b r)]) 50 [(0, .ref v0), (1, .int v1)] [] s 0 0 (K  s)) : ∀ (m : Nat) (v2 : Int32) (s : eb_S), eb_go G yX4_isHopeless cX4_isHopeless 3 (some .boolean) (4) 0 0 .ireturn (fun r : Bool => [.int (eb_b r)]) 7 [(0, .ref v0), (1, .int v1), (2, .int v2)] [] s 0 0 (f_X4_isHopeless_L7 n v0 v1 K m v2 s) := by
  intro m
  induction m with
  | zero => intro v2 s; exact eb_none
  | succ m ih =>
    intro v2 s
    rw [f_X4_isHopeless_L7.eq_2]
    refine eb_iload_n (pc := 7) 2 dX4_isHopeless_7 rfl rfl ?_
    refine eb_iload_n (pc := 8) 1 dX4_isHopeless_8 rfl rfl ?_
    refine eb_icmp_ge (pc := 9) (tgt := 50) dX4_isHopeless_9 (by decide) ?_ ?_
    · refine eb_sub [0, 1] rfl ?_
      exact hK _
    · refine eb_aload_n (pc := 12) 0 dX4_isHopeless_12 rfl rfl ?_
      refine eb_dup (pc := 13) dX4_isHopeless_13 rfl ?_
      refine eb_getI (pc := 14) ef_RX4_23 dX4_isHopeless_14 (fun x2 => ?_)
      refine eb_aload_n (pc := 17) 0 dX4_isHopeless_17 rfl rfl ?_
      refine eb_getR (pc := 18) ef_RX4_30 dX4_isHopeless_18 (fun r3 => ?_)
      refine eb_iload_n (pc := 21) 2 dX4_isHopeless_21 rfl rfl ?_
      refine eb_iaload (pc := 22) dX4_isHopeless_22 (fun x4 => ?_)
      refine eb_aload_n (pc := 23) 0 dX4_isHopeless_23 rfl rfl ?_
      refine eb_getR (pc := 24) ef_RX4_34 dX4_isHopeless_24 (fun r5 => ?_)
      refine eb_getR (pc := 27) ef_RX4_38 dX4_isHopeless_27 (fun r6 => ?_)
      refine eb_iload_n (pc := 30) 2 dX4_isHopeless_30 rfl rfl ?_
      refine eb_iaload (pc := 31) dX4_isHopeless_31 (fun x7 => ?_)
      refine eb_join (fun j10 : Int32 → eb_S → Option (Bool × eb_S) => ∀ (y8 : Int32) (s9 : eb_S), eb_go G yX4_isHopeless cX4_isHopeless 3 (some .boolean) (4) 0 0 .ireturn (fun r : Bool => [.int (eb_b r)]) 40 [(0, .ref v0), (1, .int v1), (2, .int v2)] [.int y8, .int x2, .ref v0] s9 0 0 (j10 y8 s9)) ?_ (fun j10 hj10 => ?_)
      · intro y8 s9
        refine eb_iadd (pc := 40) dX4_isHopeless_40 ?_
        refine eb_putI (pc := 41) ef_RX4_23 eg_RX4_23 dX4_isHopeless_41 (fun s11 => ?_)
        refine eb_iinc (pc := 44) (v := v2 + 1) (L' := [(2, .int (v2 + 1)), (0, .ref v0), (1, .int v1)]) 2 dX4_isHopeless_44 rfl rfl (by decide) rfl ?_
        refine eb_goto (pc := 47) (tgt := 7) dX4_isHopeless_47 (by decide) ?_
        refine eb_sub [1, 2, 0] rfl ?_
        exact ih _ _
      refine eb_icmp_ne (pc := 32) (tgt := 39) dX4_isHopeless_32 (by decide) ?_ ?_
      · refine eb_iconst (pc := 39) (v := 1) dX4_isHopeless_39 (by decide) ?_
        exact hj10 _ _
      · refine eb_iconst (pc := 35) (v := 0) dX4_isHopeless_35 (by decide) ?_
        refine eb_goto (pc := 36) (tgt := 40) dX4_isHopeless_36 (by decide) ?_
        exact hj10 _ _
set_option maxRecDepth 100000 in
theorem gl_X4_isHopeless_L75 {G : eb_G} (hG : eb_ok G) {n : Nat} {v0 : Nat} {v1 : Int32}   : ∀ (m : Nat) (v2 : Int32) (s : eb_S), eb_go G yX4_isHopeless cX4_isHopeless 3 (some .boolean) (4) 0 0 .ireturn (fun r : Bool => [.int (eb_b r)]) 75 [(0, .ref v0), (1, .int v1), (2, .int v2)] [] s 0 0 (f_X4_isHopeless_L75 n v0 v1 m v2 s) := by
  intro m
  induction m with
  | zero => intro v2 s; exact eb_none
  | succ m ih =>
    intro v2 s
    rw [f_X4_isHopeless_L75.eq_2]
    refine eb_iload_n (pc := 75) 2 dX4_isHopeless_75 rfl rfl ?_
    refine eb_aload_n (pc := 76) 0 dX4_isHopeless_76 rfl rfl ?_
    refine eb_getR (pc := 77) ef_RX4_34 dX4_isHopeless_77 (fun r17 => ?_)
    refine eb_getI (pc := 80) ef_RX4_43 dX4_isHopeless_80 (fun x18 => ?_)
    refine eb_icmp_ge (pc := 83) (tgt := 107) dX4_isHopeless_83 (by decide) ?_ ?_
    · refine eb_iconst (pc := 107) (v := 0) dX4_isHopeless_107 (by decide) ?_
      exact eb_bret (pc := 108) (b := false) dX4_isHopeless_108 (by decide) (by decide)
    · refine eb_aload_n (pc := 86) 0 dX4_isHopeless_86 rfl rfl ?_
      refine eb_iload_n (pc := 87) 1 dX4_isHopeless_87 rfl rfl ?_
      refine eb_iload_n (pc := 88) 2 dX4_isHopeless_88 rfl rfl ?_
      refine eb_calli (pc := 89) (eb_runU (pc := 89) (n := 2) (As := [.int v1, .int v2]) (rest := []) (x2 := ⟨RX4, "nearestOff", "(II)I"⟩) (owner := RX6) (ci := 4) (q := (RX4, TX4, 11)) ew_188 ew_189 (fun q hq => by cases hq; exact ew_190) ew_173 ew_140 rfl (by decide +kernel) (ct_X6_nearestOff hG _ _ _ _) rfl ew_174 ⟨by decide, by decide⟩ (by decide) (by decide) (Nat.le_of_ble_eq_true rfl) rfl dX4_isHopeless_89) (fun x20 s19 => ?_)
      refine eb_aload_n (pc := 92) 0 dX4_isHopeless_92 rfl rfl ?_
      refine eb_getI (pc := 93) ef_RX4_20 dX4_isHopeless_93 (fun x21 => ?_)
      refine eb_icmp_le (pc := 96) (tgt := 101) dX4_isHopeless_96 (by decide) ?_ ?_
      · refine eb_iinc (pc := 101) (v := v2 + 1) (L' := [(2, .int (v2 + 1)), (0, .ref v0), (1, .int v1)]) 2 dX4_isHopeless_101 rfl rfl (by decide) rfl ?_
        refine eb_goto (pc := 104) (tgt := 75) dX4_isHopeless_104 (by decide) ?_
        refine eb_sub [1, 2, 0] rfl ?_
        exact ih _ _
      · refine eb_iconst (pc := 99) (v := 1) dX4_isHopeless_99 (by decide) ?_
        exact eb_bret (pc := 100) (b := true) dX4_isHopeless_100 (by decide) (by decide)
set_option maxRecDepth 100000 in
theorem ct_X4_isHopeless {G : eb_G} (hG : eb_ok G) (n : Nat) (v0 : Nat) (v1 : Int32) (s : eb_S) : eb_ct G yX4_isHopeless cX4_isHopeless 3 (some .boolean) 4 0 0 eb_eb [.ref v0, .int v1] s (f_X4_isHopeless n v0 v1 s) := by
  refine eb_ct_b (by decide) (Nat.le_of_ble_eq_true rfl) (fun v hv => by simp at hv; rcases hv with rfl | rfl <;> simp [Value.category]) ?_
  show eb_go G yX4_isHopeless cX4_isHopeless 3 (some .boolean) (4) 0 0 .ireturn (fun r : Bool => [.int (eb_b r)]) 0 [(0, .ref v0), (1, .int v1)] [] s 0 0 _
  unfold f_X4_isHopeless
  refine eb_aload_n (pc := 0) 0 dX4_isHopeless_0 rfl rfl ?_
  refine eb_iconst (pc := 1) (v := 0) dX4_isHopeless_1 (by decide) ?_
  refine eb_putI (pc := 2) ef_RX4_23 eg_RX4_23 dX4_isHopeless_2 (fun s1 => ?_)
  refine eb_iconst (pc := 5) (v := 0) dX4_isHopeless_5 (by decide) ?_
  refine eb_istore_n (pc := 6) (L' := [(2, .int 0), (0, .ref v0), (1, .int v1)]) dX4_isHopeless_6 rfl (by decide) rfl ?_
  refine eb_sub [1, 2, 0] rfl ?_
  refine gl_X4_isHopeless_L7 hG (fun s12 => ?_) n _ _
  refine eb_aload_n (pc := 50) 0 dX4_isHopeless_50 rfl rfl ?_
  refine eb_getI (pc := 51) ef_RX4_7 dX4_isHopeless_51 (fun x13 => ?_)
  refine eb_join (fun j15 : eb_S → Option (Bool × eb_S) => ∀  (s14 : eb_S), eb_go G yX4_isHopeless cX4_isHopeless 3 (some .boolean) (4) 0 0 .ireturn (fun r : Bool => [.int (eb_b r)]) 70 [(0, .ref v0), (1, .int v1)] [] s14 0 0 (j15  s14)) ?_ (fun j15 hj15 => ?_)
  · intro  s14
    refine eb_aload_n (pc := 70) 0 dX4_isHopeless_70 rfl rfl ?_
    refine eb_getI (pc := 71) ef_RX4_17 dX4_isHopeless_71 (fun x16 => ?_)
    refine eb_istore_n (pc := 74) (L' := [(2, .int x16), (0, .ref v0), (1, .int v1)]) dX4_isHopeless_74 rfl (by decide) rfl ?_
    refine eb_sub [1, 2, 0] rfl ?_
    refine gl_X4_isHopeless_L75 hG  n _ _
  refine eb_if_eq (pc := 54) (tgt := 70) dX4_isHopeless_54 (by decide) ?_ ?_
  · exact hj15 _
  · refine eb_aload_n (pc := 57) 0 dX4_isHopeless_57 rfl rfl ?_
    refine eb_getI (pc := 58) ef_RX4_23 dX4_isHopeless_58 (fun x22 => ?_)
    refine eb_aload_n (pc := 61) 0 dX4_isHopeless_61 rfl rfl ?_
    refine eb_getI (pc := 62) ef_RX4_13 dX4_isHopeless_62 (fun x23 => ?_)
    refine eb_icmp_lt (pc := 65) (tgt := 70) dX4_isHopeless_65 (by decide) ?_ ?_
    · exact hj15 _
    · refine eb_iconst (pc := 68) (v := 1) dX4_isHopeless_68 (by decide) ?_
      exact eb_bret (pc := 69) (b := true) dX4_isHopeless_69 (by decide) (by decide)

def f_X5_isHopeless_L2 (n : Nat) (v0 : Nat) (v1 : Int32)  : Nat → Int32 → eb_S → Option (Bool × eb_S)
  | 0, _, _ => none
  | m + 1, v2, s => eb_gR s [5] v0 0 fun r1 => eb_gI s [3] r1 7 fun x2 => if x2 ≤ v2 then (some (false, s)) else (eb_gR s [5] v0 8 fun r3 => eb_al s r3 v2 fun l4 => eb_cl (eb_tg s v0 5 (f_X6_leastOff v0 v1 v2 s)) fun x6 s5 => if (lg_cmp l4 ((x6).toInt64)) < 0 then (some (true, s5)) else (eb_gR s5 [5] v0 8 fun r7 => eb_al s5 r7 v2 fun l8 => eb_cl (eb_tg s5 v0 5 (f_X6_mostOff v0 v1 v2 s5)) fun x10 s9 => if (lg_cmp l8 ((x10).toInt64)) ≤ 0 then (f_X5_isHopeless_L2 n v0 v1 m (v2 + 1) s9) else (some (true, s9))))
def f_X5_isHopeless (n : Nat) (v0 : Nat) (v1 : Int32) (s : eb_S) : Option (Bool × eb_S) := f_X5_isHopeless_L2 n v0 v1  n 0 s
set_option maxRecDepth 100000 in
theorem gl_X5_isHopeless_L2 {G : eb_G} (hG : eb_ok G) {n : Nat} {v0 : Nat} {v1 : Int32}   : ∀ (m : Nat) (v2 : Int32) (s : eb_S), eb_go G yX5_isHopeless cX5_isHopeless 3 (some .boolean) (3) 0 0 .ireturn (fun r : Bool => [.int (eb_b r)]) 2 [(0, .ref v0), (1, .int v1), (2, .int v2)] [] s 0 0 (f_X5_isHopeless_L2 n v0 v1 m v2 s) := by
  intro m
  induction m with
  | zero => intro v2 s; exact eb_none
  | succ m ih =>
    intro v2 s
    rw [f_X5_isHopeless_L2.eq_2]
    refine eb_iload_n (pc := 2) 2 dX5_isHopeless_2 rfl rfl ?_
    refine eb_aload_n (pc := 3) 0 dX5_isHopeless_3 rfl rfl ?_
    refine eb_getR (pc := 4) ef_RX5_26 dX5_isHopeless_4 (fun r1 => ?_)
    refine eb_getI (pc := 7) ef_RX5_30 dX5_isHopeless_7 (fun x2 => ?_)
    refine eb_icmp_ge (pc := 10) (tgt := 55) dX5_isHopeless_10 (by decide) ?_ ?_
    · refine eb_iconst (pc := 55) (v := 0) dX5_isHopeless_55 (by decide) ?_
      exact eb_bret (pc := 56) (b := false) dX5_isHopeless_56 (by decide) (by decide)
    · refine eb_aload_n (pc := 13) 0 dX5_isHopeless_13 rfl rfl ?_
      refine eb_getR (pc := 14) ef_RX5_18 dX5_isHopeless_14 (fun r3 => ?_)
      refine eb_iload_n (pc := 17) 2 dX5_isHopeless_17 rfl rfl ?_
      refine eb_laload (pc := 18) dX5_isHopeless_18 (fun l4 => ?_)
      refine eb_aload_n (pc := 19) 0 dX5_isHopeless_19 rfl rfl ?_
      refine eb_iload_n (pc := 20) 1 dX5_isHopeless_20 rfl rfl ?_
      refine eb_iload_n (pc := 21) 2 dX5_isHopeless_21 rfl rfl ?_
      refine eb_calli (pc := 22) (eb_runU (pc := 22) (n := 2) (As := [.int v1, .int v2]) (rest := [.long l4]) (x2 := ⟨RX5, "leastOff", "(II)I"⟩) (owner := RX6) (ci := 5) (q := (RX5, TX5, 9)) ew_197 ew_198 (fun q hq => by cases hq; exact ew_199) ew_153 ew_140 rfl (by decide +kernel) (ct_X6_leastOff hG _ _ _ _) rfl ew_154 ⟨by decide, by decide⟩ (by decide) (by decide) (Nat.le_of_ble_eq_true rfl) rfl dX5_isHopeless_22) (fun x6 s5 => ?_)
      refine eb_i2l (pc := 25) dX5_isHopeless_25 ?_
      refine eb_lcmp (pc := 26) dX5_isHopeless_26 ?_
      refine eb_if_lt (pc := 27) (tgt := 47) dX5_isHopeless_27 (by decide) ?_ ?_
      · refine eb_iconst (pc := 47) (v := 1) dX5_isHopeless_47 (by decide) ?_
        exact eb_bret (pc := 48) (b := true) dX5_isHopeless_48 (by decide) (by decide)
      · refine eb_aload_n (pc := 30) 0 dX5_isHopeless_30 rfl rfl ?_
        refine eb_getR (pc := 31) ef_RX5_18 dX5_isHopeless_31 (fun r7 => ?_)
        refine eb_iload_n (pc := 34) 2 dX5_isHopeless_34 rfl rfl ?_
        refine eb_laload (pc := 35) dX5_isHopeless_35 (fun l8 => ?_)
        refine eb_aload_n (pc := 36) 0 dX5_isHopeless_36 rfl rfl ?_
        refine eb_iload_n (pc := 37) 1 dX5_isHopeless_37 rfl rfl ?_
        refine eb_iload_n (pc := 38) 2 dX5_isHopeless_38 rfl rfl ?_
        refine eb_calli (pc := 39) (eb_runU (pc := 39) (n := 2) (As := [.int v1, .int v2]) (rest := [.long l8]) (x2 := ⟨RX5, "mostOff", "(II)I"⟩) (owner := RX6) (ci := 5) (q := (RX5, TX5, 9)) ew_200 ew_201 (fun q hq => by cases hq; exact ew_202) ew_160 ew_140 rfl (by decide +kernel) (ct_X6_mostOff hG _ _ _ _) rfl ew_161 ⟨by decide, by decide⟩ (by decide) (by decide) (Nat.le_of_ble_eq_true rfl) rfl dX5_isHopeless_39) (fun x10 s9 => ?_)
        refine eb_i2l (pc := 42) dX5_isHopeless_42 ?_
        refine eb_lcmp (pc := 43) dX5_isHopeless_43 ?_
        refine eb_if_le (pc := 44) (tgt := 49) dX5_isHopeless_44 (by decide) ?_ ?_
        · refine eb_iinc (pc := 49) (v := v2 + 1) (L' := [(2, .int (v2 + 1)), (0, .ref v0), (1, .int v1)]) 2 dX5_isHopeless_49 rfl rfl (by decide) rfl ?_
          refine eb_goto (pc := 52) (tgt := 2) dX5_isHopeless_52 (by decide) ?_
          refine eb_sub [1, 2, 0] rfl ?_
          exact ih _ _
        · refine eb_iconst (pc := 47) (v := 1) dX5_isHopeless_47 (by decide) ?_
          exact eb_bret (pc := 48) (b := true) dX5_isHopeless_48 (by decide) (by decide)
set_option maxRecDepth 100000 in
theorem ct_X5_isHopeless {G : eb_G} (hG : eb_ok G) (n : Nat) (v0 : Nat) (v1 : Int32) (s : eb_S) : eb_ct G yX5_isHopeless cX5_isHopeless 3 (some .boolean) 3 0 0 eb_eb [.ref v0, .int v1] s (f_X5_isHopeless n v0 v1 s) := by
  refine eb_ct_b (by decide) (Nat.le_of_ble_eq_true rfl) (fun v hv => by simp at hv; rcases hv with rfl | rfl <;> simp [Value.category]) ?_
  show eb_go G yX5_isHopeless cX5_isHopeless 3 (some .boolean) (3) 0 0 .ireturn (fun r : Bool => [.int (eb_b r)]) 0 [(0, .ref v0), (1, .int v1)] [] s 0 0 _
  unfold f_X5_isHopeless
  refine eb_iconst (pc := 0) (v := 0) dX5_isHopeless_0 (by decide) ?_
  refine eb_istore_n (pc := 1) (L' := [(2, .int 0), (0, .ref v0), (1, .int v1)]) dX5_isHopeless_1 rfl (by decide) rfl ?_
  refine eb_sub [1, 2, 0] rfl ?_
  refine gl_X5_isHopeless_L2 hG  n _ _

def f_X6_keepRow (v0 : Nat) (s : eb_S) : Option (Unit × eb_S) := eb_gR s [0, 4, 5] v0 1 fun r1 => eb_gR s [0, 4, 5] v0 2 fun r2 => eb_gR s [0, 4, 5] v0 0 fun r3 => eb_gI s [3] r3 1 fun x4 => eb_ci s r1 0 r2 0 x4 fun s5 => some ((), s5)
set_option maxRecDepth 100000 in
theorem ct_X6_keepRow {G : eb_G} (hG : eb_ok G) (v0 : Nat) (s : eb_S) : eb_ct G yX6_keepRow cX6_keepRow 1 none 1 0 0 eb_ev [.ref v0] s (f_X6_keepRow v0 s) := by
  refine eb_ct_v (by decide) (Nat.le_of_ble_eq_true rfl) (fun v hv => by simp at hv; rcases hv with rfl <;> simp [Value.category]) ?_
  show eb_go G yX6_keepRow cX6_keepRow 1 none (1) 0 0 .return_ (fun _ : Unit => []) 0 [(0, .ref v0)] [] s 0 0 _
  unfold f_X6_keepRow
  refine eb_aload_n (pc := 0) 0 dX6_keepRow_0 rfl rfl ?_
  refine eb_getR (pc := 1) ef_RX6_9 dX6_keepRow_1 (fun r1 => ?_)
  refine eb_iconst (pc := 4) (v := 0) dX6_keepRow_4 (by decide) ?_
  refine eb_aload_n (pc := 5) 0 dX6_keepRow_5 rfl rfl ?_
  refine eb_getR (pc := 6) ef_RX6_15 dX6_keepRow_6 (fun r2 => ?_)
  refine eb_iconst (pc := 9) (v := 0) dX6_keepRow_9 (by decide) ?_
  refine eb_aload_n (pc := 10) 0 dX6_keepRow_10 rfl rfl ?_
  refine eb_getR (pc := 11) ef_RX6_28 dX6_keepRow_11 (fun r3 => ?_)
  refine eb_getI (pc := 14) ef_RX6_47 dX6_keepRow_14 (fun x4 => ?_)
  refine eb_copyi (pc := 17) ew_203 ew_62 ew_63 ew_64 (by decide) (Nat.le_of_ble_eq_true rfl) dX6_keepRow_17 (fun s5 => ?_)
  exact eb_vret (pc := 20) dX6_keepRow_20 (by decide) (by decide)

def f_X0_reach (v0 : Nat) (s : eb_S) : Option (Unit × eb_S) := eb_pZ s [0] v0 6 1 fun s1 => eb_gI s1 [0] v0 9 fun x2 => eb_pI s1 [0] v0 7 x2 fun s3 => eb_gI s3 [0] v0 10 fun x4 => eb_pI s3 [0] v0 8 x4 fun s5 => eb_cl (eb_tg s5 v0 0 (f_X6_keepRow v0 s5)) fun _u s6 => some ((), s6)
set_option maxRecDepth 100000 in
theorem ct_X0_reach {G : eb_G} (hG : eb_ok G) (v0 : Nat) (s : eb_S) : eb_ct G yX0_reach cX0_reach 1 none 2 0 0 eb_ev [.ref v0] s (f_X0_reach v0 s) := by
  refine eb_ct_v (by decide) (Nat.le_of_ble_eq_true rfl) (fun v hv => by simp at hv; rcases hv with rfl <;> simp [Value.category]) ?_
  show eb_go G yX0_reach cX0_reach 1 none (2) 0 0 .return_ (fun _ : Unit => []) 0 [(0, .ref v0)] [] s 0 0 _
  unfold f_X0_reach
  refine eb_aload_n (pc := 0) 0 dX0_reach_0 rfl rfl ?_
  refine eb_iconst (pc := 1) (v := 1) dX0_reach_1 (by decide) ?_
  refine eb_putZ (pc := 2) ef_RX0_7 eg_RX0_7 dX0_reach_2 (fun s1 => ?_)
  refine eb_aload_n (pc := 5) 0 dX0_reach_5 rfl rfl ?_
  refine eb_aload_n (pc := 6) 0 dX0_reach_6 rfl rfl ?_
  refine eb_getI (pc := 7) ef_RX0_20 dX0_reach_7 (fun x2 => ?_)
  refine eb_putI (pc := 10) ef_RX0_13 eg_RX0_13 dX0_reach_10 (fun s3 => ?_)
  refine eb_aload_n (pc := 13) 0 dX0_reach_13 rfl rfl ?_
  refine eb_aload_n (pc := 14) 0 dX0_reach_14 rfl rfl ?_
  refine eb_getI (pc := 15) ef_RX0_23 dX0_reach_15 (fun x4 => ?_)
  refine eb_putI (pc := 18) ef_RX0_17 eg_RX0_17 dX0_reach_18 (fun s5 => ?_)
  refine eb_aload_n (pc := 21) 0 dX0_reach_21 rfl rfl ?_
  refine eb_callv (pc := 22) (eb_runU (pc := 22) (n := 0) (As := []) (rest := []) (x2 := ⟨RX0, "keepRow", "()V"⟩) (owner := RX6) (ci := 0) (q := (RX0, TX0, 11)) ew_204 ew_205 (fun q hq => by cases hq; exact ew_206) ew_207 ew_140 rfl (by decide +kernel) (ct_X6_keepRow hG _ _) rfl ew_208 ⟨by decide, by decide⟩ (by decide) (by decide) (Nat.le_of_ble_eq_true rfl) rfl dX0_reach_22) (fun _u s6 => ?_)
  exact eb_vret (pc := 25) dX0_reach_25 (by decide) (by decide)

def f_X4_reach (v0 : Nat) (s : eb_S) : Option (Unit × eb_S) := eb_pZ s [4] v0 6 1 fun s1 => eb_gI s1 [4] v0 10 fun x2 => eb_pI s1 [4] v0 7 x2 fun s3 => eb_cl (eb_tg s3 v0 4 (f_X6_keepRow v0 s3)) fun _u s4 => some ((), s4)
set_option maxRecDepth 100000 in
theorem ct_X4_reach {G : eb_G} (hG : eb_ok G) (v0 : Nat) (s : eb_S) : eb_ct G yX4_reach cX4_reach 1 none 2 0 0 eb_ev [.ref v0] s (f_X4_reach v0 s) := by
  refine eb_ct_v (by decide) (Nat.le_of_ble_eq_true rfl) (fun v hv => by simp at hv; rcases hv with rfl <;> simp [Value.category]) ?_
  show eb_go G yX4_reach cX4_reach 1 none (2) 0 0 .return_ (fun _ : Unit => []) 0 [(0, .ref v0)] [] s 0 0 _
  unfold f_X4_reach
  refine eb_aload_n (pc := 0) 0 dX4_reach_0 rfl rfl ?_
  refine eb_iconst (pc := 1) (v := 1) dX4_reach_1 (by decide) ?_
  refine eb_putZ (pc := 2) ef_RX4_7 eg_RX4_7 dX4_reach_2 (fun s1 => ?_)
  refine eb_aload_n (pc := 5) 0 dX4_reach_5 rfl rfl ?_
  refine eb_aload_n (pc := 6) 0 dX4_reach_6 rfl rfl ?_
  refine eb_getI (pc := 7) ef_RX4_23 dX4_reach_7 (fun x2 => ?_)
  refine eb_putI (pc := 10) ef_RX4_13 eg_RX4_13 dX4_reach_10 (fun s3 => ?_)
  refine eb_aload_n (pc := 13) 0 dX4_reach_13 rfl rfl ?_
  refine eb_callv (pc := 14) (eb_runU (pc := 14) (n := 0) (As := []) (rest := []) (x2 := ⟨RX4, "keepRow", "()V"⟩) (owner := RX6) (ci := 4) (q := (RX4, TX4, 11)) ew_209 ew_210 (fun q hq => by cases hq; exact ew_211) ew_207 ew_140 rfl (by decide +kernel) (ct_X6_keepRow hG _ _) rfl ew_208 ⟨by decide, by decide⟩ (by decide) (by decide) (Nat.le_of_ble_eq_true rfl) rfl dX4_reach_14) (fun _u s4 => ?_)
  exact eb_vret (pc := 17) dX4_reach_17 (by decide) (by decide)

def f_X5_reach_L39 (n : Nat) (v0 : Nat)  : Nat → Int32 → eb_S → Option (Unit × eb_S)
  | 0, _, _ => none
  | m + 1, v1, s => eb_gR s [5] v0 0 fun r6 => eb_gI s [3] r6 1 fun x7 => if x7 ≤ v1 then (some ((), s)) else (eb_gR s [5] v0 1 fun r8 => eb_ai s r8 v1 fun x9 => eb_gR s [5] v0 2 fun r10 => eb_ai s r10 v1 fun x11 => eb_jn (fun (p12 : Int32) (s13 : eb_S) => f_X5_reach_L39 n v0 m (p12 + 1) s13) fun j14 => if x9 = x11 then (j14 v1 s) else (eb_gI s [5] v0 7 fun x15 => eb_pI s [5] v0 7 (x15 &&& (((1 : Int32) <<< (v1 &&& 31)) ^^^ ((-1)))) fun s16 => j14 v1 s16))
def f_X5_reach (n : Nat) (v0 : Nat) (s : eb_S) : Option (Unit × eb_S) := eb_gI s [5] v0 6 fun x1 => eb_pI s [5] v0 6 (x1 + 1) fun s2 => eb_gI s2 [5] v0 6 fun x3 => eb_jn (fun (s4 : eb_S) => f_X5_reach_L39 n v0  n 0 s4) fun j5 => if x3 = 1 then (eb_cl (eb_tg s2 v0 5 (f_X6_keepRow v0 s2)) fun _u s17 => eb_gR s17 [5] v0 0 fun r18 => eb_gI s17 [3] r18 1 fun x19 => eb_pI s17 [5] v0 7 (((1 : Int32) <<< (x19 &&& 31)) - 1) fun s20 => j5 s20) else (j5 s2)
set_option maxRecDepth 100000 in
theorem gl_X5_reach_L39 {G : eb_G} (hG : eb_ok G) {n : Nat} {v0 : Nat}   : ∀ (m : Nat) (v1 : Int32) (s : eb_S), eb_go G yX5_reach cX5_reach 2 none (2) 0 0 .return_ (fun _ : Unit => []) 39 [(0, .ref v0), (1, .int v1)] [] s 0 0 (f_X5_reach_L39 n v0 m v1 s) := by
  intro m
  induction m with
  | zero => intro v1 s; exact eb_none
  | succ m ih =>
    intro v1 s
    rw [f_X5_reach_L39.eq_2]
    refine eb_iload_n (pc := 39) 1 dX5_reach_39 rfl rfl ?_
    refine eb_aload_n (pc := 40) 0 dX5_reach_40 rfl rfl ?_
    refine eb_getR (pc := 41) ef_RX5_26 dX5_reach_41 (fun r6 => ?_)
    refine eb_getI (pc := 44) ef_RX5_45 dX5_reach_44 (fun x7 => ?_)
    refine eb_icmp_ge (pc := 47) (tgt := 85) dX5_reach_47 (by decide) ?_ ?_
    · exact eb_vret (pc := 85) dX5_reach_85 (by decide) (by decide)
    · refine eb_aload_n (pc := 50) 0 dX5_reach_50 rfl rfl ?_
      refine eb_getR (pc := 51) ef_RX5_48 dX5_reach_51 (fun r8 => ?_)
      refine eb_iload_n (pc := 54) 1 dX5_reach_54 rfl rfl ?_
      refine eb_iaload (pc := 55) dX5_reach_55 (fun x9 => ?_)
      refine eb_aload_n (pc := 56) 0 dX5_reach_56 rfl rfl ?_
      refine eb_getR (pc := 57) ef_RX5_52 dX5_reach_57 (fun r10 => ?_)
      refine eb_iload_n (pc := 60) 1 dX5_reach_60 rfl rfl ?_
      refine eb_iaload (pc := 61) dX5_reach_61 (fun x11 => ?_)
      refine eb_join (fun j14 : Int32 → eb_S → Option (Unit × eb_S) => ∀ (p12 : Int32) (s13 : eb_S), eb_go G yX5_reach cX5_reach 2 none (2) 0 0 .return_ (fun _ : Unit => []) 79 [(0, .ref v0), (1, .int p12)] [] s13 0 0 (j14 p12 s13)) ?_ (fun j14 hj14 => ?_)
      · intro p12 s13
        refine eb_iinc (pc := 79) (v := p12 + 1) (L' := [(1, .int (p12 + 1)), (0, .ref v0)]) 1 dX5_reach_79 rfl rfl (by decide) rfl ?_
        refine eb_goto (pc := 82) (tgt := 39) dX5_reach_82 (by decide) ?_
        refine eb_sub [1, 0] rfl ?_
        exact ih _ _
      refine eb_icmp_eq (pc := 62) (tgt := 79) dX5_reach_62 (by decide) ?_ ?_
      · exact hj14 _ _
      · refine eb_aload_n (pc := 65) 0 dX5_reach_65 rfl rfl ?_
        refine eb_dup (pc := 66) dX5_reach_66 rfl ?_
        refine eb_getI (pc := 67) ef_RX5_15 dX5_reach_67 (fun x15 => ?_)
        refine eb_iconst (pc := 70) (v := 1) dX5_reach_70 (by decide) ?_
        refine eb_iload_n (pc := 71) 1 dX5_reach_71 rfl rfl ?_
        refine eb_ishl (pc := 72) dX5_reach_72 ?_
        refine eb_iconst (pc := 73) (v := (-1)) dX5_reach_73 (by decide) ?_
        refine eb_ixor (pc := 74) dX5_reach_74 ?_
        refine eb_iand (pc := 75) dX5_reach_75 ?_
        refine eb_putI (pc := 76) ef_RX5_15 eg_RX5_15 dX5_reach_76 (fun s16 => ?_)
        exact hj14 _ _
set_option maxRecDepth 100000 in
theorem ct_X5_reach {G : eb_G} (hG : eb_ok G) (n : Nat) (v0 : Nat) (s : eb_S) : eb_ct G yX5_reach cX5_reach 2 none 2 0 0 eb_ev [.ref v0] s (f_X5_reach n v0 s) := by
  refine eb_ct_v (by decide) (Nat.le_of_ble_eq_true rfl) (fun v hv => by simp at hv; rcases hv with rfl <;> simp [Value.category]) ?_
  show eb_go G yX5_reach cX5_reach 2 none (2) 0 0 .return_ (fun _ : Unit => []) 0 [(0, .ref v0)] [] s 0 0 _
  unfold f_X5_reach
  refine eb_aload_n (pc := 0) 0 dX5_reach_0 rfl rfl ?_
  refine eb_dup (pc := 1) dX5_reach_1 rfl ?_
  refine eb_getI (pc := 2) ef_RX5_9 dX5_reach_2 (fun x1 => ?_)
  refine eb_iconst (pc := 5) (v := 1) dX5_reach_5 (by decide) ?_
  refine eb_iadd (pc := 6) dX5_reach_6 ?_
  refine eb_putI (pc := 7) ef_RX5_9 eg_RX5_9 dX5_reach_7 (fun s2 => ?_)
  refine eb_aload_n (pc := 10) 0 dX5_reach_10 rfl rfl ?_
  refine eb_getI (pc := 11) ef_RX5_9 dX5_reach_11 (fun x3 => ?_)
  refine eb_iconst (pc := 14) (v := 1) dX5_reach_14 (by decide) ?_
  refine eb_join (fun j5 : eb_S → Option (Unit × eb_S) => ∀  (s4 : eb_S), eb_go G yX5_reach cX5_reach 2 none (2) 0 0 .return_ (fun _ : Unit => []) 37 [(0, .ref v0)] [] s4 0 0 (j5  s4)) ?_ (fun j5 hj5 => ?_)
  · intro  s4
    refine eb_iconst (pc := 37) (v := 0) dX5_reach_37 (by decide) ?_
    refine eb_istore_n (pc := 38) (L' := [(1, .int 0), (0, .ref v0)]) dX5_reach_38 rfl (by decide) rfl ?_
    refine eb_sub [1, 0] rfl ?_
    refine gl_X5_reach_L39 hG  n _ _
  refine eb_icmp_ne (pc := 15) (tgt := 37) dX5_reach_15 (by decide) ?_ ?_
  · exact hj5 _
  · refine eb_aload_n (pc := 18) 0 dX5_reach_18 rfl rfl ?_
    refine eb_callv (pc := 19) (eb_runU (pc := 19) (n := 0) (As := []) (rest := []) (x2 := ⟨RX5, "keepRow", "()V"⟩) (owner := RX6) (ci := 5) (q := (RX5, TX5, 9)) ew_217 ew_218 (fun q hq => by cases hq; exact ew_219) ew_207 ew_140 rfl (by decide +kernel) (ct_X6_keepRow hG _ _) rfl ew_208 ⟨by decide, by decide⟩ (by decide) (by decide) (Nat.le_of_ble_eq_true rfl) rfl dX5_reach_19) (fun _u s17 => ?_)
    refine eb_aload_n (pc := 22) 0 dX5_reach_22 rfl rfl ?_
    refine eb_iconst (pc := 23) (v := 1) dX5_reach_23 (by decide) ?_
    refine eb_aload_n (pc := 24) 0 dX5_reach_24 rfl rfl ?_
    refine eb_getR (pc := 25) ef_RX5_26 dX5_reach_25 (fun r18 => ?_)
    refine eb_getI (pc := 28) ef_RX5_45 dX5_reach_28 (fun x19 => ?_)
    refine eb_ishl (pc := 31) dX5_reach_31 ?_
    refine eb_iconst (pc := 32) (v := 1) dX5_reach_32 (by decide) ?_
    refine eb_isub (pc := 33) dX5_reach_33 ?_
    refine eb_putI (pc := 34) ef_RX5_15 eg_RX5_15 dX5_reach_34 (fun s20 => ?_)
    exact hj5 _

def f_X6_shift_L3 (n : Nat) (v0 : Nat) (v1 : Int32) (v2 : Int32) (v3 : Int32)  : Nat → Int32 → eb_S → Option (Unit × eb_S)
  | 0, _, _ => none
  | m + 1, v4, s => eb_gR s [0, 4, 5] v0 0 fun r1 => eb_gI s [3] r1 7 fun x2 => if x2 ≤ v4 then (some ((), s)) else (eb_gR s [0, 4, 5] v0 3 fun r3 => eb_ai s r3 ((v4 * 3) + v2) fun x4 => eb_cl (eb_ts s v0 [0, 4, 5] (f_X6_loadAhead v0 v1 v4 s)) fun x6 s5 => eb_cl (eb_ts s5 v0 [0, 4, 5] (f_X6_loadAhead v0 (v1 + 1) v4 s5)) fun x8 s7 => eb_wi s7 r3 ((v4 * 3) + v2) (x4 + (v3 * (x6 - x8))) fun s9 => f_X6_shift_L3 n v0 v1 v2 v3 m (v4 + 1) s9)
def f_X6_shift (n : Nat) (v0 : Nat) (v1 : Int32) (v2 : Int32) (v3 : Int32) (s : eb_S) : Option (Unit × eb_S) := f_X6_shift_L3 n v0 v1 v2 v3  n 0 s
set_option maxRecDepth 100000 in
theorem gl_X6_shift_L3 {G : eb_G} (hG : eb_ok G) {n : Nat} {v0 : Nat} {v1 : Int32} {v2 : Int32} {v3 : Int32}   : ∀ (m : Nat) (v4 : Int32) (s : eb_S), eb_go G yX6_shift cX6_shift 5 none (2) 0 0 .return_ (fun _ : Unit => []) 3 [(0, .ref v0), (1, .int v1), (2, .int v2), (3, .int v3), (4, .int v4)] [] s 0 0 (f_X6_shift_L3 n v0 v1 v2 v3 m v4 s) := by
  intro m
  induction m with
  | zero => intro v4 s; exact eb_none
  | succ m ih =>
    intro v4 s
    rw [f_X6_shift_L3.eq_2]
    refine eb_iload (pc := 3) 4 dX6_shift_3 rfl ?_
    refine eb_aload_n (pc := 5) 0 dX6_shift_5 rfl rfl ?_
    refine eb_getR (pc := 6) ef_RX6_28 dX6_shift_6 (fun r1 => ?_)
    refine eb_getI (pc := 9) ef_RX6_50 dX6_shift_9 (fun x2 => ?_)
    refine eb_icmp_ge (pc := 12) (tgt := 54) dX6_shift_12 (by decide) ?_ ?_
    · exact eb_vret (pc := 54) dX6_shift_54 (by decide) (by decide)
    · refine eb_aload_n (pc := 15) 0 dX6_shift_15 rfl rfl ?_
      refine eb_getR (pc := 16) ef_RX6_18 dX6_shift_16 (fun r3 => ?_)
      refine eb_iload (pc := 19) 4 dX6_shift_19 rfl ?_
      refine eb_iconst (pc := 21) (v := 3) dX6_shift_21 (by decide) ?_
      refine eb_imul (pc := 22) dX6_shift_22 ?_
      refine eb_iload_n (pc := 23) 2 dX6_shift_23 rfl rfl ?_
      refine eb_iadd (pc := 24) dX6_shift_24 ?_
      refine eb_dup2 (pc := 25) dX6_shift_25 rfl rfl ?_
      refine eb_iaload (pc := 26) dX6_shift_26 (fun x4 => ?_)
      refine eb_iload_n (pc := 27) 3 dX6_shift_27 rfl rfl ?_
      refine eb_aload_n (pc := 28) 0 dX6_shift_28 rfl rfl ?_
      refine eb_iload_n (pc := 29) 1 dX6_shift_29 rfl rfl ?_
      refine eb_iload (pc := 30) 4 dX6_shift_30 rfl ?_
      refine eb_calli (pc := 32) (eb_runs3s (eb_runU (pc := 32) (n := 2) (As := [.int v1, .int v4]) (rest := [.int v3, .int x4, .int ((v4 * 3) + v2), .ref r3]) (x2 := ⟨RX6, "loadAhead", "(II)I"⟩) (owner := RX6) (ci := 0) (q := (RX0, TX0, 11)) ew_136 ew_137 (fun q hq => by cases hq; exact ew_138) ew_139 ew_140 rfl (by decide +kernel) (ct_X6_loadAhead hG _ _ _ _) rfl ew_141 ⟨by decide, by decide⟩ (by decide) (by decide) (Nat.le_of_ble_eq_true rfl) rfl dX6_shift_32) (eb_runU (pc := 32) (n := 2) (As := [.int v1, .int v4]) (rest := [.int v3, .int x4, .int ((v4 * 3) + v2), .ref r3]) (x2 := ⟨RX6, "loadAhead", "(II)I"⟩) (owner := RX6) (ci := 4) (q := (RX4, TX4, 11)) ew_136 ew_137 (fun q hq => by cases hq; exact ew_142) ew_139 ew_140 rfl (by decide +kernel) (ct_X6_loadAhead hG _ _ _ _) rfl ew_141 ⟨by decide, by decide⟩ (by decide) (by decide) (Nat.le_of_ble_eq_true rfl) rfl dX6_shift_32) (eb_runU (pc := 32) (n := 2) (As := [.int v1, .int v4]) (rest := [.int v3, .int x4, .int ((v4 * 3) + v2), .ref r3]) (x2 := ⟨RX6, "loadAhead", "(II)I"⟩) (owner := RX6) (ci := 5) (q := (RX5, TX5, 9)) ew_136 ew_137 (fun q hq => by cases hq; exact ew_143) ew_139 ew_140 rfl (by decide +kernel) (ct_X6_loadAhead hG _ _ _ _) rfl ew_141 ⟨by decide, by decide⟩ (by decide) (by decide) (Nat.le_of_ble_eq_true rfl) rfl dX6_shift_32)) (fun x6 s5 => ?_)
      refine eb_aload_n (pc := 35) 0 dX6_shift_35 rfl rfl ?_
      refine eb_iload_n (pc := 36) 1 dX6_shift_36 rfl rfl ?_
      refine eb_iconst (pc := 37) (v := 1) dX6_shift_37 (by decide) ?_
      refine eb_iadd (pc := 38) dX6_shift_38 ?_
      refine eb_iload (pc := 39) 4 dX6_shift_39 rfl ?_
      refine eb_calli (pc := 41) (eb_runs3s (eb_runU (pc := 41) (n := 2) (As := [.int (v1 + 1), .int v4]) (rest := [.int x6, .int v3, .int x4, .int ((v4 * 3) + v2), .ref r3]) (x2 := ⟨RX6, "loadAhead", "(II)I"⟩) (owner := RX6) (ci := 0) (q := (RX0, TX0, 11)) ew_136 ew_137 (fun q hq => by cases hq; exact ew_138) ew_139 ew_140 rfl (by decide +kernel) (ct_X6_loadAhead hG _ _ _ _) rfl ew_141 ⟨by decide, by decide⟩ (by decide) (by decide) (Nat.le_of_ble_eq_true rfl) rfl dX6_shift_41) (eb_runU (pc := 41) (n := 2) (As := [.int (v1 + 1), .int v4]) (rest := [.int x6, .int v3, .int x4, .int ((v4 * 3) + v2), .ref r3]) (x2 := ⟨RX6, "loadAhead", "(II)I"⟩) (owner := RX6) (ci := 4) (q := (RX4, TX4, 11)) ew_136 ew_137 (fun q hq => by cases hq; exact ew_142) ew_139 ew_140 rfl (by decide +kernel) (ct_X6_loadAhead hG _ _ _ _) rfl ew_141 ⟨by decide, by decide⟩ (by decide) (by decide) (Nat.le_of_ble_eq_true rfl) rfl dX6_shift_41) (eb_runU (pc := 41) (n := 2) (As := [.int (v1 + 1), .int v4]) (rest := [.int x6, .int v3, .int x4, .int ((v4 * 3) + v2), .ref r3]) (x2 := ⟨RX6, "loadAhead", "(II)I"⟩) (owner := RX6) (ci := 5) (q := (RX5, TX5, 9)) ew_136 ew_137 (fun q hq => by cases hq; exact ew_143) ew_139 ew_140 rfl (by decide +kernel) (ct_X6_loadAhead hG _ _ _ _) rfl ew_141 ⟨by decide, by decide⟩ (by decide) (by decide) (Nat.le_of_ble_eq_true rfl) rfl dX6_shift_41)) (fun x8 s7 => ?_)
      refine eb_isub (pc := 44) dX6_shift_44 ?_
      refine eb_imul (pc := 45) dX6_shift_45 ?_
      refine eb_iadd (pc := 46) dX6_shift_46 ?_
      refine eb_iastore (pc := 47) dX6_shift_47 (fun s9 => ?_)
      refine eb_iinc (pc := 48) (v := v4 + 1) (L' := [(4, .int (v4 + 1)), (0, .ref v0), (1, .int v1), (2, .int v2), (3, .int v3)]) 4 dX6_shift_48 rfl rfl (by decide) rfl ?_
      refine eb_goto (pc := 51) (tgt := 3) dX6_shift_51 (by decide) ?_
      refine eb_sub [1, 2, 3, 4, 0] rfl ?_
      exact ih _ _
set_option maxRecDepth 100000 in
theorem ct_X6_shift {G : eb_G} (hG : eb_ok G) (n : Nat) (v0 : Nat) (v1 : Int32) (v2 : Int32) (v3 : Int32) (s : eb_S) : eb_ct G yX6_shift cX6_shift 5 none 2 0 0 eb_ev [.ref v0, .int v1, .int v2, .int v3] s (f_X6_shift n v0 v1 v2 v3 s) := by
  refine eb_ct_v (by decide) (Nat.le_of_ble_eq_true rfl) (fun v hv => by simp at hv; rcases hv with rfl | rfl | rfl | rfl <;> simp [Value.category]) ?_
  show eb_go G yX6_shift cX6_shift 5 none (2) 0 0 .return_ (fun _ : Unit => []) 0 [(0, .ref v0), (1, .int v1), (2, .int v2), (3, .int v3)] [] s 0 0 _
  unfold f_X6_shift
  refine eb_iconst (pc := 0) (v := 0) dX6_shift_0 (by decide) ?_
  refine eb_istore (pc := 1) (L' := [(4, .int 0), (0, .ref v0), (1, .int v1), (2, .int v2), (3, .int v3)]) dX6_shift_1 (by decide) rfl ?_
  refine eb_sub [1, 2, 3, 4, 0] rfl ?_
  refine gl_X6_shift_L3 hG  n _ _

def f_X6_stillHolds_L2 (n : Nat) (v0 : Nat) (v1 : Int32)  : Nat → Int32 → eb_S → Option (Bool × eb_S)
  | 0, _, _ => none
  | m + 1, v2, s => eb_gR s [0, 4, 5] v0 0 fun r1 => eb_gI s [3] r1 7 fun x2 => if x2 ≤ v2 then (some (true, s)) else (eb_gR s [0, 4, 5] v0 3 fun r3 => eb_ai s r3 ((v2 * 3) + v1) fun x4 => eb_gR s [0, 4, 5] v0 0 fun r5 => eb_gR s [3] r5 10 fun r6 => eb_ai s r6 v1 fun x7 => if x4 ≤ x7 then (f_X6_stillHolds_L2 n v0 v1 m (v2 + 1) s) else (some (false, s)))
def f_X6_stillHolds (n : Nat) (v0 : Nat) (v1 : Int32) (s : eb_S) : Option (Bool × eb_S) := f_X6_stillHolds_L2 n v0 v1  n 0 s
set_option maxRecDepth 100000 in
theorem gl_X6_stillHolds_L2 {G : eb_G} (hG : eb_ok G) {n : Nat} {v0 : Nat} {v1 : Int32}   : ∀ (m : Nat) (v2 : Int32) (s : eb_S), eb_go G yX6_stillHolds cX6_stillHolds 3 (some .boolean) (1) 0 0 .ireturn (fun r : Bool => [.int (eb_b r)]) 2 [(0, .ref v0), (1, .int v1), (2, .int v2)] [] s 0 0 (f_X6_stillHolds_L2 n v0 v1 m v2 s) := by
  intro m
  induction m with
  | zero => intro v2 s; exact eb_none
  | succ m ih =>
    intro v2 s
    rw [f_X6_stillHolds_L2.eq_2]
    refine eb_iload_n (pc := 2) 2 dX6_stillHolds_2 rfl rfl ?_
    refine eb_aload_n (pc := 3) 0 dX6_stillHolds_3 rfl rfl ?_
    refine eb_getR (pc := 4) ef_RX6_28 dX6_stillHolds_4 (fun r1 => ?_)
    refine eb_getI (pc := 7) ef_RX6_50 dX6_stillHolds_7 (fun x2 => ?_)
    refine eb_icmp_ge (pc := 10) (tgt := 43) dX6_stillHolds_10 (by decide) ?_ ?_
    · refine eb_iconst (pc := 43) (v := 1) dX6_stillHolds_43 (by decide) ?_
      exact eb_bret (pc := 44) (b := true) dX6_stillHolds_44 (by decide) (by decide)
    · refine eb_aload_n (pc := 13) 0 dX6_stillHolds_13 rfl rfl ?_
      refine eb_getR (pc := 14) ef_RX6_18 dX6_stillHolds_14 (fun r3 => ?_)
      refine eb_iload_n (pc := 17) 2 dX6_stillHolds_17 rfl rfl ?_
      refine eb_iconst (pc := 18) (v := 3) dX6_stillHolds_18 (by decide) ?_
      refine eb_imul (pc := 19) dX6_stillHolds_19 ?_
      refine eb_iload_n (pc := 20) 1 dX6_stillHolds_20 rfl rfl ?_
      refine eb_iadd (pc := 21) dX6_stillHolds_21 ?_
      refine eb_iaload (pc := 22) dX6_stillHolds_22 (fun x4 => ?_)
      refine eb_aload_n (pc := 23) 0 dX6_stillHolds_23 rfl rfl ?_
      refine eb_getR (pc := 24) ef_RX6_28 dX6_stillHolds_24 (fun r5 => ?_)
      refine eb_getR (pc := 27) ef_RX6_81 dX6_stillHolds_27 (fun r6 => ?_)
      refine eb_iload_n (pc := 30) 1 dX6_stillHolds_30 rfl rfl ?_
      refine eb_iaload (pc := 31) dX6_stillHolds_31 (fun x7 => ?_)
      refine eb_icmp_le (pc := 32) (tgt := 37) dX6_stillHolds_32 (by decide) ?_ ?_
      · refine eb_iinc (pc := 37) (v := v2 + 1) (L' := [(2, .int (v2 + 1)), (0, .ref v0), (1, .int v1)]) 2 dX6_stillHolds_37 rfl rfl (by decide) rfl ?_
        refine eb_goto (pc := 40) (tgt := 2) dX6_stillHolds_40 (by decide) ?_
        refine eb_sub [1, 2, 0] rfl ?_
        exact ih _ _
      · refine eb_iconst (pc := 35) (v := 0) dX6_stillHolds_35 (by decide) ?_
        exact eb_bret (pc := 36) (b := false) dX6_stillHolds_36 (by decide) (by decide)
set_option maxRecDepth 100000 in
theorem ct_X6_stillHolds {G : eb_G} (hG : eb_ok G) (n : Nat) (v0 : Nat) (v1 : Int32) (s : eb_S) : eb_ct G yX6_stillHolds cX6_stillHolds 3 (some .boolean) 1 0 0 eb_eb [.ref v0, .int v1] s (f_X6_stillHolds n v0 v1 s) := by
  refine eb_ct_b (by decide) (Nat.le_of_ble_eq_true rfl) (fun v hv => by simp at hv; rcases hv with rfl | rfl <;> simp [Value.category]) ?_
  show eb_go G yX6_stillHolds cX6_stillHolds 3 (some .boolean) (1) 0 0 .ireturn (fun r : Bool => [.int (eb_b r)]) 0 [(0, .ref v0), (1, .int v1)] [] s 0 0 _
  unfold f_X6_stillHolds
  refine eb_iconst (pc := 0) (v := 0) dX6_stillHolds_0 (by decide) ?_
  refine eb_istore_n (pc := 1) (L' := [(2, .int 0), (0, .ref v0), (1, .int v1)]) dX6_stillHolds_1 rfl (by decide) rfl ?_
  refine eb_sub [1, 2, 0] rfl ?_
  refine gl_X6_stillHolds_L2 hG  n _ _

def f_X6_place_L27 (n : Nat) (P : Nat → Int32 → eb_S → Option (Unit × eb_S)) (v0 : Nat) (v1 : Int32)  : Nat → Int32 → eb_S → Option (Unit × eb_S)
  | 0, _, _ => none
  | m + 1, v2, s => if 3 ≤ v2 then (some ((), s)) else (eb_gR s [0, 4, 5] v0 1 fun r5 => eb_wi s r5 v1 v2 fun s6 => eb_gR s6 [0, 4, 5] v0 0 fun r7 => eb_gR s6 [0, 4, 5] v0 1 fun r8 => eb_cl (eb_tg s6 r7 3 (f_X3_keepsLaws n r7 r8 v1 s6)) fun b10 s9 => eb_jn (fun (p11 : Int32) (s12 : eb_S) => f_X6_place_L27 n P v0 v1 m (p11 + 1) s12) fun j13 => if (eb_b b10) = 0 then (j13 v2 s9) else (eb_gR s9 [0, 4, 5] v0 0 fun r14 => eb_gR s9 [0, 4, 5] v0 1 fun r15 => eb_cl (eb_tg s9 r14 3 (f_X3_liesSoftly n r14 r15 v1 s9)) fun b17 s16 => if (eb_b b17) = 0 then (j13 v2 s16) else (eb_cl (eb_ts s16 v0 [0, 4, 5] (f_X6_shift n v0 v1 v2 1 s16)) fun _u s18 => eb_cl (eb_ts s18 v0 [0, 4, 5] (f_X6_stillHolds n v0 v2 s18)) fun b20 s19 => eb_jn (fun (s21 : eb_S) => eb_cl (eb_ts s21 v0 [0, 4, 5] (f_X6_shift n v0 v1 v2 ((-1)) s21)) fun _u s23 => j13 v2 s23) fun j22 => if (eb_b b20) = 0 then (j22 s19) else (eb_cl (eb_ts s19 v0 [0, 4, 5] (P v0 (v1 + 1) s19)) fun _u s24 => j22 s24))))
def f_X6_place (n : Nat) : Nat → Nat → Int32 → eb_S → Option (Unit × eb_S)
  | 0, _, _, _ => none
  | d + 1, v0, v1, s => eb_cl (eb_d3 s v0 0 4 5 (f_X0_isHopeless n v0 v1 s) (f_X4_isHopeless n v0 v1 s) (f_X5_isHopeless n v0 v1 s)) fun b2 s1 => if (eb_b b2) = 0 then (eb_gR s1 [0, 4, 5] v0 0 fun r3 => eb_gI s1 [3] r3 1 fun x4 => if v1 < x4 then (f_X6_place_L27 n (f_X6_place n d) v0 v1  n 0 s1) else (eb_cl (eb_d3 s1 v0 0 4 5 (f_X0_reach v0 s1) (f_X4_reach v0 s1) (f_X5_reach n v0 s1)) fun _u s25 => some ((), s25))) else (some ((), s1))
set_option maxRecDepth 100000 in
theorem gl_X6_place_L27 {G : eb_G} (hG : eb_ok G) {n : Nat} {d : Nat} {P : Nat → Int32 → eb_S → Option (Unit × eb_S)} (hP : ∀ (v0 : Nat) (v1 : Int32) (s : eb_S), eb_ct G yX6_place cX6_place 3 none (5 + d) 0 0 eb_ev [.ref v0, .int v1] s (P v0 v1 s)) {v0 : Nat} {v1 : Int32}   : ∀ (m : Nat) (v2 : Int32) (s : eb_S), eb_go G yX6_place cX6_place 3 none (5 + (d + 1)) 0 0 .return_ (fun _ : Unit => []) 27 [(0, .ref v0), (1, .int v1), (2, .int v2)] [] s 0 0 (f_X6_place_L27 n P v0 v1 m v2 s) := by
  intro m
  induction m with
  | zero => intro v2 s; exact eb_none
  | succ m ih =>
    intro v2 s
    rw [f_X6_place_L27.eq_2]
    refine eb_iload_n (pc := 27) 2 dX6_place_27 rfl rfl ?_
    refine eb_iconst (pc := 28) (v := 3) dX6_place_28 (by decide) ?_
    refine eb_icmp_ge (pc := 29) (tgt := 104) dX6_place_29 (by decide) ?_ ?_
    · exact eb_vret (pc := 104) dX6_place_104 (by decide) (by decide)
    · refine eb_aload_n (pc := 32) 0 dX6_place_32 rfl rfl ?_
      refine eb_getR (pc := 33) ef_RX6_9 dX6_place_33 (fun r5 => ?_)
      refine eb_iload_n (pc := 36) 1 dX6_place_36 rfl rfl ?_
      refine eb_iload_n (pc := 37) 2 dX6_place_37 rfl rfl ?_
      refine eb_iastore (pc := 38) dX6_place_38 (fun s6 => ?_)
      refine eb_aload_n (pc := 39) 0 dX6_place_39 rfl rfl ?_
      refine eb_getR (pc := 40) ef_RX6_28 dX6_place_40 (fun r7 => ?_)
      refine eb_aload_n (pc := 43) 0 dX6_place_43 rfl rfl ?_
      refine eb_getR (pc := 44) ef_RX6_9 dX6_place_44 (fun r8 => ?_)
      refine eb_iload_n (pc := 47) 1 dX6_place_47 rfl rfl ?_
      refine eb_callb (pc := 48) (eb_runV (pc := 48) (As := [.ref r8, .int v1]) (rest := []) (ci := 3) (q0 := (RX3, TX3, 20)) (q := (RX3, TX3, 20)) ew_235 ew_108 ew_109 ew_68 rfl rfl ed_X3_keepsLaws (ct_X3_keepsLaws hG n _ _ _ _) rfl ew_110 ⟨by omega, by decide⟩ (by decide) (by decide) (Nat.le_of_ble_eq_true rfl) rfl dX6_place_48) (fun b10 s9 => ?_)
      refine eb_join (fun j13 : Int32 → eb_S → Option (Unit × eb_S) => ∀ (p11 : Int32) (s12 : eb_S), eb_go G yX6_place cX6_place 3 none (5 + (d + 1)) 0 0 .return_ (fun _ : Unit => []) 98 [(0, .ref v0), (1, .int v1), (2, .int p11)] [] s12 0 0 (j13 p11 s12)) ?_ (fun j13 hj13 => ?_)
      · intro p11 s12
        refine eb_iinc (pc := 98) (v := p11 + 1) (L' := [(2, .int (p11 + 1)), (0, .ref v0), (1, .int v1)]) 2 dX6_place_98 rfl rfl (by decide) rfl ?_
        refine eb_goto (pc := 101) (tgt := 27) dX6_place_101 (by decide) ?_
        refine eb_sub [1, 2, 0] rfl ?_
        exact ih _ _
      refine eb_if_eq (pc := 51) (tgt := 98) dX6_place_51 (by decide) ?_ ?_
      · exact hj13 _ _
      · refine eb_aload_n (pc := 54) 0 dX6_place_54 rfl rfl ?_
        refine eb_getR (pc := 55) ef_RX6_28 dX6_place_55 (fun r14 => ?_)
        refine eb_aload_n (pc := 58) 0 dX6_place_58 rfl rfl ?_
        refine eb_getR (pc := 59) ef_RX6_9 dX6_place_59 (fun r15 => ?_)
        refine eb_iload_n (pc := 62) 1 dX6_place_62 rfl rfl ?_
        refine eb_callb (pc := 63) (eb_runV (pc := 63) (As := [.ref r15, .int v1]) (rest := []) (ci := 3) (q0 := (RX3, TX3, 20)) (q := (RX3, TX3, 20)) ew_236 ew_112 ew_113 ew_68 rfl rfl ed_X3_liesSoftly (ct_X3_liesSoftly hG n _ _ _ _) rfl ew_114 ⟨by omega, by decide⟩ (by decide) (by decide) (Nat.le_of_ble_eq_true rfl) rfl dX6_place_63) (fun b17 s16 => ?_)
        refine eb_if_eq (pc := 66) (tgt := 98) dX6_place_66 (by decide) ?_ ?_
        · exact hj13 _ _
        · refine eb_aload_n (pc := 69) 0 dX6_place_69 rfl rfl ?_
          refine eb_iload_n (pc := 70) 1 dX6_place_70 rfl rfl ?_
          refine eb_iload_n (pc := 71) 2 dX6_place_71 rfl rfl ?_
          refine eb_iconst (pc := 72) (v := 1) dX6_place_72 (by decide) ?_
          refine eb_callv (pc := 73) (eb_runs3s (eb_runU (pc := 73) (n := 3) (As := [.int v1, .int v2, .int 1]) (rest := []) (x2 := ⟨RX6, "shift", "(III)V"⟩) (owner := RX6) (ci := 0) (q := (RX0, TX0, 11)) ew_237 ew_238 (fun q hq => by cases hq; exact ew_239) ew_240 ew_140 rfl (by decide +kernel) (ct_X6_shift hG n _ _ _ _ _) rfl ew_241 ⟨by omega, by decide⟩ (by decide) (by decide) (Nat.le_of_ble_eq_true rfl) rfl dX6_place_73) (eb_runU (pc := 73) (n := 3) (As := [.int v1, .int v2, .int 1]) (rest := []) (x2 := ⟨RX6, "shift", "(III)V"⟩) (owner := RX6) (ci := 4) (q := (RX4, TX4, 11)) ew_237 ew_238 (fun q hq => by cases hq; exact ew_242) ew_240 ew_140 rfl (by decide +kernel) (ct_X6_shift hG n _ _ _ _ _) rfl ew_241 ⟨by omega, by decide⟩ (by decide) (by decide) (Nat.le_of_ble_eq_true rfl) rfl dX6_place_73) (eb_runU (pc := 73) (n := 3) (As := [.int v1, .int v2, .int 1]) (rest := []) (x2 := ⟨RX6, "shift", "(III)V"⟩) (owner := RX6) (ci := 5) (q := (RX5, TX5, 9)) ew_237 ew_238 (fun q hq => by cases hq; exact ew_243) ew_240 ew_140 rfl (by decide +kernel) (ct_X6_shift hG n _ _ _ _ _) rfl ew_241 ⟨by omega, by decide⟩ (by decide) (by decide) (Nat.le_of_ble_eq_true rfl) rfl dX6_place_73)) (fun _u s18 => ?_)
          refine eb_aload_n (pc := 76) 0 dX6_place_76 rfl rfl ?_
          refine eb_iload_n (pc := 77) 2 dX6_place_77 rfl rfl ?_
          refine eb_callb (pc := 78) (eb_runs3s (eb_runU (pc := 78) (n := 1) (As := [.int v2]) (rest := []) (x2 := ⟨RX6, "stillHolds", "(I)Z"⟩) (owner := RX6) (ci := 0) (q := (RX0, TX0, 11)) ew_244 ew_245 (fun q hq => by cases hq; exact ew_246) ew_247 ew_140 rfl (by decide +kernel) (ct_X6_stillHolds hG n _ _ _) rfl ew_248 ⟨by omega, by decide⟩ (by decide) (by decide) (Nat.le_of_ble_eq_true rfl) rfl dX6_place_78) (eb_runU (pc := 78) (n := 1) (As := [.int v2]) (rest := []) (x2 := ⟨RX6, "stillHolds", "(I)Z"⟩) (owner := RX6) (ci := 4) (q := (RX4, TX4, 11)) ew_244 ew_245 (fun q hq => by cases hq; exact ew_249) ew_247 ew_140 rfl (by decide +kernel) (ct_X6_stillHolds hG n _ _ _) rfl ew_248 ⟨by omega, by decide⟩ (by decide) (by decide) (Nat.le_of_ble_eq_true rfl) rfl dX6_place_78) (eb_runU (pc := 78) (n := 1) (As := [.int v2]) (rest := []) (x2 := ⟨RX6, "stillHolds", "(I)Z"⟩) (owner := RX6) (ci := 5) (q := (RX5, TX5, 9)) ew_244 ew_245 (fun q hq => by cases hq; exact ew_250) ew_247 ew_140 rfl (by decide +kernel) (ct_X6_stillHolds hG n _ _ _) rfl ew_248 ⟨by omega, by decide⟩ (by decide) (by decide) (Nat.le_of_ble_eq_true rfl) rfl dX6_place_78)) (fun b20 s19 => ?_)
          refine eb_join (fun j22 : eb_S → Option (Unit × eb_S) => ∀  (s21 : eb_S), eb_go G yX6_place cX6_place 3 none (5 + (d + 1)) 0 0 .return_ (fun _ : Unit => []) 91 [(0, .ref v0), (1, .int v1), (2, .int v2)] [] s21 0 0 (j22  s21)) ?_ (fun j22 hj22 => ?_)
          · intro  s21
            refine eb_aload_n (pc := 91) 0 dX6_place_91 rfl rfl ?_
            refine eb_iload_n (pc := 92) 1 dX6_place_92 rfl rfl ?_
            refine eb_iload_n (pc := 93) 2 dX6_place_93 rfl rfl ?_
            refine eb_iconst (pc := 94) (v := (-1)) dX6_place_94 (by decide) ?_
            refine eb_callv (pc := 95) (eb_runs3s (eb_runU (pc := 95) (n := 3) (As := [.int v1, .int v2, .int ((-1))]) (rest := []) (x2 := ⟨RX6, "shift", "(III)V"⟩) (owner := RX6) (ci := 0) (q := (RX0, TX0, 11)) ew_237 ew_238 (fun q hq => by cases hq; exact ew_239) ew_240 ew_140 rfl (by decide +kernel) (ct_X6_shift hG n _ _ _ _ _) rfl ew_241 ⟨by omega, by decide⟩ (by decide) (by decide) (Nat.le_of_ble_eq_true rfl) rfl dX6_place_95) (eb_runU (pc := 95) (n := 3) (As := [.int v1, .int v2, .int ((-1))]) (rest := []) (x2 := ⟨RX6, "shift", "(III)V"⟩) (owner := RX6) (ci := 4) (q := (RX4, TX4, 11)) ew_237 ew_238 (fun q hq => by cases hq; exact ew_242) ew_240 ew_140 rfl (by decide +kernel) (ct_X6_shift hG n _ _ _ _ _) rfl ew_241 ⟨by omega, by decide⟩ (by decide) (by decide) (Nat.le_of_ble_eq_true rfl) rfl dX6_place_95) (eb_runU (pc := 95) (n := 3) (As := [.int v1, .int v2, .int ((-1))]) (rest := []) (x2 := ⟨RX6, "shift", "(III)V"⟩) (owner := RX6) (ci := 5) (q := (RX5, TX5, 9)) ew_237 ew_238 (fun q hq => by cases hq; exact ew_243) ew_240 ew_140 rfl (by decide +kernel) (ct_X6_shift hG n _ _ _ _ _) rfl ew_241 ⟨by omega, by decide⟩ (by decide) (by decide) (Nat.le_of_ble_eq_true rfl) rfl dX6_place_95)) (fun _u s23 => ?_)
            exact hj13 _ _
          refine eb_if_eq (pc := 81) (tgt := 91) dX6_place_81 (by decide) ?_ ?_
          · exact hj22 _
          · refine eb_aload_n (pc := 84) 0 dX6_place_84 rfl rfl ?_
            refine eb_iload_n (pc := 85) 1 dX6_place_85 rfl rfl ?_
            refine eb_iconst (pc := 86) (v := 1) dX6_place_86 (by decide) ?_
            refine eb_iadd (pc := 87) dX6_place_87 ?_
            refine eb_callv (pc := 88) (eb_runs3s (eb_runU (pc := 88) (n := 1) (As := [.int (v1 + 1)]) (rest := []) (x2 := ⟨RX6, "place", "(I)V"⟩) (owner := RX6) (ci := 0) (q := (RX0, TX0, 11)) ew_251 ew_252 (fun q hq => by cases hq; exact ew_253) ew_254 ew_140 rfl (by decide +kernel) (hP _ _ _) rfl ew_255 ⟨by omega, by decide⟩ (by decide) (by decide) (Nat.le_of_ble_eq_true rfl) rfl dX6_place_88) (eb_runU (pc := 88) (n := 1) (As := [.int (v1 + 1)]) (rest := []) (x2 := ⟨RX6, "place", "(I)V"⟩) (owner := RX6) (ci := 4) (q := (RX4, TX4, 11)) ew_251 ew_252 (fun q hq => by cases hq; exact ew_256) ew_254 ew_140 rfl (by decide +kernel) (hP _ _ _) rfl ew_255 ⟨by omega, by decide⟩ (by decide) (by decide) (Nat.le_of_ble_eq_true rfl) rfl dX6_place_88) (eb_runU (pc := 88) (n := 1) (As := [.int (v1 + 1)]) (rest := []) (x2 := ⟨RX6, "place", "(I)V"⟩) (owner := RX6) (ci := 5) (q := (RX5, TX5, 9)) ew_251 ew_252 (fun q hq => by cases hq; exact ew_257) ew_254 ew_140 rfl (by decide +kernel) (hP _ _ _) rfl ew_255 ⟨by omega, by decide⟩ (by decide) (by decide) (Nat.le_of_ble_eq_true rfl) rfl dX6_place_88)) (fun _u s24 => ?_)
            exact hj22 _
set_option maxRecDepth 100000 in
theorem ct_X6_place {G : eb_G} (hG : eb_ok G) (n : Nat) : ∀ (d : Nat) (v0 : Nat) (v1 : Int32) (s : eb_S), eb_ct G yX6_place cX6_place 3 none (5 + d) 0 0 eb_ev [.ref v0, .int v1] s (f_X6_place n d v0 v1 s) := by
  intro d
  induction d with
  | zero => intro v0 v1 s out ho; cases ho
  | succ d ihd =>
    intro v0 v1 s
    refine eb_ct_v (by decide) (Nat.le_of_ble_eq_true rfl) (fun v hv => by simp at hv; rcases hv with rfl | rfl <;> simp [Value.category]) ?_
    show eb_go G yX6_place cX6_place 3 none (5 + (d + 1)) 0 0 .return_ (fun _ : Unit => []) 0 [(0, .ref v0), (1, .int v1)] [] s 0 0 _
    rw [f_X6_place.eq_2]
    refine eb_aload_n (pc := 0) 0 dX6_place_0 rfl rfl ?_
    refine eb_iload_n (pc := 1) 1 dX6_place_1 rfl rfl ?_
    refine eb_callb (pc := 2) (eb_runs3 (eb_runO (pc := 2) (n := 1) (As := [.int v1]) (rest := []) (x2 := ⟨RX6, "isHopeless", "(I)Z"⟩) (owner := RX6) (ci := 0) (q := (RX0, TX0, 11)) (by decide +kernel) ew_221 ew_222 (fun q hq => by cases hq; exact ew_223) ew_224 ew_225 (by decide +kernel) (ct_X0_isHopeless hG n _ _ _) rfl ew_226 ⟨by omega, by decide⟩ (by decide) (by decide) (Nat.le_of_ble_eq_true rfl) rfl dX6_place_2) (eb_runO (pc := 2) (n := 1) (As := [.int v1]) (rest := []) (x2 := ⟨RX6, "isHopeless", "(I)Z"⟩) (owner := RX6) (ci := 4) (q := (RX4, TX4, 11)) (by decide +kernel) ew_221 ew_222 (fun q hq => by cases hq; exact ew_227) ew_228 ew_229 (by decide +kernel) (ct_X4_isHopeless hG n _ _ _) rfl ew_230 ⟨by omega, by decide⟩ (by decide) (by decide) (Nat.le_of_ble_eq_true rfl) rfl dX6_place_2) (eb_runO (pc := 2) (n := 1) (As := [.int v1]) (rest := []) (x2 := ⟨RX6, "isHopeless", "(I)Z"⟩) (owner := RX6) (ci := 5) (q := (RX5, TX5, 9)) (by decide +kernel) ew_221 ew_222 (fun q hq => by cases hq; exact ew_231) ew_232 ew_233 (by decide +kernel) (ct_X5_isHopeless hG n _ _ _) rfl ew_234 ⟨by omega, by decide⟩ (by decide) (by decide) (Nat.le_of_ble_eq_true rfl) rfl dX6_place_2)) (fun b2 s1 => ?_)
    refine eb_if_eq (pc := 5) (tgt := 9) dX6_place_5 (by decide) ?_ ?_
    · refine eb_iload_n (pc := 9) 1 dX6_place_9 rfl rfl ?_
      refine eb_aload_n (pc := 10) 0 dX6_place_10 rfl rfl ?_
      refine eb_getR (pc := 11) ef_RX6_28 dX6_place_11 (fun r3 => ?_)
      refine eb_getI (pc := 14) ef_RX6_47 dX6_place_14 (fun x4 => ?_)
      refine eb_icmp_lt (pc := 17) (tgt := 25) dX6_place_17 (by decide) ?_ ?_
      · refine eb_iconst (pc := 25) (v := 0) dX6_place_25 (by decide) ?_
        refine eb_istore_n (pc := 26) (L' := [(2, .int 0), (0, .ref v0), (1, .int v1)]) dX6_place_26 rfl (by decide) rfl ?_
        refine eb_sub [1, 2, 0] rfl ?_
        refine gl_X6_place_L27 hG ihd  n _ _
      · refine eb_aload_n (pc := 20) 0 dX6_place_20 rfl rfl ?_
        refine eb_callv (pc := 21) (eb_runs3 (eb_runO (pc := 21) (n := 0) (As := []) (rest := []) (x2 := ⟨RX6, "reach", "()V"⟩) (owner := RX6) (ci := 0) (q := (RX0, TX0, 11)) (by decide +kernel) ew_258 ew_259 (fun q hq => by cases hq; exact ew_260) ew_261 ew_225 (by decide +kernel) (ct_X0_reach hG _ _) rfl ew_262 ⟨by omega, by decide⟩ (by decide) (by decide) (Nat.le_of_ble_eq_true rfl) rfl dX6_place_21) (eb_runO (pc := 21) (n := 0) (As := []) (rest := []) (x2 := ⟨RX6, "reach", "()V"⟩) (owner := RX6) (ci := 4) (q := (RX4, TX4, 11)) (by decide +kernel) ew_258 ew_259 (fun q hq => by cases hq; exact ew_263) ew_264 ew_229 (by decide +kernel) (ct_X4_reach hG _ _) rfl ew_265 ⟨by omega, by decide⟩ (by decide) (by decide) (Nat.le_of_ble_eq_true rfl) rfl dX6_place_21) (eb_runO (pc := 21) (n := 0) (As := []) (rest := []) (x2 := ⟨RX6, "reach", "()V"⟩) (owner := RX6) (ci := 5) (q := (RX5, TX5, 9)) (by decide +kernel) ew_258 ew_259 (fun q hq => by cases hq; exact ew_266) ew_267 ew_233 (by decide +kernel) (ct_X5_reach hG n _ _) rfl ew_268 ⟨by omega, by decide⟩ (by decide) (by decide) (Nat.le_of_ble_eq_true rfl) rfl dX6_place_21)) (fun _u s25 => ?_)
        exact eb_vret (pc := 24) dX6_place_24 (by decide) (by decide)
    · exact eb_vret (pc := 8) dX6_place_8 (by decide) (by decide)

def f_X6_solve (n : Nat) (v0 : Nat) (s : eb_S) : Option (Unit × eb_S) := eb_gI s [0, 4, 5] v0 5 fun x1 => eb_gR s [0, 4, 5] v0 0 fun r2 => eb_gI s [3] r2 0 fun x3 => if x1 = x3 then (some ((), s)) else (eb_gR s [0, 4, 5] v0 0 fun r4 => eb_gI s [3] r4 0 fun x5 => eb_pI s [0, 4, 5] v0 5 x5 fun s6 => eb_cl (eb_ts s6 v0 [0, 4, 5] (f_X6_weighAhead n v0 s6)) fun _u s7 => eb_cl (eb_d3 s7 v0 0 4 5 (f_X0_begin v0 s7) (f_X4_begin v0 s7) (f_X5_begin v0 s7)) fun _u s8 => eb_cl (eb_ts s8 v0 [0, 4, 5] (f_X6_place n 12 v0 0 s8)) fun _u s9 => some ((), s9))
set_option maxRecDepth 100000 in
theorem ct_X6_solve {G : eb_G} (hG : eb_ok G) (n : Nat) (v0 : Nat) (s : eb_S) : eb_ct G yX6_solve cX6_solve 1 none 18 0 0 eb_ev [.ref v0] s (f_X6_solve n v0 s) := by
  refine eb_ct_v (by decide) (Nat.le_of_ble_eq_true rfl) (fun v hv => by simp at hv; rcases hv with rfl <;> simp [Value.category]) ?_
  show eb_go G yX6_solve cX6_solve 1 none (18) 0 0 .return_ (fun _ : Unit => []) 0 [(0, .ref v0)] [] s 0 0 _
  unfold f_X6_solve
  refine eb_aload_n (pc := 0) 0 dX6_solve_0 rfl rfl ?_
  refine eb_getI (pc := 1) ef_RX6_24 dX6_solve_1 (fun x1 => ?_)
  refine eb_aload_n (pc := 4) 0 dX6_solve_4 rfl rfl ?_
  refine eb_getR (pc := 5) ef_RX6_28 dX6_solve_5 (fun r2 => ?_)
  refine eb_getI (pc := 8) ef_RX6_32 dX6_solve_8 (fun x3 => ?_)
  refine eb_icmp_ne (pc := 11) (tgt := 15) dX6_solve_11 (by decide) ?_ ?_
  · refine eb_aload_n (pc := 15) 0 dX6_solve_15 rfl rfl ?_
    refine eb_aload_n (pc := 16) 0 dX6_solve_16 rfl rfl ?_
    refine eb_getR (pc := 17) ef_RX6_28 dX6_solve_17 (fun r4 => ?_)
    refine eb_getI (pc := 20) ef_RX6_32 dX6_solve_20 (fun x5 => ?_)
    refine eb_putI (pc := 23) ef_RX6_24 eg_RX6_24 dX6_solve_23 (fun s6 => ?_)
    refine eb_aload_n (pc := 26) 0 dX6_solve_26 rfl rfl ?_
    refine eb_callv (pc := 27) (eb_runs3s (eb_runU (pc := 27) (n := 0) (As := []) (rest := []) (x2 := ⟨RX6, "weighAhead", "()V"⟩) (owner := RX6) (ci := 0) (q := (RX0, TX0, 11)) ew_270 ew_271 (fun q hq => by cases hq; exact ew_272) ew_273 ew_140 rfl (by decide +kernel) (ct_X6_weighAhead hG n _ _) rfl ew_274 ⟨by decide, by decide⟩ (by decide) (by decide) (Nat.le_of_ble_eq_true rfl) rfl dX6_solve_27) (eb_runU (pc := 27) (n := 0) (As := []) (rest := []) (x2 := ⟨RX6, "weighAhead", "()V"⟩) (owner := RX6) (ci := 4) (q := (RX4, TX4, 11)) ew_270 ew_271 (fun q hq => by cases hq; exact ew_275) ew_273 ew_140 rfl (by decide +kernel) (ct_X6_weighAhead hG n _ _) rfl ew_274 ⟨by decide, by decide⟩ (by decide) (by decide) (Nat.le_of_ble_eq_true rfl) rfl dX6_solve_27) (eb_runU (pc := 27) (n := 0) (As := []) (rest := []) (x2 := ⟨RX6, "weighAhead", "()V"⟩) (owner := RX6) (ci := 5) (q := (RX5, TX5, 9)) ew_270 ew_271 (fun q hq => by cases hq; exact ew_276) ew_273 ew_140 rfl (by decide +kernel) (ct_X6_weighAhead hG n _ _) rfl ew_274 ⟨by decide, by decide⟩ (by decide) (by decide) (Nat.le_of_ble_eq_true rfl) rfl dX6_solve_27)) (fun _u s7 => ?_)
    refine eb_aload_n (pc := 30) 0 dX6_solve_30 rfl rfl ?_
    refine eb_callv (pc := 31) (eb_runs3 (eb_runO (pc := 31) (n := 0) (As := []) (rest := []) (x2 := ⟨RX6, "begin", "()V"⟩) (owner := RX6) (ci := 0) (q := (RX0, TX0, 11)) (by decide +kernel) ew_277 ew_278 (fun q hq => by cases hq; exact ew_279) ew_280 ew_225 (by decide +kernel) (ct_X0_begin hG _ _) rfl ew_281 ⟨by decide, by decide⟩ (by decide) (by decide) (Nat.le_of_ble_eq_true rfl) rfl dX6_solve_31) (eb_runO (pc := 31) (n := 0) (As := []) (rest := []) (x2 := ⟨RX6, "begin", "()V"⟩) (owner := RX6) (ci := 4) (q := (RX4, TX4, 11)) (by decide +kernel) ew_277 ew_278 (fun q hq => by cases hq; exact ew_282) ew_283 ew_229 (by decide +kernel) (ct_X4_begin hG _ _) rfl ew_284 ⟨by decide, by decide⟩ (by decide) (by decide) (Nat.le_of_ble_eq_true rfl) rfl dX6_solve_31) (eb_runO (pc := 31) (n := 0) (As := []) (rest := []) (x2 := ⟨RX6, "begin", "()V"⟩) (owner := RX6) (ci := 5) (q := (RX5, TX5, 9)) (by decide +kernel) ew_277 ew_278 (fun q hq => by cases hq; exact ew_285) ew_286 ew_233 (by decide +kernel) (ct_X5_begin hG _ _) rfl ew_287 ⟨by decide, by decide⟩ (by decide) (by decide) (Nat.le_of_ble_eq_true rfl) rfl dX6_solve_31)) (fun _u s8 => ?_)
    refine eb_aload_n (pc := 34) 0 dX6_solve_34 rfl rfl ?_
    refine eb_iconst (pc := 35) (v := 0) dX6_solve_35 (by decide) ?_
    refine eb_callv (pc := 36) (eb_runs3s (eb_runU (pc := 36) (n := 1) (As := [.int 0]) (rest := []) (x2 := ⟨RX6, "place", "(I)V"⟩) (owner := RX6) (ci := 0) (q := (RX0, TX0, 11)) ew_251 ew_252 (fun q hq => by cases hq; exact ew_253) ew_254 ew_140 rfl (by decide +kernel) (ct_X6_place hG n 12 _ _ _) rfl ew_255 ⟨by decide, by decide⟩ (by decide) (by decide) (Nat.le_of_ble_eq_true rfl) rfl dX6_solve_36) (eb_runU (pc := 36) (n := 1) (As := [.int 0]) (rest := []) (x2 := ⟨RX6, "place", "(I)V"⟩) (owner := RX6) (ci := 4) (q := (RX4, TX4, 11)) ew_251 ew_252 (fun q hq => by cases hq; exact ew_256) ew_254 ew_140 rfl (by decide +kernel) (ct_X6_place hG n 12 _ _ _) rfl ew_255 ⟨by decide, by decide⟩ (by decide) (by decide) (Nat.le_of_ble_eq_true rfl) rfl dX6_solve_36) (eb_runU (pc := 36) (n := 1) (As := [.int 0]) (rest := []) (x2 := ⟨RX6, "place", "(I)V"⟩) (owner := RX6) (ci := 5) (q := (RX5, TX5, 9)) ew_251 ew_252 (fun q hq => by cases hq; exact ew_257) ew_254 ew_140 rfl (by decide +kernel) (ct_X6_place hG n 12 _ _ _) rfl ew_255 ⟨by decide, by decide⟩ (by decide) (by decide) (Nat.le_of_ble_eq_true rfl) rfl dX6_solve_36)) (fun _u s9 => ?_)
    exact eb_vret (pc := 39) dX6_solve_39 (by decide) (by decide)
  · exact eb_vret (pc := 14) dX6_solve_14 (by decide) (by decide)

def f_X6_forget (v0 : Nat) (s : eb_S) : Option (Unit × eb_S) := eb_pI s [0, 4, 5] v0 5 ((-1)) fun s1 => some ((), s1)
set_option maxRecDepth 100000 in
theorem ct_X6_forget {G : eb_G} (hG : eb_ok G) (v0 : Nat) (s : eb_S) : eb_ct G yX6_forget cX6_forget 1 none 1 0 0 eb_ev [.ref v0] s (f_X6_forget v0 s) := by
  refine eb_ct_v (by decide) (Nat.le_of_ble_eq_true rfl) (fun v hv => by simp at hv; rcases hv with rfl <;> simp [Value.category]) ?_
  show eb_go G yX6_forget cX6_forget 1 none (1) 0 0 .return_ (fun _ : Unit => []) 0 [(0, .ref v0)] [] s 0 0 _
  unfold f_X6_forget
  refine eb_aload_n (pc := 0) 0 dX6_forget_0 rfl rfl ?_
  refine eb_iconst (pc := 1) (v := (-1)) dX6_forget_1 (by decide) ?_
  refine eb_putI (pc := 2) ef_RX6_24 eg_RX6_24 dX6_forget_2 (fun s1 => ?_)
  exact eb_vret (pc := 5) dX6_forget_5 (by decide) (by decide)

def f_X0_init (v0 : Nat) (v1 : Nat) (s : eb_S) : Option (Unit × eb_S) := eb_cl (f_X6_init v0 v1 s) fun _u s1 => eb_pZ s1 [0] v0 6 0 fun s2 => eb_pI s2 [0] v0 7 0 fun s3 => eb_pI s3 [0] v0 8 0 fun s4 => eb_pI s4 [0] v0 9 0 fun s5 => eb_pI s5 [0] v0 10 0 fun s6 => some ((), s6)
set_option maxRecDepth 100000 in
theorem ct_X0_init {G : eb_G} (hG : eb_ok G) (v0 : Nat) (v1 : Nat) (s : eb_S) : eb_ct G yX0_init cX0_init 2 none 2 4 90 eb_ev [.ref v0, .ref v1] s (f_X0_init v0 v1 s) := by
  refine eb_ct_v (by decide) (Nat.le_of_ble_eq_true rfl) (fun v hv => by simp at hv; rcases hv with rfl | rfl <;> simp [Value.category]) ?_
  show eb_go G yX0_init cX0_init 2 none (2) 4 90 .return_ (fun _ : Unit => []) 0 [(0, .ref v0), (1, .ref v1)] [] s 0 0 _
  unfold f_X0_init
  refine eb_aload_n (pc := 0) 0 dX0_init_0 rfl rfl ?_
  refine eb_aload_n (pc := 1) 1 dX0_init_1 rfl rfl ?_
  refine eb_callv (pc := 2) (eb_runI (pc := 2) (As := [.ref v1]) (rest := []) ew_288 ew_289 ew_140 rfl ed_X6_init (ct_X6_init hG _ _ _) ew_290 ⟨by decide, by decide⟩ (by decide) (by decide) (Nat.le_of_ble_eq_true rfl) rfl dX0_init_2) (fun _u s1 => ?_)
  refine eb_aload_n (pc := 5) 0 dX0_init_5 rfl rfl ?_
  refine eb_iconst (pc := 6) (v := 0) dX0_init_6 (by decide) ?_
  refine eb_putZ (pc := 7) ef_RX0_7 eg_RX0_7 dX0_init_7 (fun s2 => ?_)
  refine eb_aload_n (pc := 10) 0 dX0_init_10 rfl rfl ?_
  refine eb_iconst (pc := 11) (v := 0) dX0_init_11 (by decide) ?_
  refine eb_putI (pc := 12) ef_RX0_13 eg_RX0_13 dX0_init_12 (fun s3 => ?_)
  refine eb_aload_n (pc := 15) 0 dX0_init_15 rfl rfl ?_
  refine eb_iconst (pc := 16) (v := 0) dX0_init_16 (by decide) ?_
  refine eb_putI (pc := 17) ef_RX0_17 eg_RX0_17 dX0_init_17 (fun s4 => ?_)
  refine eb_aload_n (pc := 20) 0 dX0_init_20 rfl rfl ?_
  refine eb_iconst (pc := 21) (v := 0) dX0_init_21 (by decide) ?_
  refine eb_putI (pc := 22) ef_RX0_20 eg_RX0_20 dX0_init_22 (fun s5 => ?_)
  refine eb_aload_n (pc := 25) 0 dX0_init_25 rfl rfl ?_
  refine eb_iconst (pc := 26) (v := 0) dX0_init_26 (by decide) ?_
  refine eb_putI (pc := 27) ef_RX0_23 eg_RX0_23 dX0_init_27 (fun s6 => ?_)
  exact eb_vret (pc := 30) dX0_init_30 (by decide) (by decide)

def f_X4_init (v0 : Nat) (v1 : Nat) (s : eb_S) : Option (Unit × eb_S) := eb_cl (f_X6_init v0 v1 s) fun _u s1 => eb_pZ s1 [4] v0 6 0 fun s2 => eb_pI s2 [4] v0 7 0 fun s3 => eb_pI s3 [4] v0 8 0 fun s4 => eb_pI s4 [4] v0 9 0 fun s5 => eb_pI s5 [4] v0 10 0 fun s6 => some ((), s6)
set_option maxRecDepth 100000 in
theorem ct_X4_init {G : eb_G} (hG : eb_ok G) (v0 : Nat) (v1 : Nat) (s : eb_S) : eb_ct G yX4_init cX4_init 2 none 2 4 90 eb_ev [.ref v0, .ref v1] s (f_X4_init v0 v1 s) := by
  refine eb_ct_v (by decide) (Nat.le_of_ble_eq_true rfl) (fun v hv => by simp at hv; rcases hv with rfl | rfl <;> simp [Value.category]) ?_
  show eb_go G yX4_init cX4_init 2 none (2) 4 90 .return_ (fun _ : Unit => []) 0 [(0, .ref v0), (1, .ref v1)] [] s 0 0 _
  unfold f_X4_init
  refine eb_aload_n (pc := 0) 0 dX4_init_0 rfl rfl ?_
  refine eb_aload_n (pc := 1) 1 dX4_init_1 rfl rfl ?_
  refine eb_callv (pc := 2) (eb_runI (pc := 2) (As := [.ref v1]) (rest := []) ew_291 ew_289 ew_140 rfl ed_X6_init (ct_X6_init hG _ _ _) ew_290 ⟨by decide, by decide⟩ (by decide) (by decide) (Nat.le_of_ble_eq_true rfl) rfl dX4_init_2) (fun _u s1 => ?_)
  refine eb_aload_n (pc := 5) 0 dX4_init_5 rfl rfl ?_
  refine eb_iconst (pc := 6) (v := 0) dX4_init_6 (by decide) ?_
  refine eb_putZ (pc := 7) ef_RX4_7 eg_RX4_7 dX4_init_7 (fun s2 => ?_)
  refine eb_aload_n (pc := 10) 0 dX4_init_10 rfl rfl ?_
  refine eb_iconst (pc := 11) (v := 0) dX4_init_11 (by decide) ?_
  refine eb_putI (pc := 12) ef_RX4_13 eg_RX4_13 dX4_init_12 (fun s3 => ?_)
  refine eb_aload_n (pc := 15) 0 dX4_init_15 rfl rfl ?_
  refine eb_iconst (pc := 16) (v := 0) dX4_init_16 (by decide) ?_
  refine eb_putI (pc := 17) ef_RX4_17 eg_RX4_17 dX4_init_17 (fun s4 => ?_)
  refine eb_aload_n (pc := 20) 0 dX4_init_20 rfl rfl ?_
  refine eb_iconst (pc := 21) (v := 0) dX4_init_21 (by decide) ?_
  refine eb_putI (pc := 22) ef_RX4_20 eg_RX4_20 dX4_init_22 (fun s5 => ?_)
  refine eb_aload_n (pc := 25) 0 dX4_init_25 rfl rfl ?_
  refine eb_iconst (pc := 26) (v := 0) dX4_init_26 (by decide) ?_
  refine eb_putI (pc := 27) ef_RX4_23 eg_RX4_23 dX4_init_27 (fun s6 => ?_)
  exact eb_vret (pc := 30) dX4_init_30 (by decide) (by decide)

def f_X4_ask (v0 : Nat) (v1 : Int32) (v2 : Int32) (s : eb_S) : Option (Unit × eb_S) := eb_gI s [4] v0 8 fun x1 => eb_jn (fun (s2 : eb_S) => eb_pI s2 [4] v0 8 v1 fun s4 => eb_pI s4 [4] v0 9 v2 fun s5 => some ((), s5)) fun j3 => eb_jn (fun (s6 : eb_S) => eb_cl (eb_tg s6 v0 4 (f_X6_forget v0 s6)) fun _u s8 => j3 s8) fun j7 => if x1 = v1 then (eb_gI s [4] v0 9 fun x9 => if x9 = v2 then (j3 s) else (j7 s)) else (j7 s)
set_option maxRecDepth 100000 in
theorem ct_X4_ask {G : eb_G} (hG : eb_ok G) (v0 : Nat) (v1 : Int32) (v2 : Int32) (s : eb_S) : eb_ct G yX4_ask cX4_ask 3 none 2 0 0 eb_ev [.ref v0, .int v1, .int v2] s (f_X4_ask v0 v1 v2 s) := by
  refine eb_ct_v (by decide) (Nat.le_of_ble_eq_true rfl) (fun v hv => by simp at hv; rcases hv with rfl | rfl | rfl <;> simp [Value.category]) ?_
  show eb_go G yX4_ask cX4_ask 3 none (2) 0 0 .return_ (fun _ : Unit => []) 0 [(0, .ref v0), (1, .int v1), (2, .int v2)] [] s 0 0 _
  unfold f_X4_ask
  refine eb_aload_n (pc := 0) 0 dX4_ask_0 rfl rfl ?_
  refine eb_getI (pc := 1) ef_RX4_17 dX4_ask_1 (fun x1 => ?_)
  refine eb_iload_n (pc := 4) 1 dX4_ask_4 rfl rfl ?_
  refine eb_join (fun j3 : eb_S → Option (Unit × eb_S) => ∀  (s2 : eb_S), eb_go G yX4_ask cX4_ask 3 none (2) 0 0 .return_ (fun _ : Unit => []) 20 [(0, .ref v0), (1, .int v1), (2, .int v2)] [] s2 0 0 (j3  s2)) ?_ (fun j3 hj3 => ?_)
  · intro  s2
    refine eb_aload_n (pc := 20) 0 dX4_ask_20 rfl rfl ?_
    refine eb_iload_n (pc := 21) 1 dX4_ask_21 rfl rfl ?_
    refine eb_putI (pc := 22) ef_RX4_17 eg_RX4_17 dX4_ask_22 (fun s4 => ?_)
    refine eb_aload_n (pc := 25) 0 dX4_ask_25 rfl rfl ?_
    refine eb_iload_n (pc := 26) 2 dX4_ask_26 rfl rfl ?_
    refine eb_putI (pc := 27) ef_RX4_20 eg_RX4_20 dX4_ask_27 (fun s5 => ?_)
    exact eb_vret (pc := 30) dX4_ask_30 (by decide) (by decide)
  refine eb_join (fun j7 : eb_S → Option (Unit × eb_S) => ∀  (s6 : eb_S), eb_go G yX4_ask cX4_ask 3 none (2) 0 0 .return_ (fun _ : Unit => []) 16 [(0, .ref v0), (1, .int v1), (2, .int v2)] [] s6 0 0 (j7  s6)) ?_ (fun j7 hj7 => ?_)
  · intro  s6
    refine eb_aload_n (pc := 16) 0 dX4_ask_16 rfl rfl ?_
    refine eb_callv (pc := 17) (eb_runU (pc := 17) (n := 0) (As := []) (rest := []) (x2 := ⟨RX4, "forget", "()V"⟩) (owner := RX6) (ci := 4) (q := (RX4, TX4, 11)) ew_292 ew_293 (fun q hq => by cases hq; exact ew_294) ew_295 ew_140 rfl (by decide +kernel) (ct_X6_forget hG _ _) rfl ew_296 ⟨by decide, by decide⟩ (by decide) (by decide) (Nat.le_of_ble_eq_true rfl) rfl dX4_ask_17) (fun _u s8 => ?_)
    exact hj3 _
  refine eb_icmp_ne (pc := 5) (tgt := 16) dX4_ask_5 (by decide) ?_ ?_
  · exact hj7 _
  · refine eb_aload_n (pc := 8) 0 dX4_ask_8 rfl rfl ?_
    refine eb_getI (pc := 9) ef_RX4_20 dX4_ask_9 (fun x9 => ?_)
    refine eb_iload_n (pc := 12) 2 dX4_ask_12 rfl rfl ?_
    refine eb_icmp_eq (pc := 13) (tgt := 20) dX4_ask_13 (by decide) ?_ ?_
    · exact hj3 _
    · exact hj7 _

def f_X5_init (v0 : Nat) (v1 : Nat) (s : eb_S) : Option (Unit × eb_S) := eb_cl (f_X6_init v0 v1 s) fun _u s1 => eb_pI s1 [5] v0 6 0 fun s2 => eb_pI s2 [5] v0 7 0 fun s3 => eb_na s3 12 5 5 fun r4 s5 => eb_pR s5 [5] v0 8 r4 fun s6 => some ((), s6)
set_option maxRecDepth 100000 in
theorem ct_X5_init {G : eb_G} (hG : eb_ok G) (v0 : Nat) (v1 : Nat) (s : eb_S) : eb_ct G yX5_init cX5_init 2 none 2 5 95 eb_ev [.ref v0, .ref v1] s (f_X5_init v0 v1 s) := by
  refine eb_ct_v (by decide) (Nat.le_of_ble_eq_true rfl) (fun v hv => by simp at hv; rcases hv with rfl | rfl <;> simp [Value.category]) ?_
  show eb_go G yX5_init cX5_init 2 none (2) 5 95 .return_ (fun _ : Unit => []) 0 [(0, .ref v0), (1, .ref v1)] [] s 0 0 _
  unfold f_X5_init
  refine eb_aload_n (pc := 0) 0 dX5_init_0 rfl rfl ?_
  refine eb_aload_n (pc := 1) 1 dX5_init_1 rfl rfl ?_
  refine eb_callv (pc := 2) (eb_runI (pc := 2) (As := [.ref v1]) (rest := []) ew_297 ew_289 ew_140 rfl ed_X6_init (ct_X6_init hG _ _ _) ew_290 ⟨by decide, by decide⟩ (by decide) (by decide) (Nat.le_of_ble_eq_true rfl) rfl dX5_init_2) (fun _u s1 => ?_)
  refine eb_aload_n (pc := 5) 0 dX5_init_5 rfl rfl ?_
  refine eb_iconst (pc := 6) (v := 0) dX5_init_6 (by decide) ?_
  refine eb_putI (pc := 7) ef_RX5_9 eg_RX5_9 dX5_init_7 (fun s2 => ?_)
  refine eb_aload_n (pc := 10) 0 dX5_init_10 rfl rfl ?_
  refine eb_iconst (pc := 11) (v := 0) dX5_init_11 (by decide) ?_
  refine eb_putI (pc := 12) ef_RX5_15 eg_RX5_15 dX5_init_12 (fun s3 => ?_)
  refine eb_aload_n (pc := 15) 0 dX5_init_15 rfl rfl ?_
  refine eb_iconst (pc := 16) (v := 5) dX5_init_16 (by decide) ?_
  refine eb_newl (pc := 17) ew_298 dX5_init_17 (by decide) (by decide) (by decide) (fun r4 s5 => ?_)
  refine eb_putR (pc := 19) ef_RX5_18 eg_RX5_18 (fun _ => ⟨rfl, rfl⟩) dX5_init_19 (fun s6 => ?_)
  exact eb_vret (pc := 22) dX5_init_22 (by decide) (by decide)

def f_X5_ask (v0 : Nat) (v1 : Int32) (v2 : Int64) (s : eb_S) : Option (Unit × eb_S) := eb_gR s [5] v0 8 fun r1 => eb_al s r1 v1 fun l2 => eb_jn (fun (s3 : eb_S) => eb_gR s3 [5] v0 8 fun r5 => eb_wl s3 r5 v1 v2 fun s6 => some ((), s6)) fun j4 => if (lg_cmp l2 v2) = 0 then (j4 s) else (eb_cl (eb_tg s v0 5 (f_X6_forget v0 s)) fun _u s7 => j4 s7)
set_option maxRecDepth 100000 in
theorem ct_X5_ask {G : eb_G} (hG : eb_ok G) (v0 : Nat) (v1 : Int32) (v2 : Int64) (s : eb_S) : eb_ct G yX5_ask cX5_ask 4 none 2 0 0 eb_ev [.ref v0, .int v1, .long v2] s (f_X5_ask v0 v1 v2 s) := by
  refine eb_ct_v (by decide) (Nat.le_of_ble_eq_true rfl) (fun v hv => by simp at hv; rcases hv with rfl | rfl | rfl <;> simp [Value.category]) ?_
  show eb_go G yX5_ask cX5_ask 4 none (2) 0 0 .return_ (fun _ : Unit => []) 0 [(0, .ref v0), (1, .int v1), (2, .long v2)] [] s 0 0 _
  unfold f_X5_ask
  refine eb_aload_n (pc := 0) 0 dX5_ask_0 rfl rfl ?_
  refine eb_getR (pc := 1) ef_RX5_18 dX5_ask_1 (fun r1 => ?_)
  refine eb_iload_n (pc := 4) 1 dX5_ask_4 rfl rfl ?_
  refine eb_laload (pc := 5) dX5_ask_5 (fun l2 => ?_)
  refine eb_lload_n (pc := 6) 2 dX5_ask_6 rfl rfl ?_
  refine eb_lcmp (pc := 7) dX5_ask_7 ?_
  refine eb_join (fun j4 : eb_S → Option (Unit × eb_S) => ∀  (s3 : eb_S), eb_go G yX5_ask cX5_ask 4 none (2) 0 0 .return_ (fun _ : Unit => []) 15 [(0, .ref v0), (1, .int v1), (2, .long v2)] [] s3 0 0 (j4  s3)) ?_ (fun j4 hj4 => ?_)
  · intro  s3
    refine eb_aload_n (pc := 15) 0 dX5_ask_15 rfl rfl ?_
    refine eb_getR (pc := 16) ef_RX5_18 dX5_ask_16 (fun r5 => ?_)
    refine eb_iload_n (pc := 19) 1 dX5_ask_19 rfl rfl ?_
    refine eb_lload_n (pc := 20) 2 dX5_ask_20 rfl rfl ?_
    refine eb_lastore (pc := 21) dX5_ask_21 (fun s6 => ?_)
    exact eb_vret (pc := 22) dX5_ask_22 (by decide) (by decide)
  refine eb_if_eq (pc := 8) (tgt := 15) dX5_ask_8 (by decide) ?_ ?_
  · exact hj4 _
  · refine eb_aload_n (pc := 11) 0 dX5_ask_11 rfl rfl ?_
    refine eb_callv (pc := 12) (eb_runU (pc := 12) (n := 0) (As := []) (rest := []) (x2 := ⟨RX5, "forget", "()V"⟩) (owner := RX6) (ci := 5) (q := (RX5, TX5, 9)) ew_299 ew_300 (fun q hq => by cases hq; exact ew_301) ew_295 ew_140 rfl (by decide +kernel) (ct_X6_forget hG _ _) rfl ew_296 ⟨by decide, by decide⟩ (by decide) (by decide) (Nat.le_of_ble_eq_true rfl) rfl dX5_ask_12) (fun _u s7 => ?_)
    exact hj4 _

def f_X5_firstAsDigits_L4 (n : Nat) (v0 : Nat)  : Nat → Int32 → Int32 → eb_S → Option (Int32 × eb_S)
  | 0, _, _, _ => none
  | m + 1, v1, v2, s => eb_gR s [5] v0 0 fun r1 => eb_gI s [3] r1 1 fun x2 => if x2 ≤ v2 then (some (v1, s)) else (eb_gR s [5] v0 2 fun r3 => eb_ai s r3 v2 fun x4 => f_X5_firstAsDigits_L4 n v0 m ((v1 * 3) + x4) (v2 + 1) s)
def f_X5_firstAsDigits (n : Nat) (v0 : Nat) (s : eb_S) : Option (Int32 × eb_S) := f_X5_firstAsDigits_L4 n v0  n 0 0 s
set_option maxRecDepth 100000 in
theorem gl_X5_firstAsDigits_L4 {G : eb_G} (hG : eb_ok G) {n : Nat} {v0 : Nat}   : ∀ (m : Nat) (v1 : Int32) (v2 : Int32) (s : eb_S), eb_go G yX5_firstAsDigits cX5_firstAsDigits 3 (some .int) (1) 0 0 .ireturn (fun r : Int32 => [.int r]) 4 [(0, .ref v0), (1, .int v1), (2, .int v2)] [] s 0 0 (f_X5_firstAsDigits_L4 n v0 m v1 v2 s) := by
  intro m
  induction m with
  | zero => intro v1 v2 s; exact eb_none
  | succ m ih =>
    intro v1 v2 s
    rw [f_X5_firstAsDigits_L4.eq_2]
    refine eb_iload_n (pc := 4) 2 dX5_firstAsDigits_4 rfl rfl ?_
    refine eb_aload_n (pc := 5) 0 dX5_firstAsDigits_5 rfl rfl ?_
    refine eb_getR (pc := 6) ef_RX5_26 dX5_firstAsDigits_6 (fun r1 => ?_)
    refine eb_getI (pc := 9) ef_RX5_45 dX5_firstAsDigits_9 (fun x2 => ?_)
    refine eb_icmp_ge (pc := 12) (tgt := 32) dX5_firstAsDigits_12 (by decide) ?_ ?_
    · refine eb_iload_n (pc := 32) 1 dX5_firstAsDigits_32 rfl rfl ?_
      exact eb_iret (pc := 33) dX5_firstAsDigits_33 (by decide) (by decide)
    · refine eb_iload_n (pc := 15) 1 dX5_firstAsDigits_15 rfl rfl ?_
      refine eb_iconst (pc := 16) (v := 3) dX5_firstAsDigits_16 (by decide) ?_
      refine eb_imul (pc := 17) dX5_firstAsDigits_17 ?_
      refine eb_aload_n (pc := 18) 0 dX5_firstAsDigits_18 rfl rfl ?_
      refine eb_getR (pc := 19) ef_RX5_52 dX5_firstAsDigits_19 (fun r3 => ?_)
      refine eb_iload_n (pc := 22) 2 dX5_firstAsDigits_22 rfl rfl ?_
      refine eb_iaload (pc := 23) dX5_firstAsDigits_23 (fun x4 => ?_)
      refine eb_iadd (pc := 24) dX5_firstAsDigits_24 ?_
      refine eb_istore_n (pc := 25) (L' := [(1, .int ((v1 * 3) + x4)), (0, .ref v0), (2, .int v2)]) dX5_firstAsDigits_25 rfl (by decide) rfl ?_
      refine eb_iinc (pc := 26) (v := v2 + 1) (L' := [(2, .int (v2 + 1)), (1, .int ((v1 * 3) + x4)), (0, .ref v0)]) 2 dX5_firstAsDigits_26 rfl rfl (by decide) rfl ?_
      refine eb_goto (pc := 29) (tgt := 4) dX5_firstAsDigits_29 (by decide) ?_
      refine eb_sub [2, 1, 0] rfl ?_
      exact ih _ _ _
set_option maxRecDepth 100000 in
theorem ct_X5_firstAsDigits {G : eb_G} (hG : eb_ok G) (n : Nat) (v0 : Nat) (s : eb_S) : eb_ct G yX5_firstAsDigits cX5_firstAsDigits 3 (some .int) 1 0 0 eb_ei [.ref v0] s (f_X5_firstAsDigits n v0 s) := by
  refine eb_ct_i (by decide) (Nat.le_of_ble_eq_true rfl) (fun v hv => by simp at hv; rcases hv with rfl <;> simp [Value.category]) ?_
  show eb_go G yX5_firstAsDigits cX5_firstAsDigits 3 (some .int) (1) 0 0 .ireturn (fun r : Int32 => [.int r]) 0 [(0, .ref v0)] [] s 0 0 _
  unfold f_X5_firstAsDigits
  refine eb_iconst (pc := 0) (v := 0) dX5_firstAsDigits_0 (by decide) ?_
  refine eb_istore_n (pc := 1) (L' := [(1, .int 0), (0, .ref v0)]) dX5_firstAsDigits_1 rfl (by decide) rfl ?_
  refine eb_iconst (pc := 2) (v := 0) dX5_firstAsDigits_2 (by decide) ?_
  refine eb_istore_n (pc := 3) (L' := [(2, .int 0), (1, .int 0), (0, .ref v0)]) dX5_firstAsDigits_3 rfl (by decide) rfl ?_
  refine eb_sub [2, 1, 0] rfl ?_
  refine gl_X5_firstAsDigits_L4 hG  n _ _ _
