def f_J0_isLatin1_aae02  (s : eb_S) : Option (Bool × eb_S) := if (1 : Int32) = 0 then (some (false, s)) else (if (0 : Int32) = 0 then (some (true, s)) else (some (false, s)))
set_option maxRecDepth 100000 in
theorem ct_J0_isLatin1_aae02 {G : eb_G} (hG : eb_ok G)  (s : eb_S) : eb_ct G yJ0_isLatin1_aae02 cJ0_isLatin1_aae02 1 (some .boolean) 1 0 0 eb_eb [.ref 5] s (f_J0_isLatin1_aae02  s) := by
  refine eb_ct_b (by decide) (Nat.le_of_ble_eq_true rfl) (fun v hv => by simp at hv; rcases hv with rfl <;> simp [Value.category]) ?_
  show eb_go G yJ0_isLatin1_aae02 cJ0_isLatin1_aae02 1 (some .boolean) (1) 0 0 .ireturn (fun r : Bool => [.int (eb_b r)]) 0 [(0, .ref 5)] [] s 0 0 _
  unfold f_J0_isLatin1_aae02
  refine eb_getz (pc := 0) ew_1 dJ0_isLatin1_aae02_0 ?_
  refine eb_if_eq (pc := 3) (tgt := 17) dJ0_isLatin1_aae02_3 (by decide) ?_ ?_
  · refine eb_iconst (pc := 17) (v := 0) dJ0_isLatin1_aae02_17 (by decide) ?_
    exact eb_bret (pc := 18) (b := false) dJ0_isLatin1_aae02_18 (by decide) (by decide)
  · refine eb_aload_n (pc := 6) 0 dJ0_isLatin1_aae02_6 rfl rfl ?_
    refine eb_getc (pc := 7) ew_0 dJ0_isLatin1_aae02_7 ?_
    refine eb_if_ne (pc := 10) (tgt := 17) dJ0_isLatin1_aae02_10 (by decide) ?_ ?_
    · refine eb_iconst (pc := 17) (v := 0) dJ0_isLatin1_aae02_17 (by decide) ?_
      exact eb_bret (pc := 18) (b := false) dJ0_isLatin1_aae02_18 (by decide) (by decide)
    · refine eb_iconst (pc := 13) (v := 1) dJ0_isLatin1_aae02_13 (by decide) ?_
      refine eb_goto (pc := 14) (tgt := 18) dJ0_isLatin1_aae02_14 (by decide) ?_
      exact eb_bret (pc := 18) (b := true) dJ0_isLatin1_aae02_18 (by decide) (by decide)

def f_J0_coder_7d493  (s : eb_S) : Option (Int32 × eb_S) := if (1 : Int32) = 0 then (some (1, s)) else (some (0, s))
set_option maxRecDepth 100000 in
theorem ct_J0_coder_7d493 {G : eb_G} (hG : eb_ok G)  (s : eb_S) : eb_ct G yJ0_coder_7d493 cJ0_coder_7d493 1 (some .byte) 1 0 0 eb_ei [.ref 5] s (f_J0_coder_7d493  s) := by
  refine eb_ct_y (fun out ho => by unfold f_J0_coder_7d493 at ho; simp at ho; rw [← ho]; rfl) (by decide) (Nat.le_of_ble_eq_true rfl)  ?_
  show eb_go G yJ0_coder_7d493 cJ0_coder_7d493 1 (some .byte) (1) 0 0 .ireturn (fun r : Int32 => [.int r]) 0 [(0, .ref 5)] [] s 0 0 _
  unfold f_J0_coder_7d493
  refine eb_getz (pc := 0) ew_1 dJ0_coder_7d493_0 ?_
  refine eb_if_eq (pc := 3) (tgt := 13) dJ0_coder_7d493_3 (by decide) ?_ ?_
  · refine eb_iconst (pc := 13) (v := 1) dJ0_coder_7d493_13 (by decide) ?_
    exact eb_iret (pc := 14) dJ0_coder_7d493_14 (by decide) (by decide)
  · refine eb_aload_n (pc := 6) 0 dJ0_coder_7d493_6 rfl rfl ?_
    refine eb_getc (pc := 7) ew_0 dJ0_coder_7d493_7 ?_
    refine eb_goto (pc := 10) (tgt := 14) dJ0_coder_7d493_10 (by decide) ?_
    exact eb_iret (pc := 14) dJ0_coder_7d493_14 (by decide) (by decide)

def f_J0_length_8abf5  (s : eb_S) : Option (Int32 × eb_S) := eb_cl (f_J0_coder_7d493 s) fun x2 s1 => some ((4 : Int32) >>> (x2 &&& 31), s1)
set_option maxRecDepth 100000 in
theorem ct_J0_length_8abf5 {G : eb_G} (hG : eb_ok G)  (s : eb_S) : eb_ct G yJ0_length_8abf5 cJ0_length_8abf5 1 (some .int) 2 0 0 eb_ei [.ref 5] s (f_J0_length_8abf5  s) := by
  refine eb_ct_i (by decide) (Nat.le_of_ble_eq_true rfl) (fun v hv => by simp at hv; rcases hv with rfl <;> simp [Value.category]) ?_
  show eb_go G yJ0_length_8abf5 cJ0_length_8abf5 1 (some .int) (2) 0 0 .ireturn (fun r : Int32 => [.int r]) 0 [(0, .ref 5)] [] s 0 0 _
  unfold f_J0_length_8abf5
  refine eb_aload_n (pc := 0) 0 dJ0_length_8abf5_0 rfl rfl ?_
  refine eb_getv (pc := 1) ew_2 dJ0_length_8abf5_1 ?_
  refine eb_alen6 (pc := 4) dJ0_length_8abf5_4 ?_
  refine eb_aload_n (pc := 5) 0 dJ0_length_8abf5_5 rfl rfl ?_
  refine eb_calli (pc := 6) (eb_runF (pc := 6) (n := 0) (As := []) (rest := [.int 4]) ew_3 ew_4 ew_5 ew_6 rfl ed_J0_coder_7d493 (ct_J0_coder_7d493 hG _) ew_7 ⟨by decide, by decide⟩ (by decide) (by decide) (Nat.le_of_ble_eq_true rfl) rfl dJ0_length_8abf5_6) (fun x2 s1 => ?_)
  refine eb_ishr (pc := 9) dJ0_length_8abf5_9 ?_
  exact eb_iret (pc := 10) dJ0_length_8abf5_10 (by decide) (by decide)

def f_J1_canEncode_9a6ad (v0 : Int32) (s : eb_S) : Option (Bool × eb_S) := if v0 < 0 then (some (false, s)) else (if 255 < v0 then (some (false, s)) else (some (true, s)))
set_option maxRecDepth 100000 in
theorem ct_J1_canEncode_9a6ad {G : eb_G} (hG : eb_ok G) (v0 : Int32) (s : eb_S) : eb_ct G yJ1_canEncode_9a6ad cJ1_canEncode_9a6ad 1 (some .boolean) 1 0 0 eb_eb [.int v0] s (f_J1_canEncode_9a6ad v0 s) := by
  refine eb_ct_b (by decide) (Nat.le_of_ble_eq_true rfl) (fun v hv => by simp at hv; rcases hv with rfl <;> simp [Value.category]) ?_
  show eb_go G yJ1_canEncode_9a6ad cJ1_canEncode_9a6ad 1 (some .boolean) (1) 0 0 .ireturn (fun r : Bool => [.int (eb_b r)]) 0 [(0, .int v0)] [] s 0 0 _
  unfold f_J1_canEncode_9a6ad
  refine eb_iload_n (pc := 0) 0 dJ1_canEncode_9a6ad_0 rfl rfl ?_
  refine eb_if_lt (pc := 1) (tgt := 15) dJ1_canEncode_9a6ad_1 (by decide) ?_ ?_
  · refine eb_iconst (pc := 15) (v := 0) dJ1_canEncode_9a6ad_15 (by decide) ?_
    exact eb_bret (pc := 16) (b := false) dJ1_canEncode_9a6ad_16 (by decide) (by decide)
  · refine eb_iload_n (pc := 4) 0 dJ1_canEncode_9a6ad_4 rfl rfl ?_
    refine eb_sipush (pc := 5) (v := 255) dJ1_canEncode_9a6ad_5 (by decide) ?_
    refine eb_icmp_gt (pc := 8) (tgt := 15) dJ1_canEncode_9a6ad_8 (by decide) ?_ ?_
    · refine eb_iconst (pc := 15) (v := 0) dJ1_canEncode_9a6ad_15 (by decide) ?_
      exact eb_bret (pc := 16) (b := false) dJ1_canEncode_9a6ad_16 (by decide) (by decide)
    · refine eb_iconst (pc := 11) (v := 1) dJ1_canEncode_9a6ad_11 (by decide) ?_
      refine eb_goto (pc := 12) (tgt := 16) dJ1_canEncode_9a6ad_12 (by decide) ?_
      exact eb_bret (pc := 16) (b := true) dJ1_canEncode_9a6ad_16 (by decide) (by decide)

def f_J1_indexOfChar_4cfef_L7 (n : Nat) (v3 : Int32) (v4 : Int32)  : Nat → Int32 → eb_S → Option (Int32 × eb_S)
  | 0, _, _ => none
  | m + 1, v5, s => if v3 ≤ v5 then (some ((-1), s)) else (eb_xi 4 eb_k6 v5 fun x1 => if x1 = v4 then (some (v5, s)) else (f_J1_indexOfChar_4cfef_L7 n v3 v4 m (v5 + 1) s))
def f_J1_indexOfChar_4cfef (n : Nat) (v1 : Int32) (v2 : Int32) (v3 : Int32) (s : eb_S) : Option (Int32 × eb_S) := f_J1_indexOfChar_4cfef_L7 n v3 ((v1).toInt8.toInt32)  n v2 s
set_option maxRecDepth 100000 in
theorem gl_J1_indexOfChar_4cfef_L7 {G : eb_G} (hG : eb_ok G) {n : Nat} {v3 : Int32} {v4 : Int32}   : ∀ (m : Nat) (v5 : Int32) (s : eb_S), eb_go G yJ1_indexOfChar_4cfef cJ1_indexOfChar_4cfef 6 (some .int) (1) 0 0 .ireturn (fun r : Int32 => [.int r]) 7 [(0, .ref 6), (3, .int v3), (4, .int v4), (5, .int v5)] [] s 0 0 (f_J1_indexOfChar_4cfef_L7 n v3 v4 m v5 s) := by
  intro m
  induction m with
  | zero => intro v5 s; exact eb_none
  | succ m ih =>
    intro v5 s
    rw [f_J1_indexOfChar_4cfef_L7.eq_2]
    refine eb_iload (pc := 7) 3 dJ1_indexOfChar_4cfef_7 rfl ?_
    refine eb_iload_n (pc := 9) 1 dJ1_indexOfChar_4cfef_9 rfl rfl ?_
    refine eb_icmp_ge (pc := 10) (tgt := 31) dJ1_indexOfChar_4cfef_10 (by decide) ?_ ?_
    · refine eb_iconst (pc := 31) (v := (-1)) dJ1_indexOfChar_4cfef_31 (by decide) ?_
      exact eb_iret (pc := 32) dJ1_indexOfChar_4cfef_32 (by decide) (by decide)
    · refine eb_aload_n (pc := 13) 0 dJ1_indexOfChar_4cfef_13 rfl rfl ?_
      refine eb_iload (pc := 14) 3 dJ1_indexOfChar_4cfef_14 rfl ?_
      refine eb_baloadx (pc := 16) dJ1_indexOfChar_4cfef_16 (fun x1 => ?_)
      refine eb_iload (pc := 17) 2 dJ1_indexOfChar_4cfef_17 rfl ?_
      refine eb_icmp_ne (pc := 19) (tgt := 25) dJ1_indexOfChar_4cfef_19 (by decide) ?_ ?_
      · refine eb_iinc (pc := 25) (v := v5 + 1) (L' := [(5, .int (v5 + 1)), (0, .ref 6), (3, .int v3), (4, .int v4)]) 3 dJ1_indexOfChar_4cfef_25 rfl rfl (by decide) rfl ?_
        refine eb_goto (pc := 28) (tgt := 7) dJ1_indexOfChar_4cfef_28 (by decide) ?_
        refine eb_sub [1, 2, 3, 0] rfl ?_
        exact ih _ _
      · refine eb_iload (pc := 22) 3 dJ1_indexOfChar_4cfef_22 rfl ?_
        exact eb_iret (pc := 24) dJ1_indexOfChar_4cfef_24 (by decide) (by decide)
set_option maxRecDepth 100000 in
theorem ct_J1_indexOfChar_4cfef {G : eb_G} (hG : eb_ok G) (n : Nat) (v1 : Int32) (v2 : Int32) (v3 : Int32) (s : eb_S) : eb_ct G yJ1_indexOfChar_4cfef cJ1_indexOfChar_4cfef 6 (some .int) 1 0 0 eb_ei [.ref 6, .int v1, .int v2, .int v3] s (f_J1_indexOfChar_4cfef n v1 v2 v3 s) := by
  refine eb_ct_i (by decide) (Nat.le_of_ble_eq_true rfl) (fun v hv => by simp at hv; rcases hv with rfl | rfl | rfl | rfl <;> simp [Value.category]) ?_
  show eb_go G yJ1_indexOfChar_4cfef cJ1_indexOfChar_4cfef 6 (some .int) (1) 0 0 .ireturn (fun r : Int32 => [.int r]) 0 [(0, .ref 6), (1, .int v1), (2, .int v2), (3, .int v3)] [] s 0 0 _
  unfold f_J1_indexOfChar_4cfef
  refine eb_iload_n (pc := 0) 1 dJ1_indexOfChar_4cfef_0 rfl rfl ?_
  refine eb_i2b (pc := 1) dJ1_indexOfChar_4cfef_1 ?_
  refine eb_istore (pc := 2) (L' := [(4, .int ((v1).toInt8.toInt32)), (0, .ref 6), (1, .int v1), (2, .int v2), (3, .int v3)]) dJ1_indexOfChar_4cfef_2 (by decide) rfl ?_
  refine eb_iload_n (pc := 4) 3 dJ1_indexOfChar_4cfef_4 rfl rfl ?_
  refine eb_istore (pc := 5) (L' := [(5, .int v2), (4, .int ((v1).toInt8.toInt32)), (0, .ref 6), (1, .int v1), (2, .int v2), (3, .int v3)]) dJ1_indexOfChar_4cfef_5 (by decide) rfl ?_
  refine eb_sub [2, 5, 1, 0] rfl ?_
  refine gl_J1_indexOfChar_4cfef_L7 hG  n _ _

def f_J1_indexOf_4cfef (n : Nat) (v1 : Int32) (v2 : Int32) (v3 : Int32) (s : eb_S) : Option (Int32 × eb_S) := eb_cl (f_J1_canEncode_9a6ad v1 s) fun b2 s1 => if (eb_b b2) = 0 then (some ((-1), s1)) else (if (if v2 < 0 then 0 else v2) < (if (4 : Int32) < v3 then 4 else v3) then (eb_cl (f_J1_indexOfChar_4cfef n v1 (if v2 < 0 then 0 else v2) (if (4 : Int32) < v3 then 4 else v3) s1) fun x4 s3 => some (x4, s3)) else (some ((-1), s1)))
set_option maxRecDepth 100000 in
theorem ct_J1_indexOf_4cfef {G : eb_G} (hG : eb_ok G) (n : Nat) (v1 : Int32) (v2 : Int32) (v3 : Int32) (s : eb_S) : eb_ct G yJ1_indexOf_4cfef cJ1_indexOf_4cfef 4 (some .int) 2 0 0 eb_ei [.ref 6, .int v1, .int v2, .int v3] s (f_J1_indexOf_4cfef n v1 v2 v3 s) := by
  refine eb_ct_i (by decide) (Nat.le_of_ble_eq_true rfl) (fun v hv => by simp at hv; rcases hv with rfl | rfl | rfl | rfl <;> simp [Value.category]) ?_
  show eb_go G yJ1_indexOf_4cfef cJ1_indexOf_4cfef 4 (some .int) (2) 0 0 .ireturn (fun r : Int32 => [.int r]) 0 [(0, .ref 6), (1, .int v1), (2, .int v2), (3, .int v3)] [] s 0 0 _
  unfold f_J1_indexOf_4cfef
  refine eb_iload_n (pc := 0) 1 dJ1_indexOf_4cfef_0 rfl rfl ?_
  refine eb_callb (pc := 1) (eb_runS (pc := 1) (As := [.int v1]) (rest := []) ew_8 ew_9 ew_10 rfl ed_J1_canEncode_9a6ad (ct_J1_canEncode_9a6ad hG _ _) ew_11 ⟨by decide, by decide⟩ (by decide) (by decide) (Nat.le_of_ble_eq_true rfl) rfl dJ1_indexOf_4cfef_1) (fun b2 s1 => ?_)
  refine eb_if_ne (pc := 4) (tgt := 9) dJ1_indexOf_4cfef_4 (by decide) ?_ ?_
  · refine eb_iload_n (pc := 9) 2 dJ1_indexOf_4cfef_9 rfl rfl ?_
    refine eb_iconst (pc := 10) (v := 0) dJ1_indexOf_4cfef_10 (by decide) ?_
    refine eb_mmax (pc := 11) ew_19 ew_20 ew_17 ew_21 (by decide) (Nat.le_of_ble_eq_true rfl) (by decide) (by decide) dJ1_indexOf_4cfef_11 ?_
    refine eb_istore_n (pc := 14) (L' := [(2, .int (if v2 < 0 then 0 else v2)), (0, .ref 6), (1, .int v1), (3, .int v3)]) dJ1_indexOf_4cfef_14 rfl (by decide) rfl ?_
    refine eb_iload_n (pc := 15) 3 dJ1_indexOf_4cfef_15 rfl rfl ?_
    refine eb_aload_n (pc := 16) 1 dJ1_indexOf_4cfef_16 rfl rfl ?_
    refine eb_alen6 (pc := 17) dJ1_indexOf_4cfef_17 ?_
    refine eb_mmin (pc := 18) ew_15 ew_16 ew_17 ew_18 (by decide) (Nat.le_of_ble_eq_true rfl) (by decide) (by decide) dJ1_indexOf_4cfef_18 ?_
    refine eb_istore_n (pc := 21) (L' := [(3, .int (if (4 : Int32) < v3 then 4 else v3)), (2, .int (if v2 < 0 then 0 else v2)), (0, .ref 6), (1, .int v1)]) dJ1_indexOf_4cfef_21 rfl (by decide) rfl ?_
    refine eb_iload_n (pc := 22) 1 dJ1_indexOf_4cfef_22 rfl rfl ?_
    refine eb_iload_n (pc := 23) 0 dJ1_indexOf_4cfef_23 rfl rfl ?_
    refine eb_icmp_lt (pc := 24) (tgt := 29) dJ1_indexOf_4cfef_24 (by decide) ?_ ?_
    · refine eb_aload_n (pc := 29) 2 dJ1_indexOf_4cfef_29 rfl rfl ?_
      refine eb_iload_n (pc := 30) 3 dJ1_indexOf_4cfef_30 rfl rfl ?_
      refine eb_iload_n (pc := 31) 1 dJ1_indexOf_4cfef_31 rfl rfl ?_
      refine eb_iload_n (pc := 32) 0 dJ1_indexOf_4cfef_32 rfl rfl ?_
      refine eb_calli (pc := 33) (eb_runS (pc := 33) (As := [.ref 6, .int v1, .int (if v2 < 0 then 0 else v2), .int (if (4 : Int32) < v3 then 4 else v3)]) (rest := []) ew_12 ew_13 ew_10 rfl ed_J1_indexOfChar_4cfef (ct_J1_indexOfChar_4cfef hG n _ _ _ _) ew_14 ⟨by decide, by decide⟩ (by decide) (by decide) (Nat.le_of_ble_eq_true rfl) rfl dJ1_indexOf_4cfef_33) (fun x4 s3 => ?_)
      exact eb_iret (pc := 36) dJ1_indexOf_4cfef_36 (by decide) (by decide)
    · refine eb_iconst (pc := 27) (v := (-1)) dJ1_indexOf_4cfef_27 (by decide) ?_
      exact eb_iret (pc := 28) dJ1_indexOf_4cfef_28 (by decide) (by decide)
  · refine eb_iconst (pc := 7) (v := (-1)) dJ1_indexOf_4cfef_7 (by decide) ?_
    exact eb_iret (pc := 8) dJ1_indexOf_4cfef_8 (by decide) (by decide)

def f_J0_indexOf_7cf53 (n : Nat) (v1 : Int32) (v2 : Int32) (s : eb_S) : Option (Int32 × eb_S) := eb_cl (f_J0_isLatin1_aae02 s) fun b2 s1 => if (eb_b b2) = 0 then (eb_cl (f_J0_length_8abf5 s1) fun x4 s3 => none) else (eb_cl (f_J0_length_8abf5 s1) fun x6 s5 => eb_cl (f_J1_indexOf_4cfef n v1 v2 x6 s5) fun x8 s7 => some (x8, s7))
set_option maxRecDepth 100000 in
theorem ct_J0_indexOf_7cf53 {G : eb_G} (hG : eb_ok G) (n : Nat) (v1 : Int32) (v2 : Int32) (s : eb_S) : eb_ct G yJ0_indexOf_7cf53 cJ0_indexOf_7cf53 3 (some .int) 3 0 0 eb_ei [.ref 5, .int v1, .int v2] s (f_J0_indexOf_7cf53 n v1 v2 s) := by
  refine eb_ct_i (by decide) (Nat.le_of_ble_eq_true rfl) (fun v hv => by simp at hv; rcases hv with rfl | rfl | rfl <;> simp [Value.category]) ?_
  show eb_go G yJ0_indexOf_7cf53 cJ0_indexOf_7cf53 3 (some .int) (3) 0 0 .ireturn (fun r : Int32 => [.int r]) 0 [(0, .ref 5), (1, .int v1), (2, .int v2)] [] s 0 0 _
  unfold f_J0_indexOf_7cf53
  refine eb_aload_n (pc := 0) 0 dJ0_indexOf_7cf53_0 rfl rfl ?_
  refine eb_callb (pc := 1) (eb_runF (pc := 1) (n := 0) (As := []) (rest := []) ew_22 ew_23 ew_24 ew_6 rfl ed_J0_isLatin1_aae02 (ct_J0_isLatin1_aae02 hG _) ew_25 ⟨by decide, by decide⟩ (by decide) (by decide) (Nat.le_of_ble_eq_true rfl) rfl dJ0_indexOf_7cf53_1) (fun b2 s1 => ?_)
  refine eb_if_eq (pc := 4) (tgt := 23) dJ0_indexOf_7cf53_4 (by decide) ?_ ?_
  · refine eb_aload_n (pc := 23) 0 dJ0_indexOf_7cf53_23 rfl rfl ?_
    refine eb_getv (pc := 24) ew_2 dJ0_indexOf_7cf53_24 ?_
    refine eb_iload_n (pc := 27) 1 dJ0_indexOf_7cf53_27 rfl rfl ?_
    refine eb_iload_n (pc := 28) 2 dJ0_indexOf_7cf53_28 rfl rfl ?_
    refine eb_aload_n (pc := 29) 0 dJ0_indexOf_7cf53_29 rfl rfl ?_
    refine eb_calli (pc := 30) (eb_runF (pc := 30) (n := 0) (As := []) (rest := [.int v2, .int v1, .ref 6]) ew_26 ew_27 ew_28 ew_6 rfl ed_J0_length_8abf5 (ct_J0_length_8abf5 hG _) ew_29 ⟨by decide, by decide⟩ (by decide) (by decide) (Nat.le_of_ble_eq_true rfl) rfl dJ0_indexOf_7cf53_30) (fun x4 s3 => ?_)
    exact eb_none
  · refine eb_aload_n (pc := 7) 0 dJ0_indexOf_7cf53_7 rfl rfl ?_
    refine eb_getv (pc := 8) ew_2 dJ0_indexOf_7cf53_8 ?_
    refine eb_iload_n (pc := 11) 1 dJ0_indexOf_7cf53_11 rfl rfl ?_
    refine eb_iload_n (pc := 12) 2 dJ0_indexOf_7cf53_12 rfl rfl ?_
    refine eb_aload_n (pc := 13) 0 dJ0_indexOf_7cf53_13 rfl rfl ?_
    refine eb_calli (pc := 14) (eb_runF (pc := 14) (n := 0) (As := []) (rest := [.int v2, .int v1, .ref 6]) ew_26 ew_27 ew_28 ew_6 rfl ed_J0_length_8abf5 (ct_J0_length_8abf5 hG _) ew_29 ⟨by decide, by decide⟩ (by decide) (by decide) (Nat.le_of_ble_eq_true rfl) rfl dJ0_indexOf_7cf53_14) (fun x6 s5 => ?_)
    refine eb_calli (pc := 17) (eb_runS2 (pc := 17) (n := 4) (As := [.ref 6, .int v1, .int v2, .int x6]) (rest := []) ew_30 ew_31 ew_10 ed_J1_indexOf_4cfef (ct_J1_indexOf_4cfef hG n _ _ _ _) ew_32 ⟨by decide, by decide⟩ (by decide) (by decide) (Nat.le_of_ble_eq_true rfl) rfl dJ0_indexOf_7cf53_17) (fun x8 s7 => ?_)
    refine eb_goto (pc := 20) (tgt := 36) dJ0_indexOf_7cf53_20 (by decide) ?_
    exact eb_iret (pc := 36) dJ0_indexOf_7cf53_36 (by decide) (by decide)

def f_J0_indexOf_0f7a4 (n : Nat) (v1 : Int32) (s : eb_S) : Option (Int32 × eb_S) := eb_cl (f_J0_indexOf_7cf53 n v1 0 s) fun x2 s1 => some (x2, s1)
set_option maxRecDepth 100000 in
theorem ct_J0_indexOf_0f7a4 {G : eb_G} (hG : eb_ok G) (n : Nat) (v1 : Int32) (s : eb_S) : eb_ct G yJ0_indexOf_0f7a4 cJ0_indexOf_0f7a4 2 (some .int) 4 0 0 eb_ei [.ref 5, .int v1] s (f_J0_indexOf_0f7a4 n v1 s) := by
  refine eb_ct_i (by decide) (Nat.le_of_ble_eq_true rfl) (fun v hv => by simp at hv; rcases hv with rfl | rfl <;> simp [Value.category]) ?_
  show eb_go G yJ0_indexOf_0f7a4 cJ0_indexOf_0f7a4 2 (some .int) (4) 0 0 .ireturn (fun r : Int32 => [.int r]) 0 [(0, .ref 5), (1, .int v1)] [] s 0 0 _
  unfold f_J0_indexOf_0f7a4
  refine eb_aload_n (pc := 0) 0 dJ0_indexOf_0f7a4_0 rfl rfl ?_
  refine eb_iload_n (pc := 1) 1 dJ0_indexOf_0f7a4_1 rfl rfl ?_
  refine eb_iconst (pc := 2) (v := 0) dJ0_indexOf_0f7a4_2 (by decide) ?_
  refine eb_calli (pc := 3) (eb_runF (pc := 3) (n := 2) (As := [.int v1, .int 0]) (rest := []) ew_33 ew_34 ew_35 ew_6 rfl ed_J0_indexOf_7cf53 (ct_J0_indexOf_7cf53 hG n _ _ _) ew_36 ⟨by decide, by decide⟩ (by decide) (by decide) (Nat.le_of_ble_eq_true rfl) rfl dJ0_indexOf_0f7a4_3) (fun x2 s1 => ?_)
  exact eb_iret (pc := 6) dJ0_indexOf_0f7a4_6 (by decide) (by decide)
