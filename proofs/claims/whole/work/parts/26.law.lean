def f_L_law_L (n xn : Nat) (xs : Nat → Int32) (v1 v2 : Nat) : Nat → Int32 → eb_S → Option (Bool × eb_S)
  | 0, _, _ => none
  | m + 1, v3, s => if ((Int32.ofNat xn) - 6) < v3 then (some (true, s)) else (eb_xi xn xs v3 fun x7 => eb_jn (fun (p8 : Int32) (s9 : eb_S) => f_L_law_L n xn xs v1 v2 m (p8 + 6) s9) fun j10 => eb_sw (x7 &&& 63) 0 [(eb_xi xn xs (v3 + 1) fun x11 => eb_xi xn xs (v3 + 2) fun x12 => eb_cl (eb_tg s v1 8 (f_X9_thing v1 x11 x12 s)) fun x14 s13 => eb_xi xn xs (v3 + 1) fun x15 => eb_xi xn xs (v3 + 2) fun x16 => eb_cl (eb_tg s13 v2 9 (f_X10_thing v2 x15 x16 s13)) fun x18 s17 => if x14 = x18 then (j10 v3 s17) else (some (false, s17))), (eb_xi xn xs (v3 + 1) fun x19 => eb_xi xn xs (v3 + 2) fun x20 => eb_cl (eb_tg s v1 8 (f_X9_told n v1 x19 x20 s)) fun x22 s21 => eb_xi xn xs (v3 + 1) fun x23 => eb_xi xn xs (v3 + 2) fun x24 => eb_cl (eb_tg s21 v2 9 (f_X10_told n v2 x23 x24 s21)) fun x26 s25 => if x22 = x26 then (j10 v3 s25) else (some (false, s25))), (eb_xi xn xs (v3 + 1) fun x27 => eb_xi xn xs (v3 + 2) fun x28 => eb_xi xn xs (v3 + 3) fun x29 => eb_cl (eb_tg s v1 8 (f_X9_set v1 x27 x28 x29 s)) fun x31 s30 => eb_xi xn xs (v3 + 1) fun x32 => eb_xi xn xs (v3 + 2) fun x33 => eb_xi xn xs (v3 + 3) fun x34 => eb_cl (eb_tg s30 v2 9 (f_X10_set n v2 x32 x33 x34 s30)) fun x36 s35 => if x31 = x36 then (j10 v3 s35) else (some (false, s35))), (eb_xi xn xs (v3 + 1) fun x37 => eb_xi xn xs (v3 + 2) fun x38 => eb_jn (fun (y39 : Int32) (s40 : eb_S) => eb_cl (eb_tg s40 v1 8 (f_X9_stretch v1 x37 y39 s40)) fun x43 s42 => eb_xi xn xs (v3 + 1) fun x44 => eb_xi xn xs (v3 + 2) fun x45 => eb_jn (fun (y46 : Int32) (s47 : eb_S) => eb_cl (eb_tg s47 v2 9 (f_X10_stretch v2 x44 y46 s47)) fun x50 s49 => if x43 = x50 then (j10 v3 s49) else (some (false, s49))) fun j48 => if x45 = 0 then (j48 0 s42) else (j48 1 s42)) fun j41 => if x38 = 0 then (j41 0 s) else (j41 1 s)), (eb_xi xn xs (v3 + 1) fun x51 => eb_xi xn xs (v3 + 2) fun x52 => eb_cl (eb_tg s v1 8 (f_X9_of v1 x51 x52 s)) fun x54 s53 => eb_xi xn xs (v3 + 1) fun x55 => eb_xi xn xs (v3 + 2) fun x56 => eb_cl (eb_tg s53 v2 9 (f_X10_of v2 x55 x56 s53)) fun x58 s57 => if x54 = x58 then (j10 v3 s57) else (some (false, s57))), (eb_xi xn xs (v3 + 1) fun x59 => eb_xi xn xs (v3 + 2) fun x60 => eb_xi xn xs (v3 + 3) fun x61 => eb_cl (eb_tg s v1 8 (f_X9_bag v1 x59 x60 x61 s)) fun x63 s62 => eb_xi xn xs (v3 + 1) fun x64 => eb_xi xn xs (v3 + 2) fun x65 => eb_xi xn xs (v3 + 3) fun x66 => eb_cl (eb_tg s62 v2 9 (f_X10_bag v2 x64 x65 x66 s62)) fun x68 s67 => if x63 = x68 then (j10 v3 s67) else (some (false, s67))), (eb_xi xn xs (v3 + 1) fun x69 => eb_xi xn xs (v3 + 2) fun x70 => eb_cl (eb_tg s v1 8 (f_X9_arm v1 x69 x70 s)) fun x72 s71 => eb_xi xn xs (v3 + 1) fun x73 => eb_xi xn xs (v3 + 2) fun x74 => eb_cl (eb_tg s71 v2 9 (f_X10_arm v2 x73 x74 s71)) fun x76 s75 => if x72 = x76 then (j10 v3 s75) else (some (false, s75))), (eb_xi xn xs (v3 + 1) fun x77 => eb_xi xn xs (v3 + 2) fun x78 => eb_xi xn xs (v3 + 3) fun x79 => eb_cl (eb_tg s v1 8 (f_X9_rule v1 x77 x78 x79 s)) fun x81 s80 => eb_xi xn xs (v3 + 1) fun x82 => eb_xi xn xs (v3 + 2) fun x83 => eb_xi xn xs (v3 + 3) fun x84 => eb_cl (eb_tg s80 v2 9 (f_X10_rule v2 x82 x83 x84 s80)) fun x86 s85 => if x81 = x86 then (j10 v3 s85) else (some (false, s85))), (eb_cl (eb_tg s v1 8 (f_X9_off v1 s)) fun x88 s87 => eb_cl (eb_tg s87 v2 9 (f_X10_off v2 s87)) fun x90 s89 => if x88 = x90 then (j10 v3 s89) else (some (false, s89))), (eb_xi xn xs (v3 + 1) fun x91 => eb_cl (eb_tg s v1 8 (f_X9_type v1 x91 s)) fun x93 s92 => eb_xi xn xs (v3 + 1) fun x94 => eb_cl (eb_tg s92 v2 9 (f_X10_type v2 x94 s92)) fun x96 s95 => if x93 = x96 then (j10 v3 s95) else (some (false, s95))), (eb_cl (eb_tg s v1 8 (f_X9_market n v1 s)) fun x98 s97 => eb_cl (eb_tg s97 v2 9 (f_X10_market n v2 s97)) fun x100 s99 => if x98 = x100 then (j10 v3 s99) else (some (false, s99))), (eb_xi xn xs (v3 + 1) fun x101 => eb_cl (eb_tg s v1 8 (f_X9_count n v1 x101 s)) fun x103 s102 => eb_xi xn xs (v3 + 1) fun x104 => eb_cl (eb_tg s102 v2 9 (f_X10_count n v2 x104 s102)) fun x106 s105 => if x103 = x106 then (j10 v3 s105) else (some (false, s105))), (eb_xi xn xs (v3 + 1) fun x107 => eb_xi xn xs (v3 + 2) fun x108 => eb_cl (eb_tg s v1 8 (f_X9_load n v1 x107 x108 s)) fun x110 s109 => eb_xi xn xs (v3 + 1) fun x111 => eb_xi xn xs (v3 + 2) fun x112 => eb_cl (eb_tg s109 v2 9 (f_X10_load n v2 x111 x112 s109)) fun x114 s113 => if x110 = x114 then (j10 v3 s113) else (some (false, s113))), (eb_cl (eb_tg s v1 8 (f_X9_lawful n v1 s)) fun x116 s115 => eb_cl (eb_tg s115 v2 9 (f_X10_lawful n v2 s115)) fun x118 s117 => if x116 = x118 then (j10 v3 s117) else (some (false, s117))), (eb_xi xn xs (v3 + 1) fun x119 => eb_cl (eb_tg s v1 8 (f_X9_pull n v1 x119 s)) fun x121 s120 => eb_xi xn xs (v3 + 1) fun x122 => eb_cl (eb_tg s120 v2 9 (f_X10_pull n v2 x122 s120)) fun x124 s123 => if x121 = x124 then (j10 v3 s123) else (some (false, s123))), (eb_xi xn xs (v3 + 1) fun x125 => eb_cl (eb_tg s v1 8 (f_X9_uneven n v1 x125 s)) fun x127 s126 => eb_xi xn xs (v3 + 1) fun x128 => eb_cl (eb_tg s126 v2 9 (f_X10_uneven n v2 x128 s126)) fun x130 s129 => if x127 = x130 then (j10 v3 s129) else (some (false, s129))), (eb_xi xn xs (v3 + 1) fun x131 => eb_cl (eb_tg s v1 8 (f_X9_best n v1 x131 s)) fun x133 s132 => eb_xi xn xs (v3 + 1) fun x134 => eb_cl (eb_tg s132 v2 9 (f_X10_best n v2 x134 s132)) fun x136 s135 => if x133 = x136 then (j10 v3 s135) else (some (false, s135))), (eb_cl (eb_tg s v1 8 (f_X9_pack n v1 s)) fun x138 s137 => eb_cl (eb_tg s137 v2 9 (f_X10_pack n v2 s137)) fun x140 s139 => if x138 = x140 then (j10 v3 s139) else (some (false, s139))), (eb_xi xn xs (v3 + 1) fun x141 => eb_xi xn xs (v3 + 2) fun x142 => eb_cl (eb_tg s v1 8 (f_X9_evenest n v1 x141 x142 s)) fun x144 s143 => eb_xi xn xs (v3 + 1) fun x145 => eb_xi xn xs (v3 + 2) fun x146 => eb_cl (eb_tg s143 v2 9 (f_X10_evenest n v2 x145 x146 s143)) fun x148 s147 => if x144 = x148 then (j10 v3 s147) else (some (false, s147))), (eb_xi xn xs (v3 + 1) fun x149 => eb_xi xn xs (v3 + 2) fun x150 => eb_xi xn xs (v3 + 3) fun x151 => eb_cl (eb_tg s v1 8 (f_X9_moved n v1 x149 x150 x151 s)) fun x153 s152 => eb_xi xn xs (v3 + 1) fun x154 => eb_xi xn xs (v3 + 2) fun x155 => eb_xi xn xs (v3 + 3) fun x156 => eb_cl (eb_tg s152 v2 9 (f_X10_moved n v2 x154 x155 x156 s152)) fun x158 s157 => if x153 = x158 then (j10 v3 s157) else (some (false, s157))), (eb_xi xn xs (v3 + 1) fun x159 => eb_xi xn xs (v3 + 2) fun x160 => eb_cl (eb_tg s v1 8 (f_X9_hands n v1 x159 x160 s)) fun x162 s161 => eb_xi xn xs (v3 + 1) fun x163 => eb_xi xn xs (v3 + 2) fun x164 => eb_cl (eb_tg s161 v2 9 (f_X10_hands n v2 x163 x164 s161)) fun x166 s165 => if x162 = x166 then (j10 v3 s165) else (some (false, s165))), (eb_xi xn xs (v3 + 1) fun x167 => eb_cl (eb_tg s v1 8 (f_X9_buying n v1 x167 s)) fun x169 s168 => eb_xi xn xs (v3 + 1) fun x170 => eb_cl (eb_tg s168 v2 9 (f_X10_buying n v2 x170 s168)) fun x172 s171 => if x169 = x172 then (j10 v3 s171) else (some (false, s171))), (eb_xi xn xs (v3 + 1) fun x173 => eb_xi xn xs (v3 + 2) fun x174 => eb_cl (eb_tg s v1 8 (f_X9_paper n v1 x173 x174 s)) fun x176 s175 => eb_xi xn xs (v3 + 1) fun x177 => eb_xi xn xs (v3 + 2) fun x178 => eb_cl (eb_tg s175 v2 9 (f_X10_paper n v2 x177 x178 s175)) fun x180 s179 => if x176 = x180 then (j10 v3 s179) else (some (false, s179))), (eb_xi xn xs (v3 + 1) fun x181 => eb_xi xn xs (v3 + 2) fun x182 => eb_xi xn xs (v3 + 3) fun x183 => eb_xi xn xs (v3 + 4) fun x184 => eb_cl (eb_tg s v1 8 (f_X9_pole n v1 x181 x182 x183 x184 s)) fun x186 s185 => eb_xi xn xs (v3 + 1) fun x187 => eb_xi xn xs (v3 + 2) fun x188 => eb_xi xn xs (v3 + 3) fun x189 => eb_xi xn xs (v3 + 4) fun x190 => eb_cl (eb_tg s185 v2 9 (f_X10_pole n v2 x187 x188 x189 x190 s185)) fun x192 s191 => if x186 = x192 then (j10 v3 s191) else (some (false, s191))), (eb_xi xn xs (v3 + 1) fun x193 => eb_xi xn xs (v3 + 2) fun x194 => eb_cl (eb_tg s v1 8 (f_X9_bar n v1 x193 x194 s)) fun x196 s195 => eb_xi xn xs (v3 + 1) fun x197 => eb_xi xn xs (v3 + 2) fun x198 => eb_cl (eb_tg s195 v2 9 (f_X10_bar n v2 x197 x198 s195)) fun x200 s199 => if x196 = x200 then (j10 v3 s199) else (some (false, s199))), (eb_xi xn xs (v3 + 1) fun x201 => eb_xi xn xs (v3 + 2) fun x202 => eb_cl (eb_tg s v1 8 (f_X9_hung n v1 x201 x202 s)) fun x204 s203 => eb_xi xn xs (v3 + 1) fun x205 => eb_xi xn xs (v3 + 2) fun x206 => eb_cl (eb_tg s203 v2 9 (f_X10_hung n v2 x205 x206 s203)) fun x208 s207 => if x204 = x208 then (j10 v3 s207) else (some (false, s207))), (eb_cl (eb_tg s v1 8 (f_X9_image v1 s)) fun x210 s209 => eb_cl (eb_tg s209 v2 9 (f_X10_image n v2 s209)) fun x212 s211 => if x210 = x212 then (j10 v3 s211) else (some (false, s211))), (eb_cl (eb_tg s v1 8 (f_X9_restore v1 s)) fun x214 s213 => eb_cl (eb_tg s213 v2 9 (f_X10_restore n v2 s213)) fun x216 s215 => if x214 = x216 then (j10 v3 s215) else (some (false, s215))), (eb_xi xn xs (v3 + 1) fun x217 => eb_xi xn xs (v3 + 2) fun x218 => eb_xi xn xs (v3 + 3) fun x219 => eb_xi xn xs (v3 + 4) fun x220 => eb_xi xn xs (v3 + 5) fun x221 => eb_cl (eb_tg s v1 8 (f_X9_tray n v1 x217 x218 x219 x220 x221 s)) fun x223 s222 => eb_xi xn xs (v3 + 1) fun x224 => eb_xi xn xs (v3 + 2) fun x225 => eb_xi xn xs (v3 + 3) fun x226 => eb_xi xn xs (v3 + 4) fun x227 => eb_xi xn xs (v3 + 5) fun x228 => eb_cl (eb_tg s222 v2 9 (f_X10_tray n v2 x224 x225 x226 x227 x228 s222)) fun x230 s229 => if x223 = x230 then (j10 v3 s229) else (some (false, s229))), (eb_xi xn xs (v3 + 1) fun x231 => eb_xi xn xs (v3 + 2) fun x232 => eb_xi xn xs (v3 + 3) fun x233 => eb_xi xn xs (v3 + 4) fun x234 => eb_cl (eb_tg s v1 8 (f_X9_pulled n v1 x231 x232 x233 x234 s)) fun x236 s235 => eb_xi xn xs (v3 + 1) fun x237 => eb_xi xn xs (v3 + 2) fun x238 => eb_xi xn xs (v3 + 3) fun x239 => eb_xi xn xs (v3 + 4) fun x240 => eb_cl (eb_tg s235 v2 9 (f_X10_pulled n v2 x237 x238 x239 x240 s235)) fun x242 s241 => if x236 = x242 then (j10 v3 s241) else (some (false, s241))), (eb_xi xn xs (v3 + 1) fun x243 => eb_xi xn xs (v3 + 2) fun x244 => eb_xi xn xs (v3 + 3) fun x245 => eb_cl (eb_tg s v1 8 (f_X9_film n v1 x243 x244 x245 s)) fun x247 s246 => eb_xi xn xs (v3 + 1) fun x248 => eb_xi xn xs (v3 + 2) fun x249 => eb_xi xn xs (v3 + 3) fun x250 => eb_cl (eb_tg s246 v2 9 (f_X10_film n v2 x248 x249 x250 s246)) fun x252 s251 => if x247 = x252 then (j10 v3 s251) else (some (false, s251))), (eb_xi xn xs (v3 + 1) fun x253 => eb_xi xn xs (v3 + 2) fun x254 => eb_xi xn xs (v3 + 3) fun x255 => eb_cl (eb_tg s v1 8 (f_X9_lay n v1 x253 x254 x255 s)) fun x257 s256 => eb_xi xn xs (v3 + 1) fun x258 => eb_xi xn xs (v3 + 2) fun x259 => eb_xi xn xs (v3 + 3) fun x260 => eb_cl (eb_tg s256 v2 9 (f_X10_lay n v2 x258 x259 x260 s256)) fun x262 s261 => if x257 = x262 then (j10 v3 s261) else (some (false, s261))), (eb_xi xn xs (v3 + 1) fun x263 => eb_xi xn xs (v3 + 2) fun x264 => eb_xi xn xs (v3 + 3) fun x265 => eb_cl (eb_tg s v1 8 (f_X9_sheet n v1 x263 x264 x265 s)) fun x267 s266 => eb_xi xn xs (v3 + 1) fun x268 => eb_xi xn xs (v3 + 2) fun x269 => eb_xi xn xs (v3 + 3) fun x270 => eb_cl (eb_tg s266 v2 9 (f_X10_sheet n v2 x268 x269 x270 s266)) fun x272 s271 => if x267 = x272 then (j10 v3 s271) else (some (false, s271))), (eb_xi xn xs (v3 + 1) fun x273 => eb_cl (eb_tg s v1 8 (f_X9_drop v1 x273 s)) fun x275 s274 => eb_xi xn xs (v3 + 1) fun x276 => eb_cl (eb_tg s274 v2 9 (f_X10_drop v2 x276 s274)) fun x278 s277 => if x275 = x278 then (j10 v3 s277) else (some (false, s277))), (eb_xi xn xs (v3 + 1) fun x279 => eb_xi xn xs (v3 + 2) fun x280 => eb_xi xn xs (v3 + 3) fun x281 => eb_xi xn xs (v3 + 4) fun x282 => eb_xi xn xs (v3 + 5) fun x283 => eb_cl (eb_tg s v1 8 (f_X9_item v1 x279 x280 x281 ((((x282).toInt64) <<< ((32 : Int32).toInt64 &&& 63)) ||| (((x283).toInt64) &&& 4294967295)) s)) fun x285 s284 => eb_xi xn xs (v3 + 1) fun x286 => eb_xi xn xs (v3 + 2) fun x287 => eb_xi xn xs (v3 + 3) fun x288 => eb_xi xn xs (v3 + 4) fun x289 => eb_xi xn xs (v3 + 5) fun x290 => eb_cl (eb_tg s284 v2 9 (f_X10_item v2 x286 x287 x288 ((((x289).toInt64) <<< ((32 : Int32).toInt64 &&& 63)) ||| (((x290).toInt64) &&& 4294967295)) s284)) fun x292 s291 => if x285 = x292 then (j10 v3 s291) else (some (false, s291))), (eb_xi xn xs (v3 + 1) fun x293 => eb_xi xn xs (v3 + 2) fun x294 => eb_xi xn xs (v3 + 3) fun x295 => eb_xi xn xs (v3 + 4) fun x296 => eb_xi xn xs (v3 + 5) fun x297 => eb_cl (eb_tg s v1 8 (f_X9_copy v1 x293 x294 x295 x296 x297 s)) fun x299 s298 => eb_xi xn xs (v3 + 1) fun x300 => eb_xi xn xs (v3 + 2) fun x301 => eb_xi xn xs (v3 + 3) fun x302 => eb_xi xn xs (v3 + 4) fun x303 => eb_xi xn xs (v3 + 5) fun x304 => eb_cl (eb_tg s298 v2 9 (f_X10_copy n v2 x300 x301 x302 x303 x304 s298)) fun x306 s305 => if x299 = x306 then (j10 v3 s305) else (some (false, s305)))] (j10 v3 s))
def f_L_law (n xn : Nat) (xs : Nat → Int32) (s : eb_S) : Option (Bool × eb_S) := eb_no s 8 12 fun r1 s2 => eb_cl (f_X9_init r1 s2) fun _u s3 => eb_no s3 9 43 fun r4 s5 => eb_cl (f_X10_init n r4 s5) fun _u s6 => f_L_law_L n xn xs r1 r4 66 0 s6
set_option maxRecDepth 100000 in
set_option maxHeartbeats 4000000 in
theorem gl_L_law {G : eb_G} (hG : eb_ok G) {n xn : Nat} {xs : Nat → Int32} (hxn : eb_gn G 4 = xn) (hxs : eb_gx G 4 = xs) {v1 v2 : Nat} : ∀ (m : Nat) (v3 : Int32) (s : eb_S) (cn sn : Nat), cn + m ≤ 179 → sn + 10240 * m ≤ 687976 → eb_go G yL_law cL_law 4 (some .boolean) (20) 179 687976 .ireturn (fun r : Bool => [.int (eb_b r)]) 18 [(0, .ref 4), (1, .ref v1), (2, .ref v2), (3, .int v3)] [] s cn sn (f_L_law_L n xn xs v1 v2 m v3 s) := by
  intro m
  induction m with
  | zero => intro v3 s cn sn _ _; exact eb_none
  | succ m ih =>
    intro v3 s cn sn hcn hsn
    rw [f_L_law_L.eq_2]
    refine eb_iload_n (pc := 18) 3 dL_law_18 rfl rfl ?_
    refine eb_aload_n (pc := 19) 0 dL_law_19 rfl rfl ?_
    refine eb_alenx (pc := 20) (by decide) hxn dL_law_20 ?_
    refine eb_bipush (pc := 21) (v := 6) dL_law_21 (by decide) ?_
    refine eb_isub (pc := 23) dL_law_23 ?_
    refine eb_icmp_gt (pc := 24) (tgt := 1432) dL_law_24 (by decide) ?_ ?_
    · refine eb_iconst (pc := 1432) (v := 1) dL_law_1432 (by decide) ?_
      exact eb_bret (pc := 1433) (b := true) dL_law_1433 (by omega) (by omega)
    · refine eb_aload_n (pc := 27) 0 dL_law_27 rfl rfl ?_
      refine eb_iload_n (pc := 28) 3 dL_law_28 rfl rfl ?_
      refine eb_ialoadx (pc := 29) (by decide) hxn hxs dL_law_29 (fun x7 => ?_)
      refine eb_bipush (pc := 30) (v := 63) dL_law_30 (by decide) ?_
      refine eb_iand (pc := 32) dL_law_32 ?_
      refine eb_join (fun j10 : Int32 → eb_S → Option (Bool × eb_S) => ∀ (p8 : Int32) (s9 : eb_S), eb_go G yL_law cL_law 4 (some .boolean) (20) 179 687976 .ireturn (fun r : Bool => [.int (eb_b r)]) 1426 [(0, .ref 4), (1, .ref v1), (2, .ref v2), (3, .int p8)] [] s9 (cn + 1) (sn + 10240) (j10 p8 s9)) ?_ (fun j10 hj10 => ?_)
      · intro p8 s9
        refine eb_iinc (pc := 1426) (v := p8 + 6) (L' := [(3, .int (p8 + 6)), (0, .ref 4), (1, .ref v1), (2, .ref v2)]) 3 dL_law_1426 rfl rfl (by decide) rfl ?_
        refine eb_goto (pc := 1429) (tgt := 18) dL_law_1429 (by decide) ?_
        refine eb_sub [1, 2, 3, 0] rfl ?_
        exact ih _ _ _ _ (by omega) (by omega)
      refine eb_tswitch (pc := 33) (i0 := 0) (tgs := [192, 225, 258, 301, 350, 383, 426, 459, 502, 515, 538, 551, 574, 607, 620, 643, 666, 689, 702, 735, 778, 811, 834, 867, 920, 953, 986, 999, 1012, 1075, 1128, 1171, 1214, 1257, 1280, 1363]) (td := 1426) dL_law_33 rfl rfl rfl rfl (by decide) ⟨?_, ?_, ?_, ?_, ?_, ?_, ?_, ?_, ?_, ?_, ?_, ?_, ?_, ?_, ?_, ?_, ?_, ?_, ?_, ?_, ?_, ?_, ?_, ?_, ?_, ?_, ?_, ?_, ?_, ?_, ?_, ?_, ?_, ?_, ?_, ?_, trivial⟩ ?_
      · refine eb_aload_n (pc := 192) 1 dL_law_192 rfl rfl ?_
        refine eb_aload_n (pc := 193) 0 dL_law_193 rfl rfl ?_
        refine eb_iload_n (pc := 194) 3 dL_law_194 rfl rfl ?_
        refine eb_iconst (pc := 195) (v := 1) dL_law_195 (by decide) ?_
        refine eb_iadd (pc := 196) dL_law_196 ?_
        refine eb_ialoadx (pc := 197) (by decide) hxn hxs dL_law_197 (fun x11 => ?_)
        refine eb_aload_n (pc := 198) 0 dL_law_198 rfl rfl ?_
        refine eb_iload_n (pc := 199) 3 dL_law_199 rfl rfl ?_
        refine eb_iconst (pc := 200) (v := 2) dL_law_200 (by decide) ?_
        refine eb_iadd (pc := 201) dL_law_201 ?_
        refine eb_ialoadx (pc := 202) (by decide) hxn hxs dL_law_202 (fun x12 => ?_)
        refine eb_calli (pc := 203) (eb_runV (pc := 203) (As := [.int x11, .int x12]) (rest := []) (ci := 8) (q0 := (RX9, TX9, 12)) (q := (RX9, TX9, 12)) ew_913 ew_914 ew_915 ew_427 rfl rfl ed_X9_thing (ct_X9_thing hG _ _ _ _) rfl ew_916 ⟨by decide, by decide⟩ (by omega) (by omega) (Nat.le_of_ble_eq_true rfl) rfl dL_law_203) (fun x14 s13 => ?_)
        refine eb_aload_n (pc := 206) 2 dL_law_206 rfl rfl ?_
        refine eb_aload_n (pc := 207) 0 dL_law_207 rfl rfl ?_
        refine eb_iload_n (pc := 208) 3 dL_law_208 rfl rfl ?_
        refine eb_iconst (pc := 209) (v := 1) dL_law_209 (by decide) ?_
        refine eb_iadd (pc := 210) dL_law_210 ?_
        refine eb_ialoadx (pc := 211) (by decide) hxn hxs dL_law_211 (fun x15 => ?_)
        refine eb_aload_n (pc := 212) 0 dL_law_212 rfl rfl ?_
        refine eb_iload_n (pc := 213) 3 dL_law_213 rfl rfl ?_
        refine eb_iconst (pc := 214) (v := 2) dL_law_214 (by decide) ?_
        refine eb_iadd (pc := 215) dL_law_215 ?_
        refine eb_ialoadx (pc := 216) (by decide) hxn hxs dL_law_216 (fun x16 => ?_)
        refine eb_calli (pc := 217) (eb_runV (pc := 217) (As := [.int x15, .int x16]) (rest := [.int x14]) (ci := 9) (q0 := (RX10, TX10, 43)) (q := (RX10, TX10, 43)) ew_917 ew_918 ew_919 ew_666 rfl rfl ed_X10_thing (ct_X10_thing hG _ _ _ _) rfl ew_920 ⟨by decide, by decide⟩ (by omega) (by omega) (Nat.le_of_ble_eq_true rfl) rfl dL_law_217) (fun x18 s17 => ?_)
        refine eb_icmp_eq (pc := 220) (tgt := 1426) dL_law_220 (by decide) ?_ ?_
        · refine eb_wide (cn' := (cn + 1)) (sn' := (sn + 10240)) (by omega) (by omega) ?_
          exact hj10 _ _
        · refine eb_iconst (pc := 223) (v := 0) dL_law_223 (by decide) ?_
          exact eb_bret (pc := 224) (b := false) dL_law_224 (by omega) (by omega)
      · refine eb_aload_n (pc := 225) 1 dL_law_225 rfl rfl ?_
        refine eb_aload_n (pc := 226) 0 dL_law_226 rfl rfl ?_
        refine eb_iload_n (pc := 227) 3 dL_law_227 rfl rfl ?_
        refine eb_iconst (pc := 228) (v := 1) dL_law_228 (by decide) ?_
        refine eb_iadd (pc := 229) dL_law_229 ?_
        refine eb_ialoadx (pc := 230) (by decide) hxn hxs dL_law_230 (fun x19 => ?_)
        refine eb_aload_n (pc := 231) 0 dL_law_231 rfl rfl ?_
        refine eb_iload_n (pc := 232) 3 dL_law_232 rfl rfl ?_
        refine eb_iconst (pc := 233) (v := 2) dL_law_233 (by decide) ?_
        refine eb_iadd (pc := 234) dL_law_234 ?_
        refine eb_ialoadx (pc := 235) (by decide) hxn hxs dL_law_235 (fun x20 => ?_)
        refine eb_calli (pc := 236) (eb_runV (pc := 236) (As := [.int x19, .int x20]) (rest := []) (ci := 8) (q0 := (RX9, TX9, 12)) (q := (RX9, TX9, 12)) ew_921 ew_922 ew_923 ew_427 rfl rfl ed_X9_told (ct_X9_told hG n _ _ _ _) rfl ew_924 ⟨by decide, by decide⟩ (by omega) (by omega) (Nat.le_of_ble_eq_true rfl) rfl dL_law_236) (fun x22 s21 => ?_)
        refine eb_aload_n (pc := 239) 2 dL_law_239 rfl rfl ?_
        refine eb_aload_n (pc := 240) 0 dL_law_240 rfl rfl ?_
        refine eb_iload_n (pc := 241) 3 dL_law_241 rfl rfl ?_
        refine eb_iconst (pc := 242) (v := 1) dL_law_242 (by decide) ?_
        refine eb_iadd (pc := 243) dL_law_243 ?_
        refine eb_ialoadx (pc := 244) (by decide) hxn hxs dL_law_244 (fun x23 => ?_)
        refine eb_aload_n (pc := 245) 0 dL_law_245 rfl rfl ?_
        refine eb_iload_n (pc := 246) 3 dL_law_246 rfl rfl ?_
        refine eb_iconst (pc := 247) (v := 2) dL_law_247 (by decide) ?_
        refine eb_iadd (pc := 248) dL_law_248 ?_
        refine eb_ialoadx (pc := 249) (by decide) hxn hxs dL_law_249 (fun x24 => ?_)
        refine eb_calli (pc := 250) (eb_runV (pc := 250) (As := [.int x23, .int x24]) (rest := [.int x22]) (ci := 9) (q0 := (RX10, TX10, 43)) (q := (RX10, TX10, 43)) ew_925 ew_686 ew_687 ew_666 rfl rfl ed_X10_told (ct_X10_told hG n _ _ _ _) rfl ew_688 ⟨by decide, by decide⟩ (by omega) (by omega) (Nat.le_of_ble_eq_true rfl) rfl dL_law_250) (fun x26 s25 => ?_)
        refine eb_icmp_eq (pc := 253) (tgt := 1426) dL_law_253 (by decide) ?_ ?_
        · refine eb_wide (cn' := (cn + 1)) (sn' := (sn + 10240)) (by omega) (by omega) ?_
          exact hj10 _ _
        · refine eb_iconst (pc := 256) (v := 0) dL_law_256 (by decide) ?_
          exact eb_bret (pc := 257) (b := false) dL_law_257 (by omega) (by omega)
      · refine eb_aload_n (pc := 258) 1 dL_law_258 rfl rfl ?_
        refine eb_aload_n (pc := 259) 0 dL_law_259 rfl rfl ?_
        refine eb_iload_n (pc := 260) 3 dL_law_260 rfl rfl ?_
        refine eb_iconst (pc := 261) (v := 1) dL_law_261 (by decide) ?_
        refine eb_iadd (pc := 262) dL_law_262 ?_
        refine eb_ialoadx (pc := 263) (by decide) hxn hxs dL_law_263 (fun x27 => ?_)
        refine eb_aload_n (pc := 264) 0 dL_law_264 rfl rfl ?_
        refine eb_iload_n (pc := 265) 3 dL_law_265 rfl rfl ?_
        refine eb_iconst (pc := 266) (v := 2) dL_law_266 (by decide) ?_
        refine eb_iadd (pc := 267) dL_law_267 ?_
        refine eb_ialoadx (pc := 268) (by decide) hxn hxs dL_law_268 (fun x28 => ?_)
        refine eb_aload_n (pc := 269) 0 dL_law_269 rfl rfl ?_
        refine eb_iload_n (pc := 270) 3 dL_law_270 rfl rfl ?_
        refine eb_iconst (pc := 271) (v := 3) dL_law_271 (by decide) ?_
        refine eb_iadd (pc := 272) dL_law_272 ?_
        refine eb_ialoadx (pc := 273) (by decide) hxn hxs dL_law_273 (fun x29 => ?_)
        refine eb_calli (pc := 274) (eb_runV (pc := 274) (As := [.int x27, .int x28, .int x29]) (rest := []) (ci := 8) (q0 := (RX9, TX9, 12)) (q := (RX9, TX9, 12)) ew_926 ew_927 ew_928 ew_427 rfl rfl ed_X9_set (ct_X9_set hG _ _ _ _ _) rfl ew_929 ⟨by decide, by decide⟩ (by omega) (by omega) (Nat.le_of_ble_eq_true rfl) rfl dL_law_274) (fun x31 s30 => ?_)
        refine eb_aload_n (pc := 277) 2 dL_law_277 rfl rfl ?_
        refine eb_aload_n (pc := 278) 0 dL_law_278 rfl rfl ?_
        refine eb_iload_n (pc := 279) 3 dL_law_279 rfl rfl ?_
        refine eb_iconst (pc := 280) (v := 1) dL_law_280 (by decide) ?_
        refine eb_iadd (pc := 281) dL_law_281 ?_
        refine eb_ialoadx (pc := 282) (by decide) hxn hxs dL_law_282 (fun x32 => ?_)
        refine eb_aload_n (pc := 283) 0 dL_law_283 rfl rfl ?_
        refine eb_iload_n (pc := 284) 3 dL_law_284 rfl rfl ?_
        refine eb_iconst (pc := 285) (v := 2) dL_law_285 (by decide) ?_
        refine eb_iadd (pc := 286) dL_law_286 ?_
        refine eb_ialoadx (pc := 287) (by decide) hxn hxs dL_law_287 (fun x33 => ?_)
        refine eb_aload_n (pc := 288) 0 dL_law_288 rfl rfl ?_
        refine eb_iload_n (pc := 289) 3 dL_law_289 rfl rfl ?_
        refine eb_iconst (pc := 290) (v := 3) dL_law_290 (by decide) ?_
        refine eb_iadd (pc := 291) dL_law_291 ?_
        refine eb_ialoadx (pc := 292) (by decide) hxn hxs dL_law_292 (fun x34 => ?_)
        refine eb_calli (pc := 293) (eb_runV (pc := 293) (As := [.int x32, .int x33, .int x34]) (rest := [.int x31]) (ci := 9) (q0 := (RX10, TX10, 43)) (q := (RX10, TX10, 43)) ew_930 ew_931 ew_932 ew_666 rfl rfl ed_X10_set (ct_X10_set hG n _ _ _ _ _) rfl ew_933 ⟨by decide, by decide⟩ (by omega) (by omega) (Nat.le_of_ble_eq_true rfl) rfl dL_law_293) (fun x36 s35 => ?_)
        refine eb_icmp_eq (pc := 296) (tgt := 1426) dL_law_296 (by decide) ?_ ?_
        · refine eb_wide (cn' := (cn + 1)) (sn' := (sn + 10240)) (by omega) (by omega) ?_
          exact hj10 _ _
        · refine eb_iconst (pc := 299) (v := 0) dL_law_299 (by decide) ?_
          exact eb_bret (pc := 300) (b := false) dL_law_300 (by omega) (by omega)
      · refine eb_aload_n (pc := 301) 1 dL_law_301 rfl rfl ?_
        refine eb_aload_n (pc := 302) 0 dL_law_302 rfl rfl ?_
        refine eb_iload_n (pc := 303) 3 dL_law_303 rfl rfl ?_
        refine eb_iconst (pc := 304) (v := 1) dL_law_304 (by decide) ?_
        refine eb_iadd (pc := 305) dL_law_305 ?_
        refine eb_ialoadx (pc := 306) (by decide) hxn hxs dL_law_306 (fun x37 => ?_)
        refine eb_aload_n (pc := 307) 0 dL_law_307 rfl rfl ?_
        refine eb_iload_n (pc := 308) 3 dL_law_308 rfl rfl ?_
        refine eb_iconst (pc := 309) (v := 2) dL_law_309 (by decide) ?_
        refine eb_iadd (pc := 310) dL_law_310 ?_
        refine eb_ialoadx (pc := 311) (by decide) hxn hxs dL_law_311 (fun x38 => ?_)
        refine eb_join (fun j41 : Int32 → eb_S → Option (Bool × eb_S) => ∀ (y39 : Int32) (s40 : eb_S), eb_go G yL_law cL_law 4 (some .boolean) (20) 179 687976 .ireturn (fun r : Bool => [.int (eb_b r)]) 320 [(0, .ref 4), (1, .ref v1), (2, .ref v2), (3, .int v3)] [.int y39, .int x37, .ref v1] s40 cn sn (j41 y39 s40)) ?_ (fun j41 hj41 => ?_)
        · intro y39 s40
          refine eb_calli (pc := 320) (eb_runV (pc := 320) (As := [.int x37, .int y39]) (rest := []) (ci := 8) (q0 := (RX9, TX9, 12)) (q := (RX9, TX9, 12)) ew_934 ew_935 ew_936 ew_427 rfl rfl ed_X9_stretch (ct_X9_stretch hG _ _ _ _) rfl ew_937 ⟨by decide, by decide⟩ (by omega) (by omega) (Nat.le_of_ble_eq_true rfl) rfl dL_law_320) (fun x43 s42 => ?_)
          refine eb_aload_n (pc := 323) 2 dL_law_323 rfl rfl ?_
          refine eb_aload_n (pc := 324) 0 dL_law_324 rfl rfl ?_
          refine eb_iload_n (pc := 325) 3 dL_law_325 rfl rfl ?_
          refine eb_iconst (pc := 326) (v := 1) dL_law_326 (by decide) ?_
          refine eb_iadd (pc := 327) dL_law_327 ?_
          refine eb_ialoadx (pc := 328) (by decide) hxn hxs dL_law_328 (fun x44 => ?_)
          refine eb_aload_n (pc := 329) 0 dL_law_329 rfl rfl ?_
          refine eb_iload_n (pc := 330) 3 dL_law_330 rfl rfl ?_
          refine eb_iconst (pc := 331) (v := 2) dL_law_331 (by decide) ?_
          refine eb_iadd (pc := 332) dL_law_332 ?_
          refine eb_ialoadx (pc := 333) (by decide) hxn hxs dL_law_333 (fun x45 => ?_)
          refine eb_join (fun j48 : Int32 → eb_S → Option (Bool × eb_S) => ∀ (y46 : Int32) (s47 : eb_S), eb_go G yL_law cL_law 4 (some .boolean) (20) 179 687976 .ireturn (fun r : Bool => [.int (eb_b r)]) 342 [(0, .ref 4), (1, .ref v1), (2, .ref v2), (3, .int v3)] [.int y46, .int x44, .ref v2, .int x43] s47 (cn + 0) (sn + 0) (j48 y46 s47)) ?_ (fun j48 hj48 => ?_)
          · intro y46 s47
            refine eb_calli (pc := 342) (eb_runV (pc := 342) (As := [.int x44, .int y46]) (rest := [.int x43]) (ci := 9) (q0 := (RX10, TX10, 43)) (q := (RX10, TX10, 43)) ew_938 ew_939 ew_940 ew_666 rfl rfl ed_X10_stretch (ct_X10_stretch hG _ _ _ _) rfl ew_941 ⟨by decide, by decide⟩ (by omega) (by omega) (Nat.le_of_ble_eq_true rfl) rfl dL_law_342) (fun x50 s49 => ?_)
            refine eb_icmp_eq (pc := 345) (tgt := 1426) dL_law_345 (by decide) ?_ ?_
            · refine eb_wide (cn' := (cn + 1)) (sn' := (sn + 10240)) (by omega) (by omega) ?_
              exact hj10 _ _
            · refine eb_iconst (pc := 348) (v := 0) dL_law_348 (by decide) ?_
              exact eb_bret (pc := 349) (b := false) dL_law_349 (by omega) (by omega)
          refine eb_if_eq (pc := 334) (tgt := 341) dL_law_334 (by decide) ?_ ?_
          · refine eb_iconst (pc := 341) (v := 0) dL_law_341 (by decide) ?_
            exact hj48 _ _
          · refine eb_iconst (pc := 337) (v := 1) dL_law_337 (by decide) ?_
            refine eb_goto (pc := 338) (tgt := 342) dL_law_338 (by decide) ?_
            exact hj48 _ _
        refine eb_if_eq (pc := 312) (tgt := 319) dL_law_312 (by decide) ?_ ?_
        · refine eb_iconst (pc := 319) (v := 0) dL_law_319 (by decide) ?_
          exact hj41 _ _
        · refine eb_iconst (pc := 315) (v := 1) dL_law_315 (by decide) ?_
          refine eb_goto (pc := 316) (tgt := 320) dL_law_316 (by decide) ?_
          exact hj41 _ _
      · refine eb_aload_n (pc := 350) 1 dL_law_350 rfl rfl ?_
        refine eb_aload_n (pc := 351) 0 dL_law_351 rfl rfl ?_
        refine eb_iload_n (pc := 352) 3 dL_law_352 rfl rfl ?_
        refine eb_iconst (pc := 353) (v := 1) dL_law_353 (by decide) ?_
        refine eb_iadd (pc := 354) dL_law_354 ?_
        refine eb_ialoadx (pc := 355) (by decide) hxn hxs dL_law_355 (fun x51 => ?_)
        refine eb_aload_n (pc := 356) 0 dL_law_356 rfl rfl ?_
        refine eb_iload_n (pc := 357) 3 dL_law_357 rfl rfl ?_
        refine eb_iconst (pc := 358) (v := 2) dL_law_358 (by decide) ?_
        refine eb_iadd (pc := 359) dL_law_359 ?_
        refine eb_ialoadx (pc := 360) (by decide) hxn hxs dL_law_360 (fun x52 => ?_)
        refine eb_calli (pc := 361) (eb_runV (pc := 361) (As := [.int x51, .int x52]) (rest := []) (ci := 8) (q0 := (RX9, TX9, 12)) (q := (RX9, TX9, 12)) ew_942 ew_943 ew_944 ew_427 rfl rfl ed_X9_of (ct_X9_of hG _ _ _ _) rfl ew_945 ⟨by decide, by decide⟩ (by omega) (by omega) (Nat.le_of_ble_eq_true rfl) rfl dL_law_361) (fun x54 s53 => ?_)
        refine eb_aload_n (pc := 364) 2 dL_law_364 rfl rfl ?_
        refine eb_aload_n (pc := 365) 0 dL_law_365 rfl rfl ?_
        refine eb_iload_n (pc := 366) 3 dL_law_366 rfl rfl ?_
        refine eb_iconst (pc := 367) (v := 1) dL_law_367 (by decide) ?_
        refine eb_iadd (pc := 368) dL_law_368 ?_
        refine eb_ialoadx (pc := 369) (by decide) hxn hxs dL_law_369 (fun x55 => ?_)
        refine eb_aload_n (pc := 370) 0 dL_law_370 rfl rfl ?_
        refine eb_iload_n (pc := 371) 3 dL_law_371 rfl rfl ?_
        refine eb_iconst (pc := 372) (v := 2) dL_law_372 (by decide) ?_
        refine eb_iadd (pc := 373) dL_law_373 ?_
        refine eb_ialoadx (pc := 374) (by decide) hxn hxs dL_law_374 (fun x56 => ?_)
        refine eb_calli (pc := 375) (eb_runV (pc := 375) (As := [.int x55, .int x56]) (rest := [.int x54]) (ci := 9) (q0 := (RX10, TX10, 43)) (q := (RX10, TX10, 43)) ew_946 ew_947 ew_948 ew_666 rfl rfl ed_X10_of (ct_X10_of hG _ _ _ _) rfl ew_949 ⟨by decide, by decide⟩ (by omega) (by omega) (Nat.le_of_ble_eq_true rfl) rfl dL_law_375) (fun x58 s57 => ?_)
        refine eb_icmp_eq (pc := 378) (tgt := 1426) dL_law_378 (by decide) ?_ ?_
        · refine eb_wide (cn' := (cn + 1)) (sn' := (sn + 10240)) (by omega) (by omega) ?_
          exact hj10 _ _
        · refine eb_iconst (pc := 381) (v := 0) dL_law_381 (by decide) ?_
          exact eb_bret (pc := 382) (b := false) dL_law_382 (by omega) (by omega)
      · refine eb_aload_n (pc := 383) 1 dL_law_383 rfl rfl ?_
        refine eb_aload_n (pc := 384) 0 dL_law_384 rfl rfl ?_
        refine eb_iload_n (pc := 385) 3 dL_law_385 rfl rfl ?_
        refine eb_iconst (pc := 386) (v := 1) dL_law_386 (by decide) ?_
        refine eb_iadd (pc := 387) dL_law_387 ?_
        refine eb_ialoadx (pc := 388) (by decide) hxn hxs dL_law_388 (fun x59 => ?_)
        refine eb_aload_n (pc := 389) 0 dL_law_389 rfl rfl ?_
        refine eb_iload_n (pc := 390) 3 dL_law_390 rfl rfl ?_
        refine eb_iconst (pc := 391) (v := 2) dL_law_391 (by decide) ?_
        refine eb_iadd (pc := 392) dL_law_392 ?_
        refine eb_ialoadx (pc := 393) (by decide) hxn hxs dL_law_393 (fun x60 => ?_)
        refine eb_aload_n (pc := 394) 0 dL_law_394 rfl rfl ?_
        refine eb_iload_n (pc := 395) 3 dL_law_395 rfl rfl ?_
        refine eb_iconst (pc := 396) (v := 3) dL_law_396 (by decide) ?_
        refine eb_iadd (pc := 397) dL_law_397 ?_
        refine eb_ialoadx (pc := 398) (by decide) hxn hxs dL_law_398 (fun x61 => ?_)
        refine eb_calli (pc := 399) (eb_runV (pc := 399) (As := [.int x59, .int x60, .int x61]) (rest := []) (ci := 8) (q0 := (RX9, TX9, 12)) (q := (RX9, TX9, 12)) ew_950 ew_951 ew_952 ew_427 rfl rfl ed_X9_bag (ct_X9_bag hG _ _ _ _ _) rfl ew_953 ⟨by decide, by decide⟩ (by omega) (by omega) (Nat.le_of_ble_eq_true rfl) rfl dL_law_399) (fun x63 s62 => ?_)
        refine eb_aload_n (pc := 402) 2 dL_law_402 rfl rfl ?_
        refine eb_aload_n (pc := 403) 0 dL_law_403 rfl rfl ?_
        refine eb_iload_n (pc := 404) 3 dL_law_404 rfl rfl ?_
        refine eb_iconst (pc := 405) (v := 1) dL_law_405 (by decide) ?_
        refine eb_iadd (pc := 406) dL_law_406 ?_
        refine eb_ialoadx (pc := 407) (by decide) hxn hxs dL_law_407 (fun x64 => ?_)
        refine eb_aload_n (pc := 408) 0 dL_law_408 rfl rfl ?_
        refine eb_iload_n (pc := 409) 3 dL_law_409 rfl rfl ?_
        refine eb_iconst (pc := 410) (v := 2) dL_law_410 (by decide) ?_
        refine eb_iadd (pc := 411) dL_law_411 ?_
        refine eb_ialoadx (pc := 412) (by decide) hxn hxs dL_law_412 (fun x65 => ?_)
        refine eb_aload_n (pc := 413) 0 dL_law_413 rfl rfl ?_
        refine eb_iload_n (pc := 414) 3 dL_law_414 rfl rfl ?_
        refine eb_iconst (pc := 415) (v := 3) dL_law_415 (by decide) ?_
        refine eb_iadd (pc := 416) dL_law_416 ?_
        refine eb_ialoadx (pc := 417) (by decide) hxn hxs dL_law_417 (fun x66 => ?_)
        refine eb_calli (pc := 418) (eb_runV (pc := 418) (As := [.int x64, .int x65, .int x66]) (rest := [.int x63]) (ci := 9) (q0 := (RX10, TX10, 43)) (q := (RX10, TX10, 43)) ew_954 ew_955 ew_956 ew_666 rfl rfl ed_X10_bag (ct_X10_bag hG _ _ _ _ _) rfl ew_957 ⟨by decide, by decide⟩ (by omega) (by omega) (Nat.le_of_ble_eq_true rfl) rfl dL_law_418) (fun x68 s67 => ?_)
        refine eb_icmp_eq (pc := 421) (tgt := 1426) dL_law_421 (by decide) ?_ ?_
        · refine eb_wide (cn' := (cn + 1)) (sn' := (sn + 10240)) (by omega) (by omega) ?_
          exact hj10 _ _
        · refine eb_iconst (pc := 424) (v := 0) dL_law_424 (by decide) ?_
          exact eb_bret (pc := 425) (b := false) dL_law_425 (by omega) (by omega)
      · refine eb_aload_n (pc := 426) 1 dL_law_426 rfl rfl ?_
        refine eb_aload_n (pc := 427) 0 dL_law_427 rfl rfl ?_
        refine eb_iload_n (pc := 428) 3 dL_law_428 rfl rfl ?_
        refine eb_iconst (pc := 429) (v := 1) dL_law_429 (by decide) ?_
        refine eb_iadd (pc := 430) dL_law_430 ?_
        refine eb_ialoadx (pc := 431) (by decide) hxn hxs dL_law_431 (fun x69 => ?_)
        refine eb_aload_n (pc := 432) 0 dL_law_432 rfl rfl ?_
        refine eb_iload_n (pc := 433) 3 dL_law_433 rfl rfl ?_
        refine eb_iconst (pc := 434) (v := 2) dL_law_434 (by decide) ?_
        refine eb_iadd (pc := 435) dL_law_435 ?_
        refine eb_ialoadx (pc := 436) (by decide) hxn hxs dL_law_436 (fun x70 => ?_)
        refine eb_calli (pc := 437) (eb_runV (pc := 437) (As := [.int x69, .int x70]) (rest := []) (ci := 8) (q0 := (RX9, TX9, 12)) (q := (RX9, TX9, 12)) ew_958 ew_959 ew_960 ew_427 rfl rfl ed_X9_arm (ct_X9_arm hG _ _ _ _) rfl ew_961 ⟨by decide, by decide⟩ (by omega) (by omega) (Nat.le_of_ble_eq_true rfl) rfl dL_law_437) (fun x72 s71 => ?_)
        refine eb_aload_n (pc := 440) 2 dL_law_440 rfl rfl ?_
        refine eb_aload_n (pc := 441) 0 dL_law_441 rfl rfl ?_
        refine eb_iload_n (pc := 442) 3 dL_law_442 rfl rfl ?_
        refine eb_iconst (pc := 443) (v := 1) dL_law_443 (by decide) ?_
        refine eb_iadd (pc := 444) dL_law_444 ?_
        refine eb_ialoadx (pc := 445) (by decide) hxn hxs dL_law_445 (fun x73 => ?_)
        refine eb_aload_n (pc := 446) 0 dL_law_446 rfl rfl ?_
        refine eb_iload_n (pc := 447) 3 dL_law_447 rfl rfl ?_
        refine eb_iconst (pc := 448) (v := 2) dL_law_448 (by decide) ?_
        refine eb_iadd (pc := 449) dL_law_449 ?_
        refine eb_ialoadx (pc := 450) (by decide) hxn hxs dL_law_450 (fun x74 => ?_)
        refine eb_calli (pc := 451) (eb_runV (pc := 451) (As := [.int x73, .int x74]) (rest := [.int x72]) (ci := 9) (q0 := (RX10, TX10, 43)) (q := (RX10, TX10, 43)) ew_962 ew_963 ew_964 ew_666 rfl rfl ed_X10_arm (ct_X10_arm hG _ _ _ _) rfl ew_965 ⟨by decide, by decide⟩ (by omega) (by omega) (Nat.le_of_ble_eq_true rfl) rfl dL_law_451) (fun x76 s75 => ?_)
        refine eb_icmp_eq (pc := 454) (tgt := 1426) dL_law_454 (by decide) ?_ ?_
        · refine eb_wide (cn' := (cn + 1)) (sn' := (sn + 10240)) (by omega) (by omega) ?_
          exact hj10 _ _
        · refine eb_iconst (pc := 457) (v := 0) dL_law_457 (by decide) ?_
          exact eb_bret (pc := 458) (b := false) dL_law_458 (by omega) (by omega)
      · refine eb_aload_n (pc := 459) 1 dL_law_459 rfl rfl ?_
        refine eb_aload_n (pc := 460) 0 dL_law_460 rfl rfl ?_
        refine eb_iload_n (pc := 461) 3 dL_law_461 rfl rfl ?_
        refine eb_iconst (pc := 462) (v := 1) dL_law_462 (by decide) ?_
        refine eb_iadd (pc := 463) dL_law_463 ?_
        refine eb_ialoadx (pc := 464) (by decide) hxn hxs dL_law_464 (fun x77 => ?_)
        refine eb_aload_n (pc := 465) 0 dL_law_465 rfl rfl ?_
        refine eb_iload_n (pc := 466) 3 dL_law_466 rfl rfl ?_
        refine eb_iconst (pc := 467) (v := 2) dL_law_467 (by decide) ?_
        refine eb_iadd (pc := 468) dL_law_468 ?_
        refine eb_ialoadx (pc := 469) (by decide) hxn hxs dL_law_469 (fun x78 => ?_)
        refine eb_aload_n (pc := 470) 0 dL_law_470 rfl rfl ?_
        refine eb_iload_n (pc := 471) 3 dL_law_471 rfl rfl ?_
        refine eb_iconst (pc := 472) (v := 3) dL_law_472 (by decide) ?_
        refine eb_iadd (pc := 473) dL_law_473 ?_
        refine eb_ialoadx (pc := 474) (by decide) hxn hxs dL_law_474 (fun x79 => ?_)
        refine eb_calli (pc := 475) (eb_runV (pc := 475) (As := [.int x77, .int x78, .int x79]) (rest := []) (ci := 8) (q0 := (RX9, TX9, 12)) (q := (RX9, TX9, 12)) ew_966 ew_967 ew_968 ew_427 rfl rfl ed_X9_rule (ct_X9_rule hG _ _ _ _ _) rfl ew_969 ⟨by decide, by decide⟩ (by omega) (by omega) (Nat.le_of_ble_eq_true rfl) rfl dL_law_475) (fun x81 s80 => ?_)
        refine eb_aload_n (pc := 478) 2 dL_law_478 rfl rfl ?_
        refine eb_aload_n (pc := 479) 0 dL_law_479 rfl rfl ?_
        refine eb_iload_n (pc := 480) 3 dL_law_480 rfl rfl ?_
        refine eb_iconst (pc := 481) (v := 1) dL_law_481 (by decide) ?_
        refine eb_iadd (pc := 482) dL_law_482 ?_
        refine eb_ialoadx (pc := 483) (by decide) hxn hxs dL_law_483 (fun x82 => ?_)
        refine eb_aload_n (pc := 484) 0 dL_law_484 rfl rfl ?_
        refine eb_iload_n (pc := 485) 3 dL_law_485 rfl rfl ?_
        refine eb_iconst (pc := 486) (v := 2) dL_law_486 (by decide) ?_
        refine eb_iadd (pc := 487) dL_law_487 ?_
        refine eb_ialoadx (pc := 488) (by decide) hxn hxs dL_law_488 (fun x83 => ?_)
        refine eb_aload_n (pc := 489) 0 dL_law_489 rfl rfl ?_
        refine eb_iload_n (pc := 490) 3 dL_law_490 rfl rfl ?_
        refine eb_iconst (pc := 491) (v := 3) dL_law_491 (by decide) ?_
        refine eb_iadd (pc := 492) dL_law_492 ?_
        refine eb_ialoadx (pc := 493) (by decide) hxn hxs dL_law_493 (fun x84 => ?_)
        refine eb_calli (pc := 494) (eb_runV (pc := 494) (As := [.int x82, .int x83, .int x84]) (rest := [.int x81]) (ci := 9) (q0 := (RX10, TX10, 43)) (q := (RX10, TX10, 43)) ew_970 ew_971 ew_972 ew_666 rfl rfl ed_X10_rule (ct_X10_rule hG _ _ _ _ _) rfl ew_973 ⟨by decide, by decide⟩ (by omega) (by omega) (Nat.le_of_ble_eq_true rfl) rfl dL_law_494) (fun x86 s85 => ?_)
        refine eb_icmp_eq (pc := 497) (tgt := 1426) dL_law_497 (by decide) ?_ ?_
        · refine eb_wide (cn' := (cn + 1)) (sn' := (sn + 10240)) (by omega) (by omega) ?_
          exact hj10 _ _
        · refine eb_iconst (pc := 500) (v := 0) dL_law_500 (by decide) ?_
          exact eb_bret (pc := 501) (b := false) dL_law_501 (by omega) (by omega)
      · refine eb_aload_n (pc := 502) 1 dL_law_502 rfl rfl ?_
        refine eb_calli (pc := 503) (eb_runV (pc := 503) (As := []) (rest := []) (ci := 8) (q0 := (RX9, TX9, 12)) (q := (RX9, TX9, 12)) ew_974 ew_975 ew_976 ew_427 rfl rfl ed_X9_off (ct_X9_off hG _ _) rfl ew_977 ⟨by decide, by decide⟩ (by omega) (by omega) (Nat.le_of_ble_eq_true rfl) rfl dL_law_503) (fun x88 s87 => ?_)
        refine eb_aload_n (pc := 506) 2 dL_law_506 rfl rfl ?_
        refine eb_calli (pc := 507) (eb_runV (pc := 507) (As := []) (rest := [.int x88]) (ci := 9) (q0 := (RX10, TX10, 43)) (q := (RX10, TX10, 43)) ew_978 ew_979 ew_980 ew_666 rfl rfl ed_X10_off (ct_X10_off hG _ _) rfl ew_981 ⟨by decide, by decide⟩ (by omega) (by omega) (Nat.le_of_ble_eq_true rfl) rfl dL_law_507) (fun x90 s89 => ?_)
        refine eb_icmp_eq (pc := 510) (tgt := 1426) dL_law_510 (by decide) ?_ ?_
        · refine eb_wide (cn' := (cn + 1)) (sn' := (sn + 10240)) (by omega) (by omega) ?_
          exact hj10 _ _
        · refine eb_iconst (pc := 513) (v := 0) dL_law_513 (by decide) ?_
          exact eb_bret (pc := 514) (b := false) dL_law_514 (by omega) (by omega)
      · refine eb_aload_n (pc := 515) 1 dL_law_515 rfl rfl ?_
        refine eb_aload_n (pc := 516) 0 dL_law_516 rfl rfl ?_
        refine eb_iload_n (pc := 517) 3 dL_law_517 rfl rfl ?_
        refine eb_iconst (pc := 518) (v := 1) dL_law_518 (by decide) ?_
        refine eb_iadd (pc := 519) dL_law_519 ?_
        refine eb_ialoadx (pc := 520) (by decide) hxn hxs dL_law_520 (fun x91 => ?_)
        refine eb_calli (pc := 521) (eb_runV (pc := 521) (As := [.int x91]) (rest := []) (ci := 8) (q0 := (RX9, TX9, 12)) (q := (RX9, TX9, 12)) ew_982 ew_983 ew_984 ew_427 rfl rfl ed_X9_type (ct_X9_type hG _ _ _) rfl ew_985 ⟨by decide, by decide⟩ (by omega) (by omega) (Nat.le_of_ble_eq_true rfl) rfl dL_law_521) (fun x93 s92 => ?_)
        refine eb_aload_n (pc := 524) 2 dL_law_524 rfl rfl ?_
        refine eb_aload_n (pc := 525) 0 dL_law_525 rfl rfl ?_
        refine eb_iload_n (pc := 526) 3 dL_law_526 rfl rfl ?_
        refine eb_iconst (pc := 527) (v := 1) dL_law_527 (by decide) ?_
        refine eb_iadd (pc := 528) dL_law_528 ?_
        refine eb_ialoadx (pc := 529) (by decide) hxn hxs dL_law_529 (fun x94 => ?_)
        refine eb_calli (pc := 530) (eb_runV (pc := 530) (As := [.int x94]) (rest := [.int x93]) (ci := 9) (q0 := (RX10, TX10, 43)) (q := (RX10, TX10, 43)) ew_986 ew_987 ew_988 ew_666 rfl rfl ed_X10_type (ct_X10_type hG _ _ _) rfl ew_989 ⟨by decide, by decide⟩ (by omega) (by omega) (Nat.le_of_ble_eq_true rfl) rfl dL_law_530) (fun x96 s95 => ?_)
        refine eb_icmp_eq (pc := 533) (tgt := 1426) dL_law_533 (by decide) ?_ ?_
        · refine eb_wide (cn' := (cn + 1)) (sn' := (sn + 10240)) (by omega) (by omega) ?_
          exact hj10 _ _
        · refine eb_iconst (pc := 536) (v := 0) dL_law_536 (by decide) ?_
          exact eb_bret (pc := 537) (b := false) dL_law_537 (by omega) (by omega)
      · refine eb_aload_n (pc := 538) 1 dL_law_538 rfl rfl ?_
        refine eb_calli (pc := 539) (eb_runV (pc := 539) (As := []) (rest := []) (ci := 8) (q0 := (RX9, TX9, 12)) (q := (RX9, TX9, 12)) ew_990 ew_991 ew_992 ew_427 rfl rfl ed_X9_market (ct_X9_market hG n _ _) rfl ew_993 ⟨by decide, by decide⟩ (by omega) (by omega) (Nat.le_of_ble_eq_true rfl) rfl dL_law_539) (fun x98 s97 => ?_)
        refine eb_aload_n (pc := 542) 2 dL_law_542 rfl rfl ?_
        refine eb_calli (pc := 543) (eb_runV (pc := 543) (As := []) (rest := [.int x98]) (ci := 9) (q0 := (RX10, TX10, 43)) (q := (RX10, TX10, 43)) ew_994 ew_995 ew_996 ew_666 rfl rfl ed_X10_market (ct_X10_market hG n _ _) rfl ew_997 ⟨by decide, by decide⟩ (by omega) (by omega) (Nat.le_of_ble_eq_true rfl) rfl dL_law_543) (fun x100 s99 => ?_)
        refine eb_icmp_eq (pc := 546) (tgt := 1426) dL_law_546 (by decide) ?_ ?_
        · refine eb_wide (cn' := (cn + 1)) (sn' := (sn + 10240)) (by omega) (by omega) ?_
          exact hj10 _ _
        · refine eb_iconst (pc := 549) (v := 0) dL_law_549 (by decide) ?_
          exact eb_bret (pc := 550) (b := false) dL_law_550 (by omega) (by omega)
      · refine eb_aload_n (pc := 551) 1 dL_law_551 rfl rfl ?_
        refine eb_aload_n (pc := 552) 0 dL_law_552 rfl rfl ?_
        refine eb_iload_n (pc := 553) 3 dL_law_553 rfl rfl ?_
        refine eb_iconst (pc := 554) (v := 1) dL_law_554 (by decide) ?_
        refine eb_iadd (pc := 555) dL_law_555 ?_
        refine eb_ialoadx (pc := 556) (by decide) hxn hxs dL_law_556 (fun x101 => ?_)
        refine eb_calli (pc := 557) (eb_runV (pc := 557) (As := [.int x101]) (rest := []) (ci := 8) (q0 := (RX9, TX9, 12)) (q := (RX9, TX9, 12)) ew_998 ew_999 ew_1000 ew_427 rfl rfl ed_X9_count (ct_X9_count hG n _ _ _) rfl ew_1001 ⟨by decide, by decide⟩ (by omega) (by omega) (Nat.le_of_ble_eq_true rfl) rfl dL_law_557) (fun x103 s102 => ?_)
        refine eb_aload_n (pc := 560) 2 dL_law_560 rfl rfl ?_
        refine eb_aload_n (pc := 561) 0 dL_law_561 rfl rfl ?_
        refine eb_iload_n (pc := 562) 3 dL_law_562 rfl rfl ?_
        refine eb_iconst (pc := 563) (v := 1) dL_law_563 (by decide) ?_
        refine eb_iadd (pc := 564) dL_law_564 ?_
        refine eb_ialoadx (pc := 565) (by decide) hxn hxs dL_law_565 (fun x104 => ?_)
        refine eb_calli (pc := 566) (eb_runV (pc := 566) (As := [.int x104]) (rest := [.int x103]) (ci := 9) (q0 := (RX10, TX10, 43)) (q := (RX10, TX10, 43)) ew_1002 ew_1003 ew_1004 ew_666 rfl rfl ed_X10_count (ct_X10_count hG n _ _ _) rfl ew_1005 ⟨by decide, by decide⟩ (by omega) (by omega) (Nat.le_of_ble_eq_true rfl) rfl dL_law_566) (fun x106 s105 => ?_)
        refine eb_icmp_eq (pc := 569) (tgt := 1426) dL_law_569 (by decide) ?_ ?_
        · refine eb_wide (cn' := (cn + 1)) (sn' := (sn + 10240)) (by omega) (by omega) ?_
          exact hj10 _ _
        · refine eb_iconst (pc := 572) (v := 0) dL_law_572 (by decide) ?_
          exact eb_bret (pc := 573) (b := false) dL_law_573 (by omega) (by omega)
      · refine eb_aload_n (pc := 574) 1 dL_law_574 rfl rfl ?_
        refine eb_aload_n (pc := 575) 0 dL_law_575 rfl rfl ?_
        refine eb_iload_n (pc := 576) 3 dL_law_576 rfl rfl ?_
        refine eb_iconst (pc := 577) (v := 1) dL_law_577 (by decide) ?_
        refine eb_iadd (pc := 578) dL_law_578 ?_
        refine eb_ialoadx (pc := 579) (by decide) hxn hxs dL_law_579 (fun x107 => ?_)
        refine eb_aload_n (pc := 580) 0 dL_law_580 rfl rfl ?_
        refine eb_iload_n (pc := 581) 3 dL_law_581 rfl rfl ?_
        refine eb_iconst (pc := 582) (v := 2) dL_law_582 (by decide) ?_
        refine eb_iadd (pc := 583) dL_law_583 ?_
        refine eb_ialoadx (pc := 584) (by decide) hxn hxs dL_law_584 (fun x108 => ?_)
        refine eb_calli (pc := 585) (eb_runV (pc := 585) (As := [.int x107, .int x108]) (rest := []) (ci := 8) (q0 := (RX9, TX9, 12)) (q := (RX9, TX9, 12)) ew_1006 ew_1007 ew_1008 ew_427 rfl rfl ed_X9_load (ct_X9_load hG n _ _ _ _) rfl ew_1009 ⟨by decide, by decide⟩ (by omega) (by omega) (Nat.le_of_ble_eq_true rfl) rfl dL_law_585) (fun x110 s109 => ?_)
        refine eb_aload_n (pc := 588) 2 dL_law_588 rfl rfl ?_
        refine eb_aload_n (pc := 589) 0 dL_law_589 rfl rfl ?_
        refine eb_iload_n (pc := 590) 3 dL_law_590 rfl rfl ?_
        refine eb_iconst (pc := 591) (v := 1) dL_law_591 (by decide) ?_
        refine eb_iadd (pc := 592) dL_law_592 ?_
        refine eb_ialoadx (pc := 593) (by decide) hxn hxs dL_law_593 (fun x111 => ?_)
        refine eb_aload_n (pc := 594) 0 dL_law_594 rfl rfl ?_
        refine eb_iload_n (pc := 595) 3 dL_law_595 rfl rfl ?_
        refine eb_iconst (pc := 596) (v := 2) dL_law_596 (by decide) ?_
        refine eb_iadd (pc := 597) dL_law_597 ?_
        refine eb_ialoadx (pc := 598) (by decide) hxn hxs dL_law_598 (fun x112 => ?_)
        refine eb_calli (pc := 599) (eb_runV (pc := 599) (As := [.int x111, .int x112]) (rest := [.int x110]) (ci := 9) (q0 := (RX10, TX10, 43)) (q := (RX10, TX10, 43)) ew_1010 ew_1011 ew_1012 ew_666 rfl rfl ed_X10_load (ct_X10_load hG n _ _ _ _) rfl ew_1013 ⟨by decide, by decide⟩ (by omega) (by omega) (Nat.le_of_ble_eq_true rfl) rfl dL_law_599) (fun x114 s113 => ?_)
        refine eb_icmp_eq (pc := 602) (tgt := 1426) dL_law_602 (by decide) ?_ ?_
        · refine eb_wide (cn' := (cn + 1)) (sn' := (sn + 10240)) (by omega) (by omega) ?_
          exact hj10 _ _
        · refine eb_iconst (pc := 605) (v := 0) dL_law_605 (by decide) ?_
          exact eb_bret (pc := 606) (b := false) dL_law_606 (by omega) (by omega)
      · refine eb_aload_n (pc := 607) 1 dL_law_607 rfl rfl ?_
        refine eb_calli (pc := 608) (eb_runV (pc := 608) (As := []) (rest := []) (ci := 8) (q0 := (RX9, TX9, 12)) (q := (RX9, TX9, 12)) ew_1014 ew_1015 ew_1016 ew_427 rfl rfl ed_X9_lawful (ct_X9_lawful hG n _ _) rfl ew_1017 ⟨by decide, by decide⟩ (by omega) (by omega) (Nat.le_of_ble_eq_true rfl) rfl dL_law_608) (fun x116 s115 => ?_)
        refine eb_aload_n (pc := 611) 2 dL_law_611 rfl rfl ?_
        refine eb_calli (pc := 612) (eb_runV (pc := 612) (As := []) (rest := [.int x116]) (ci := 9) (q0 := (RX10, TX10, 43)) (q := (RX10, TX10, 43)) ew_1018 ew_1019 ew_1020 ew_666 rfl rfl ed_X10_lawful (ct_X10_lawful hG n _ _) rfl ew_1021 ⟨by decide, by decide⟩ (by omega) (by omega) (Nat.le_of_ble_eq_true rfl) rfl dL_law_612) (fun x118 s117 => ?_)
        refine eb_icmp_eq (pc := 615) (tgt := 1426) dL_law_615 (by decide) ?_ ?_
        · refine eb_wide (cn' := (cn + 1)) (sn' := (sn + 10240)) (by omega) (by omega) ?_
          exact hj10 _ _
        · refine eb_iconst (pc := 618) (v := 0) dL_law_618 (by decide) ?_
          exact eb_bret (pc := 619) (b := false) dL_law_619 (by omega) (by omega)
      · refine eb_aload_n (pc := 620) 1 dL_law_620 rfl rfl ?_
        refine eb_aload_n (pc := 621) 0 dL_law_621 rfl rfl ?_
        refine eb_iload_n (pc := 622) 3 dL_law_622 rfl rfl ?_
        refine eb_iconst (pc := 623) (v := 1) dL_law_623 (by decide) ?_
        refine eb_iadd (pc := 624) dL_law_624 ?_
        refine eb_ialoadx (pc := 625) (by decide) hxn hxs dL_law_625 (fun x119 => ?_)
        refine eb_calli (pc := 626) (eb_runV (pc := 626) (As := [.int x119]) (rest := []) (ci := 8) (q0 := (RX9, TX9, 12)) (q := (RX9, TX9, 12)) ew_1022 ew_1023 ew_1024 ew_427 rfl rfl ed_X9_pull (ct_X9_pull hG n _ _ _) rfl ew_1025 ⟨by decide, by decide⟩ (by omega) (by omega) (Nat.le_of_ble_eq_true rfl) rfl dL_law_626) (fun x121 s120 => ?_)
        refine eb_aload_n (pc := 629) 2 dL_law_629 rfl rfl ?_
        refine eb_aload_n (pc := 630) 0 dL_law_630 rfl rfl ?_
        refine eb_iload_n (pc := 631) 3 dL_law_631 rfl rfl ?_
        refine eb_iconst (pc := 632) (v := 1) dL_law_632 (by decide) ?_
        refine eb_iadd (pc := 633) dL_law_633 ?_
        refine eb_ialoadx (pc := 634) (by decide) hxn hxs dL_law_634 (fun x122 => ?_)
        refine eb_calli (pc := 635) (eb_runV (pc := 635) (As := [.int x122]) (rest := [.int x121]) (ci := 9) (q0 := (RX10, TX10, 43)) (q := (RX10, TX10, 43)) ew_1026 ew_1027 ew_1028 ew_666 rfl rfl ed_X10_pull (ct_X10_pull hG n _ _ _) rfl ew_1029 ⟨by decide, by decide⟩ (by omega) (by omega) (Nat.le_of_ble_eq_true rfl) rfl dL_law_635) (fun x124 s123 => ?_)
        refine eb_icmp_eq (pc := 638) (tgt := 1426) dL_law_638 (by decide) ?_ ?_
        · refine eb_wide (cn' := (cn + 1)) (sn' := (sn + 10240)) (by omega) (by omega) ?_
          exact hj10 _ _
        · refine eb_iconst (pc := 641) (v := 0) dL_law_641 (by decide) ?_
          exact eb_bret (pc := 642) (b := false) dL_law_642 (by omega) (by omega)
      · refine eb_aload_n (pc := 643) 1 dL_law_643 rfl rfl ?_
        refine eb_aload_n (pc := 644) 0 dL_law_644 rfl rfl ?_
        refine eb_iload_n (pc := 645) 3 dL_law_645 rfl rfl ?_
        refine eb_iconst (pc := 646) (v := 1) dL_law_646 (by decide) ?_
        refine eb_iadd (pc := 647) dL_law_647 ?_
        refine eb_ialoadx (pc := 648) (by decide) hxn hxs dL_law_648 (fun x125 => ?_)
        refine eb_calli (pc := 649) (eb_runV (pc := 649) (As := [.int x125]) (rest := []) (ci := 8) (q0 := (RX9, TX9, 12)) (q := (RX9, TX9, 12)) ew_1030 ew_1031 ew_1032 ew_427 rfl rfl ed_X9_uneven (ct_X9_uneven hG n _ _ _) rfl ew_1033 ⟨by decide, by decide⟩ (by omega) (by omega) (Nat.le_of_ble_eq_true rfl) rfl dL_law_649) (fun x127 s126 => ?_)
        refine eb_aload_n (pc := 652) 2 dL_law_652 rfl rfl ?_
        refine eb_aload_n (pc := 653) 0 dL_law_653 rfl rfl ?_
        refine eb_iload_n (pc := 654) 3 dL_law_654 rfl rfl ?_
        refine eb_iconst (pc := 655) (v := 1) dL_law_655 (by decide) ?_
        refine eb_iadd (pc := 656) dL_law_656 ?_
        refine eb_ialoadx (pc := 657) (by decide) hxn hxs dL_law_657 (fun x128 => ?_)
        refine eb_calli (pc := 658) (eb_runV (pc := 658) (As := [.int x128]) (rest := [.int x127]) (ci := 9) (q0 := (RX10, TX10, 43)) (q := (RX10, TX10, 43)) ew_1034 ew_1035 ew_1036 ew_666 rfl rfl ed_X10_uneven (ct_X10_uneven hG n _ _ _) rfl ew_1037 ⟨by decide, by decide⟩ (by omega) (by omega) (Nat.le_of_ble_eq_true rfl) rfl dL_law_658) (fun x130 s129 => ?_)
        refine eb_icmp_eq (pc := 661) (tgt := 1426) dL_law_661 (by decide) ?_ ?_
        · refine eb_wide (cn' := (cn + 1)) (sn' := (sn + 10240)) (by omega) (by omega) ?_
          exact hj10 _ _
        · refine eb_iconst (pc := 664) (v := 0) dL_law_664 (by decide) ?_
          exact eb_bret (pc := 665) (b := false) dL_law_665 (by omega) (by omega)
      · refine eb_aload_n (pc := 666) 1 dL_law_666 rfl rfl ?_
        refine eb_aload_n (pc := 667) 0 dL_law_667 rfl rfl ?_
        refine eb_iload_n (pc := 668) 3 dL_law_668 rfl rfl ?_
        refine eb_iconst (pc := 669) (v := 1) dL_law_669 (by decide) ?_
        refine eb_iadd (pc := 670) dL_law_670 ?_
        refine eb_ialoadx (pc := 671) (by decide) hxn hxs dL_law_671 (fun x131 => ?_)
        refine eb_calli (pc := 672) (eb_runV (pc := 672) (As := [.int x131]) (rest := []) (ci := 8) (q0 := (RX9, TX9, 12)) (q := (RX9, TX9, 12)) ew_1038 ew_1039 ew_1040 ew_427 rfl rfl ed_X9_best (ct_X9_best hG n _ _ _) rfl ew_1041 ⟨by decide, by decide⟩ (by omega) (by omega) (Nat.le_of_ble_eq_true rfl) rfl dL_law_672) (fun x133 s132 => ?_)
        refine eb_aload_n (pc := 675) 2 dL_law_675 rfl rfl ?_
        refine eb_aload_n (pc := 676) 0 dL_law_676 rfl rfl ?_
        refine eb_iload_n (pc := 677) 3 dL_law_677 rfl rfl ?_
        refine eb_iconst (pc := 678) (v := 1) dL_law_678 (by decide) ?_
        refine eb_iadd (pc := 679) dL_law_679 ?_
        refine eb_ialoadx (pc := 680) (by decide) hxn hxs dL_law_680 (fun x134 => ?_)
        refine eb_calli (pc := 681) (eb_runV (pc := 681) (As := [.int x134]) (rest := [.int x133]) (ci := 9) (q0 := (RX10, TX10, 43)) (q := (RX10, TX10, 43)) ew_1042 ew_1043 ew_1044 ew_666 rfl rfl ed_X10_best (ct_X10_best hG n _ _ _) rfl ew_1045 ⟨by decide, by decide⟩ (by omega) (by omega) (Nat.le_of_ble_eq_true rfl) rfl dL_law_681) (fun x136 s135 => ?_)
        refine eb_icmp_eq (pc := 684) (tgt := 1426) dL_law_684 (by decide) ?_ ?_
        · refine eb_wide (cn' := (cn + 1)) (sn' := (sn + 10240)) (by omega) (by omega) ?_
          exact hj10 _ _
        · refine eb_iconst (pc := 687) (v := 0) dL_law_687 (by decide) ?_
          exact eb_bret (pc := 688) (b := false) dL_law_688 (by omega) (by omega)
      · refine eb_aload_n (pc := 689) 1 dL_law_689 rfl rfl ?_
        refine eb_calli (pc := 690) (eb_runV (pc := 690) (As := []) (rest := []) (ci := 8) (q0 := (RX9, TX9, 12)) (q := (RX9, TX9, 12)) ew_1046 ew_1047 ew_1048 ew_427 rfl rfl ed_X9_pack (ct_X9_pack hG n _ _) rfl ew_1049 ⟨by decide, by decide⟩ (by omega) (by omega) (Nat.le_of_ble_eq_true rfl) rfl dL_law_690) (fun x138 s137 => ?_)
        refine eb_aload_n (pc := 693) 2 dL_law_693 rfl rfl ?_
        refine eb_calli (pc := 694) (eb_runV (pc := 694) (As := []) (rest := [.int x138]) (ci := 9) (q0 := (RX10, TX10, 43)) (q := (RX10, TX10, 43)) ew_1050 ew_1051 ew_1052 ew_666 rfl rfl ed_X10_pack (ct_X10_pack hG n _ _) rfl ew_1053 ⟨by decide, by decide⟩ (by omega) (by omega) (Nat.le_of_ble_eq_true rfl) rfl dL_law_694) (fun x140 s139 => ?_)
        refine eb_icmp_eq (pc := 697) (tgt := 1426) dL_law_697 (by decide) ?_ ?_
        · refine eb_wide (cn' := (cn + 1)) (sn' := (sn + 10240)) (by omega) (by omega) ?_
          exact hj10 _ _
        · refine eb_iconst (pc := 700) (v := 0) dL_law_700 (by decide) ?_
          exact eb_bret (pc := 701) (b := false) dL_law_701 (by omega) (by omega)
      · refine eb_aload_n (pc := 702) 1 dL_law_702 rfl rfl ?_
        refine eb_aload_n (pc := 703) 0 dL_law_703 rfl rfl ?_
        refine eb_iload_n (pc := 704) 3 dL_law_704 rfl rfl ?_
        refine eb_iconst (pc := 705) (v := 1) dL_law_705 (by decide) ?_
        refine eb_iadd (pc := 706) dL_law_706 ?_
        refine eb_ialoadx (pc := 707) (by decide) hxn hxs dL_law_707 (fun x141 => ?_)
        refine eb_aload_n (pc := 708) 0 dL_law_708 rfl rfl ?_
        refine eb_iload_n (pc := 709) 3 dL_law_709 rfl rfl ?_
        refine eb_iconst (pc := 710) (v := 2) dL_law_710 (by decide) ?_
        refine eb_iadd (pc := 711) dL_law_711 ?_
        refine eb_ialoadx (pc := 712) (by decide) hxn hxs dL_law_712 (fun x142 => ?_)
        refine eb_calli (pc := 713) (eb_runV (pc := 713) (As := [.int x141, .int x142]) (rest := []) (ci := 8) (q0 := (RX9, TX9, 12)) (q := (RX9, TX9, 12)) ew_1054 ew_1055 ew_1056 ew_427 rfl rfl ed_X9_evenest (ct_X9_evenest hG n _ _ _ _) rfl ew_1057 ⟨by decide, by decide⟩ (by omega) (by omega) (Nat.le_of_ble_eq_true rfl) rfl dL_law_713) (fun x144 s143 => ?_)
        refine eb_aload_n (pc := 716) 2 dL_law_716 rfl rfl ?_
        refine eb_aload_n (pc := 717) 0 dL_law_717 rfl rfl ?_
        refine eb_iload_n (pc := 718) 3 dL_law_718 rfl rfl ?_
        refine eb_iconst (pc := 719) (v := 1) dL_law_719 (by decide) ?_
        refine eb_iadd (pc := 720) dL_law_720 ?_
        refine eb_ialoadx (pc := 721) (by decide) hxn hxs dL_law_721 (fun x145 => ?_)
        refine eb_aload_n (pc := 722) 0 dL_law_722 rfl rfl ?_
        refine eb_iload_n (pc := 723) 3 dL_law_723 rfl rfl ?_
        refine eb_iconst (pc := 724) (v := 2) dL_law_724 (by decide) ?_
        refine eb_iadd (pc := 725) dL_law_725 ?_
        refine eb_ialoadx (pc := 726) (by decide) hxn hxs dL_law_726 (fun x146 => ?_)
        refine eb_calli (pc := 727) (eb_runV (pc := 727) (As := [.int x145, .int x146]) (rest := [.int x144]) (ci := 9) (q0 := (RX10, TX10, 43)) (q := (RX10, TX10, 43)) ew_1058 ew_1059 ew_1060 ew_666 rfl rfl ed_X10_evenest (ct_X10_evenest hG n _ _ _ _) rfl ew_1061 ⟨by decide, by decide⟩ (by omega) (by omega) (Nat.le_of_ble_eq_true rfl) rfl dL_law_727) (fun x148 s147 => ?_)
        refine eb_icmp_eq (pc := 730) (tgt := 1426) dL_law_730 (by decide) ?_ ?_
        · refine eb_wide (cn' := (cn + 1)) (sn' := (sn + 10240)) (by omega) (by omega) ?_
          exact hj10 _ _
        · refine eb_iconst (pc := 733) (v := 0) dL_law_733 (by decide) ?_
          exact eb_bret (pc := 734) (b := false) dL_law_734 (by omega) (by omega)
      · refine eb_aload_n (pc := 735) 1 dL_law_735 rfl rfl ?_
        refine eb_aload_n (pc := 736) 0 dL_law_736 rfl rfl ?_
        refine eb_iload_n (pc := 737) 3 dL_law_737 rfl rfl ?_
        refine eb_iconst (pc := 738) (v := 1) dL_law_738 (by decide) ?_
        refine eb_iadd (pc := 739) dL_law_739 ?_
        refine eb_ialoadx (pc := 740) (by decide) hxn hxs dL_law_740 (fun x149 => ?_)
        refine eb_aload_n (pc := 741) 0 dL_law_741 rfl rfl ?_
        refine eb_iload_n (pc := 742) 3 dL_law_742 rfl rfl ?_
        refine eb_iconst (pc := 743) (v := 2) dL_law_743 (by decide) ?_
        refine eb_iadd (pc := 744) dL_law_744 ?_
        refine eb_ialoadx (pc := 745) (by decide) hxn hxs dL_law_745 (fun x150 => ?_)
        refine eb_aload_n (pc := 746) 0 dL_law_746 rfl rfl ?_
        refine eb_iload_n (pc := 747) 3 dL_law_747 rfl rfl ?_
        refine eb_iconst (pc := 748) (v := 3) dL_law_748 (by decide) ?_
        refine eb_iadd (pc := 749) dL_law_749 ?_
        refine eb_ialoadx (pc := 750) (by decide) hxn hxs dL_law_750 (fun x151 => ?_)
        refine eb_calli (pc := 751) (eb_runV (pc := 751) (As := [.int x149, .int x150, .int x151]) (rest := []) (ci := 8) (q0 := (RX9, TX9, 12)) (q := (RX9, TX9, 12)) ew_1062 ew_1063 ew_1064 ew_427 rfl rfl ed_X9_moved (ct_X9_moved hG n _ _ _ _ _) rfl ew_1065 ⟨by decide, by decide⟩ (by omega) (by omega) (Nat.le_of_ble_eq_true rfl) rfl dL_law_751) (fun x153 s152 => ?_)
        refine eb_aload_n (pc := 754) 2 dL_law_754 rfl rfl ?_
        refine eb_aload_n (pc := 755) 0 dL_law_755 rfl rfl ?_
        refine eb_iload_n (pc := 756) 3 dL_law_756 rfl rfl ?_
        refine eb_iconst (pc := 757) (v := 1) dL_law_757 (by decide) ?_
        refine eb_iadd (pc := 758) dL_law_758 ?_
        refine eb_ialoadx (pc := 759) (by decide) hxn hxs dL_law_759 (fun x154 => ?_)
        refine eb_aload_n (pc := 760) 0 dL_law_760 rfl rfl ?_
        refine eb_iload_n (pc := 761) 3 dL_law_761 rfl rfl ?_
        refine eb_iconst (pc := 762) (v := 2) dL_law_762 (by decide) ?_
        refine eb_iadd (pc := 763) dL_law_763 ?_
        refine eb_ialoadx (pc := 764) (by decide) hxn hxs dL_law_764 (fun x155 => ?_)
        refine eb_aload_n (pc := 765) 0 dL_law_765 rfl rfl ?_
        refine eb_iload_n (pc := 766) 3 dL_law_766 rfl rfl ?_
        refine eb_iconst (pc := 767) (v := 3) dL_law_767 (by decide) ?_
        refine eb_iadd (pc := 768) dL_law_768 ?_
        refine eb_ialoadx (pc := 769) (by decide) hxn hxs dL_law_769 (fun x156 => ?_)
        refine eb_calli (pc := 770) (eb_runV (pc := 770) (As := [.int x154, .int x155, .int x156]) (rest := [.int x153]) (ci := 9) (q0 := (RX10, TX10, 43)) (q := (RX10, TX10, 43)) ew_1066 ew_1067 ew_1068 ew_666 rfl rfl ed_X10_moved (ct_X10_moved hG n _ _ _ _ _) rfl ew_1069 ⟨by decide, by decide⟩ (by omega) (by omega) (Nat.le_of_ble_eq_true rfl) rfl dL_law_770) (fun x158 s157 => ?_)
        refine eb_icmp_eq (pc := 773) (tgt := 1426) dL_law_773 (by decide) ?_ ?_
        · refine eb_wide (cn' := (cn + 1)) (sn' := (sn + 10240)) (by omega) (by omega) ?_
          exact hj10 _ _
        · refine eb_iconst (pc := 776) (v := 0) dL_law_776 (by decide) ?_
          exact eb_bret (pc := 777) (b := false) dL_law_777 (by omega) (by omega)
      · refine eb_aload_n (pc := 778) 1 dL_law_778 rfl rfl ?_
        refine eb_aload_n (pc := 779) 0 dL_law_779 rfl rfl ?_
        refine eb_iload_n (pc := 780) 3 dL_law_780 rfl rfl ?_
        refine eb_iconst (pc := 781) (v := 1) dL_law_781 (by decide) ?_
        refine eb_iadd (pc := 782) dL_law_782 ?_
        refine eb_ialoadx (pc := 783) (by decide) hxn hxs dL_law_783 (fun x159 => ?_)
        refine eb_aload_n (pc := 784) 0 dL_law_784 rfl rfl ?_
        refine eb_iload_n (pc := 785) 3 dL_law_785 rfl rfl ?_
        refine eb_iconst (pc := 786) (v := 2) dL_law_786 (by decide) ?_
        refine eb_iadd (pc := 787) dL_law_787 ?_
        refine eb_ialoadx (pc := 788) (by decide) hxn hxs dL_law_788 (fun x160 => ?_)
        refine eb_calli (pc := 789) (eb_runV (pc := 789) (As := [.int x159, .int x160]) (rest := []) (ci := 8) (q0 := (RX9, TX9, 12)) (q := (RX9, TX9, 12)) ew_1070 ew_1071 ew_1072 ew_427 rfl rfl ed_X9_hands (ct_X9_hands hG n _ _ _ _) rfl ew_1073 ⟨by decide, by decide⟩ (by omega) (by omega) (Nat.le_of_ble_eq_true rfl) rfl dL_law_789) (fun x162 s161 => ?_)
        refine eb_aload_n (pc := 792) 2 dL_law_792 rfl rfl ?_
        refine eb_aload_n (pc := 793) 0 dL_law_793 rfl rfl ?_
        refine eb_iload_n (pc := 794) 3 dL_law_794 rfl rfl ?_
        refine eb_iconst (pc := 795) (v := 1) dL_law_795 (by decide) ?_
        refine eb_iadd (pc := 796) dL_law_796 ?_
        refine eb_ialoadx (pc := 797) (by decide) hxn hxs dL_law_797 (fun x163 => ?_)
        refine eb_aload_n (pc := 798) 0 dL_law_798 rfl rfl ?_
        refine eb_iload_n (pc := 799) 3 dL_law_799 rfl rfl ?_
        refine eb_iconst (pc := 800) (v := 2) dL_law_800 (by decide) ?_
        refine eb_iadd (pc := 801) dL_law_801 ?_
        refine eb_ialoadx (pc := 802) (by decide) hxn hxs dL_law_802 (fun x164 => ?_)
        refine eb_calli (pc := 803) (eb_runV (pc := 803) (As := [.int x163, .int x164]) (rest := [.int x162]) (ci := 9) (q0 := (RX10, TX10, 43)) (q := (RX10, TX10, 43)) ew_1074 ew_1075 ew_1076 ew_666 rfl rfl ed_X10_hands (ct_X10_hands hG n _ _ _ _) rfl ew_1077 ⟨by decide, by decide⟩ (by omega) (by omega) (Nat.le_of_ble_eq_true rfl) rfl dL_law_803) (fun x166 s165 => ?_)
        refine eb_icmp_eq (pc := 806) (tgt := 1426) dL_law_806 (by decide) ?_ ?_
        · refine eb_wide (cn' := (cn + 1)) (sn' := (sn + 10240)) (by omega) (by omega) ?_
          exact hj10 _ _
        · refine eb_iconst (pc := 809) (v := 0) dL_law_809 (by decide) ?_
          exact eb_bret (pc := 810) (b := false) dL_law_810 (by omega) (by omega)
      · refine eb_aload_n (pc := 811) 1 dL_law_811 rfl rfl ?_
        refine eb_aload_n (pc := 812) 0 dL_law_812 rfl rfl ?_
        refine eb_iload_n (pc := 813) 3 dL_law_813 rfl rfl ?_
        refine eb_iconst (pc := 814) (v := 1) dL_law_814 (by decide) ?_
        refine eb_iadd (pc := 815) dL_law_815 ?_
        refine eb_ialoadx (pc := 816) (by decide) hxn hxs dL_law_816 (fun x167 => ?_)
        refine eb_calli (pc := 817) (eb_runV (pc := 817) (As := [.int x167]) (rest := []) (ci := 8) (q0 := (RX9, TX9, 12)) (q := (RX9, TX9, 12)) ew_1078 ew_1079 ew_1080 ew_427 rfl rfl ed_X9_buying (ct_X9_buying hG n _ _ _) rfl ew_1081 ⟨by decide, by decide⟩ (by omega) (by omega) (Nat.le_of_ble_eq_true rfl) rfl dL_law_817) (fun x169 s168 => ?_)
        refine eb_aload_n (pc := 820) 2 dL_law_820 rfl rfl ?_
        refine eb_aload_n (pc := 821) 0 dL_law_821 rfl rfl ?_
        refine eb_iload_n (pc := 822) 3 dL_law_822 rfl rfl ?_
        refine eb_iconst (pc := 823) (v := 1) dL_law_823 (by decide) ?_
        refine eb_iadd (pc := 824) dL_law_824 ?_
        refine eb_ialoadx (pc := 825) (by decide) hxn hxs dL_law_825 (fun x170 => ?_)
        refine eb_calli (pc := 826) (eb_runV (pc := 826) (As := [.int x170]) (rest := [.int x169]) (ci := 9) (q0 := (RX10, TX10, 43)) (q := (RX10, TX10, 43)) ew_1082 ew_1083 ew_1084 ew_666 rfl rfl ed_X10_buying (ct_X10_buying hG n _ _ _) rfl ew_1085 ⟨by decide, by decide⟩ (by omega) (by omega) (Nat.le_of_ble_eq_true rfl) rfl dL_law_826) (fun x172 s171 => ?_)
        refine eb_icmp_eq (pc := 829) (tgt := 1426) dL_law_829 (by decide) ?_ ?_
        · refine eb_wide (cn' := (cn + 1)) (sn' := (sn + 10240)) (by omega) (by omega) ?_
          exact hj10 _ _
        · refine eb_iconst (pc := 832) (v := 0) dL_law_832 (by decide) ?_
          exact eb_bret (pc := 833) (b := false) dL_law_833 (by omega) (by omega)
      · refine eb_aload_n (pc := 834) 1 dL_law_834 rfl rfl ?_
        refine eb_aload_n (pc := 835) 0 dL_law_835 rfl rfl ?_
        refine eb_iload_n (pc := 836) 3 dL_law_836 rfl rfl ?_
        refine eb_iconst (pc := 837) (v := 1) dL_law_837 (by decide) ?_
        refine eb_iadd (pc := 838) dL_law_838 ?_
        refine eb_ialoadx (pc := 839) (by decide) hxn hxs dL_law_839 (fun x173 => ?_)
        refine eb_aload_n (pc := 840) 0 dL_law_840 rfl rfl ?_
        refine eb_iload_n (pc := 841) 3 dL_law_841 rfl rfl ?_
        refine eb_iconst (pc := 842) (v := 2) dL_law_842 (by decide) ?_
        refine eb_iadd (pc := 843) dL_law_843 ?_
        refine eb_ialoadx (pc := 844) (by decide) hxn hxs dL_law_844 (fun x174 => ?_)
        refine eb_calli (pc := 845) (eb_runV (pc := 845) (As := [.int x173, .int x174]) (rest := []) (ci := 8) (q0 := (RX9, TX9, 12)) (q := (RX9, TX9, 12)) ew_1086 ew_1087 ew_1088 ew_427 rfl rfl ed_X9_paper (ct_X9_paper hG n _ _ _ _) rfl ew_1089 ⟨by decide, by decide⟩ (by omega) (by omega) (Nat.le_of_ble_eq_true rfl) rfl dL_law_845) (fun x176 s175 => ?_)
        refine eb_aload_n (pc := 848) 2 dL_law_848 rfl rfl ?_
        refine eb_aload_n (pc := 849) 0 dL_law_849 rfl rfl ?_
        refine eb_iload_n (pc := 850) 3 dL_law_850 rfl rfl ?_
        refine eb_iconst (pc := 851) (v := 1) dL_law_851 (by decide) ?_
        refine eb_iadd (pc := 852) dL_law_852 ?_
        refine eb_ialoadx (pc := 853) (by decide) hxn hxs dL_law_853 (fun x177 => ?_)
        refine eb_aload_n (pc := 854) 0 dL_law_854 rfl rfl ?_
        refine eb_iload_n (pc := 855) 3 dL_law_855 rfl rfl ?_
        refine eb_iconst (pc := 856) (v := 2) dL_law_856 (by decide) ?_
        refine eb_iadd (pc := 857) dL_law_857 ?_
        refine eb_ialoadx (pc := 858) (by decide) hxn hxs dL_law_858 (fun x178 => ?_)
        refine eb_calli (pc := 859) (eb_runV (pc := 859) (As := [.int x177, .int x178]) (rest := [.int x176]) (ci := 9) (q0 := (RX10, TX10, 43)) (q := (RX10, TX10, 43)) ew_1090 ew_1091 ew_1092 ew_666 rfl rfl ed_X10_paper (ct_X10_paper hG n _ _ _ _) rfl ew_1093 ⟨by decide, by decide⟩ (by omega) (by omega) (Nat.le_of_ble_eq_true rfl) rfl dL_law_859) (fun x180 s179 => ?_)
        refine eb_icmp_eq (pc := 862) (tgt := 1426) dL_law_862 (by decide) ?_ ?_
        · refine eb_wide (cn' := (cn + 1)) (sn' := (sn + 10240)) (by omega) (by omega) ?_
          exact hj10 _ _
        · refine eb_iconst (pc := 865) (v := 0) dL_law_865 (by decide) ?_
          exact eb_bret (pc := 866) (b := false) dL_law_866 (by omega) (by omega)
      · refine eb_aload_n (pc := 867) 1 dL_law_867 rfl rfl ?_
        refine eb_aload_n (pc := 868) 0 dL_law_868 rfl rfl ?_
        refine eb_iload_n (pc := 869) 3 dL_law_869 rfl rfl ?_
        refine eb_iconst (pc := 870) (v := 1) dL_law_870 (by decide) ?_
        refine eb_iadd (pc := 871) dL_law_871 ?_
        refine eb_ialoadx (pc := 872) (by decide) hxn hxs dL_law_872 (fun x181 => ?_)
        refine eb_aload_n (pc := 873) 0 dL_law_873 rfl rfl ?_
        refine eb_iload_n (pc := 874) 3 dL_law_874 rfl rfl ?_
        refine eb_iconst (pc := 875) (v := 2) dL_law_875 (by decide) ?_
        refine eb_iadd (pc := 876) dL_law_876 ?_
        refine eb_ialoadx (pc := 877) (by decide) hxn hxs dL_law_877 (fun x182 => ?_)
        refine eb_aload_n (pc := 878) 0 dL_law_878 rfl rfl ?_
        refine eb_iload_n (pc := 879) 3 dL_law_879 rfl rfl ?_
        refine eb_iconst (pc := 880) (v := 3) dL_law_880 (by decide) ?_
        refine eb_iadd (pc := 881) dL_law_881 ?_
        refine eb_ialoadx (pc := 882) (by decide) hxn hxs dL_law_882 (fun x183 => ?_)
        refine eb_aload_n (pc := 883) 0 dL_law_883 rfl rfl ?_
        refine eb_iload_n (pc := 884) 3 dL_law_884 rfl rfl ?_
        refine eb_iconst (pc := 885) (v := 4) dL_law_885 (by decide) ?_
        refine eb_iadd (pc := 886) dL_law_886 ?_
        refine eb_ialoadx (pc := 887) (by decide) hxn hxs dL_law_887 (fun x184 => ?_)
        refine eb_calli (pc := 888) (eb_runV (pc := 888) (As := [.int x181, .int x182, .int x183, .int x184]) (rest := []) (ci := 8) (q0 := (RX9, TX9, 12)) (q := (RX9, TX9, 12)) ew_1094 ew_1095 ew_1096 ew_427 rfl rfl ed_X9_pole (ct_X9_pole hG n _ _ _ _ _ _) rfl ew_1097 ⟨by decide, by decide⟩ (by omega) (by omega) (Nat.le_of_ble_eq_true rfl) rfl dL_law_888) (fun x186 s185 => ?_)
        refine eb_aload_n (pc := 891) 2 dL_law_891 rfl rfl ?_
        refine eb_aload_n (pc := 892) 0 dL_law_892 rfl rfl ?_
        refine eb_iload_n (pc := 893) 3 dL_law_893 rfl rfl ?_
        refine eb_iconst (pc := 894) (v := 1) dL_law_894 (by decide) ?_
        refine eb_iadd (pc := 895) dL_law_895 ?_
        refine eb_ialoadx (pc := 896) (by decide) hxn hxs dL_law_896 (fun x187 => ?_)
        refine eb_aload_n (pc := 897) 0 dL_law_897 rfl rfl ?_
        refine eb_iload_n (pc := 898) 3 dL_law_898 rfl rfl ?_
        refine eb_iconst (pc := 899) (v := 2) dL_law_899 (by decide) ?_
        refine eb_iadd (pc := 900) dL_law_900 ?_
        refine eb_ialoadx (pc := 901) (by decide) hxn hxs dL_law_901 (fun x188 => ?_)
        refine eb_aload_n (pc := 902) 0 dL_law_902 rfl rfl ?_
        refine eb_iload_n (pc := 903) 3 dL_law_903 rfl rfl ?_
        refine eb_iconst (pc := 904) (v := 3) dL_law_904 (by decide) ?_
        refine eb_iadd (pc := 905) dL_law_905 ?_
        refine eb_ialoadx (pc := 906) (by decide) hxn hxs dL_law_906 (fun x189 => ?_)
        refine eb_aload_n (pc := 907) 0 dL_law_907 rfl rfl ?_
        refine eb_iload_n (pc := 908) 3 dL_law_908 rfl rfl ?_
        refine eb_iconst (pc := 909) (v := 4) dL_law_909 (by decide) ?_
        refine eb_iadd (pc := 910) dL_law_910 ?_
        refine eb_ialoadx (pc := 911) (by decide) hxn hxs dL_law_911 (fun x190 => ?_)
        refine eb_calli (pc := 912) (eb_runV (pc := 912) (As := [.int x187, .int x188, .int x189, .int x190]) (rest := [.int x186]) (ci := 9) (q0 := (RX10, TX10, 43)) (q := (RX10, TX10, 43)) ew_1098 ew_1099 ew_1100 ew_666 rfl rfl ed_X10_pole (ct_X10_pole hG n _ _ _ _ _ _) rfl ew_1101 ⟨by decide, by decide⟩ (by omega) (by omega) (Nat.le_of_ble_eq_true rfl) rfl dL_law_912) (fun x192 s191 => ?_)
        refine eb_icmp_eq (pc := 915) (tgt := 1426) dL_law_915 (by decide) ?_ ?_
        · refine eb_wide (cn' := (cn + 1)) (sn' := (sn + 10240)) (by omega) (by omega) ?_
          exact hj10 _ _
        · refine eb_iconst (pc := 918) (v := 0) dL_law_918 (by decide) ?_
          exact eb_bret (pc := 919) (b := false) dL_law_919 (by omega) (by omega)
      · refine eb_aload_n (pc := 920) 1 dL_law_920 rfl rfl ?_
        refine eb_aload_n (pc := 921) 0 dL_law_921 rfl rfl ?_
        refine eb_iload_n (pc := 922) 3 dL_law_922 rfl rfl ?_
        refine eb_iconst (pc := 923) (v := 1) dL_law_923 (by decide) ?_
        refine eb_iadd (pc := 924) dL_law_924 ?_
        refine eb_ialoadx (pc := 925) (by decide) hxn hxs dL_law_925 (fun x193 => ?_)
        refine eb_aload_n (pc := 926) 0 dL_law_926 rfl rfl ?_
        refine eb_iload_n (pc := 927) 3 dL_law_927 rfl rfl ?_
        refine eb_iconst (pc := 928) (v := 2) dL_law_928 (by decide) ?_
        refine eb_iadd (pc := 929) dL_law_929 ?_
        refine eb_ialoadx (pc := 930) (by decide) hxn hxs dL_law_930 (fun x194 => ?_)
        refine eb_calli (pc := 931) (eb_runV (pc := 931) (As := [.int x193, .int x194]) (rest := []) (ci := 8) (q0 := (RX9, TX9, 12)) (q := (RX9, TX9, 12)) ew_1102 ew_1103 ew_1104 ew_427 rfl rfl ed_X9_bar (ct_X9_bar hG n _ _ _ _) rfl ew_1105 ⟨by decide, by decide⟩ (by omega) (by omega) (Nat.le_of_ble_eq_true rfl) rfl dL_law_931) (fun x196 s195 => ?_)
        refine eb_aload_n (pc := 934) 2 dL_law_934 rfl rfl ?_
        refine eb_aload_n (pc := 935) 0 dL_law_935 rfl rfl ?_
        refine eb_iload_n (pc := 936) 3 dL_law_936 rfl rfl ?_
        refine eb_iconst (pc := 937) (v := 1) dL_law_937 (by decide) ?_
        refine eb_iadd (pc := 938) dL_law_938 ?_
        refine eb_ialoadx (pc := 939) (by decide) hxn hxs dL_law_939 (fun x197 => ?_)
        refine eb_aload_n (pc := 940) 0 dL_law_940 rfl rfl ?_
        refine eb_iload_n (pc := 941) 3 dL_law_941 rfl rfl ?_
        refine eb_iconst (pc := 942) (v := 2) dL_law_942 (by decide) ?_
        refine eb_iadd (pc := 943) dL_law_943 ?_
        refine eb_ialoadx (pc := 944) (by decide) hxn hxs dL_law_944 (fun x198 => ?_)
        refine eb_calli (pc := 945) (eb_runV (pc := 945) (As := [.int x197, .int x198]) (rest := [.int x196]) (ci := 9) (q0 := (RX10, TX10, 43)) (q := (RX10, TX10, 43)) ew_1106 ew_1107 ew_1108 ew_666 rfl rfl ed_X10_bar (ct_X10_bar hG n _ _ _ _) rfl ew_1109 ⟨by decide, by decide⟩ (by omega) (by omega) (Nat.le_of_ble_eq_true rfl) rfl dL_law_945) (fun x200 s199 => ?_)
        refine eb_icmp_eq (pc := 948) (tgt := 1426) dL_law_948 (by decide) ?_ ?_
        · refine eb_wide (cn' := (cn + 1)) (sn' := (sn + 10240)) (by omega) (by omega) ?_
          exact hj10 _ _
        · refine eb_iconst (pc := 951) (v := 0) dL_law_951 (by decide) ?_
          exact eb_bret (pc := 952) (b := false) dL_law_952 (by omega) (by omega)
      · refine eb_aload_n (pc := 953) 1 dL_law_953 rfl rfl ?_
        refine eb_aload_n (pc := 954) 0 dL_law_954 rfl rfl ?_
        refine eb_iload_n (pc := 955) 3 dL_law_955 rfl rfl ?_
        refine eb_iconst (pc := 956) (v := 1) dL_law_956 (by decide) ?_
        refine eb_iadd (pc := 957) dL_law_957 ?_
        refine eb_ialoadx (pc := 958) (by decide) hxn hxs dL_law_958 (fun x201 => ?_)
        refine eb_aload_n (pc := 959) 0 dL_law_959 rfl rfl ?_
        refine eb_iload_n (pc := 960) 3 dL_law_960 rfl rfl ?_
        refine eb_iconst (pc := 961) (v := 2) dL_law_961 (by decide) ?_
        refine eb_iadd (pc := 962) dL_law_962 ?_
        refine eb_ialoadx (pc := 963) (by decide) hxn hxs dL_law_963 (fun x202 => ?_)
        refine eb_calli (pc := 964) (eb_runV (pc := 964) (As := [.int x201, .int x202]) (rest := []) (ci := 8) (q0 := (RX9, TX9, 12)) (q := (RX9, TX9, 12)) ew_1110 ew_1111 ew_1112 ew_427 rfl rfl ed_X9_hung (ct_X9_hung hG n _ _ _ _) rfl ew_1113 ⟨by decide, by decide⟩ (by omega) (by omega) (Nat.le_of_ble_eq_true rfl) rfl dL_law_964) (fun x204 s203 => ?_)
        refine eb_aload_n (pc := 967) 2 dL_law_967 rfl rfl ?_
        refine eb_aload_n (pc := 968) 0 dL_law_968 rfl rfl ?_
        refine eb_iload_n (pc := 969) 3 dL_law_969 rfl rfl ?_
        refine eb_iconst (pc := 970) (v := 1) dL_law_970 (by decide) ?_
        refine eb_iadd (pc := 971) dL_law_971 ?_
        refine eb_ialoadx (pc := 972) (by decide) hxn hxs dL_law_972 (fun x205 => ?_)
        refine eb_aload_n (pc := 973) 0 dL_law_973 rfl rfl ?_
        refine eb_iload_n (pc := 974) 3 dL_law_974 rfl rfl ?_
        refine eb_iconst (pc := 975) (v := 2) dL_law_975 (by decide) ?_
        refine eb_iadd (pc := 976) dL_law_976 ?_
        refine eb_ialoadx (pc := 977) (by decide) hxn hxs dL_law_977 (fun x206 => ?_)
        refine eb_calli (pc := 978) (eb_runV (pc := 978) (As := [.int x205, .int x206]) (rest := [.int x204]) (ci := 9) (q0 := (RX10, TX10, 43)) (q := (RX10, TX10, 43)) ew_1114 ew_1115 ew_1116 ew_666 rfl rfl ed_X10_hung (ct_X10_hung hG n _ _ _ _) rfl ew_1117 ⟨by decide, by decide⟩ (by omega) (by omega) (Nat.le_of_ble_eq_true rfl) rfl dL_law_978) (fun x208 s207 => ?_)
        refine eb_icmp_eq (pc := 981) (tgt := 1426) dL_law_981 (by decide) ?_ ?_
        · refine eb_wide (cn' := (cn + 1)) (sn' := (sn + 10240)) (by omega) (by omega) ?_
          exact hj10 _ _
        · refine eb_iconst (pc := 984) (v := 0) dL_law_984 (by decide) ?_
          exact eb_bret (pc := 985) (b := false) dL_law_985 (by omega) (by omega)
      · refine eb_aload_n (pc := 986) 1 dL_law_986 rfl rfl ?_
        refine eb_calli (pc := 987) (eb_runV (pc := 987) (As := []) (rest := []) (ci := 8) (q0 := (RX9, TX9, 12)) (q := (RX9, TX9, 12)) ew_1118 ew_1119 ew_1120 ew_427 rfl rfl ed_X9_image (ct_X9_image hG _ _) rfl ew_1121 ⟨by decide, by decide⟩ (by omega) (by omega) (Nat.le_of_ble_eq_true rfl) rfl dL_law_987) (fun x210 s209 => ?_)
        refine eb_aload_n (pc := 990) 2 dL_law_990 rfl rfl ?_
        refine eb_calli (pc := 991) (eb_runV (pc := 991) (As := []) (rest := [.int x210]) (ci := 9) (q0 := (RX10, TX10, 43)) (q := (RX10, TX10, 43)) ew_1122 ew_1123 ew_1124 ew_666 rfl rfl ed_X10_image (ct_X10_image hG n _ _) rfl ew_1125 ⟨by decide, by decide⟩ (by omega) (by omega) (Nat.le_of_ble_eq_true rfl) rfl dL_law_991) (fun x212 s211 => ?_)
        refine eb_icmp_eq (pc := 994) (tgt := 1426) dL_law_994 (by decide) ?_ ?_
        · refine eb_wide (cn' := (cn + 1)) (sn' := (sn + 10240)) (by omega) (by omega) ?_
          exact hj10 _ _
        · refine eb_iconst (pc := 997) (v := 0) dL_law_997 (by decide) ?_
          exact eb_bret (pc := 998) (b := false) dL_law_998 (by omega) (by omega)
      · refine eb_aload_n (pc := 999) 1 dL_law_999 rfl rfl ?_
        refine eb_calli (pc := 1000) (eb_runV (pc := 1000) (As := []) (rest := []) (ci := 8) (q0 := (RX9, TX9, 12)) (q := (RX9, TX9, 12)) ew_1126 ew_1127 ew_1128 ew_427 rfl rfl ed_X9_restore (ct_X9_restore hG _ _) rfl ew_1129 ⟨by decide, by decide⟩ (by omega) (by omega) (Nat.le_of_ble_eq_true rfl) rfl dL_law_1000) (fun x214 s213 => ?_)
        refine eb_aload_n (pc := 1003) 2 dL_law_1003 rfl rfl ?_
        refine eb_calli (pc := 1004) (eb_runV (pc := 1004) (As := []) (rest := [.int x214]) (ci := 9) (q0 := (RX10, TX10, 43)) (q := (RX10, TX10, 43)) ew_1130 ew_1131 ew_1132 ew_666 rfl rfl ed_X10_restore (ct_X10_restore hG n _ _) rfl ew_1133 ⟨by decide, by decide⟩ (by omega) (by omega) (Nat.le_of_ble_eq_true rfl) rfl dL_law_1004) (fun x216 s215 => ?_)
        refine eb_icmp_eq (pc := 1007) (tgt := 1426) dL_law_1007 (by decide) ?_ ?_
        · refine eb_wide (cn' := (cn + 1)) (sn' := (sn + 10240)) (by omega) (by omega) ?_
          exact hj10 _ _
        · refine eb_iconst (pc := 1010) (v := 0) dL_law_1010 (by decide) ?_
          exact eb_bret (pc := 1011) (b := false) dL_law_1011 (by omega) (by omega)
      · refine eb_aload_n (pc := 1012) 1 dL_law_1012 rfl rfl ?_
        refine eb_aload_n (pc := 1013) 0 dL_law_1013 rfl rfl ?_
        refine eb_iload_n (pc := 1014) 3 dL_law_1014 rfl rfl ?_
        refine eb_iconst (pc := 1015) (v := 1) dL_law_1015 (by decide) ?_
        refine eb_iadd (pc := 1016) dL_law_1016 ?_
        refine eb_ialoadx (pc := 1017) (by decide) hxn hxs dL_law_1017 (fun x217 => ?_)
        refine eb_aload_n (pc := 1018) 0 dL_law_1018 rfl rfl ?_
        refine eb_iload_n (pc := 1019) 3 dL_law_1019 rfl rfl ?_
        refine eb_iconst (pc := 1020) (v := 2) dL_law_1020 (by decide) ?_
        refine eb_iadd (pc := 1021) dL_law_1021 ?_
        refine eb_ialoadx (pc := 1022) (by decide) hxn hxs dL_law_1022 (fun x218 => ?_)
        refine eb_aload_n (pc := 1023) 0 dL_law_1023 rfl rfl ?_
        refine eb_iload_n (pc := 1024) 3 dL_law_1024 rfl rfl ?_
        refine eb_iconst (pc := 1025) (v := 3) dL_law_1025 (by decide) ?_
        refine eb_iadd (pc := 1026) dL_law_1026 ?_
        refine eb_ialoadx (pc := 1027) (by decide) hxn hxs dL_law_1027 (fun x219 => ?_)
        refine eb_aload_n (pc := 1028) 0 dL_law_1028 rfl rfl ?_
        refine eb_iload_n (pc := 1029) 3 dL_law_1029 rfl rfl ?_
        refine eb_iconst (pc := 1030) (v := 4) dL_law_1030 (by decide) ?_
        refine eb_iadd (pc := 1031) dL_law_1031 ?_
        refine eb_ialoadx (pc := 1032) (by decide) hxn hxs dL_law_1032 (fun x220 => ?_)
        refine eb_aload_n (pc := 1033) 0 dL_law_1033 rfl rfl ?_
        refine eb_iload_n (pc := 1034) 3 dL_law_1034 rfl rfl ?_
        refine eb_iconst (pc := 1035) (v := 5) dL_law_1035 (by decide) ?_
        refine eb_iadd (pc := 1036) dL_law_1036 ?_
        refine eb_ialoadx (pc := 1037) (by decide) hxn hxs dL_law_1037 (fun x221 => ?_)
        refine eb_calli (pc := 1038) (eb_runV (pc := 1038) (As := [.int x217, .int x218, .int x219, .int x220, .int x221]) (rest := []) (ci := 8) (q0 := (RX9, TX9, 12)) (q := (RX9, TX9, 12)) ew_1134 ew_1135 ew_1136 ew_427 rfl rfl ed_X9_tray (ct_X9_tray hG n _ _ _ _ _ _ _) rfl ew_1137 ⟨by decide, by decide⟩ (by omega) (by omega) (Nat.le_of_ble_eq_true rfl) rfl dL_law_1038) (fun x223 s222 => ?_)
        refine eb_aload_n (pc := 1041) 2 dL_law_1041 rfl rfl ?_
        refine eb_aload_n (pc := 1042) 0 dL_law_1042 rfl rfl ?_
        refine eb_iload_n (pc := 1043) 3 dL_law_1043 rfl rfl ?_
        refine eb_iconst (pc := 1044) (v := 1) dL_law_1044 (by decide) ?_
        refine eb_iadd (pc := 1045) dL_law_1045 ?_
        refine eb_ialoadx (pc := 1046) (by decide) hxn hxs dL_law_1046 (fun x224 => ?_)
        refine eb_aload_n (pc := 1047) 0 dL_law_1047 rfl rfl ?_
        refine eb_iload_n (pc := 1048) 3 dL_law_1048 rfl rfl ?_
        refine eb_iconst (pc := 1049) (v := 2) dL_law_1049 (by decide) ?_
        refine eb_iadd (pc := 1050) dL_law_1050 ?_
        refine eb_ialoadx (pc := 1051) (by decide) hxn hxs dL_law_1051 (fun x225 => ?_)
        refine eb_aload_n (pc := 1052) 0 dL_law_1052 rfl rfl ?_
        refine eb_iload_n (pc := 1053) 3 dL_law_1053 rfl rfl ?_
        refine eb_iconst (pc := 1054) (v := 3) dL_law_1054 (by decide) ?_
        refine eb_iadd (pc := 1055) dL_law_1055 ?_
        refine eb_ialoadx (pc := 1056) (by decide) hxn hxs dL_law_1056 (fun x226 => ?_)
        refine eb_aload_n (pc := 1057) 0 dL_law_1057 rfl rfl ?_
        refine eb_iload_n (pc := 1058) 3 dL_law_1058 rfl rfl ?_
        refine eb_iconst (pc := 1059) (v := 4) dL_law_1059 (by decide) ?_
        refine eb_iadd (pc := 1060) dL_law_1060 ?_
        refine eb_ialoadx (pc := 1061) (by decide) hxn hxs dL_law_1061 (fun x227 => ?_)
        refine eb_aload_n (pc := 1062) 0 dL_law_1062 rfl rfl ?_
        refine eb_iload_n (pc := 1063) 3 dL_law_1063 rfl rfl ?_
        refine eb_iconst (pc := 1064) (v := 5) dL_law_1064 (by decide) ?_
        refine eb_iadd (pc := 1065) dL_law_1065 ?_
        refine eb_ialoadx (pc := 1066) (by decide) hxn hxs dL_law_1066 (fun x228 => ?_)
        refine eb_calli (pc := 1067) (eb_runV (pc := 1067) (As := [.int x224, .int x225, .int x226, .int x227, .int x228]) (rest := [.int x223]) (ci := 9) (q0 := (RX10, TX10, 43)) (q := (RX10, TX10, 43)) ew_1138 ew_1139 ew_1140 ew_666 rfl rfl ed_X10_tray (ct_X10_tray hG n _ _ _ _ _ _ _) rfl ew_1141 ⟨by decide, by decide⟩ (by omega) (by omega) (Nat.le_of_ble_eq_true rfl) rfl dL_law_1067) (fun x230 s229 => ?_)
        refine eb_icmp_eq (pc := 1070) (tgt := 1426) dL_law_1070 (by decide) ?_ ?_
        · refine eb_wide (cn' := (cn + 1)) (sn' := (sn + 10240)) (by omega) (by omega) ?_
          exact hj10 _ _
        · refine eb_iconst (pc := 1073) (v := 0) dL_law_1073 (by decide) ?_
          exact eb_bret (pc := 1074) (b := false) dL_law_1074 (by omega) (by omega)
      · refine eb_aload_n (pc := 1075) 1 dL_law_1075 rfl rfl ?_
        refine eb_aload_n (pc := 1076) 0 dL_law_1076 rfl rfl ?_
        refine eb_iload_n (pc := 1077) 3 dL_law_1077 rfl rfl ?_
        refine eb_iconst (pc := 1078) (v := 1) dL_law_1078 (by decide) ?_
        refine eb_iadd (pc := 1079) dL_law_1079 ?_
        refine eb_ialoadx (pc := 1080) (by decide) hxn hxs dL_law_1080 (fun x231 => ?_)
        refine eb_aload_n (pc := 1081) 0 dL_law_1081 rfl rfl ?_
        refine eb_iload_n (pc := 1082) 3 dL_law_1082 rfl rfl ?_
        refine eb_iconst (pc := 1083) (v := 2) dL_law_1083 (by decide) ?_
        refine eb_iadd (pc := 1084) dL_law_1084 ?_
        refine eb_ialoadx (pc := 1085) (by decide) hxn hxs dL_law_1085 (fun x232 => ?_)
        refine eb_aload_n (pc := 1086) 0 dL_law_1086 rfl rfl ?_
        refine eb_iload_n (pc := 1087) 3 dL_law_1087 rfl rfl ?_
        refine eb_iconst (pc := 1088) (v := 3) dL_law_1088 (by decide) ?_
        refine eb_iadd (pc := 1089) dL_law_1089 ?_
        refine eb_ialoadx (pc := 1090) (by decide) hxn hxs dL_law_1090 (fun x233 => ?_)
        refine eb_aload_n (pc := 1091) 0 dL_law_1091 rfl rfl ?_
        refine eb_iload_n (pc := 1092) 3 dL_law_1092 rfl rfl ?_
        refine eb_iconst (pc := 1093) (v := 4) dL_law_1093 (by decide) ?_
        refine eb_iadd (pc := 1094) dL_law_1094 ?_
        refine eb_ialoadx (pc := 1095) (by decide) hxn hxs dL_law_1095 (fun x234 => ?_)
        refine eb_calli (pc := 1096) (eb_runV (pc := 1096) (As := [.int x231, .int x232, .int x233, .int x234]) (rest := []) (ci := 8) (q0 := (RX9, TX9, 12)) (q := (RX9, TX9, 12)) ew_1142 ew_1143 ew_1144 ew_427 rfl rfl ed_X9_pulled (ct_X9_pulled hG n _ _ _ _ _ _) rfl ew_1145 ⟨by decide, by decide⟩ (by omega) (by omega) (Nat.le_of_ble_eq_true rfl) rfl dL_law_1096) (fun x236 s235 => ?_)
        refine eb_aload_n (pc := 1099) 2 dL_law_1099 rfl rfl ?_
        refine eb_aload_n (pc := 1100) 0 dL_law_1100 rfl rfl ?_
        refine eb_iload_n (pc := 1101) 3 dL_law_1101 rfl rfl ?_
        refine eb_iconst (pc := 1102) (v := 1) dL_law_1102 (by decide) ?_
        refine eb_iadd (pc := 1103) dL_law_1103 ?_
        refine eb_ialoadx (pc := 1104) (by decide) hxn hxs dL_law_1104 (fun x237 => ?_)
        refine eb_aload_n (pc := 1105) 0 dL_law_1105 rfl rfl ?_
        refine eb_iload_n (pc := 1106) 3 dL_law_1106 rfl rfl ?_
        refine eb_iconst (pc := 1107) (v := 2) dL_law_1107 (by decide) ?_
        refine eb_iadd (pc := 1108) dL_law_1108 ?_
        refine eb_ialoadx (pc := 1109) (by decide) hxn hxs dL_law_1109 (fun x238 => ?_)
        refine eb_aload_n (pc := 1110) 0 dL_law_1110 rfl rfl ?_
        refine eb_iload_n (pc := 1111) 3 dL_law_1111 rfl rfl ?_
        refine eb_iconst (pc := 1112) (v := 3) dL_law_1112 (by decide) ?_
        refine eb_iadd (pc := 1113) dL_law_1113 ?_
        refine eb_ialoadx (pc := 1114) (by decide) hxn hxs dL_law_1114 (fun x239 => ?_)
        refine eb_aload_n (pc := 1115) 0 dL_law_1115 rfl rfl ?_
        refine eb_iload_n (pc := 1116) 3 dL_law_1116 rfl rfl ?_
        refine eb_iconst (pc := 1117) (v := 4) dL_law_1117 (by decide) ?_
        refine eb_iadd (pc := 1118) dL_law_1118 ?_
        refine eb_ialoadx (pc := 1119) (by decide) hxn hxs dL_law_1119 (fun x240 => ?_)
        refine eb_calli (pc := 1120) (eb_runV (pc := 1120) (As := [.int x237, .int x238, .int x239, .int x240]) (rest := [.int x236]) (ci := 9) (q0 := (RX10, TX10, 43)) (q := (RX10, TX10, 43)) ew_1146 ew_1147 ew_1148 ew_666 rfl rfl ed_X10_pulled (ct_X10_pulled hG n _ _ _ _ _ _) rfl ew_1149 ⟨by decide, by decide⟩ (by omega) (by omega) (Nat.le_of_ble_eq_true rfl) rfl dL_law_1120) (fun x242 s241 => ?_)
        refine eb_icmp_eq (pc := 1123) (tgt := 1426) dL_law_1123 (by decide) ?_ ?_
        · refine eb_wide (cn' := (cn + 1)) (sn' := (sn + 10240)) (by omega) (by omega) ?_
          exact hj10 _ _
        · refine eb_iconst (pc := 1126) (v := 0) dL_law_1126 (by decide) ?_
          exact eb_bret (pc := 1127) (b := false) dL_law_1127 (by omega) (by omega)
      · refine eb_aload_n (pc := 1128) 1 dL_law_1128 rfl rfl ?_
        refine eb_aload_n (pc := 1129) 0 dL_law_1129 rfl rfl ?_
        refine eb_iload_n (pc := 1130) 3 dL_law_1130 rfl rfl ?_
        refine eb_iconst (pc := 1131) (v := 1) dL_law_1131 (by decide) ?_
        refine eb_iadd (pc := 1132) dL_law_1132 ?_
        refine eb_ialoadx (pc := 1133) (by decide) hxn hxs dL_law_1133 (fun x243 => ?_)
        refine eb_aload_n (pc := 1134) 0 dL_law_1134 rfl rfl ?_
        refine eb_iload_n (pc := 1135) 3 dL_law_1135 rfl rfl ?_
        refine eb_iconst (pc := 1136) (v := 2) dL_law_1136 (by decide) ?_
        refine eb_iadd (pc := 1137) dL_law_1137 ?_
        refine eb_ialoadx (pc := 1138) (by decide) hxn hxs dL_law_1138 (fun x244 => ?_)
        refine eb_aload_n (pc := 1139) 0 dL_law_1139 rfl rfl ?_
        refine eb_iload_n (pc := 1140) 3 dL_law_1140 rfl rfl ?_
        refine eb_iconst (pc := 1141) (v := 3) dL_law_1141 (by decide) ?_
        refine eb_iadd (pc := 1142) dL_law_1142 ?_
        refine eb_ialoadx (pc := 1143) (by decide) hxn hxs dL_law_1143 (fun x245 => ?_)
        refine eb_calli (pc := 1144) (eb_runV (pc := 1144) (As := [.int x243, .int x244, .int x245]) (rest := []) (ci := 8) (q0 := (RX9, TX9, 12)) (q := (RX9, TX9, 12)) ew_1150 ew_1151 ew_1152 ew_427 rfl rfl ed_X9_film (ct_X9_film hG n _ _ _ _ _) rfl ew_1153 ⟨by decide, by decide⟩ (by omega) (by omega) (Nat.le_of_ble_eq_true rfl) rfl dL_law_1144) (fun x247 s246 => ?_)
        refine eb_aload_n (pc := 1147) 2 dL_law_1147 rfl rfl ?_
        refine eb_aload_n (pc := 1148) 0 dL_law_1148 rfl rfl ?_
        refine eb_iload_n (pc := 1149) 3 dL_law_1149 rfl rfl ?_
        refine eb_iconst (pc := 1150) (v := 1) dL_law_1150 (by decide) ?_
        refine eb_iadd (pc := 1151) dL_law_1151 ?_
        refine eb_ialoadx (pc := 1152) (by decide) hxn hxs dL_law_1152 (fun x248 => ?_)
        refine eb_aload_n (pc := 1153) 0 dL_law_1153 rfl rfl ?_
        refine eb_iload_n (pc := 1154) 3 dL_law_1154 rfl rfl ?_
        refine eb_iconst (pc := 1155) (v := 2) dL_law_1155 (by decide) ?_
        refine eb_iadd (pc := 1156) dL_law_1156 ?_
        refine eb_ialoadx (pc := 1157) (by decide) hxn hxs dL_law_1157 (fun x249 => ?_)
        refine eb_aload_n (pc := 1158) 0 dL_law_1158 rfl rfl ?_
        refine eb_iload_n (pc := 1159) 3 dL_law_1159 rfl rfl ?_
        refine eb_iconst (pc := 1160) (v := 3) dL_law_1160 (by decide) ?_
        refine eb_iadd (pc := 1161) dL_law_1161 ?_
        refine eb_ialoadx (pc := 1162) (by decide) hxn hxs dL_law_1162 (fun x250 => ?_)
        refine eb_calli (pc := 1163) (eb_runV (pc := 1163) (As := [.int x248, .int x249, .int x250]) (rest := [.int x247]) (ci := 9) (q0 := (RX10, TX10, 43)) (q := (RX10, TX10, 43)) ew_1154 ew_1155 ew_1156 ew_666 rfl rfl ed_X10_film (ct_X10_film hG n _ _ _ _ _) rfl ew_1157 ⟨by decide, by decide⟩ (by omega) (by omega) (Nat.le_of_ble_eq_true rfl) rfl dL_law_1163) (fun x252 s251 => ?_)
        refine eb_icmp_eq (pc := 1166) (tgt := 1426) dL_law_1166 (by decide) ?_ ?_
        · refine eb_wide (cn' := (cn + 1)) (sn' := (sn + 10240)) (by omega) (by omega) ?_
          exact hj10 _ _
        · refine eb_iconst (pc := 1169) (v := 0) dL_law_1169 (by decide) ?_
          exact eb_bret (pc := 1170) (b := false) dL_law_1170 (by omega) (by omega)
      · refine eb_aload_n (pc := 1171) 1 dL_law_1171 rfl rfl ?_
        refine eb_aload_n (pc := 1172) 0 dL_law_1172 rfl rfl ?_
        refine eb_iload_n (pc := 1173) 3 dL_law_1173 rfl rfl ?_
        refine eb_iconst (pc := 1174) (v := 1) dL_law_1174 (by decide) ?_
        refine eb_iadd (pc := 1175) dL_law_1175 ?_
        refine eb_ialoadx (pc := 1176) (by decide) hxn hxs dL_law_1176 (fun x253 => ?_)
        refine eb_aload_n (pc := 1177) 0 dL_law_1177 rfl rfl ?_
        refine eb_iload_n (pc := 1178) 3 dL_law_1178 rfl rfl ?_
        refine eb_iconst (pc := 1179) (v := 2) dL_law_1179 (by decide) ?_
        refine eb_iadd (pc := 1180) dL_law_1180 ?_
        refine eb_ialoadx (pc := 1181) (by decide) hxn hxs dL_law_1181 (fun x254 => ?_)
        refine eb_aload_n (pc := 1182) 0 dL_law_1182 rfl rfl ?_
        refine eb_iload_n (pc := 1183) 3 dL_law_1183 rfl rfl ?_
        refine eb_iconst (pc := 1184) (v := 3) dL_law_1184 (by decide) ?_
        refine eb_iadd (pc := 1185) dL_law_1185 ?_
        refine eb_ialoadx (pc := 1186) (by decide) hxn hxs dL_law_1186 (fun x255 => ?_)
        refine eb_calli (pc := 1187) (eb_runV (pc := 1187) (As := [.int x253, .int x254, .int x255]) (rest := []) (ci := 8) (q0 := (RX9, TX9, 12)) (q := (RX9, TX9, 12)) ew_1158 ew_1159 ew_1160 ew_427 rfl rfl ed_X9_lay (ct_X9_lay hG n _ _ _ _ _) rfl ew_1161 ⟨by decide, by decide⟩ (by omega) (by omega) (Nat.le_of_ble_eq_true rfl) rfl dL_law_1187) (fun x257 s256 => ?_)
        refine eb_aload_n (pc := 1190) 2 dL_law_1190 rfl rfl ?_
        refine eb_aload_n (pc := 1191) 0 dL_law_1191 rfl rfl ?_
        refine eb_iload_n (pc := 1192) 3 dL_law_1192 rfl rfl ?_
        refine eb_iconst (pc := 1193) (v := 1) dL_law_1193 (by decide) ?_
        refine eb_iadd (pc := 1194) dL_law_1194 ?_
        refine eb_ialoadx (pc := 1195) (by decide) hxn hxs dL_law_1195 (fun x258 => ?_)
        refine eb_aload_n (pc := 1196) 0 dL_law_1196 rfl rfl ?_
        refine eb_iload_n (pc := 1197) 3 dL_law_1197 rfl rfl ?_
        refine eb_iconst (pc := 1198) (v := 2) dL_law_1198 (by decide) ?_
        refine eb_iadd (pc := 1199) dL_law_1199 ?_
        refine eb_ialoadx (pc := 1200) (by decide) hxn hxs dL_law_1200 (fun x259 => ?_)
        refine eb_aload_n (pc := 1201) 0 dL_law_1201 rfl rfl ?_
        refine eb_iload_n (pc := 1202) 3 dL_law_1202 rfl rfl ?_
        refine eb_iconst (pc := 1203) (v := 3) dL_law_1203 (by decide) ?_
        refine eb_iadd (pc := 1204) dL_law_1204 ?_
        refine eb_ialoadx (pc := 1205) (by decide) hxn hxs dL_law_1205 (fun x260 => ?_)
        refine eb_calli (pc := 1206) (eb_runV (pc := 1206) (As := [.int x258, .int x259, .int x260]) (rest := [.int x257]) (ci := 9) (q0 := (RX10, TX10, 43)) (q := (RX10, TX10, 43)) ew_1162 ew_1163 ew_1164 ew_666 rfl rfl ed_X10_lay (ct_X10_lay hG n _ _ _ _ _) rfl ew_1165 ⟨by decide, by decide⟩ (by omega) (by omega) (Nat.le_of_ble_eq_true rfl) rfl dL_law_1206) (fun x262 s261 => ?_)
        refine eb_icmp_eq (pc := 1209) (tgt := 1426) dL_law_1209 (by decide) ?_ ?_
        · refine eb_wide (cn' := (cn + 1)) (sn' := (sn + 10240)) (by omega) (by omega) ?_
          exact hj10 _ _
        · refine eb_iconst (pc := 1212) (v := 0) dL_law_1212 (by decide) ?_
          exact eb_bret (pc := 1213) (b := false) dL_law_1213 (by omega) (by omega)
      · refine eb_aload_n (pc := 1214) 1 dL_law_1214 rfl rfl ?_
        refine eb_aload_n (pc := 1215) 0 dL_law_1215 rfl rfl ?_
        refine eb_iload_n (pc := 1216) 3 dL_law_1216 rfl rfl ?_
        refine eb_iconst (pc := 1217) (v := 1) dL_law_1217 (by decide) ?_
        refine eb_iadd (pc := 1218) dL_law_1218 ?_
        refine eb_ialoadx (pc := 1219) (by decide) hxn hxs dL_law_1219 (fun x263 => ?_)
        refine eb_aload_n (pc := 1220) 0 dL_law_1220 rfl rfl ?_
        refine eb_iload_n (pc := 1221) 3 dL_law_1221 rfl rfl ?_
        refine eb_iconst (pc := 1222) (v := 2) dL_law_1222 (by decide) ?_
        refine eb_iadd (pc := 1223) dL_law_1223 ?_
        refine eb_ialoadx (pc := 1224) (by decide) hxn hxs dL_law_1224 (fun x264 => ?_)
        refine eb_aload_n (pc := 1225) 0 dL_law_1225 rfl rfl ?_
        refine eb_iload_n (pc := 1226) 3 dL_law_1226 rfl rfl ?_
        refine eb_iconst (pc := 1227) (v := 3) dL_law_1227 (by decide) ?_
        refine eb_iadd (pc := 1228) dL_law_1228 ?_
        refine eb_ialoadx (pc := 1229) (by decide) hxn hxs dL_law_1229 (fun x265 => ?_)
        refine eb_calli (pc := 1230) (eb_runV (pc := 1230) (As := [.int x263, .int x264, .int x265]) (rest := []) (ci := 8) (q0 := (RX9, TX9, 12)) (q := (RX9, TX9, 12)) ew_1166 ew_1167 ew_1168 ew_427 rfl rfl ed_X9_sheet (ct_X9_sheet hG n _ _ _ _ _) rfl ew_1169 ⟨by decide, by decide⟩ (by omega) (by omega) (Nat.le_of_ble_eq_true rfl) rfl dL_law_1230) (fun x267 s266 => ?_)
        refine eb_aload_n (pc := 1233) 2 dL_law_1233 rfl rfl ?_
        refine eb_aload_n (pc := 1234) 0 dL_law_1234 rfl rfl ?_
        refine eb_iload_n (pc := 1235) 3 dL_law_1235 rfl rfl ?_
        refine eb_iconst (pc := 1236) (v := 1) dL_law_1236 (by decide) ?_
        refine eb_iadd (pc := 1237) dL_law_1237 ?_
        refine eb_ialoadx (pc := 1238) (by decide) hxn hxs dL_law_1238 (fun x268 => ?_)
        refine eb_aload_n (pc := 1239) 0 dL_law_1239 rfl rfl ?_
        refine eb_iload_n (pc := 1240) 3 dL_law_1240 rfl rfl ?_
        refine eb_iconst (pc := 1241) (v := 2) dL_law_1241 (by decide) ?_
        refine eb_iadd (pc := 1242) dL_law_1242 ?_
        refine eb_ialoadx (pc := 1243) (by decide) hxn hxs dL_law_1243 (fun x269 => ?_)
        refine eb_aload_n (pc := 1244) 0 dL_law_1244 rfl rfl ?_
        refine eb_iload_n (pc := 1245) 3 dL_law_1245 rfl rfl ?_
        refine eb_iconst (pc := 1246) (v := 3) dL_law_1246 (by decide) ?_
        refine eb_iadd (pc := 1247) dL_law_1247 ?_
        refine eb_ialoadx (pc := 1248) (by decide) hxn hxs dL_law_1248 (fun x270 => ?_)
        refine eb_calli (pc := 1249) (eb_runV (pc := 1249) (As := [.int x268, .int x269, .int x270]) (rest := [.int x267]) (ci := 9) (q0 := (RX10, TX10, 43)) (q := (RX10, TX10, 43)) ew_1170 ew_1171 ew_1172 ew_666 rfl rfl ed_X10_sheet (ct_X10_sheet hG n _ _ _ _ _) rfl ew_1173 ⟨by decide, by decide⟩ (by omega) (by omega) (Nat.le_of_ble_eq_true rfl) rfl dL_law_1249) (fun x272 s271 => ?_)
        refine eb_icmp_eq (pc := 1252) (tgt := 1426) dL_law_1252 (by decide) ?_ ?_
        · refine eb_wide (cn' := (cn + 1)) (sn' := (sn + 10240)) (by omega) (by omega) ?_
          exact hj10 _ _
        · refine eb_iconst (pc := 1255) (v := 0) dL_law_1255 (by decide) ?_
          exact eb_bret (pc := 1256) (b := false) dL_law_1256 (by omega) (by omega)
      · refine eb_aload_n (pc := 1257) 1 dL_law_1257 rfl rfl ?_
        refine eb_aload_n (pc := 1258) 0 dL_law_1258 rfl rfl ?_
        refine eb_iload_n (pc := 1259) 3 dL_law_1259 rfl rfl ?_
        refine eb_iconst (pc := 1260) (v := 1) dL_law_1260 (by decide) ?_
        refine eb_iadd (pc := 1261) dL_law_1261 ?_
        refine eb_ialoadx (pc := 1262) (by decide) hxn hxs dL_law_1262 (fun x273 => ?_)
        refine eb_calli (pc := 1263) (eb_runV (pc := 1263) (As := [.int x273]) (rest := []) (ci := 8) (q0 := (RX9, TX9, 12)) (q := (RX9, TX9, 12)) ew_1174 ew_1175 ew_1176 ew_427 rfl rfl ed_X9_drop (ct_X9_drop hG _ _ _) rfl ew_1177 ⟨by decide, by decide⟩ (by omega) (by omega) (Nat.le_of_ble_eq_true rfl) rfl dL_law_1263) (fun x275 s274 => ?_)
        refine eb_aload_n (pc := 1266) 2 dL_law_1266 rfl rfl ?_
        refine eb_aload_n (pc := 1267) 0 dL_law_1267 rfl rfl ?_
        refine eb_iload_n (pc := 1268) 3 dL_law_1268 rfl rfl ?_
        refine eb_iconst (pc := 1269) (v := 1) dL_law_1269 (by decide) ?_
        refine eb_iadd (pc := 1270) dL_law_1270 ?_
        refine eb_ialoadx (pc := 1271) (by decide) hxn hxs dL_law_1271 (fun x276 => ?_)
        refine eb_calli (pc := 1272) (eb_runV (pc := 1272) (As := [.int x276]) (rest := [.int x275]) (ci := 9) (q0 := (RX10, TX10, 43)) (q := (RX10, TX10, 43)) ew_1178 ew_1179 ew_1180 ew_666 rfl rfl ed_X10_drop (ct_X10_drop hG _ _ _) rfl ew_1181 ⟨by decide, by decide⟩ (by omega) (by omega) (Nat.le_of_ble_eq_true rfl) rfl dL_law_1272) (fun x278 s277 => ?_)
        refine eb_icmp_eq (pc := 1275) (tgt := 1426) dL_law_1275 (by decide) ?_ ?_
        · refine eb_wide (cn' := (cn + 1)) (sn' := (sn + 10240)) (by omega) (by omega) ?_
          exact hj10 _ _
        · refine eb_iconst (pc := 1278) (v := 0) dL_law_1278 (by decide) ?_
          exact eb_bret (pc := 1279) (b := false) dL_law_1279 (by omega) (by omega)
      · refine eb_aload_n (pc := 1280) 1 dL_law_1280 rfl rfl ?_
        refine eb_aload_n (pc := 1281) 0 dL_law_1281 rfl rfl ?_
        refine eb_iload_n (pc := 1282) 3 dL_law_1282 rfl rfl ?_
        refine eb_iconst (pc := 1283) (v := 1) dL_law_1283 (by decide) ?_
        refine eb_iadd (pc := 1284) dL_law_1284 ?_
        refine eb_ialoadx (pc := 1285) (by decide) hxn hxs dL_law_1285 (fun x279 => ?_)
        refine eb_aload_n (pc := 1286) 0 dL_law_1286 rfl rfl ?_
        refine eb_iload_n (pc := 1287) 3 dL_law_1287 rfl rfl ?_
        refine eb_iconst (pc := 1288) (v := 2) dL_law_1288 (by decide) ?_
        refine eb_iadd (pc := 1289) dL_law_1289 ?_
        refine eb_ialoadx (pc := 1290) (by decide) hxn hxs dL_law_1290 (fun x280 => ?_)
        refine eb_aload_n (pc := 1291) 0 dL_law_1291 rfl rfl ?_
        refine eb_iload_n (pc := 1292) 3 dL_law_1292 rfl rfl ?_
        refine eb_iconst (pc := 1293) (v := 3) dL_law_1293 (by decide) ?_
        refine eb_iadd (pc := 1294) dL_law_1294 ?_
        refine eb_ialoadx (pc := 1295) (by decide) hxn hxs dL_law_1295 (fun x281 => ?_)
        refine eb_aload_n (pc := 1296) 0 dL_law_1296 rfl rfl ?_
        refine eb_iload_n (pc := 1297) 3 dL_law_1297 rfl rfl ?_
        refine eb_iconst (pc := 1298) (v := 4) dL_law_1298 (by decide) ?_
        refine eb_iadd (pc := 1299) dL_law_1299 ?_
        refine eb_ialoadx (pc := 1300) (by decide) hxn hxs dL_law_1300 (fun x282 => ?_)
        refine eb_i2l (pc := 1301) dL_law_1301 ?_
        refine eb_bipush (pc := 1302) (v := 32) dL_law_1302 (by decide) ?_
        refine eb_lshl (pc := 1304) dL_law_1304 ?_
        refine eb_aload_n (pc := 1305) 0 dL_law_1305 rfl rfl ?_
        refine eb_iload_n (pc := 1306) 3 dL_law_1306 rfl rfl ?_
        refine eb_iconst (pc := 1307) (v := 5) dL_law_1307 (by decide) ?_
        refine eb_iadd (pc := 1308) dL_law_1308 ?_
        refine eb_ialoadx (pc := 1309) (by decide) hxn hxs dL_law_1309 (fun x283 => ?_)
        refine eb_i2l (pc := 1310) dL_law_1310 ?_
        refine eb_ldc2 (pc := 1311) (v := 4294967295) dL_law_1311 ew_1190 ?_
        refine eb_land (pc := 1314) dL_law_1314 ?_
        refine eb_lor (pc := 1315) dL_law_1315 ?_
        refine eb_calli (pc := 1316) (eb_runV (pc := 1316) (As := [.int x279, .int x280, .int x281, .long ((((x282).toInt64) <<< ((32 : Int32).toInt64 &&& 63)) ||| (((x283).toInt64) &&& 4294967295))]) (rest := []) (ci := 8) (q0 := (RX9, TX9, 12)) (q := (RX9, TX9, 12)) ew_1182 ew_1183 ew_1184 ew_427 rfl rfl ed_X9_item (ct_X9_item hG _ _ _ _ _ _) rfl ew_1185 ⟨by decide, by decide⟩ (by omega) (by omega) (Nat.le_of_ble_eq_true rfl) rfl dL_law_1316) (fun x285 s284 => ?_)
        refine eb_aload_n (pc := 1319) 2 dL_law_1319 rfl rfl ?_
        refine eb_aload_n (pc := 1320) 0 dL_law_1320 rfl rfl ?_
        refine eb_iload_n (pc := 1321) 3 dL_law_1321 rfl rfl ?_
        refine eb_iconst (pc := 1322) (v := 1) dL_law_1322 (by decide) ?_
        refine eb_iadd (pc := 1323) dL_law_1323 ?_
        refine eb_ialoadx (pc := 1324) (by decide) hxn hxs dL_law_1324 (fun x286 => ?_)
        refine eb_aload_n (pc := 1325) 0 dL_law_1325 rfl rfl ?_
        refine eb_iload_n (pc := 1326) 3 dL_law_1326 rfl rfl ?_
        refine eb_iconst (pc := 1327) (v := 2) dL_law_1327 (by decide) ?_
        refine eb_iadd (pc := 1328) dL_law_1328 ?_
        refine eb_ialoadx (pc := 1329) (by decide) hxn hxs dL_law_1329 (fun x287 => ?_)
        refine eb_aload_n (pc := 1330) 0 dL_law_1330 rfl rfl ?_
        refine eb_iload_n (pc := 1331) 3 dL_law_1331 rfl rfl ?_
        refine eb_iconst (pc := 1332) (v := 3) dL_law_1332 (by decide) ?_
        refine eb_iadd (pc := 1333) dL_law_1333 ?_
        refine eb_ialoadx (pc := 1334) (by decide) hxn hxs dL_law_1334 (fun x288 => ?_)
        refine eb_aload_n (pc := 1335) 0 dL_law_1335 rfl rfl ?_
        refine eb_iload_n (pc := 1336) 3 dL_law_1336 rfl rfl ?_
        refine eb_iconst (pc := 1337) (v := 4) dL_law_1337 (by decide) ?_
        refine eb_iadd (pc := 1338) dL_law_1338 ?_
        refine eb_ialoadx (pc := 1339) (by decide) hxn hxs dL_law_1339 (fun x289 => ?_)
        refine eb_i2l (pc := 1340) dL_law_1340 ?_
        refine eb_bipush (pc := 1341) (v := 32) dL_law_1341 (by decide) ?_
        refine eb_lshl (pc := 1343) dL_law_1343 ?_
        refine eb_aload_n (pc := 1344) 0 dL_law_1344 rfl rfl ?_
        refine eb_iload_n (pc := 1345) 3 dL_law_1345 rfl rfl ?_
        refine eb_iconst (pc := 1346) (v := 5) dL_law_1346 (by decide) ?_
        refine eb_iadd (pc := 1347) dL_law_1347 ?_
        refine eb_ialoadx (pc := 1348) (by decide) hxn hxs dL_law_1348 (fun x290 => ?_)
        refine eb_i2l (pc := 1349) dL_law_1349 ?_
        refine eb_ldc2 (pc := 1350) (v := 4294967295) dL_law_1350 ew_1190 ?_
        refine eb_land (pc := 1353) dL_law_1353 ?_
        refine eb_lor (pc := 1354) dL_law_1354 ?_
        refine eb_calli (pc := 1355) (eb_runV (pc := 1355) (As := [.int x286, .int x287, .int x288, .long ((((x289).toInt64) <<< ((32 : Int32).toInt64 &&& 63)) ||| (((x290).toInt64) &&& 4294967295))]) (rest := [.int x285]) (ci := 9) (q0 := (RX10, TX10, 43)) (q := (RX10, TX10, 43)) ew_1186 ew_1187 ew_1188 ew_666 rfl rfl ed_X10_item (ct_X10_item hG _ _ _ _ _ _) rfl ew_1189 ⟨by decide, by decide⟩ (by omega) (by omega) (Nat.le_of_ble_eq_true rfl) rfl dL_law_1355) (fun x292 s291 => ?_)
        refine eb_icmp_eq (pc := 1358) (tgt := 1426) dL_law_1358 (by decide) ?_ ?_
        · refine eb_wide (cn' := (cn + 1)) (sn' := (sn + 10240)) (by omega) (by omega) ?_
          exact hj10 _ _
        · refine eb_iconst (pc := 1361) (v := 0) dL_law_1361 (by decide) ?_
          exact eb_bret (pc := 1362) (b := false) dL_law_1362 (by omega) (by omega)
      · refine eb_aload_n (pc := 1363) 1 dL_law_1363 rfl rfl ?_
        refine eb_aload_n (pc := 1364) 0 dL_law_1364 rfl rfl ?_
        refine eb_iload_n (pc := 1365) 3 dL_law_1365 rfl rfl ?_
        refine eb_iconst (pc := 1366) (v := 1) dL_law_1366 (by decide) ?_
        refine eb_iadd (pc := 1367) dL_law_1367 ?_
        refine eb_ialoadx (pc := 1368) (by decide) hxn hxs dL_law_1368 (fun x293 => ?_)
        refine eb_aload_n (pc := 1369) 0 dL_law_1369 rfl rfl ?_
        refine eb_iload_n (pc := 1370) 3 dL_law_1370 rfl rfl ?_
        refine eb_iconst (pc := 1371) (v := 2) dL_law_1371 (by decide) ?_
        refine eb_iadd (pc := 1372) dL_law_1372 ?_
        refine eb_ialoadx (pc := 1373) (by decide) hxn hxs dL_law_1373 (fun x294 => ?_)
        refine eb_aload_n (pc := 1374) 0 dL_law_1374 rfl rfl ?_
        refine eb_iload_n (pc := 1375) 3 dL_law_1375 rfl rfl ?_
        refine eb_iconst (pc := 1376) (v := 3) dL_law_1376 (by decide) ?_
        refine eb_iadd (pc := 1377) dL_law_1377 ?_
        refine eb_ialoadx (pc := 1378) (by decide) hxn hxs dL_law_1378 (fun x295 => ?_)
        refine eb_aload_n (pc := 1379) 0 dL_law_1379 rfl rfl ?_
        refine eb_iload_n (pc := 1380) 3 dL_law_1380 rfl rfl ?_
        refine eb_iconst (pc := 1381) (v := 4) dL_law_1381 (by decide) ?_
        refine eb_iadd (pc := 1382) dL_law_1382 ?_
        refine eb_ialoadx (pc := 1383) (by decide) hxn hxs dL_law_1383 (fun x296 => ?_)
        refine eb_aload_n (pc := 1384) 0 dL_law_1384 rfl rfl ?_
        refine eb_iload_n (pc := 1385) 3 dL_law_1385 rfl rfl ?_
        refine eb_iconst (pc := 1386) (v := 5) dL_law_1386 (by decide) ?_
        refine eb_iadd (pc := 1387) dL_law_1387 ?_
        refine eb_ialoadx (pc := 1388) (by decide) hxn hxs dL_law_1388 (fun x297 => ?_)
        refine eb_calli (pc := 1389) (eb_runV (pc := 1389) (As := [.int x293, .int x294, .int x295, .int x296, .int x297]) (rest := []) (ci := 8) (q0 := (RX9, TX9, 12)) (q := (RX9, TX9, 12)) ew_1191 ew_1192 ew_1193 ew_427 rfl rfl ed_X9_copy (ct_X9_copy hG _ _ _ _ _ _ _) rfl ew_1194 ⟨by decide, by decide⟩ (by omega) (by omega) (Nat.le_of_ble_eq_true rfl) rfl dL_law_1389) (fun x299 s298 => ?_)
        refine eb_aload_n (pc := 1392) 2 dL_law_1392 rfl rfl ?_
        refine eb_aload_n (pc := 1393) 0 dL_law_1393 rfl rfl ?_
        refine eb_iload_n (pc := 1394) 3 dL_law_1394 rfl rfl ?_
        refine eb_iconst (pc := 1395) (v := 1) dL_law_1395 (by decide) ?_
        refine eb_iadd (pc := 1396) dL_law_1396 ?_
        refine eb_ialoadx (pc := 1397) (by decide) hxn hxs dL_law_1397 (fun x300 => ?_)
        refine eb_aload_n (pc := 1398) 0 dL_law_1398 rfl rfl ?_
        refine eb_iload_n (pc := 1399) 3 dL_law_1399 rfl rfl ?_
        refine eb_iconst (pc := 1400) (v := 2) dL_law_1400 (by decide) ?_
        refine eb_iadd (pc := 1401) dL_law_1401 ?_
        refine eb_ialoadx (pc := 1402) (by decide) hxn hxs dL_law_1402 (fun x301 => ?_)
        refine eb_aload_n (pc := 1403) 0 dL_law_1403 rfl rfl ?_
        refine eb_iload_n (pc := 1404) 3 dL_law_1404 rfl rfl ?_
        refine eb_iconst (pc := 1405) (v := 3) dL_law_1405 (by decide) ?_
        refine eb_iadd (pc := 1406) dL_law_1406 ?_
        refine eb_ialoadx (pc := 1407) (by decide) hxn hxs dL_law_1407 (fun x302 => ?_)
        refine eb_aload_n (pc := 1408) 0 dL_law_1408 rfl rfl ?_
        refine eb_iload_n (pc := 1409) 3 dL_law_1409 rfl rfl ?_
        refine eb_iconst (pc := 1410) (v := 4) dL_law_1410 (by decide) ?_
        refine eb_iadd (pc := 1411) dL_law_1411 ?_
        refine eb_ialoadx (pc := 1412) (by decide) hxn hxs dL_law_1412 (fun x303 => ?_)
        refine eb_aload_n (pc := 1413) 0 dL_law_1413 rfl rfl ?_
        refine eb_iload_n (pc := 1414) 3 dL_law_1414 rfl rfl ?_
        refine eb_iconst (pc := 1415) (v := 5) dL_law_1415 (by decide) ?_
        refine eb_iadd (pc := 1416) dL_law_1416 ?_
        refine eb_ialoadx (pc := 1417) (by decide) hxn hxs dL_law_1417 (fun x304 => ?_)
        refine eb_calli (pc := 1418) (eb_runV (pc := 1418) (As := [.int x300, .int x301, .int x302, .int x303, .int x304]) (rest := [.int x299]) (ci := 9) (q0 := (RX10, TX10, 43)) (q := (RX10, TX10, 43)) ew_1195 ew_1196 ew_1197 ew_666 rfl rfl ed_X10_copy (ct_X10_copy hG n _ _ _ _ _ _ _) rfl ew_1198 ⟨by decide, by decide⟩ (by omega) (by omega) (Nat.le_of_ble_eq_true rfl) rfl dL_law_1418) (fun x306 s305 => ?_)
        refine eb_icmp_eq (pc := 1421) (tgt := 1426) dL_law_1421 (by decide) ?_ ?_
        · refine eb_wide (cn' := (cn + 1)) (sn' := (sn + 10240)) (by omega) (by omega) ?_
          exact hj10 _ _
        · refine eb_iconst (pc := 1424) (v := 0) dL_law_1424 (by decide) ?_
          exact eb_bret (pc := 1425) (b := false) dL_law_1425 (by omega) (by omega)
      · refine eb_wide (cn' := (cn + 1)) (sn' := (sn + 10240)) (by omega) (by omega) ?_
        exact hj10 _ _
set_option maxRecDepth 100000 in
theorem go_L_law {G : eb_G} (hG : eb_ok G) (n : Nat) {xn : Nat} {xs : Nat → Int32} (hxn : eb_gn G 4 = xn) (hxs : eb_gx G 4 = xs) (s : eb_S) : eb_go G yL_law cL_law 4 (some .boolean) (20) 179 687976 .ireturn (fun r : Bool => [.int (eb_b r)]) 0 [(0, .ref 4)] [] s 0 0 (f_L_law n xn xs s) := by
  unfold f_L_law
  refine eb_newo (pc := 0) (ci := 8) (q := (RX9, TX9, 12)) rfl rfl eb_inX9 ew_1201 ew_1202 ew_427 dL_law_0 (by decide) (by decide) (fun r1 s2 => ?_)
  refine eb_dup (pc := 3) dL_law_3 rfl ?_
  refine eb_callv (pc := 4) (eb_runI (pc := 4) (As := []) (rest := [.ref r1]) ew_907 ew_908 ew_427 rfl ed_X9_init (ct_X9_init hG _ _) ew_909 ⟨by decide, by decide⟩ (by decide) (by decide) (Nat.le_of_ble_eq_true rfl) rfl dL_law_4) (fun _u s3 => ?_)
  refine eb_astore_n (pc := 7) (L' := [(1, .ref r1), (0, .ref 4)]) dL_law_7 rfl (by decide) rfl ?_
  refine eb_newo (pc := 8) (ci := 9) (q := (RX10, TX10, 43)) rfl rfl eb_inX10 ew_1199 ew_1200 ew_666 dL_law_8 (by decide) (by decide) (fun r4 s5 => ?_)
  refine eb_dup (pc := 11) dL_law_11 rfl ?_
  refine eb_callv (pc := 12) (eb_runI (pc := 12) (As := []) (rest := [.ref r4]) ew_910 ew_911 ew_666 rfl ed_X10_init (ct_X10_init hG n _ _) ew_912 ⟨by decide, by decide⟩ (by decide) (by decide) (Nat.le_of_ble_eq_true rfl) rfl dL_law_12) (fun _u s6 => ?_)
  refine eb_astore_n (pc := 15) (L' := [(2, .ref r4), (1, .ref r1), (0, .ref 4)]) dL_law_15 rfl (by decide) rfl ?_
  refine eb_iconst (pc := 16) (v := 0) dL_law_16 (by decide) ?_
  refine eb_istore_n (pc := 17) (L' := [(3, .int 0), (2, .ref r4), (1, .ref r1), (0, .ref 4)]) dL_law_17 rfl (by decide) rfl ?_
  refine eb_sub [3, 2, 1, 0] rfl ?_
  exact gl_L_law hG hxn hxs 66 _ _ 113 12136 (by decide) (by decide)
