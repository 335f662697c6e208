/-! ===== pure: the law ===== -/
theorem st_told {c : Nat} {σ : eb_S} (h : INV c σ) (a f : Int32) : STEP (f_X9_told 100000 8 a f) (f_X10_told 100000 91 a f) c σ := st_ro h (fun A hb hs hX w hd hD => eq_told hb hs hX w hd hD a f (by decide))
theorem st_of {c : Nat} {σ : eb_S} (h : INV c σ) (a f : Int32) : STEP (f_X9_of 8 a f) (f_X10_of 91 a f) c σ := st_ro h (fun A hb hs hX w hd hD => eq_of hb hs hX w hd hD a f)
theorem st_count {c : Nat} {σ : eb_S} (h : INV c σ) (f : Int32) : STEP (f_X9_count 100000 8 f) (f_X10_count 100000 91 f) c σ := st_ro h (fun A hb hs hX w hd hD => eq_count hb hs hX w hd hD f (by decide))
theorem st_load {c : Nat} {σ : eb_S} (h : INV c σ) (a b : Int32) : STEP (f_X9_load 100000 8 a b) (f_X10_load 100000 91 a b) c σ := st_ro h (fun A hb hs hX w hd hD => eq_load hb hs hX w hd hD a b (by decide))
theorem st_lawful {c : Nat} {σ : eb_S} (h : INV c σ) : STEP (f_X9_lawful 100000 8) (f_X10_lawful 100000 91) c σ := st_ro h (fun A hb hs hX w hd hD => eq_lawful hb hs hX w hd hD (by decide))
theorem st_pull {c : Nat} {σ : eb_S} (h : INV c σ) (a : Int32) : STEP (f_X9_pull 100000 8 a) (f_X10_pull 100000 91 a) c σ := st_ro h (fun A hb hs hX w hd hD => eq_pull hb hs hX w hd hD a (by decide))
theorem st_pole {c : Nat} {σ : eb_S} (h : INV c σ) (a b d f : Int32) : STEP (f_X9_pole 100000 8 a b d f) (f_X10_pole 100000 91 a b d f) c σ := st_ro h (fun A hb hs hX w hd hD => eq_pole hb hs hX w hd hD a b d f (by decide))
theorem st_uneven {c : Nat} {σ : eb_S} (h : INV c σ) (a : Int32) : STEP (f_X9_uneven 100000 8 a) (f_X10_uneven 100000 91 a) c σ := st_dw (S := sU) (fun k j z => by unfold sU at z; omega) nD_sU h (fun A hb hs hX w hd hD => eq_uneven hb hs hX w hd hD a (by decide))
theorem st_hung {c : Nat} {σ : eb_S} (h : INV c σ) (a v : Int32) : STEP (f_X9_hung 100000 8 a v) (f_X10_hung 100000 91 a v) c σ := st_dw (S := s113) (fun k j z => by unfold s113 at z; omega) nD_s113 h (fun A hb hs hX w hd hD => eq_hung hb hs hX w hd hD a v (by decide))
theorem st_evenest {c : Nat} {σ : eb_S} (h : INV c σ) (a v : Int32) : STEP (f_X9_evenest 100000 8 a v) (f_X10_evenest 100000 91 a v) c σ := st_dw (S := sM) (fun k j z => by unfold sM at z; omega) nD_sM h (fun A hb hs hX w hd hD => eq_evenest hb hs hX w hd hD a v (by decide))
theorem st_hands {c : Nat} {σ : eb_S} (h : INV c σ) (a v : Int32) : STEP (f_X9_hands 100000 8 a v) (f_X10_hands 100000 91 a v) c σ := st_90 h (fun A hb hs hX w hd hD => eq_hands hb hs hX w hd hD a v (by decide))
theorem st_paper {c : Nat} {σ : eb_S} (h : INV c σ) (a v : Int32) : STEP (f_X9_paper 100000 8 a v) (f_X10_paper 100000 91 a v) c σ := st_90 h (fun A hb hs hX w hd hD => eq_paper hb hs hX w hd hD a v (by decide))
theorem st_arm {c : Nat} {σ : eb_S} (h : INV c σ) (a v : Int32) : STEP (f_X9_arm 8 a v) (f_X10_arm 91 a v) c σ := st_n h (fun A ch im B ln sz it w wh hb h9 hH hd hD hDH hI => (eq_arm w hb h9 hd hD a v).n)
theorem st_bag {c : Nat} {σ : eb_S} (h : INV c σ) (a f v : Int32) : STEP (f_X9_bag 8 a f v) (f_X10_bag 91 a f v) c σ := st_n h (fun A ch im B ln sz it w wh hb h9 hH hd hD hDH hI => (eq_bag w hb h9 hd hD a f v).n)
theorem st_thing {c : Nat} {σ : eb_S} (h : INV c σ) (a v : Int32) : STEP (f_X9_thing 8 a v) (f_X10_thing 91 a v) c σ := st_n h (fun A ch im B ln sz it w wh hb h9 hH hd hD hDH hI => (eq_thing w hb h9 hd hD a v).n)
theorem st_stretch {c : Nat} {σ : eb_S} (h : INV c σ) (a v : Int32) : STEP (f_X9_stretch 8 a v) (f_X10_stretch 91 a v) c σ := st_n h (fun A ch im B ln sz it w wh hb h9 hH hd hD hDH hI => (eq_stretch w hb h9 hd hD a v).n)
theorem st_rule {c : Nat} {σ : eb_S} (h : INV c σ) (a b f : Int32) : STEP (f_X9_rule 8 a b f) (f_X10_rule 91 a b f) c σ := st_n h (fun A ch im B ln sz it w wh hb h9 hH hd hD hDH hI => (eq_rule w hb h9 hd hD a b f).n)
theorem st_off {c : Nat} {σ : eb_S} (h : INV c σ) : STEP (f_X9_off 8) (f_X10_off 91) c σ := st_n h (fun A ch im B ln sz it w wh hb h9 hH hd hD hDH hI => (eq_off w hb h9 hd hD).n)
theorem st_set {c : Nat} {σ : eb_S} (h : INV c σ) (a f v : Int32) : STEP (f_X9_set 8 a f v) (f_X10_set 100000 91 a f v) c σ := st_n h (fun A ch im B ln sz it w wh hb h9 hH hd hD hDH hI => (eq_set w hb h9 hd hD a f v).n)
theorem st_bar {c : Nat} {σ : eb_S} (h : INV c σ) (a b : Int32) : STEP (f_X9_bar 100000 8 a b) (f_X10_bar 100000 91 a b) c σ := st_n h (fun A ch im B ln sz it w wh hb h9 hH hd hD hDH hI => (eq_bar w (by decide) hb h9 hd hD a b).n)
theorem st_restore {c : Nat} {σ : eb_S} (h : INV c σ) : STEP (f_X9_restore 8) (f_X10_restore 100000 91) c σ := st_n h (fun A ch im B ln sz it w wh hb h9 hH hd hD hDH hI => (eq_restore w (by decide) hb h9 hd hD hI).n)
theorem st_lay {c : Nat} {σ : eb_S} (h : INV c σ) (a b i : Int32) : STEP (f_X9_lay 100000 8 a b i) (f_X10_lay 100000 91 a b i) c σ := st_n h (fun A ch im B ln sz it w wh hb h9 hH hd hD hDH hI => eq_lay w wh (by decide) hb h9 hH hd hD hDH a b i)
theorem st_sheet {c : Nat} {σ : eb_S} (h : INV c σ) (a b c' : Int32) : STEP (f_X9_sheet 100000 8 a b c') (f_X10_sheet 100000 91 a b c') c σ := st_h h (fun A ln sz it w wh hb hs hX hH hd hD hDH => eq_sheet wh (by decide) hb hH hd hDH a b c')
theorem st_drop {c : Nat} {σ : eb_S} (h : INV c σ) (a : Int32) : STEP (f_X9_drop 8 a) (f_X10_drop 91 a) c σ := st_h h (fun A ln sz it w wh hb hs hX hH hd hD hDH => eq_drop wh hb hH hd hDH a)
theorem st_copy {c : Nat} {σ : eb_S} (h : INV c σ) (a i b j n : Int32) : STEP (f_X9_copy 8 a i b j n) (f_X10_copy 100000 91 a i b j n) c σ := st_h h (fun A ln sz it w wh hb hs hX hH hd hD hDH => eq_copy wh (by decide) hb hH hd hDH a i b j n)
theorem st_film {c : Nat} {σ : eb_S} (h : INV c σ) (a b i : Int32) : STEP (f_X9_film 100000 8 a b i) (f_X10_film 100000 91 a b i) c σ := st_h h (fun A ln sz it w wh hb hs hX hH hd hD hDH => eq_film w wh (by decide) hb hs hX hH hd hD hDH a b i)
theorem st_item {c : Nat} {σ : eb_S} (h : INV c σ) (a b i : Int32) (v : Int64) : STEP (f_X9_item 8 a b i v) (f_X10_item 91 a b i v) c σ := st_h h (fun A ln sz it w wh hb hs hX hH hd hD hDH => eq_item wh hb hH hd hDH a b i v)
theorem law_two {fx fd : eb_S → Option (Int32 × eb_S)} {c : Nat} {σ : eb_S} {K : eb_S → Option (Bool × eb_S)} (h : STEP fx fd c σ) (hK : ∀ σ', INV (c + 1) σ' → ∃ σ2, K σ' = some (true, σ2)) : ∃ σ2, (eb_cl (eb_tg σ 8 8 (fx σ)) fun x s1 => eb_cl (eb_tg s1 91 9 (fd s1)) fun y s2 => if x = y then K s2 else some (false, s2)) = some (true, σ2) := by
  obtain ⟨r, σ1, σ2, e1, e2, t1, t2, hI⟩ := h
  obtain ⟨σ3, e3⟩ := hK σ2 hI
  refine ⟨σ3, ?_⟩
  rw [eb_tg, if_pos t1, e1, eb_cl_s, eb_tg, if_pos t2, e2, eb_cl_s, if_pos rfl]
  exact e3
def law_all (P : Option (Bool × eb_S) → Prop) : List (Option (Bool × eb_S)) → Prop
  | [] => True
  | o :: os => P o ∧ law_all P os
theorem law_sw {P : Option (Bool × eb_S) → Prop} {x : Int32} {od : Option (Bool × eb_S)} (hd : P od) : ∀ (os : List (Option (Bool × eb_S))) (i : Nat), law_all P os → P (eb_sw x i os od)
  | [], _, _ => hd
  | o :: os, i, h => by
    rw [eb_sw]
    by_cases e : x = Int32.ofNat i
    · rw [if_pos e]; exact h.1
    · rw [if_neg e]; exact law_sw hd os (i + 1) h.2
theorem INV.up {c : Nat} {σ : eb_S} (h : INV c σ) : INV (c + 1) σ := by
  obtain ⟨A, ch, im, B, tl, tc, ln, sz, it, hc, q⟩ := h
  exact ⟨A, ch, im, B, tl, tc, ln, sz, it, by omega, q⟩
theorem law_xi {L j : Nat} {xs : Nat → Int32} (hj : j < L) (hL : L ≤ 384) (K : Int32 → Option (Bool × eb_S)) : eb_xi L xs (nI j) K = K (xs j) := by
  rw [eb_xi, if_pos (p_in hj (by omega)), p_cl (by omega)]
theorem law_lt {L i : Nat} (hL : L ≤ 384) (hi : i ≤ 64) : (Int32.ofNat L - 6 < nI (6 * i)) = (L < 6 * i + 6) := by
  have a1 : Int32.ofNat L = iI (L : Int) := by rw [← Int32.ofInt_toInt (Int32.ofNat L)]; exact congrArg Int32.ofInt (p_ntoInt (n := L) (by omega))
  have a2 : nI (6 * i) = iI ((6 * i : Nat) : Int) := by rw [← Int32.ofInt_toInt (nI (6 * i))]; exact congrArg Int32.ofInt (p_ntoInt (by omega))
  rw [a1, a2, show (6 : Int32) = iI 6 from rfl, iI_sub, p_ltI (by omega) (by omega), eq_iff_iff]
  omega
set_option maxHeartbeats 4000000 in
set_option maxRecDepth 10000 in
theorem law_body {L i m : Nat} {xs : Nat → Int32} {σ : eb_S} (hL : L ≤ 384) (hi : 6 * i + 6 ≤ L) (hc : i ≤ 70) (h : INV i σ) (hK : ∀ σ', INV (i + 1) σ' → ∃ σ2, f_L_law_L 100000 L xs 8 91 m (nI (6 * i) + 6) σ' = some (true, σ2)) : ∃ σ2, f_L_law_L 100000 L xs 8 91 (m + 1) (nI (6 * i)) σ = some (true, σ2) := by
  rw [f_L_law_L.eq_2, if_neg (by rw [law_lt hL (by omega)]; omega)]
  have h0 := law_xi (xs := xs) (show 6 * i < L by omega) hL
  have h1 := law_xi (xs := xs) (show 6 * i + 1 < L by omega) hL
  have h2 := law_xi (xs := xs) (show 6 * i + 2 < L by omega) hL
  have h3 := law_xi (xs := xs) (show 6 * i + 3 < L by omega) hL
  have h4 := law_xi (xs := xs) (show 6 * i + 4 < L by omega) hL
  have h5 := law_xi (xs := xs) (show 6 * i + 5 < L by omega) hL
  have e1 : nI (6 * i) + 1 = nI (6 * i + 1) := nI_add _ 1
  have e2 : nI (6 * i) + 2 = nI (6 * i + 2) := nI_add _ 2
  have e3 : nI (6 * i) + 3 = nI (6 * i + 3) := nI_add _ 3
  have e4 : nI (6 * i) + 4 = nI (6 * i + 4) := nI_add _ 4
  have e5 : nI (6 * i) + 5 = nI (6 * i + 5) := nI_add _ 5
  simp only [e1, e2, e3, e4, e5, h0, h1, h2, h3, h4, h5, eb_jn_e]
  generalize f_L_law_L 100000 L xs 8 91 m (nI (6 * i) + 6) = K at hK ⊢
  refine law_sw (P := fun o => ∃ σ2, o = some (true, σ2)) (hK _ h.up) _ _ ⟨?_, ?_, ?_, ?_, ?_, ?_, ?_, ?_, ?_, ?_, ?_, ?_, ?_, ?_, ?_, ?_, ?_, ?_, ?_, ?_, ?_, ?_, ?_, ?_, ?_, ?_, ?_, ?_, ?_, ?_, ?_, ?_, ?_, ?_, ?_, ?_, trivial⟩
  · exact law_two (st_thing h (xs (6 * i + 1)) (xs (6 * i + 2))) hK
  · exact law_two (st_told h (xs (6 * i + 1)) (xs (6 * i + 2))) hK
  · exact law_two (st_set h (xs (6 * i + 1)) (xs (6 * i + 2)) (xs (6 * i + 3))) hK
  · show ∃ σ2, _ = some (true, σ2)
    by_cases e : xs (6 * i + 2) = 0
    · simp only [e, if_true]; exact law_two (st_stretch h (xs (6 * i + 1)) 0) hK
    · simp only [e, if_false]; exact law_two (st_stretch h (xs (6 * i + 1)) 1) hK
  · exact law_two (st_of h (xs (6 * i + 1)) (xs (6 * i + 2))) hK
  · exact law_two (st_bag h (xs (6 * i + 1)) (xs (6 * i + 2)) (xs (6 * i + 3))) hK
  · exact law_two (st_arm h (xs (6 * i + 1)) (xs (6 * i + 2))) hK
  · exact law_two (st_rule h (xs (6 * i + 1)) (xs (6 * i + 2)) (xs (6 * i + 3))) hK
  · exact law_two (st_off h) hK
  · exact law_two (st_type h (xs (6 * i + 1))) hK
  · exact law_two (st_market h) hK
  · exact law_two (st_count h (xs (6 * i + 1))) hK
  · exact law_two (st_load h (xs (6 * i + 1)) (xs (6 * i + 2))) hK
  · exact law_two (st_lawful h) hK
  · exact law_two (st_pull h (xs (6 * i + 1))) hK
  · exact law_two (st_uneven h (xs (6 * i + 1))) hK
  · exact law_two (st_best hc h (xs (6 * i + 1))) hK
  · exact law_two (st_pack hc h) hK
  · exact law_two (st_evenest h (xs (6 * i + 1)) (xs (6 * i + 2))) hK
  · exact law_two (st_moved hc h (xs (6 * i + 1)) (xs (6 * i + 2)) (xs (6 * i + 3))) hK
  · exact law_two (st_hands h (xs (6 * i + 1)) (xs (6 * i + 2))) hK
  · exact law_two (st_buying hc h (xs (6 * i + 1))) hK
  · exact law_two (st_paper h (xs (6 * i + 1)) (xs (6 * i + 2))) hK
  · exact law_two (st_pole h (xs (6 * i + 1)) (xs (6 * i + 2)) (xs (6 * i + 3)) (xs (6 * i + 4))) hK
  · exact law_two (st_bar h (xs (6 * i + 1)) (xs (6 * i + 2))) hK
  · exact law_two (st_hung h (xs (6 * i + 1)) (xs (6 * i + 2))) hK
  · exact law_two (st_image h) hK
  · exact law_two (st_restore h) hK
  · exact law_two (st_tray h (xs (6 * i + 1)) (xs (6 * i + 2)) (xs (6 * i + 3)) (xs (6 * i + 4)) (xs (6 * i + 5))) hK
  · exact law_two (st_pulled hc h (xs (6 * i + 1)) (xs (6 * i + 2)) (xs (6 * i + 3)) (xs (6 * i + 4))) hK
  · exact law_two (st_film h (xs (6 * i + 1)) (xs (6 * i + 2)) (xs (6 * i + 3))) hK
  · exact law_two (st_lay h (xs (6 * i + 1)) (xs (6 * i + 2)) (xs (6 * i + 3))) hK
  · exact law_two (st_sheet h (xs (6 * i + 1)) (xs (6 * i + 2)) (xs (6 * i + 3))) hK
  · exact law_two (st_drop h (xs (6 * i + 1))) hK
  · exact law_two (st_item h (xs (6 * i + 1)) (xs (6 * i + 2)) (xs (6 * i + 3)) _) hK
  · exact law_two (st_copy h (xs (6 * i + 1)) (xs (6 * i + 2)) (xs (6 * i + 3)) (xs (6 * i + 4)) (xs (6 * i + 5))) hK
theorem law_loop {L : Nat} {xs : Nat → Int32} (hL : L ≤ 384) : ∀ (m i : Nat) (σ : eb_S), i + m = 66 → i ≤ 64 → INV i σ → ∃ σ2, f_L_law_L 100000 L xs 8 91 m (nI (6 * i)) σ = some (true, σ2)
  | 0, i, σ, e, hi, _ => by omega
  | m + 1, i, σ, e, hi, h => by
    by_cases hl : L < 6 * i + 6
    · exact ⟨σ, by rw [f_L_law_L.eq_2, if_pos (by rw [law_lt hL hi]; exact hl)]⟩
    · refine law_body hL (by omega) (by omega) h (fun σ' h' => ?_)
      have := law_loop (xs := xs) hL m (i + 1) σ' (by omega) (by omega) h'
      rw [show nI (6 * i) + 6 = nI (6 * (i + 1)) from nI_add _ 6]
      exact this
