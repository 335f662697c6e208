/-! ===== pure: the model reads THINGS and STRETCHES ===== -/
def sK (k a b : Nat) : Prop := (a = 91 ∧ (b = 21 ∨ b = 22)) ∨ (a = 108 ∧ 3 * k ≤ b)
theorem sAd_K {k : Nat} : ∀ a b, sAd a b → sK k a b := fun a b h => by unfold sAd at h; unfold sK; omega
theorem sK_r {k : Nat} : ∀ a b, sK k a b → sMr a b := fun a b h => by unfold sK at h; unfold sMr; omega
theorem sK_23 {k : Nat} {σ σ' : eb_S} (hF : Fr (sK k) σ σ') : eb_I σ' 91 23 = eb_I σ 91 23 := hF.2.2.2.2.2 _ _ (fun z => by unfold sK at z; omega)
theorem Fr.w108 {k i : Nat} {σ : eb_S} {x : Int32} (h : 3 * k ≤ i) : Fr (sK k) σ (eb_sI σ 108 i x) := Fr.sI (Or.inr ⟨rfl, h⟩)
theorem PD.w {tl p i : Nat} {tc : Nat → Nat} {wr : Bool} {σ : eb_S} {x : Int32} (h : PD tl tc p wr σ) : PD tl tc p wr (eb_sI σ 108 i x) := h.r (Fr.sI (Or.inr (Or.inl rfl)))
theorem RD.fin {A : Nat → Nat → Nat} {k s a b c : Nat} {σ σf : eb_S} (h : RD A k s σ) (hF : Fr (sK k) σ σf) (h0 : eb_I σf 108 (3 * k) = nI a) (h1 : eb_I σf 108 (3 * k + 1) = nI b) (h2 : eb_I σf 108 (3 * k + 2) = nI c) : RD (addT A k a b c) (k + 1) s (eb_sI σf 91 23 (nI (k + 1))) := by
  obtain ⟨r1, r2, r3, r4⟩ := h
  have e : ∀ a b, ¬ sK k a b → eb_I σf a b = eb_I σ a b := hF.2.2.2.2.2
  have e1 : ∀ t, addT A k a b c 1 t = if t = k then a else A 1 t := fun t => by simp [addT, aup]
  have e2 : ∀ t, addT A k a b c 2 t = if t = k then b else A 2 t := fun t => by simp [addT, aup]
  have e3 : ∀ t, addT A k a b c 3 t = if t = k then c else A 3 t := fun t => by simp [addT, aup]
  have e7 : ∀ t, addT A k a b c 7 t = A 7 t := fun t => by simp [addT, aup]
  have e8 : ∀ t, addT A k a b c 8 t = A 8 t := fun t => by simp [addT, aup]
  refine ⟨by rw [eb_I_sI, if_pos rfl, if_pos rfl], by rw [eb_I_sI, if_pos rfl, if_neg (by decide), e _ _ (fun z => by unfold sK at z; omega)]; exact r2, fun t ht => ?_, fun t ht => ?_⟩
  · rw [eb_I_sI, if_neg (by decide), eb_I_sI, if_neg (by decide), eb_I_sI, if_neg (by decide), e1, e2, e3]
    by_cases et : t = k
    · subst et; rw [if_pos rfl, if_pos rfl, if_pos rfl]; exact ⟨h0, h1, h2⟩
    · rw [if_neg et, if_neg et, if_neg et, e _ _ (fun z => by unfold sK at z; omega), e _ _ (fun z => by unfold sK at z; omega), e _ _ (fun z => by unfold sK at z; omega)]; exact r3 t (by omega)
  · rw [eb_I_sI, if_neg (by decide), eb_I_sI, if_neg (by decide), e7, e8, e _ _ (fun z => by unfold sK at z; omega), e _ _ (fun z => by unfold sK at z; omega)]; exact r4 t ht
theorem PD.e23 {tl p : Nat} {tc : Nat → Nat} {wr : Bool} {σ : eb_S} {x : Int32} (h : PD tl tc p wr σ) : PD tl tc p wr (eb_sI σ 91 23 x) := h.r (Fr.sI (Or.inl ⟨rfl, Or.inl rfl⟩))
theorem d_rtK_w {tl n q k : Nat} {tc : Nat → Nat} (hk : k < 10) {y5 : Int32} {σ : eb_S} (hP : PD tl tc q true σ) (h23 : eb_I σ 91 23 = nI k) : ∃ σ', rtK n y5 σ = some ((), σ') ∧ Fr sMr σ σ' ∧ PD tl tc q true σ' ∧ eb_I σ' 91 23 = nI (k + 1) := by
  have F1 : Fr (sK k) σ (eb_sI σ 108 (3 * k) y5) := Fr.w108 (by omega)
  have hP1 := hP.w (i := 3 * k) (x := y5)
  obtain ⟨σ2, a1, a2, a3⟩ := d_num_w (n := n) hP1
  have F2 := F1.tr (a2.mono sAd_K)
  have hP3 := a3.w (i := 3 * k + 1) (x := 0)
  have F3 : Fr (sK k) σ (eb_sI σ2 108 (3 * k + 1) 0) := F2.tr (Fr.w108 (by omega))
  have hP4 := hP3.w (i := 3 * k + 2) (x := 5)
  have F4 := F3.tr (Fr.w108 (k := k) (i := 3 * k + 2) (x := 5) (by omega))
  obtain ⟨σ5, b1, b2, b3⟩ := d_has_w (n := n) (c := 64) hP4
  have F5 := F4.tr (b2.mono sAd_K)
  refine ⟨eb_sI σ5 91 23 (nI (k + 1)), ?_, (F5.mono sK_r).tr (Fr.sI (Or.inl (by omega))), b3.e23, by rw [eb_I_sI, if_pos rfl, if_pos rfl]⟩
  unfold rtK
  rw [dg25 hP.1, dgI hP.1, h23, dw108 hP.1 (i3 k) (by omega), dg25 hP1.1, dgI hP1.1, sK_23 F1, h23, dtg hP1.1, a1, eb_cl_s, dw108 a3.1 (i31 k) (by omega), dg25 hP3.1, dgI hP3.1, sK_23 F3, h23, dw108 hP3.1 (i32' k) (by omega), dtg hP4.1, b1, eb_cl_s, eb_jn_e, if_pos (show eb_b false = 0 from rfl)]
  dsimp only
  rw [dgI b3.1, sK_23 F5, h23, dpI b3.1, nI_1]
set_option maxHeartbeats 8000000 in
theorem d_rtK {tl n q k s kk : Nat} {tc : Nat → Nat} {A : Nat → Nat → Nat} (hn : 100 ≤ n) (hk : k < 10) {σ : eb_S} (hP : PD tl tc q false σ) (hR : RD A k s σ) : ∃ σ', rtK n (nI kk) σ = some ((), σ') ∧ Fr sMr σ σ' ∧ PD tl tc (thN tl tc kk q).1 (decide ((thN tl tc kk q).2 = none)) σ' ∧ eb_I σ' 91 23 = nI (k + 1) ∧ ((thN tl tc kk q).2 ≠ none → RD (thA A k (thN tl tc kk q).2) (k + 1) s σ') := by
  have h23 := hR.1
  have F1 : Fr (sK k) σ (eb_sI σ 108 (3 * k) (nI kk)) := Fr.w108 (by omega)
  have hP1 := hP.w (i := 3 * k) (x := nI kk)
  obtain ⟨v, σ2, a1, a2, a3, a4⟩ := d_number (n := n) hn hP1
  have F2 := F1.tr (a2.mono sAd_K)
  have hP3 := a3.w (i := 3 * k + 1) (x := v)
  have F3 : Fr (sK k) σ (eb_sI σ2 108 (3 * k + 1) v) := F2.tr (Fr.w108 (by omega))
  have hP4 := hP3.w (i := 3 * k + 2) (x := 5)
  have F4 := F3.tr (Fr.w108 (k := k) (i := 3 * k + 2) (x := 5) (by omega))
  have pre : ∀ (b : Bool) (σ5 : eb_S), f_X10_has n 91 64 (eb_sI (eb_sI σ2 108 (3 * k + 1) v) 108 (3 * k + 2) 5) = some (b, σ5) → rtK n (nI kk) σ = (if (eb_b b) = 0 then (eb_gI σ5 [9] 91 23 fun x34 => eb_pI σ5 [9] 91 23 (x34 + 1) fun s35 => some ((), s35)) else (eb_cl (eb_tg σ5 91 9 (f_X10_here n 91 σ5)) fun x37 s36 => eb_cl (f_X10_in ((x37).toInt64) 48 53 s36) fun b39 s38 => eb_jn (fun (y40 : Int32) (s41 : eb_S) => eb_pZ s41 [9] 91 22 y40 fun s43 => eb_gR s43 [9] 91 25 fun r44 => eb_gI s43 [9] 91 23 fun x45 => eb_cl (eb_tg s43 91 9 (f_X10_here n 91 s43)) fun x47 s46 => eb_wi s46 r44 (((3 : Int32) * x45) + 2) (x47 - 48) fun s48 => eb_gI s48 [9] 91 21 fun x49 => eb_gI s48 [9] 91 22 fun x50 => eb_jn (fun (y51 : Int32) (s52 : eb_S) => eb_pI s52 [9] 91 21 (x49 + y51) fun s54 => eb_gI s54 [9] 91 23 fun x34 => eb_pI s54 [9] 91 23 (x34 + 1) fun s35 => some ((), s35)) fun j53 => if x50 = 0 then (j53 1 s48) else (j53 0 s48)) fun j42 => if (eb_b b39) = 0 then (j42 1 s38) else (j42 0 s38))) := by
    intro b σ5 b1
    unfold rtK
    rw [dg25 hP.1, dgI hP.1, h23, dw108 hP.1 (i3 k) (by omega), dg25 hP1.1, dgI hP1.1, sK_23 F1, h23, dtg hP1.1, a1, eb_cl_s, dw108 a3.1 (i31 k) (by omega), dg25 hP3.1, dgI hP3.1, sK_23 F3, h23, dw108 hP3.1 (i32' k) (by omega), dtg hP4.1, b1, eb_cl_s, eb_jn_e]
  unfold thN
  cases hnm : nmr tl tc q with
  | none =>
    rw [hnm] at hP4
    have hP4 : PD tl tc (skp tl tc q) true _ := hP4
    obtain ⟨σ5, b1, b2, b3⟩ := d_has_w (n := n) (c := 64) hP4
    have F5 := F4.tr (b2.mono sAd_K)
    refine ⟨eb_sI σ5 91 23 (nI (k + 1)), ?_, (F5.mono sK_r).tr (Fr.sI (Or.inl (by omega))), b3.e23, by rw [eb_I_sI, if_pos rfl, if_pos rfl], fun z => absurd rfl z⟩
    rw [pre _ _ b1, if_pos (show eb_b false = 0 from rfl), dgI b3.1, sK_23 F5, h23, dpI b3.1, nI_1]
  | some r =>
    obtain ⟨ww, e⟩ := r
    have av := a4 (by rw [hnm]; exact fun z => by cases z)
    rw [hnm] at hP4 av
    have hP4 : PD tl tc e false _ := hP4
    have av : v = nI ww := av
    obtain ⟨σ5, b1, b2, b3⟩ := d_has (c := 64) hn (by decide) (by decide) hP4
    have b1 : f_X10_has n 91 64 (eb_sI (eb_sI σ2 108 (3 * k + 1) v) 108 (3 * k + 2) 5) = some (decide (hr tl tc (skp tl tc e) = 64), σ5) := b1
    have F5 := F4.tr (b2.mono sAd_K)
    have pr := pre _ _ b1
    have e108 : ∀ j, eb_I σ5 108 j = if j = 3 * k + 2 then 5 else if j = 3 * k + 1 then v else if j = 3 * k then nI kk else eb_I σ 108 j := fun j => by
      rw [b2.2.2.2.2.2 _ _ (fun z => by unfold sAd at z; omega), eb_I_sI, if_pos rfl, eb_I_sI, if_pos rfl, a2.2.2.2.2.2 _ _ (fun z => by unfold sAd at z; omega), eb_I_sI, if_pos rfl]
    show ∃ σ', rtK n (nI kk) σ = some ((), σ') ∧ Fr sMr σ σ' ∧ PD tl tc (thE tl tc kk ww e).1 (decide ((thE tl tc kk ww e).2 = none)) σ' ∧ eb_I σ' 91 23 = nI (k + 1) ∧ ((thE tl tc kk ww e).2 ≠ none → RD (thA A k (thE tl tc kk ww e).2) (k + 1) s σ')
    unfold thE
    unfold psp at b3
    by_cases h64 : hr tl tc (skp tl tc e) = 64
    · rw [if_pos h64] at b3 ⊢
      rw [decide_eq_true h64, if_neg (show ¬ eb_b true = 0 by decide)] at pr
      obtain ⟨σ6, c1, c2, c3⟩ := d_here hn b3
      have hbq := hr_b c3.2.2.2.2.1 (skp tl tc (skp tl tc e + 1))
      have ci := d_in (nI (hr tl tc (skp tl tc (skp tl tc e + 1)))).toInt64 48 53 σ6
      rw [p_i64, p_ntoInt (by omega), show (48 : Int64).toInt = 48 from rfl, show (53 : Int64).toInt = 53 from rfl] at ci
      rw [dtg b3.1, c1, eb_cl_s, ci, eb_cl_s, eb_jn_e] at pr
      have F6 := F5.tr (c2.mono sAd_K)
      have tail : ∀ bw : Bool, ∃ σ9, (eb_pZ σ6 [9] 91 22 (eb_b bw) fun s43 => eb_gR s43 [9] 91 25 fun r44 => eb_gI s43 [9] 91 23 fun x45 => eb_cl (eb_tg s43 91 9 (f_X10_here n 91 s43)) fun x47 s46 => eb_wi s46 r44 (((3 : Int32) * x45) + 2) (x47 - 48) fun s48 => eb_gI s48 [9] 91 21 fun x49 => eb_gI s48 [9] 91 22 fun x50 => eb_jn (fun (y51 : Int32) (s52 : eb_S) => eb_pI s52 [9] 91 21 (x49 + y51) fun s54 => eb_gI s54 [9] 91 23 fun x34 => eb_pI s54 [9] 91 23 (x34 + 1) fun s35 => some ((), s35)) fun j53 => if x50 = 0 then (j53 1 s48) else (j53 0 s48)) = some ((), eb_sI σ9 91 23 (nI (k + 1))) ∧ Fr (sK k) σ σ9 ∧ (bw = true → PD tl tc (skp tl tc (skp tl tc e + 1)) true σ9) ∧ (bw = false → skp tl tc (skp tl tc e + 1) < tl → PD tl tc (skp tl tc (skp tl tc e + 1) + 1) false σ9) ∧ eb_I σ9 108 (3 * k) = nI kk ∧ eb_I σ9 108 (3 * k + 1) = v ∧ eb_I σ9 108 (3 * k + 2) = nI (hr tl tc (skp tl tc (skp tl tc e + 1))) - 48 := by
        intro bw
        have G1 : Fr sAd σ6 (eb_sI σ6 91 22 (eb_b bw)) := Fr.sI ⟨rfl, Or.inr rfl⟩
        have hP7 : PD tl tc (skp tl tc (skp tl tc e + 1)) bw (eb_sI σ6 91 22 (eb_b bw)) := c3.at G1 (by rw [eb_I_sI, if_pos rfl, if_neg (by decide)]; exact c3.2.2.1) (by rw [eb_I_sI, if_pos rfl, if_pos rfl]) c3.2.2.2.2.2
        obtain ⟨σ8, g1, g2, g3⟩ := d_here hn hP7
        rw [skp_id] at g1 g3
        have F8 := (F6.tr (G1.mono sAd_K)).tr (g2.mono sAd_K)
        have hP8 := g3.w (i := 3 * k + 2) (x := nI (hr tl tc (skp tl tc (skp tl tc e + 1))) - 48)
        have F8' := F8.tr (Fr.w108 (k := k) (i := 3 * k + 2) (x := nI (hr tl tc (skp tl tc (skp tl tc e + 1))) - 48) (by omega))
        have at8 := hP8.2.2.1
        have wr8 := hP8.2.2.2.1
        have r108 : ∀ j, eb_I (eb_sI σ8 108 (3 * k + 2) (nI (hr tl tc (skp tl tc (skp tl tc e + 1))) - 48)) 108 j = if j = 3 * k + 2 then nI (hr tl tc (skp tl tc (skp tl tc e + 1))) - 48 else eb_I σ5 108 j := fun j => by
          rw [eb_I_sI, if_pos rfl, g2.2.2.2.2.2 _ _ (fun z => by unfold sAd at z; omega), G1.2.2.2.2.2 _ _ (fun z => by unfold sAd at z; omega), c2.2.2.2.2.2 _ _ (fun z => by unfold sAd at z; omega)]
        have step : ∀ y : Int32, ∃ σ9, σ9 = eb_sI (eb_sI σ8 108 (3 * k + 2) (nI (hr tl tc (skp tl tc (skp tl tc e + 1))) - 48)) 91 21 (nI (skp tl tc (skp tl tc e + 1)) + y) ∧ Fr (sK k) σ σ9 ∧ ShD σ9 ∧ eb_I σ9 91 23 = nI k ∧ eb_I σ9 108 (3 * k) = nI kk ∧ eb_I σ9 108 (3 * k + 1) = v ∧ eb_I σ9 108 (3 * k + 2) = nI (hr tl tc (skp tl tc (skp tl tc e + 1))) - 48 := by
          intro y
          have F9 : Fr (sK k) σ (eb_sI (eb_sI σ8 108 (3 * k + 2) (nI (hr tl tc (skp tl tc (skp tl tc e + 1))) - 48)) 91 21 (nI (skp tl tc (skp tl tc e + 1)) + y)) := F8'.tr (Fr.sI (Or.inl ⟨rfl, Or.inl rfl⟩))
          refine ⟨_, rfl, F9, F9.shD hP.1, by rw [sK_23 F9, h23], ?_, ?_, ?_⟩
          · rw [eb_I_sI, if_neg (by decide), r108, if_neg (by omega), e108, if_neg (by omega), if_neg (by omega), if_pos rfl]
          · rw [eb_I_sI, if_neg (by decide), r108, if_neg (by omega), e108, if_neg (by omega), if_pos rfl]
          · rw [eb_I_sI, if_neg (by decide), r108, if_pos rfl]
        rw [dpZ c3.1, dg25 hP7.1, dgI hP7.1, sK_23 (F6.tr (G1.mono sAd_K)), h23, dtg hP7.1, g1, eb_cl_s, dw108 g3.1 (i32' k) (by omega), dgI hP8.1, at8, dgI hP8.1, wr8, eb_jn_e]
        cases bw with
        | true =>
          obtain ⟨σ9, q0, q1, q2, q3, q4, q5, q6⟩ := step 0
          refine ⟨σ9, ?_, q1, fun _ => ?_, fun z => (by cases z), q4, q5, q6⟩
          · rw [if_neg (show ¬ eb_b true = 0 by decide)]
            dsimp only
            rw [dpI hP8.1, ← q0, dgI q2, q3, dpI q2, nI_1]
          · rw [q0]
            exact hP8.at (Fr.sI ⟨rfl, Or.inl rfl⟩) (by rw [eb_I_sI, if_pos rfl, if_pos rfl, Int32.add_zero]) (by rw [eb_I_sI, if_pos rfl, if_neg (by decide)]; exact wr8) hP8.2.2.2.2.2
        | false =>
          obtain ⟨σ9, q0, q1, q2, q3, q4, q5, q6⟩ := step 1
          refine ⟨σ9, ?_, q1, fun z => (by cases z), fun _ hl => ?_, q4, q5, q6⟩
          · rw [if_pos (show eb_b false = 0 from rfl)]
            dsimp only
            rw [dpI hP8.1, ← q0, dgI q2, q3, dpI q2, nI_1]
          · rw [q0]
            exact hP8.at (Fr.sI ⟨rfl, Or.inl rfl⟩) (by rw [eb_I_sI, if_pos rfl, if_pos rfl, nI_1]) (by rw [eb_I_sI, if_pos rfl, if_neg (by decide)]; exact wr8) (by omega)
      cases hst : stp tl tc (skp tl tc (skp tl tc e + 1)) with
      | none =>
        have ns : ¬ (48 ≤ hr tl tc (skp tl tc (skp tl tc e + 1)) ∧ hr tl tc (skp tl tc (skp tl tc e + 1)) ≤ 53) := fun z => by unfold stp at hst; rw [if_pos z] at hst; cases hst
        rw [wi_f.mpr (by omega), if_pos (show eb_b false = 0 from rfl)] at pr
        obtain ⟨σ9, q1, q2, q3, q4, q5, q6, q7⟩ := tail true
        refine ⟨_, pr.trans q1, (q2.mono sK_r).tr (Fr.sI (Or.inl (by omega))), (q3 rfl).e23, by rw [eb_I_sI, if_pos rfl, if_pos rfl], fun z => absurd rfl z⟩
      | some z =>
        have so := stp_ok hst
        rw [wi_t.mpr ⟨by omega, by omega⟩, if_neg (show ¬ eb_b true = 0 by decide)] at pr
        obtain ⟨σ9, q1, q2, q3, q4, q5, q6, q7⟩ := tail false
        refine ⟨_, pr.trans q1, (q2.mono sK_r).tr (Fr.sI (Or.inl (by omega))), (q4 rfl so.1).e23, by rw [eb_I_sI, if_pos rfl, if_pos rfl], fun _ => ?_⟩
        refine hR.fin q2 q5 (by rw [q6, av]) ?_
        rw [q7, show (48 : Int32) = nI 48 from rfl, pk_sub so.2.2.1, so.2.2.2.2]
    · rw [if_neg h64] at b3 ⊢
      rw [decide_eq_false h64, if_pos (show eb_b false = 0 from rfl)] at pr
      refine ⟨eb_sI σ5 91 23 (nI (k + 1)), ?_, (F5.mono sK_r).tr (Fr.sI (Or.inl (by omega))), b3.e23, by rw [eb_I_sI, if_pos rfl, if_pos rfl], fun _ => ?_⟩
      · rw [pr, dgI b3.1, sK_23 F5, h23, dpI b3.1, nI_1]
      · refine hR.fin F5 ?_ ?_ ?_
        · rw [e108, if_neg (by omega), if_neg (by omega), if_pos rfl]
        · rw [e108, if_neg (by omega), if_pos rfl, av]
        · rw [e108, if_pos rfl]; rfl
