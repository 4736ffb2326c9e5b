theorem upd0 {f : Nat → UInt64} {x : UInt64} : vf_upd f 0 x 0 = x := by simp [vf_upd]
section Sp
variable {l : Launch} {D : va_G} {cy sa sv : Nat → Nat}
set_option maxRecDepth 20000 in
theorem ct_X4_errorPosition (hst : l.stackTraces = false) (σ : SH) (I X : IX) (o : Nat) (hO : o ∈ shL σ ∧ shK σ o = 4) (f : Rw) (hf : I o = f) : Ct l D cy sa sv yX4_errorPosition cX4_errorPosition 1 (some .int) 7 1 6 [.ref o] σ I X (pT (if f 4 = -1 then nI 1 else nI 0) (pR (some (.int (f 4))) σ I X)) (xT (if f 4 = -1 then nI 1 else nI 0) [eNSE] σ I X) := by
  refine Ct.of (by decide) hst (Nat.le_of_ble_eq_true rfl) ?_
  intro pp ee ss mm args below meth kc A hF hnm hout
  refine V.aload_n hF dX4_errorPosition_0 rfl ?_
  refine V.getIF hF dX4_errorPosition_1 fl_X4_29 hO.1 hO.2 rfl hf ?_
  refine V.iconst (v := -1) hF dX4_errorPosition_4 (by decide) ?_
  refine V.icmp_ne (tgt := 19) hF dX4_errorPosition_5 (by decide) (fun h5 => ?_) (fun h5 => ?_)
  · refine V.aload_n hF dX4_errorPosition_19 rfl ?_
    refine V.getIF hF dX4_errorPosition_20 fl_X4_29 hO.1 hO.2 rfl hf ?_
    refine V.iret hF dX4_errorPosition_23 (Nat.le_of_ble_eq_true rfl) (Nat.le_of_ble_eq_true rfl) ?_
    exact ⟨if_neg h5, pR.i rfl⟩
  · exact V.throwN hF 15 rfl dX4_errorPosition_8 dX4_errorPosition_11 (Or.inr ⟨dX4_errorPosition_12, rfl⟩) dX4_errorPosition_15 dX4_errorPosition_18 hout (Nat.le_of_ble_eq_true rfl) (Nat.le_of_ble_eq_true rfl) (Nat.le_of_ble_eq_true rfl) (Nat.le_of_ble_eq_true rfl) (Nat.le_of_ble_eq_true rfl) (Nat.le_of_ble_eq_true rfl) ⟨⟨0, rfl, if_pos h5⟩, rfl, rfl, rfl⟩
theorem lw_L_errorPosition : LkW RL 268 yL_errorPosition cL_errorPosition 3 (some .int) [(0, 8, 11, 76)] 2 := ⟨gw 1130 (by decide +kernel) (by decide +kernel), gw 1131 (by decide +kernel) (by decide +kernel), gw 52 (by decide +kernel) (by decide +kernel), gw 1132 (by decide +kernel) (by decide +kernel), by decide +kernel⟩
set_option maxRecDepth 20000 in
theorem ct_L_errorPosition (hst : l.stackTraces = false) (σ : SH) (I X : IX) (o : Nat) (hO : o ∈ shL σ ∧ shK σ o = 4) (f : Rw) (hf : I o = f) (out : Nat) (hm : out ∈ shL σ) (hk : shK σ out = 13) (hn : shN σ out = 1) : CtW l D cy sa sv yL_errorPosition cL_errorPosition 3 (some .int) [(0, 8, 11, 76)] 8 1 6 [.ref o, .ref out] σ I X (fun r σ' I' X' => r = some (.int (if f 4 = -1 then nI 1 else nI 0)) ∧ ∃ g : Nat → Int64, σ' = shSetJ σ out g ∧ I' = I ∧ X' = X ∧ ((if f 4 = -1 then nI 1 else nI 0) = nI 0 → g 0 = (f 4).toInt64)) := by
  refine CtW.of (by decide) hst (Nat.le_of_ble_eq_true rfl) ?_
  intro pp ee ss mm args below meth kc A hF htb hnc
  refine V.aload_n hF dL_errorPosition_0 rfl ?_
  refine V.iconst (v := nI 0) hF dL_errorPosition_1 (by decide) ?_
  refine V.aload_n hF dL_errorPosition_2 rfl ?_
  refine V.callV hF dL_errorPosition_3 (ct_X4_errorPosition hst σ I X o hO f hf) lk_L_129 sl_X4_errorPosition ⟨_, _, rfl, hO.1, hO.2, (Nat.le_of_ble_eq_true rfl), _, _, rfl⟩ (fit_of rfl) (Nat.le_of_ble_eq_true rfl) (fun E s2 I2 X2 hx => ?_) (fun r s2 I2 X2 hx => ?_) rfl
  · obtain ⟨⟨j, hj, hT⟩, e1, e2, e3⟩ := hx
    rw [e1, e2, e3]
    match j, hj, hT with
    | 0, hj, hT =>
      have hE := Option.some.inj hj
      rw [← hE]
      refine VX.catch hF [] (0, 8, 11, 76) [] htb (fun z hz => absurd hz List.not_mem_nil) (by decide) (by decide) lc_76 cc_NSE (fun q => ?_)
      refine V.astore_n hF dL_errorPosition_11 (by decide) ?_
      refine V.iconst (v := nI 1) hF dL_errorPosition_12 (by decide) ?_
      refine V.iret hF dL_errorPosition_13 (Nat.le_of_ble_eq_true rfl) (Nat.le_of_ble_eq_true rfl) ?_
      exact ⟨congrArg (fun t => some (Value.int t)) hT.symm, shJ σ out, (shSetJ_eta _ _).symm, rfl, rfl, fun q => absurd (hT.symm.trans q) (by decide)⟩
    | j + 1, hj, hT => exact absurd hj (by simp)
  · obtain ⟨hT, e0, e1, e2, e3⟩ := hx
    rw [e0, e1, e2, e3]
    refine V.i2l hF dL_errorPosition_6 ?_
    refine V.lastore (j := 0) hF dL_errorPosition_7 hm hk rfl (by rw [hn]; exact lt_of rfl) (by rw [hn]; exact lt_of rfl) ?_
    refine V.goto (tgt := 14) hF dL_errorPosition_8 (by decide) ?_
    refine V.iconst (v := nI 0) hF dL_errorPosition_14 (by decide) ?_
    refine V.iret hF dL_errorPosition_15 (Nat.le_of_ble_eq_true rfl) (Nat.le_of_ble_eq_true rfl) ?_
    exact ⟨congrArg (fun t => some (Value.int t)) hT.symm, _, rfl, rfl, rfl, fun _ => upl0⟩
theorem br_overlap {C : IX} {v : Rw} (h : RG C v) (x y : Int32) : (if zPr x && zPr y then (if C (10 + x.toNatClampNeg) 4 = 0 then nI 2 else nI 0) else nI 1) = (if zPr x && zPr y then (if v (1550 + x.toNatClampNeg) = 0 then nI 2 else nI 0) else nI 1) ∧ ((if zPr x && zPr y then (if v (1550 + x.toNatClampNeg) = 0 then nI 2 else nI 0) else nI 1) = nI 0 → (FP.ddiv (FP.i2d (nI (zcB (yshF C x.toNatClampNeg y.toNatClampNeg) (cN C (10 + x.toNatClampNeg) 4)))) (FP.i2d (nI (cN C (10 + x.toNatClampNeg) 4)))) = (if (if zPr x && zPr y then (if v (1550 + x.toNatClampNeg) = 0 then nI 2 else nI 0) else nI 1) = nI 0 then FP.ddiv (FP.i2d (nI (zcB (zshF v x.toNatClampNeg y.toNatClampNeg) (vN v (1550 + x.toNatClampNeg))))) (FP.i2d (nI (vN v (1550 + x.toNatClampNeg)))) else FP.dconst0)) := by
  have H := h.1
  have eT : (if zPr x && zPr y then (if C (10 + x.toNatClampNeg) 4 = 0 then nI 2 else nI 0) else nI 1) = (if zPr x && zPr y then (if v (1550 + x.toNatClampNeg) = 0 then nI 2 else nI 0) else nI 1) := by
    cases hb : zPr x && zPr y with
    | false => rw [if_neg (show ¬ (false = true) by decide), if_neg (show ¬ (false = true) by decide)]
    | true =>
      obtain ⟨h1, h2⟩ := Bool.and_eq_true_iff.mp hb
      obtain ⟨p, hp, e⟩ := zPr_of h1
      have cp : x.toNatClampNeg = p := by rw [e]; exact nI_clamp (by omega)
      rw [cp, (H.pp hp).1]
  refine ⟨eT, fun hT => ?_⟩
  rw [if_pos hT]
  have hbb : (zPr x && zPr y) = true := by
    cases hb : zPr x && zPr y with
    | true => rfl
    | false => rw [hb] at hT; exact absurd hT (show ¬ nI 1 = nI 0 by decide)
  obtain ⟨h1, h2⟩ := Bool.and_eq_true_iff.mp hbb
  obtain ⟨p, hp, e⟩ := zPr_of h1
  obtain ⟨q, hq, e2⟩ := zPr_of h2
  have cp : x.toNatClampNeg = p := by rw [e]; exact nI_clamp (by omega)
  have cq : y.toNatClampNeg = q := by rw [e2]; exact nI_clamp (by omega)
  have hn := H.n150
  have el : cN C (10 + p) 4 = vN v (1550 + p) := congrArg Int32.toNatClampNeg (H.pp hp).1
  have ez : zcB (yshF C p q) (vN v (1550 + p)) = zcB (zshF v p q) (vN v (1550 + p)) := zcB_cong (fun i hi => by
    obtain ⟨a1, a2, a3⟩ := H.plI hp hi
    unfold yshF zshF
    rw [a1, (H.pp hq).log (by omega)])
  rw [cp, cq, el, ez]
theorem lw_L_overlap : LkW RL 241 yL_overlap cL_overlap 5 (some .int) [(0, 9, 12, 18), (0, 9, 16, 103)] 4 := ⟨gw 872 (by decide +kernel) (by decide +kernel), gw 873 (by decide +kernel) (by decide +kernel), gw 52 (by decide +kernel) (by decide +kernel), gw 874 (by decide +kernel) (by decide +kernel), by decide +kernel⟩
set_option maxRecDepth 20000 in
theorem ct_L_overlap (hst : l.stackTraces = false) (σ : SH) (I X : IX) (o : Nat) (ad : Nat → Nat) (hO2 : FS σ o ad) (hG : GS σ ad) (C : IX) (v : Rw) (hR : RG C v) (out : Nat) (hm : out ∈ shL σ) (hk : shK σ out = 14) (hn : shN σ out = 1) (x y : Int32) : CtW l D cy sa sv yL_overlap cL_overlap 5 (some .int) [(0, 9, 12, 18), (0, 9, 16, 103)] 8 3 18 [.ref o, .int x, .int y, .ref out] σ (put idI I ad C) (put idX X ad C) (fun r σ' I' X' => r = some (.int (if zPr x && zPr y then (if v (1550 + x.toNatClampNeg) = 0 then nI 2 else nI 0) else nI 1)) ∧ ∃ g : Nat → UInt64, σ' = shSetZ σ out g ∧ I' = put idI I ad C ∧ X' = put idX X ad C ∧ ((if zPr x && zPr y then (if v (1550 + x.toNatClampNeg) = 0 then nI 2 else nI 0) else nI 1) = nI 0 → g 0 = (if (if zPr x && zPr y then (if v (1550 + x.toNatClampNeg) = 0 then nI 2 else nI 0) else nI 1) = nI 0 then FP.ddiv (FP.i2d (nI (zcB (zshF v x.toNatClampNeg y.toNatClampNeg) (vN v (1550 + x.toNatClampNeg))))) (FP.i2d (nI (vN v (1550 + x.toNatClampNeg)))) else FP.dconst0))) := by
  have hO := hO2.1
  have hb := br_overlap hR x y
  refine CtW.of (by decide) hst (Nat.le_of_ble_eq_true rfl) ?_
  intro pp ee ss mm args below meth kc A hF htb hnc
  refine V.aload_n hF dL_overlap_0 rfl ?_
  refine V.iconst (v := nI 0) hF dL_overlap_1 (by decide) ?_
  refine V.aload_n hF dL_overlap_2 rfl ?_
  refine V.iload_n hF dL_overlap_3 rfl ?_
  refine V.iload_n hF dL_overlap_4 rfl ?_
  refine V.callV hF dL_overlap_5 (ct_X4_overlap hst σ I X o ad hO2 hG C hR.1.wc x y) lk_L_99 sl_X4_overlap ⟨_, _, rfl, hO.1, hO.2, (Nat.le_of_ble_eq_true rfl), _, _, rfl⟩ (fit_of rfl) (Nat.le_of_ble_eq_true rfl) (fun E s2 I2 X2 hx => ?_) (fun r s2 I2 X2 hx => ?_) rfl
  · obtain ⟨⟨j, hj, hT⟩, e1, e2, e3⟩ := hx
    rw [e1, e2, e3]
    match j, hj, hT with
    | 0, hj, hT =>
      have hE := Option.some.inj hj
      rw [← hE]
      refine VX.catch hF [] (0, 9, 12, 18) [(0, 9, 16, 103)] htb (fun z hz => absurd hz List.not_mem_nil) (by decide) (by decide) lc_18 cc_IOB (fun q => ?_)
      refine V.astore hF dL_overlap_12 (by decide) ?_
      refine V.iconst (v := nI 1) hF dL_overlap_14 (by decide) ?_
      refine V.iret hF dL_overlap_15 (Nat.le_of_ble_eq_true rfl) (Nat.le_of_ble_eq_true rfl) ?_
      exact ⟨congrArg (fun t => some (Value.int t)) (hT.symm.trans hb.1), shZ σ out, (shSetZ_eta _ _).symm, rfl, rfl, fun q => absurd (hT.symm.trans (hb.1.trans q)) (by decide)⟩
    | 1, hj, hT =>
      have hE := Option.some.inj hj
      rw [← hE]
      refine VX.catch hF [(0, 9, 12, 18)] (0, 9, 16, 103) [] htb (fun z hz => by rw [List.mem_singleton.mp hz]; exact ⟨by decide, _, lc_18, hnc.2.2.2.1⟩) (by decide) (by decide) lc_103 cc_ARI (fun q => ?_)
      refine V.astore hF dL_overlap_16 (by decide) ?_
      refine V.iconst (v := nI 2) hF dL_overlap_18 (by decide) ?_
      refine V.iret hF dL_overlap_19 (Nat.le_of_ble_eq_true rfl) (Nat.le_of_ble_eq_true rfl) ?_
      exact ⟨congrArg (fun t => some (Value.int t)) (hT.symm.trans hb.1), shZ σ out, (shSetZ_eta _ _).symm, rfl, rfl, fun q => absurd (hT.symm.trans (hb.1.trans q)) (by decide)⟩
    | j + 2, hj, hT => exact absurd hj (by simp)
  · obtain ⟨hT, e0, e1, e2, e3⟩ := hx
    rw [e0, e1, e2, e3]
    refine V.dastore (j := 0) hF dL_overlap_8 hm hk rfl (by rw [hn]; exact lt_of rfl) (by rw [hn]; exact lt_of rfl) ?_
    refine V.goto (tgt := 20) hF dL_overlap_9 (by decide) ?_
    refine V.iconst (v := nI 0) hF dL_overlap_20 (by decide) ?_
    refine V.iret hF dL_overlap_21 (Nat.le_of_ble_eq_true rfl) (Nat.le_of_ble_eq_true rfl) ?_
    exact ⟨congrArg (fun t => some (Value.int t)) (hT.symm.trans hb.1), _, rfl, rfl, rfl, fun q => upd0.trans (hb.2 q)⟩
set_option maxRecDepth 20000 in
theorem ct_X4_append (hst : l.stackTraces = false) (σ : SH) (I X : IX) (o so : Nat) (ta : Nat → Nat) (hO : o ∈ shL σ ∧ shK σ o = 4) (h0 : shR σ o 0 = some so) (hS : SS σ so ta) (f g : Rw) (hf : I so = f) (hg : X (ta 0) = g) (n : Nat) (h1 : f 1 = nI n) (hn : n ≤ 60) (x : Int32) (hc : vp_nar .char x = x) : Ct l D cy sa sv yX4_append cX4_append 2 (some .int) 7 1 6 [.ref o, .int x] σ I X (pT (if zisIn x (nI 32) (nI 126) then (if n = 60 then nI 2 else nI 0) else nI 1) (pR (some (.int (nI (n + 1)))) σ (va_up I so (upd f 1 (nI (n + 1)))) (va_up X (ta 0) (upd g n x)))) (xT (if zisIn x (nI 32) (nI 126) then (if n = 60 then nI 2 else nI 0) else nI 1) [eIAE, eISE] σ I X) := by
  refine Ct.of (by decide) hst (Nat.le_of_ble_eq_true rfl) ?_
  intro pp ee ss mm args below meth kc A hF hnm hout
  refine V.iload_n hF dX4_append_0 rfl ?_
  refine V.bipush (v := nI 32) hF dX4_append_1 (by decide) ?_
  refine V.icmp_lt (tgt := 12) hF dX4_append_3 (by decide) (fun h3 => ?_) (fun h3 => ?_)
  · exact V.throwS hF xw_IAE 11 rfl dX4_append_12 dX4_append_15 dX4_append_16 dX4_append_18 dX4_append_21 hout (Nat.le_of_ble_eq_true rfl) (Nat.le_of_ble_eq_true rfl) (Nat.le_of_ble_eq_true rfl) (Nat.le_of_ble_eq_true rfl) (Nat.le_of_ble_eq_true rfl) (Nat.le_of_ble_eq_true rfl) ⟨⟨0, rfl, by rw [zin_f1 h3]; rfl⟩, rfl, rfl, rfl⟩
  · refine V.iload_n hF dX4_append_6 rfl ?_
    refine V.bipush (v := nI 126) hF dX4_append_7 (by decide) ?_
    refine V.icmp_le (tgt := 22) hF dX4_append_9 (by decide) (fun h9 => ?_) (fun h9 => ?_)
    · have hz : zisIn x (nI 32) (nI 126) = true := zin_t h3 h9
      refine V.etaI so hf ?_
      refine V.aload_n hF dX4_append_22 rfl ?_
      refine V.getR hF dX4_append_23 fl_X4_10 hO.1 hO.2 rfl h0 ?_
      refine V.vI hF dX4_append_26 (ct_X3_isFull hst σ I X so ta hS f n h1 hn) lk_X4_242 sl_X3_isFull hS.1.1 hS.1.2 rfl (Nat.le_of_ble_eq_true rfl) (fit_of rfl) (Nat.le_of_ble_eq_true rfl) rfl ?_
      refine V.if_eqB (tgt := 42) hF dX4_append_29 (by decide) (fun h29 => ?_) (fun h29 => ?_)
      · have hn2 := of_decide_eq_false h29
        refine V.etaX (ta 0) hg ?_
        refine V.aload_n hF dX4_append_42 rfl ?_
        refine V.getR hF dX4_append_43 fl_X4_10 hO.1 hO.2 rfl h0 ?_
        refine V.iload_n hF dX4_append_46 rfl ?_
        refine V.vI hF dX4_append_47 (ct_X3_add hst σ I X so ta hS f g n h1 (by omega) x hc) lk_X4_247 sl_X3_add hS.1.1 hS.1.2 rfl (Nat.le_of_ble_eq_true rfl) (fit_of rfl) (Nat.le_of_ble_eq_true rfl) rfl ?_
        refine V.iret hF dX4_append_50 (Nat.le_of_ble_eq_true rfl) (Nat.le_of_ble_eq_true rfl) ?_
        exact ⟨by rw [hz, if_pos rfl, if_neg hn2], pR.i rfl⟩
      · have hn2 := of_decide_eq_true h29
        exact V.throwS hF xw_ISE 12 rfl dX4_append_32 dX4_append_35 dX4_append_36 dX4_append_38 dX4_append_41 hout (Nat.le_of_ble_eq_true rfl) (Nat.le_of_ble_eq_true rfl) (Nat.le_of_ble_eq_true rfl) (Nat.le_of_ble_eq_true rfl) (Nat.le_of_ble_eq_true rfl) (Nat.le_of_ble_eq_true rfl) ⟨⟨1, rfl, by rw [hz, if_pos rfl, if_pos hn2]⟩, rfl, by rw [← hf, up_eta], rfl⟩
    · exact V.throwS hF xw_IAE 11 rfl dX4_append_12 dX4_append_15 dX4_append_16 dX4_append_18 dX4_append_21 hout (Nat.le_of_ble_eq_true rfl) (Nat.le_of_ble_eq_true rfl) (Nat.le_of_ble_eq_true rfl) (Nat.le_of_ble_eq_true rfl) (Nat.le_of_ble_eq_true rfl) (Nat.le_of_ble_eq_true rfl) ⟨⟨0, rfl, by rw [zin_f2 h9]; rfl⟩, rfl, rfl, rfl⟩
theorem lw_L_append : LkW RL 261 yL_append cL_append 4 (some .int) [(0, 9, 12, 13), (0, 9, 15, 26)] 3 := ⟨gw 956 (by decide +kernel) (by decide +kernel), gw 957 (by decide +kernel) (by decide +kernel), gw 52 (by decide +kernel) (by decide +kernel), gw 958 (by decide +kernel) (by decide +kernel), by decide +kernel⟩
set_option maxRecDepth 20000 in
theorem ct_L_append (hst : l.stackTraces = false) (σ : SH) (I X : IX) (o so : Nat) (ta : Nat → Nat) (hO : o ∈ shL σ ∧ shK σ o = 4) (h0 : shR σ o 0 = some so) (hS : SS σ so ta) (f g : Rw) (hf : I so = f) (hg : X (ta 0) = g) (n : Nat) (h1 : f 1 = nI n) (hn : n ≤ 60) (x : Int32) (hc : vp_nar .char x = x) (out : Nat) (hm : out ∈ shL σ) (hk : shK σ out = 13) (hnn : shN σ out = 1) : CtW l D cy sa sv yL_append cL_append 4 (some .int) [(0, 9, 12, 13), (0, 9, 15, 26)] 8 1 6 [.ref o, .int x, .ref out] σ I X (fun r σ' I' X' => r = some (.int (if zisIn x (nI 32) (nI 126) then (if n = 60 then nI 2 else nI 0) else nI 1)) ∧ ∃ gj : Nat → Int64, σ' = shSetJ σ out gj ∧ ((if zisIn x (nI 32) (nI 126) then (if n = 60 then nI 2 else nI 0) else nI 1) = nI 0 → gj 0 = (nI (n + 1)).toInt64) ∧ I' = (if (if zisIn x (nI 32) (nI 126) then (if n = 60 then nI 2 else nI 0) else nI 1) = nI 0 then va_up I so (upd f 1 (nI (n + 1))) else I) ∧ X' = (if (if zisIn x (nI 32) (nI 126) then (if n = 60 then nI 2 else nI 0) else nI 1) = nI 0 then va_up X (ta 0) (upd g n x) else X)) := by
  refine CtW.of (by decide) hst (Nat.le_of_ble_eq_true rfl) ?_
  intro pp ee ss mm args below meth kc A hF htb hnc
  refine V.aload_n hF dL_append_0 rfl ?_
  refine V.iconst (v := nI 0) hF dL_append_1 (by decide) ?_
  refine V.aload_n hF dL_append_2 rfl ?_
  refine V.iload_n hF dL_append_3 rfl ?_
  refine V.callV hF dL_append_4 (ct_X4_append hst σ I X o so ta hO h0 hS f g hf hg n h1 hn x hc) lk_L_122 sl_X4_append ⟨_, _, rfl, hO.1, hO.2, (Nat.le_of_ble_eq_true rfl), _, _, rfl⟩ (fit_of rfl) (Nat.le_of_ble_eq_true rfl) (fun E s2 I2 X2 hx => ?_) (fun r s2 I2 X2 hx => ?_) rfl
  · obtain ⟨⟨j, hj, hT⟩, e1, e2, e3⟩ := hx
    rw [e1, e2, e3]
    match j, hj, hT with
    | 0, hj, hT =>
      have hE := Option.some.inj hj
      rw [← hE]
      refine VX.catch hF [] (0, 9, 12, 13) [(0, 9, 15, 26)] htb (fun z hz => absurd hz List.not_mem_nil) (by decide) (by decide) lc_13 cc_IAE (fun q => ?_)
      refine V.astore_n hF dL_append_12 (by decide) ?_
      refine V.iconst (v := nI 1) hF dL_append_13 (by decide) ?_
      refine V.iret hF dL_append_14 (Nat.le_of_ble_eq_true rfl) (Nat.le_of_ble_eq_true rfl) ?_
      exact ⟨congrArg (fun t => some (Value.int t)) hT.symm, shJ σ out, (shSetJ_eta _ _).symm, fun q => absurd (hT.symm.trans q) (by decide), (if_neg (fun q => absurd (hT.symm.trans q) (by decide))).symm, (if_neg (fun q => absurd (hT.symm.trans q) (by decide))).symm⟩
    | 1, hj, hT =>
      have hE := Option.some.inj hj
      rw [← hE]
      refine VX.catch hF [(0, 9, 12, 13)] (0, 9, 15, 26) [] htb (fun z hz => by rw [List.mem_singleton.mp hz]; exact ⟨by decide, _, lc_13, hnc.2.2.2.2.2⟩) (by decide) (by decide) lc_26 cc_ISE (fun q => ?_)
      refine V.astore_n hF dL_append_15 (by decide) ?_
      refine V.iconst (v := nI 2) hF dL_append_16 (by decide) ?_
      refine V.iret hF dL_append_17 (Nat.le_of_ble_eq_true rfl) (Nat.le_of_ble_eq_true rfl) ?_
      exact ⟨congrArg (fun t => some (Value.int t)) hT.symm, shJ σ out, (shSetJ_eta _ _).symm, fun q => absurd (hT.symm.trans q) (by decide), (if_neg (fun q => absurd (hT.symm.trans q) (by decide))).symm, (if_neg (fun q => absurd (hT.symm.trans q) (by decide))).symm⟩
    | j + 2, hj, hT => exact absurd hj (by simp)
  · obtain ⟨hT, e0, e1, e2, e3⟩ := hx
    rw [e0, e1, e2, e3]
    refine V.i2l hF dL_append_7 ?_
    refine V.lastore (j := 0) hF dL_append_8 hm hk rfl (by rw [hnn]; exact lt_of rfl) (by rw [hnn]; exact lt_of rfl) ?_
    refine V.goto (tgt := 18) hF dL_append_9 (by decide) ?_
    refine V.iconst (v := nI 0) hF dL_append_18 (by decide) ?_
    refine V.iret hF dL_append_19 (Nat.le_of_ble_eq_true rfl) (Nat.le_of_ble_eq_true rfl) ?_
    exact ⟨congrArg (fun t => some (Value.int t)) hT.symm, _, rfl, fun _ => upl0, (if_pos hT).symm, (if_pos hT).symm⟩
end Sp
