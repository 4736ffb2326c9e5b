def zcon (v : Rw) (m k : Nat) : Bool := !decide (k = m) && decide (v (350 + k) = v (350 + m)) && !zcau v k m && !zcau v m k
def zmsg (v : Rw) (m : Nat) (y : Int32) : Int32 := if y = 0 then v (50 + m) else if y = nI 1 then v (200 + m) else if y = nI 2 then v (350 + m) else v (500 + m)
def zbmF (v : Rw) (p : Nat) (y : Int32) (k : Nat) : Bool := zbuf v p k && decide (nI (zcB (zbuf v p) k) = y)
def zmis (v : Rw) (p m k : Nat) : Bool := zcau v k m && !zlog v p k
def zuns (v : Rw) (p k : Nat) : Bool := zlog v p k && !zsafe v p k
def zdga (v : Rw) (p q k : Nat) : Int32 := zpl v q (v (1560 + 150 * p + k))
def zdgF (v : Rw) (p q k j : Nat) : Bool := !decide (zdga v p q j ≤ zdga v p q k)
def zdgO (v : Rw) (p q : Nat) : Nat → Nat
  | 0 => 0
  | k + 1 => zdgO v p q k + (if zdga v p q k < 0 then 0 else zcB (zdgF v p q k) k)
def zfuF (v : Rw) (m p : Nat) : Bool := zisM v (nI p) && !zsafe v p m
def zshF (v : Rw) (p q i : Nat) : Bool := zlog v q (vN v (1560 + 150 * p + i))
def zchI (v : Rw) (m : Nat) (g : Rw) : Nat → Rw
  | 0 => upd g m (nI 1)
  | x + 1 => if zcau v x m && !decide (zchI v m g x x < zchI v m g x m) then upd (zchI v m g x) m (zchI v m g x x + nI 1) else zchI v m g x
def zchO (v : Rw) (x : Int32) (g : Rw) : Nat → Rw × Int32
  | 0 => (g, nI 0)
  | m + 1 => if v (350 + m) = x then (zchI v m (zchO v x g m).1 m, if zchI v m (zchO v x g m).1 m m ≤ (zchO v x g m).2 then (zchO v x g m).2 else zchI v m (zchO v x g m).1 m m) else zchO v x g m
theorem zchI_t {v : Rw} {m : Nat} {g h : Rw} {x : Nat} (e : zchI v m g x = h) (c1 : zcau v x m = true) (c2 : ¬ h x < h m) : zchI v m g (x + 1) = upd h m (h x + nI 1) := by
  rw [zchI, e, c1, decide_eq_false c2]; rfl
theorem zchI_f1 {v : Rw} {m : Nat} {g h : Rw} {x : Nat} (e : zchI v m g x = h) (c1 : zcau v x m = false) : zchI v m g (x + 1) = h := by
  rw [zchI, e, c1]; rfl
theorem zchI_f2 {v : Rw} {m : Nat} {g h : Rw} {x : Nat} (e : zchI v m g x = h) (c2 : h x < h m) : zchI v m g (x + 1) = h := by
  rw [zchI, e, decide_eq_true c2, Bool.not_true, Bool.and_false]; rfl
theorem zlg_of {v : Rw} (hv : WV v) {p : Nat} (hp : p < 6) {y : Int32} (h : zisIn y (nI 0) (v (1550 + p) - nI 1) = true) : ∃ i, i < vN v (1550 + p) ∧ i < 150 ∧ y = nI i := by
  have hn := hv.l150 hp
  rw [hv.l hp] at h
  rcases Nat.eq_zero_or_pos (vN v (1550 + p)) with h0 | h0
  · rw [h0] at h
    simp only [zisIn, Bool.and_eq_true, decide_eq_true_eq] at h
    have h1 := h.1
    have h2 := h.2
    rw [Int32.le_iff_toInt_le] at h1 h2
    have e1 : (nI 0 - nI 1).toInt = -1 := by decide
    have e2 : (nI 0).toInt = 0 := by decide
    omega
  · rw [pk_sub (show 1 ≤ vN v (1550 + p) by omega)] at h
    obtain ⟨k, hk, e⟩ := zin_of (n := vN v (1550 + p) - 1) (by omega) h
    exact ⟨k, by omega, by omega, e⟩

section MD
variable {l : Launch} {D : va_G} {cy sa sv : Nat → Nat}
set_option maxRecDepth 20000 in
theorem ct_X5_message (hst : l.stackTraces = false) (σ : SH) (I X : IX) (o : Nat) (ar : Nat → Nat) (hM : MS σ o ar) (f : Rw) (hI : I o = f) (v : Rw) (hX : X (ar 1) = v) (hv : WV v) (x y : Int32) : Ct l D cy sa sv yX5_message cX5_message 3 (some .int) 3 0 0 [.ref o, .int x, .int y] σ I X (pR (some (.int (if zMs v x && zisIn y (nI 0) (nI 3) then zmsg v x.toNatClampNeg y else nI 0))) σ (va_up I o (th f (if zMs v x then (if zisIn y (nI 0) (nI 3) then nI 0 else nI 2) else nI 1))) X) noX := by
  refine Ct.of (by decide) hst (Nat.le_of_ble_eq_true rfl) ?_
  intro pp ee ss mm args below meth kc A hF hnm hout
  refine V.etaI o hI ?_
  refine V.aload_n hF dX5_message_0 rfl ?_
  refine V.iload_n hF dX5_message_1 rfl ?_
  refine V.vI hF dX5_message_2 (ct_X5_isSent hst _ _ _ _ _ hM _ (va_up_self _ _ _) _ hX _) lk_X5_108 sl_X5_isSent hM.1.1 hM.1.2 rfl (Nat.le_of_ble_eq_true rfl) (fit_of rfl) (Nat.le_of_ble_eq_true rfl) rfl ?_
  refine V.collI ?_
  refine V.if_neB (tgt := 10) hF dX5_message_5 (by decide) (fun h5 => ?_) (fun h5 => ?_)
  · obtain ⟨m, hmn, hm, e⟩ := zMs_of hv h5
    subst e
    have cm : (nI m).toNatClampNeg = m := nI_clamp (by omega)
    have hn150 := hv.n150
    refine V.eqI (I' := va_up I o (th f (nI 0))) (by rw [if_pos h5]) ?_
    refine V.iload_n hF dX5_message_10 rfl ?_
    refine V.iconst (v := nI 0) hF dX5_message_11 (by decide) ?_
    refine V.iconst (v := nI 3) hF dX5_message_12 (by decide) ?_
    refine V.sI hF dX5_message_13 (ct_X5_isIn hst _ _ _ _ _ _) lk_X5_41 (fit_of rfl) (Nat.le_of_ble_eq_true rfl) rfl ?_
    refine V.if_neB (tgt := 25) hF dX5_message_16 (by decide) (fun h16 => ?_) (fun h16 => ?_)
    · refine V.iload_n hF dX5_message_25 rfl ?_
      refine V.if_ne (tgt := 41) hF dX5_message_26 (by decide) (fun h26 => ?_) (fun h26 => ?_)
      · refine V.iload_n hF dX5_message_41 rfl ?_
        refine V.iconst (v := nI 1) hF dX5_message_42 (by decide) ?_
        refine V.icmp_ne (tgt := 59) hF dX5_message_43 (by decide) (fun h43 => ?_) (fun h43 => ?_)
        · refine V.iload_n hF dX5_message_59 rfl ?_
          refine V.iconst (v := nI 2) hF dX5_message_60 (by decide) ?_
          refine V.icmp_ne (tgt := 77) hF dX5_message_61 (by decide) (fun h61 => ?_) (fun h61 => ?_)
          · refine V.aload_n hF dX5_message_77 rfl ?_
            refine V.getR hF dX5_message_78 fl_X5_9 hM.1.1 hM.1.2 rfl hM.m1.1 ?_
            refine V.sipush (v := nI 500) hF dX5_message_81 (by decide) ?_
            refine V.iload_n hF dX5_message_84 rfl ?_
            refine V.iadd hF dX5_message_85 ?_
            refine V.ialoadF (j := (500 + m)) hF dX5_message_86 hM.m1.2.1 hM.m1.2.2.1 (by simp only [nI_add, pk_mul, Nat.zero_add, Nat.add_zero]) (hM.m1.lt (by omega)) (hM.m1.sm (by decide)) hX ?_
            refine V.iret hF dX5_message_87 (Nat.le_refl _) (Nat.le_refl _) ?_
            have hA : (zMs v (nI m) && zisIn y (nI 0) (nI 3)) = true := by rw [h5, h16]; rfl
            exact pR.e (by rw [if_pos hA, cm]; unfold zmsg; first | rw [if_pos h26] | rw [if_neg h26, if_pos h43] | rw [if_neg h26, if_neg h43, if_pos h61] | rw [if_neg h26, if_neg h43, if_neg h61]) (by rw [if_pos h5, if_pos h16]) rfl
          · refine V.aload_n hF dX5_message_64 rfl ?_
            refine V.getR hF dX5_message_65 fl_X5_9 hM.1.1 hM.1.2 rfl hM.m1.1 ?_
            refine V.sipush (v := nI 350) hF dX5_message_68 (by decide) ?_
            refine V.iload_n hF dX5_message_71 rfl ?_
            refine V.iadd hF dX5_message_72 ?_
            refine V.ialoadF (j := (350 + m)) hF dX5_message_73 hM.m1.2.1 hM.m1.2.2.1 (by simp only [nI_add, pk_mul, Nat.zero_add, Nat.add_zero]) (hM.m1.lt (by omega)) (hM.m1.sm (by decide)) hX ?_
            refine V.goto (tgt := 87) hF dX5_message_74 (by decide) ?_
            refine V.iret hF dX5_message_87 (Nat.le_refl _) (Nat.le_refl _) ?_
            have hA : (zMs v (nI m) && zisIn y (nI 0) (nI 3)) = true := by rw [h5, h16]; rfl
            exact pR.e (by rw [if_pos hA, cm]; unfold zmsg; first | rw [if_pos h26] | rw [if_neg h26, if_pos h43] | rw [if_neg h26, if_neg h43, if_pos h61] | rw [if_neg h26, if_neg h43, if_neg h61]) (by rw [if_pos h5, if_pos h16]) rfl
        · refine V.aload_n hF dX5_message_46 rfl ?_
          refine V.getR hF dX5_message_47 fl_X5_9 hM.1.1 hM.1.2 rfl hM.m1.1 ?_
          refine V.sipush (v := nI 200) hF dX5_message_50 (by decide) ?_
          refine V.iload_n hF dX5_message_53 rfl ?_
          refine V.iadd hF dX5_message_54 ?_
          refine V.ialoadF (j := (200 + m)) hF dX5_message_55 hM.m1.2.1 hM.m1.2.2.1 (by simp only [nI_add, pk_mul, Nat.zero_add, Nat.add_zero]) (hM.m1.lt (by omega)) (hM.m1.sm (by decide)) hX ?_
          refine V.goto (tgt := 87) hF dX5_message_56 (by decide) ?_
          refine V.iret hF dX5_message_87 (Nat.le_refl _) (Nat.le_refl _) ?_
          have hA : (zMs v (nI m) && zisIn y (nI 0) (nI 3)) = true := by rw [h5, h16]; rfl
          exact pR.e (by rw [if_pos hA, cm]; unfold zmsg; first | rw [if_pos h26] | rw [if_neg h26, if_pos h43] | rw [if_neg h26, if_neg h43, if_pos h61] | rw [if_neg h26, if_neg h43, if_neg h61]) (by rw [if_pos h5, if_pos h16]) rfl
      · refine V.aload_n hF dX5_message_29 rfl ?_
        refine V.getR hF dX5_message_30 fl_X5_9 hM.1.1 hM.1.2 rfl hM.m1.1 ?_
        refine V.bipush (v := nI 50) hF dX5_message_33 (by decide) ?_
        refine V.iload_n hF dX5_message_35 rfl ?_
        refine V.iadd hF dX5_message_36 ?_
        refine V.ialoadF (j := (50 + m)) hF dX5_message_37 hM.m1.2.1 hM.m1.2.2.1 (by simp only [nI_add, pk_mul, Nat.zero_add, Nat.add_zero]) (hM.m1.lt (by omega)) (hM.m1.sm (by decide)) hX ?_
        refine V.goto (tgt := 87) hF dX5_message_38 (by decide) ?_
        refine V.iret hF dX5_message_87 (Nat.le_refl _) (Nat.le_refl _) ?_
        have hA : (zMs v (nI m) && zisIn y (nI 0) (nI 3)) = true := by rw [h5, h16]; rfl
        exact pR.e (by rw [if_pos hA, cm]; unfold zmsg; first | rw [if_pos h26] | rw [if_neg h26, if_pos h43] | rw [if_neg h26, if_neg h43, if_pos h61] | rw [if_neg h26, if_neg h43, if_neg h61]) (by rw [if_pos h5, if_pos h16]) rfl
    · refine V.aload_n hF dX5_message_19 rfl ?_
      refine V.iconst (v := nI 2) hF dX5_message_20 (by decide) ?_
      refine V.vI hF dX5_message_21 (ct_X5_no hst _ _ _ _ _ hM _ (va_up_self _ _ _) _) lk_X5_59 sl_X5_no hM.1.1 hM.1.2 rfl (Nat.le_of_ble_eq_true rfl) (fit_of rfl) (Nat.le_of_ble_eq_true rfl) rfl ?_
      refine V.collI ?_
      refine V.iret hF dX5_message_24 (Nat.le_refl _) (Nat.le_refl _) ?_
      exact pR.e (by simp [n10, *]) (by simp [n10, th_th, *]) rfl
  · refine V.iconst (v := nI 0) hF dX5_message_8 (by decide) ?_
    refine V.iret hF dX5_message_9 (Nat.le_refl _) (Nat.le_refl _) ?_
    exact pR.e (by simp [Bool.and_true, *]) (by simp [Bool.and_true, th_th, *]) rfl
set_option maxRecDepth 20000 in
theorem ct_X5_messageClock (hst : l.stackTraces = false) (σ : SH) (I X : IX) (o : Nat) (ar : Nat → Nat) (hM : MS σ o ar) (f : Rw) (hI : I o = f) (v : Rw) (hX : X (ar 1) = v) (hv : WV v) (x y : Int32) : Ct l D cy sa sv yX5_messageClock cX5_messageClock 3 (some .int) 2 0 0 [.ref o, .int x, .int y] σ I X (pR (some (.int (if zMs v x && zPr y then v (650 + 6 * x.toNatClampNeg + y.toNatClampNeg) else nI 0))) σ (va_up I o (th f (if zMs v x && zPr y then nI 0 else nI 1))) X) noX := by
  refine Ct.of (by decide) hst (Nat.le_of_ble_eq_true rfl) ?_
  intro pp ee ss mm args below meth kc A hF hnm hout
  refine V.etaI o hI ?_
  refine V.aload_n hF dX5_messageClock_0 rfl ?_
  refine V.iconst (v := nI 0) hF dX5_messageClock_1 (by decide) ?_
  refine V.putIU hF dX5_messageClock_2 fl_X5_38 hM.1.1 hM.1.2 rfl rfl rfl ?_
  refine V.aload_n hF dX5_messageClock_5 rfl ?_
  refine V.iload_n hF dX5_messageClock_6 rfl ?_
  refine V.vI hF dX5_messageClock_7 (ct_X5_isMessage hst _ _ _ _ _ hM _ hX _) lk_X5_56 sl_X5_isMessage hM.1.1 hM.1.2 rfl (Nat.le_of_ble_eq_true rfl) (fit_of rfl) (Nat.le_of_ble_eq_true rfl) rfl ?_
  refine V.if_eqB (tgt := 38) hF dX5_messageClock_10 (by decide) (fun h10 => ?_) (fun h10 => ?_)
  · refine V.aload_n hF dX5_messageClock_38 rfl ?_
    refine V.iconst (v := nI 1) hF dX5_messageClock_39 (by decide) ?_
    refine V.vI hF dX5_messageClock_40 (ct_X5_no hst _ _ _ _ _ hM _ (va_up_self _ _ _) _) lk_X5_59 sl_X5_no hM.1.1 hM.1.2 rfl (Nat.le_of_ble_eq_true rfl) (fit_of rfl) (Nat.le_of_ble_eq_true rfl) rfl ?_
    refine V.collI ?_
    refine V.iret hF dX5_messageClock_43 (Nat.le_refl _) (Nat.le_refl _) ?_
    exact pR.e (by simp [n10, *]) (by simp [n10, th_th, *]) rfl
  · refine V.iload_n hF dX5_messageClock_13 rfl ?_
    refine V.sI hF dX5_messageClock_14 (ct_X5_isProcess hst _ _ _ _) lk_X5_49 (fit_of rfl) (Nat.le_of_ble_eq_true rfl) rfl ?_
    refine V.if_eqB (tgt := 38) hF dX5_messageClock_17 (by decide) (fun h17 => ?_) (fun h17 => ?_)
    · refine V.aload_n hF dX5_messageClock_38 rfl ?_
      refine V.iconst (v := nI 1) hF dX5_messageClock_39 (by decide) ?_
      refine V.vI hF dX5_messageClock_40 (ct_X5_no hst _ _ _ _ _ hM _ (va_up_self _ _ _) _) lk_X5_59 sl_X5_no hM.1.1 hM.1.2 rfl (Nat.le_of_ble_eq_true rfl) (fit_of rfl) (Nat.le_of_ble_eq_true rfl) rfl ?_
      refine V.collI ?_
      refine V.iret hF dX5_messageClock_43 (Nat.le_refl _) (Nat.le_refl _) ?_
      exact pR.e (by simp [n10, *]) (by simp [n10, th_th, *]) rfl
    · obtain ⟨m, hmn, hm, e⟩ := zMs_of hv h10
      subst e
      have cm : (nI m).toNatClampNeg = m := nI_clamp (by omega)
      obtain ⟨p, hp, e⟩ := zPr_of h17
      subst e
      have cp : (nI p).toNatClampNeg = p := nI_clamp (by omega)
      refine V.aload_n hF dX5_messageClock_20 rfl ?_
      refine V.getR hF dX5_messageClock_21 fl_X5_9 hM.1.1 hM.1.2 rfl hM.m1.1 ?_
      refine V.sipush (v := nI 650) hF dX5_messageClock_24 (by decide) ?_
      refine V.bipush (v := nI 6) hF dX5_messageClock_27 (by decide) ?_
      refine V.iload_n hF dX5_messageClock_29 rfl ?_
      refine V.imul hF dX5_messageClock_30 ?_
      refine V.iadd hF dX5_messageClock_31 ?_
      refine V.iload_n hF dX5_messageClock_32 rfl ?_
      refine V.iadd hF dX5_messageClock_33 ?_
      refine V.ialoadF (j := ((650 + (6 * m)) + p)) hF dX5_messageClock_34 hM.m1.2.1 hM.m1.2.2.1 (by simp only [nI_add, pk_mul, Nat.zero_add, Nat.add_zero]) (hM.m1.lt (by omega)) (hM.m1.sm (by decide)) hX ?_
      refine V.goto (tgt := 43) hF dX5_messageClock_35 (by decide) ?_
      refine V.iret hF dX5_messageClock_43 (Nat.le_refl _) (Nat.le_refl _) ?_
      exact pR.e (by simp [n10, *]) (by simp [n10, th_th, *]) rfl
set_option maxRecDepth 20000 in
theorem ct_X5_isCause (hst : l.stackTraces = false) (σ : SH) (I X : IX) (o : Nat) (ar : Nat → Nat) (hM : MS σ o ar) (f : Rw) (hI : I o = f) (v : Rw) (hX : X (ar 1) = v) (hv : WV v) (x y : Int32) : Ct l D cy sa sv yX5_isCause cX5_isCause 3 (some .boolean) 2 0 0 [.ref o, .int x, .int y] σ I X (pR (some (.int (bI (zMs v x && zMs v y && zcau v x.toNatClampNeg y.toNatClampNeg)))) σ (va_up I o (th f (if zMs v x && zMs v y then nI 0 else nI 1))) X) noX := by
  refine Ct.of (by decide) hst (Nat.le_of_ble_eq_true rfl) ?_
  intro pp ee ss mm args below meth kc A hF hnm hout
  refine V.etaI o hI ?_
  refine V.aload_n hF dX5_isCause_0 rfl ?_
  refine V.aload_n hF dX5_isCause_1 rfl ?_
  refine V.iload_n hF dX5_isCause_2 rfl ?_
  refine V.vI hF dX5_isCause_3 (ct_X5_isMessage hst _ _ _ _ _ hM _ hX _) lk_X5_56 sl_X5_isMessage hM.1.1 hM.1.2 rfl (Nat.le_of_ble_eq_true rfl) (fit_of rfl) (Nat.le_of_ble_eq_true rfl) rfl ?_
  refine V.if_eqB (tgt := 21) hF dX5_isCause_6 (by decide) (fun h6 => ?_) (fun h6 => ?_)
  · refine V.iconst (v := nI 1) hF dX5_isCause_21 (by decide) ?_
    refine V.putIU hF dX5_isCause_22 fl_X5_38 hM.1.1 hM.1.2 rfl rfl rfl ?_
    refine V.aload_n hF dX5_isCause_25 rfl ?_
    refine V.getIF hF dX5_isCause_26 fl_X5_38 hM.1.1 hM.1.2 rfl (va_up_self _ _ _) ?_
    refine V.topi (y := nI 1) (by simp [upd]) ?_
    refine V.if_ne (tgt := 45) hF dX5_isCause_29 (by decide) (fun h29 => ?_) (fun h29 => ?_)
    · refine V.iconst (v := nI 0) hF dX5_isCause_45 (by decide) ?_
      refine V.zret hF dX5_isCause_46 (Or.inl rfl) (Nat.le_refl _) (Nat.le_refl _) ?_
      exact pR.e (by simp [bI, i0, i1, *]) (by simp [th, *]) rfl
    · exact absurd h29 (by decide)
  · refine V.aload_n hF dX5_isCause_9 rfl ?_
    refine V.iload_n hF dX5_isCause_10 rfl ?_
    refine V.vI hF dX5_isCause_11 (ct_X5_isMessage hst _ _ _ _ _ hM _ hX _) lk_X5_56 sl_X5_isMessage hM.1.1 hM.1.2 rfl (Nat.le_of_ble_eq_true rfl) (fit_of rfl) (Nat.le_of_ble_eq_true rfl) rfl ?_
    refine V.if_eqB (tgt := 21) hF dX5_isCause_14 (by decide) (fun h14 => ?_) (fun h14 => ?_)
    · refine V.iconst (v := nI 1) hF dX5_isCause_21 (by decide) ?_
      refine V.putIU hF dX5_isCause_22 fl_X5_38 hM.1.1 hM.1.2 rfl rfl rfl ?_
      refine V.aload_n hF dX5_isCause_25 rfl ?_
      refine V.getIF hF dX5_isCause_26 fl_X5_38 hM.1.1 hM.1.2 rfl (va_up_self _ _ _) ?_
      refine V.topi (y := nI 1) (by simp [upd]) ?_
      refine V.if_ne (tgt := 45) hF dX5_isCause_29 (by decide) (fun h29 => ?_) (fun h29 => ?_)
      · refine V.iconst (v := nI 0) hF dX5_isCause_45 (by decide) ?_
        refine V.zret hF dX5_isCause_46 (Or.inl rfl) (Nat.le_refl _) (Nat.le_refl _) ?_
        exact pR.e (by simp [bI, i0, i1, *]) (by simp [th, *]) rfl
      · exact absurd h29 (by decide)
    · obtain ⟨m, hmn, hm, e⟩ := zMs_of hv h6
      subst e
      have cm : (nI m).toNatClampNeg = m := nI_clamp (by omega)
      obtain ⟨m2, hmn2, hm2, e⟩ := zMs_of hv h14
      subst e
      have cm2 : (nI m2).toNatClampNeg = m2 := nI_clamp (by omega)
      refine V.iconst (v := nI 0) hF dX5_isCause_17 (by decide) ?_
      refine V.goto (tgt := 22) hF dX5_isCause_18 (by decide) ?_
      refine V.putIU hF dX5_isCause_22 fl_X5_38 hM.1.1 hM.1.2 rfl rfl rfl ?_
      refine V.aload_n hF dX5_isCause_25 rfl ?_
      refine V.getIF hF dX5_isCause_26 fl_X5_38 hM.1.1 hM.1.2 rfl (va_up_self _ _ _) ?_
      refine V.topi (y := nI 0) (by simp [upd]) ?_
      refine V.if_ne (tgt := 45) hF dX5_isCause_29 (by decide) (fun h29 => ?_) (fun h29 => ?_)
      · exact (h29 (by decide)).elim
      · refine V.aload_n hF dX5_isCause_32 rfl ?_
        refine V.iload_n hF dX5_isCause_33 rfl ?_
        refine V.iload_n hF dX5_isCause_34 rfl ?_
        refine V.vI hF dX5_isCause_35 (ct_X5_isCauseOf hst _ _ _ _ _ hM _ hX hv m m2 (by omega) (by omega)) lk_X5_111 sl_X5_isCauseOf hM.1.1 hM.1.2 rfl (Nat.le_of_ble_eq_true rfl) (fit_of rfl) (Nat.le_of_ble_eq_true rfl) rfl ?_
        refine V.if_eqB (tgt := 45) hF dX5_isCause_38 (by decide) (fun h38 => ?_) (fun h38 => ?_)
        · refine V.iconst (v := nI 0) hF dX5_isCause_45 (by decide) ?_
          refine V.zret hF dX5_isCause_46 (Or.inl rfl) (Nat.le_refl _) (Nat.le_refl _) ?_
          exact pR.e (by simp [bI, i0, i1, *]) (by simp [th, *]) rfl
        · refine V.iconst (v := nI 1) hF dX5_isCause_41 (by decide) ?_
          refine V.goto (tgt := 46) hF dX5_isCause_42 (by decide) ?_
          refine V.zret hF dX5_isCause_46 (Or.inr rfl) (Nat.le_refl _) (Nat.le_refl _) ?_
          exact pR.e (by simp [bI, i0, i1, *]) (by simp [th, *]) rfl
set_option maxRecDepth 20000 in
theorem ct_X5_causes (hst : l.stackTraces = false) (σ : SH) (I X : IX) (o : Nat) (ar : Nat → Nat) (hM : MS σ o ar) (f : Rw) (hI : I o = f) (v : Rw) (hX : X (ar 1) = v) (hv : WV v) (x : Int32) : Ct l D cy sa sv yX5_causes cX5_causes 4 (some .int) 3 0 0 [.ref o, .int x] σ I X (pR (some (.int (if zMs v x then nI (zcB (fun k => zcau v k x.toNatClampNeg) (vN v 44)) else nI 0))) σ (va_up I o (th f (if zMs v x then nI 0 else nI 1))) X) noX := by
  refine Ct.of (by decide) hst (Nat.le_of_ble_eq_true rfl) ?_
  intro pp ee ss mm args below meth kc A hF hnm hout
  refine V.etaI o hI ?_
  refine V.aload_n hF dX5_causes_0 rfl ?_
  refine V.iload_n hF dX5_causes_1 rfl ?_
  refine V.vI hF dX5_causes_2 (ct_X5_isSent hst _ _ _ _ _ hM _ (va_up_self _ _ _) _ hX _) lk_X5_108 sl_X5_isSent hM.1.1 hM.1.2 rfl (Nat.le_of_ble_eq_true rfl) (fit_of rfl) (Nat.le_of_ble_eq_true rfl) rfl ?_
  refine V.collI ?_
  refine V.if_neB (tgt := 10) hF dX5_causes_5 (by decide) (fun h5 => ?_) (fun h5 => ?_)
  · obtain ⟨m, hmn, hm, e⟩ := zMs_of hv h5
    subst e
    have cm : (nI m).toNatClampNeg = m := nI_clamp (by omega)
    have hn150 := hv.n150
    refine V.eqI (I' := va_up I o (th f (nI 0))) (by rw [if_pos h5]) ?_
    refine V.iconst (v := nI 0) hF dX5_causes_10 (by decide) ?_
    refine V.istore_n hF dX5_causes_11 (by decide) ?_
    refine V.iconst (v := nI 0) hF dX5_causes_12 (by decide) ?_
    refine V.istore_n hF dX5_causes_13 (by decide) ?_
    have L14 : ∀ (n14 : Nat) (k c : Nat), vN v 44 - k < n14 → k ≤ vN v 44 → c = zcB (fun k => zcau v k m) k → V pp l ee (Rm 3 0 0) ss mm args below meth kc D cy A (QM below args ss D cy A (pR (some (.int (if zMs v (nI m) then nI (zcB (fun k => zcau v k (nI m).toNatClampNeg) (vN v 44)) else nI 0))) σ (va_up I o (th f (if zMs v (nI m) then nI 0 else nI 1))) X) noX 0 0) 4 0 0 σ (va_up I o (th f (nI 0))) X 14 [(0, .ref o), (1, .int (nI m)), (2, .int (nI c)), (3, .int (nI k))] [] := by
      intro n14
      induction n14 with
      | zero => intro k c hlt14; exact absurd hlt14 (Nat.not_lt_zero _)
      | succ n14 ih14 =>
        intro k c hlt14 hk hc
        refine V.iload_n hF dX5_causes_14 rfl ?_
        refine V.aload_n hF dX5_causes_15 rfl ?_
        refine V.getR hF dX5_causes_16 fl_X5_9 hM.1.1 hM.1.2 rfl hM.m1.1 ?_
        refine V.bipush (v := nI 44) hF dX5_causes_19 (by decide) ?_
        refine V.ialoadF (j := 44) hF dX5_causes_21 hM.m1.2.1 hM.m1.2.2.1 rfl (hM.m1.lt (lt_of rfl)) (hM.m1.sm (by decide)) hX ?_
        refine V.topi (y := nI (vN v 44)) hv.n ?_
        refine V.icmp_ge (tgt := 48) hF dX5_causes_22 (by decide) (fun h22 => ?_) (fun h22 => ?_)
        · have hk6 : k = vN v 44 := by have := nI_ge' h22 (by omega) (by omega); omega
          subst hk6
          refine V.iload_n hF dX5_causes_48 rfl ?_
          refine V.iret hF dX5_causes_49 (Nat.le_refl _) (Nat.le_refl _) ?_
          exact pR.e (by rw [if_pos h5, cm, hc]) (by rw [if_pos h5]) rfl
        · have hk6 : k < vN v 44 := nI_nge h22 (by omega) (by omega)
          refine V.iload_n hF dX5_causes_25 rfl ?_
          refine V.aload_n hF dX5_causes_26 rfl ?_
          refine V.iload_n hF dX5_causes_27 rfl ?_
          refine V.iload_n hF dX5_causes_28 rfl ?_
          refine V.vI hF dX5_causes_29 (ct_X5_isCauseOf hst _ _ _ _ _ hM _ hX hv k m (by omega) (by omega)) lk_X5_111 sl_X5_isCauseOf hM.1.1 hM.1.2 rfl (Nat.le_of_ble_eq_true rfl) (fit_of rfl) (Nat.le_of_ble_eq_true rfl) rfl ?_
          refine V.if_eqB (tgt := 39) hF dX5_causes_32 (by decide) (fun h32 => ?_) (fun h32 => ?_)
          · refine V.iconst (v := nI 0) hF dX5_causes_39 (by decide) ?_
            refine V.iadd hF dX5_causes_40 ?_
            refine V.topi (y := nI c) (by simp only [nI_add, pk_mul, Nat.zero_add, Nat.add_zero]) ?_
            refine V.istore_n hF dX5_causes_41 (by decide) ?_
            refine V.iinc (v := nI (k + 1)) hF dX5_causes_42 rfl (by exact nI_1 _) (by decide) ?_
            refine V.goto (tgt := 14) hF dX5_causes_45 (by decide) ?_
            refine V.relv [0, 1, 2, 3] rfl ?_
            exact ih14 (k + 1) _ (by omega) (by omega) (by simp [zcB, zcon, zmis, zuns, zshF, hc, *])
          · refine V.iconst (v := nI 1) hF dX5_causes_35 (by decide) ?_
            refine V.goto (tgt := 40) hF dX5_causes_36 (by decide) ?_
            refine V.iadd hF dX5_causes_40 ?_
            refine V.topi (y := nI (c + 1)) (by simp only [nI_add, pk_mul, Nat.zero_add, Nat.add_zero]) ?_
            refine V.istore_n hF dX5_causes_41 (by decide) ?_
            refine V.iinc (v := nI (k + 1)) hF dX5_causes_42 rfl (by exact nI_1 _) (by decide) ?_
            refine V.goto (tgt := 14) hF dX5_causes_45 (by decide) ?_
            refine V.relv [0, 1, 2, 3] rfl ?_
            exact ih14 (k + 1) _ (by omega) (by omega) (by simp [zcB, zcon, zmis, zuns, zshF, hc, *])
    refine V.relv [0, 1, 2, 3] rfl ?_
    exact L14 _ 0 0 (Nat.lt_succ_self _) (by omega) rfl
  · refine V.iconst (v := nI 0) hF dX5_causes_8 (by decide) ?_
    refine V.iret hF dX5_causes_9 (Nat.le_refl _) (Nat.le_refl _) ?_
    exact pR.e (by simp [n10, *]) (by simp [n10, th_th, *]) rfl
set_option maxRecDepth 20000 in
theorem ct_X5_concurrent (hst : l.stackTraces = false) (σ : SH) (I X : IX) (o : Nat) (ar : Nat → Nat) (hM : MS σ o ar) (f : Rw) (hI : I o = f) (v : Rw) (hX : X (ar 1) = v) (hv : WV v) (x : Int32) : Ct l D cy sa sv yX5_concurrent cX5_concurrent 4 (some .int) 3 0 0 [.ref o, .int x] σ I X (pR (some (.int (if zMs v x then nI (zcB (zcon v x.toNatClampNeg) (vN v 44)) else nI 0))) σ (va_up I o (th f (if zMs v x then nI 0 else nI 1))) X) noX := by
  refine Ct.of (by decide) hst (Nat.le_of_ble_eq_true rfl) ?_
  intro pp ee ss mm args below meth kc A hF hnm hout
  refine V.etaI o hI ?_
  refine V.aload_n hF dX5_concurrent_0 rfl ?_
  refine V.iload_n hF dX5_concurrent_1 rfl ?_
  refine V.vI hF dX5_concurrent_2 (ct_X5_isSent hst _ _ _ _ _ hM _ (va_up_self _ _ _) _ hX _) lk_X5_108 sl_X5_isSent hM.1.1 hM.1.2 rfl (Nat.le_of_ble_eq_true rfl) (fit_of rfl) (Nat.le_of_ble_eq_true rfl) rfl ?_
  refine V.collI ?_
  refine V.if_neB (tgt := 10) hF dX5_concurrent_5 (by decide) (fun h5 => ?_) (fun h5 => ?_)
  · obtain ⟨m, hmn, hm, e⟩ := zMs_of hv h5
    subst e
    have cm : (nI m).toNatClampNeg = m := nI_clamp (by omega)
    have hn150 := hv.n150
    refine V.eqI (I' := va_up I o (th f (nI 0))) (by rw [if_pos h5]) ?_
    refine V.iconst (v := nI 0) hF dX5_concurrent_10 (by decide) ?_
    refine V.istore_n hF dX5_concurrent_11 (by decide) ?_
    refine V.iconst (v := nI 0) hF dX5_concurrent_12 (by decide) ?_
    refine V.istore_n hF dX5_concurrent_13 (by decide) ?_
    have L14 : ∀ (n14 : Nat) (k c : Nat), vN v 44 - k < n14 → k ≤ vN v 44 → c = zcB (zcon v m) k → V pp l ee (Rm 3 0 0) ss mm args below meth kc D cy A (QM below args ss D cy A (pR (some (.int (if zMs v (nI m) then nI (zcB (zcon v (nI m).toNatClampNeg) (vN v 44)) else nI 0))) σ (va_up I o (th f (if zMs v (nI m) then nI 0 else nI 1))) X) noX 0 0) 4 0 0 σ (va_up I o (th f (nI 0))) X 14 [(0, .ref o), (1, .int (nI m)), (2, .int (nI c)), (3, .int (nI k))] [] := by
      intro n14
      induction n14 with
      | zero => intro k c hlt14; exact absurd hlt14 (Nat.not_lt_zero _)
      | succ n14 ih14 =>
        intro k c hlt14 hk hc
        refine V.iload_n hF dX5_concurrent_14 rfl ?_
        refine V.aload_n hF dX5_concurrent_15 rfl ?_
        refine V.getR hF dX5_concurrent_16 fl_X5_9 hM.1.1 hM.1.2 rfl hM.m1.1 ?_
        refine V.bipush (v := nI 44) hF dX5_concurrent_19 (by decide) ?_
        refine V.ialoadF (j := 44) hF dX5_concurrent_21 hM.m1.2.1 hM.m1.2.2.1 rfl (hM.m1.lt (lt_of rfl)) (hM.m1.sm (by decide)) hX ?_
        refine V.topi (y := nI (vN v 44)) hv.n ?_
        refine V.icmp_ge (tgt := 85) hF dX5_concurrent_22 (by decide) (fun h22 => ?_) (fun h22 => ?_)
        · have hk6 : k = vN v 44 := by have := nI_ge' h22 (by omega) (by omega); omega
          subst hk6
          refine V.iload_n hF dX5_concurrent_85 rfl ?_
          refine V.iret hF dX5_concurrent_86 (Nat.le_refl _) (Nat.le_refl _) ?_
          exact pR.e (by rw [if_pos h5, cm, hc]) (by rw [if_pos h5]) rfl
        · have hk6 : k < vN v 44 := nI_nge h22 (by omega) (by omega)
          refine V.iload_n hF dX5_concurrent_25 rfl ?_
          refine V.iload_n hF dX5_concurrent_26 rfl ?_
          refine V.iload_n hF dX5_concurrent_27 rfl ?_
          refine V.icmp_eq (tgt := 76) hF dX5_concurrent_28 (by decide) (fun h28 => ?_) (fun h28 => ?_)
          · have hkm : k = m := nI_eq' h28 (by omega) (by omega)
            refine V.iconst (v := nI 0) hF dX5_concurrent_76 (by decide) ?_
            refine V.iadd hF dX5_concurrent_77 ?_
            refine V.topi (y := nI c) (by simp only [nI_add, pk_mul, Nat.zero_add, Nat.add_zero]) ?_
            refine V.istore_n hF dX5_concurrent_78 (by decide) ?_
            refine V.iinc (v := nI (k + 1)) hF dX5_concurrent_79 rfl (by exact nI_1 _) (by decide) ?_
            refine V.goto (tgt := 14) hF dX5_concurrent_82 (by decide) ?_
            refine V.relv [0, 1, 2, 3] rfl ?_
            exact ih14 (k + 1) _ (by omega) (by omega) (by simp [zcB, zcon, zmis, zuns, zshF, hc, *])
          · have hkm := nI_ne h28
            refine V.aload_n hF dX5_concurrent_31 rfl ?_
            refine V.getR hF dX5_concurrent_32 fl_X5_9 hM.1.1 hM.1.2 rfl hM.m1.1 ?_
            refine V.sipush (v := nI 350) hF dX5_concurrent_35 (by decide) ?_
            refine V.iload_n hF dX5_concurrent_38 rfl ?_
            refine V.iadd hF dX5_concurrent_39 ?_
            refine V.ialoadF (j := (350 + k)) hF dX5_concurrent_40 hM.m1.2.1 hM.m1.2.2.1 (by simp only [nI_add, pk_mul, Nat.zero_add, Nat.add_zero]) (hM.m1.lt (by omega)) (hM.m1.sm (by decide)) hX ?_
            refine V.aload_n hF dX5_concurrent_41 rfl ?_
            refine V.getR hF dX5_concurrent_42 fl_X5_9 hM.1.1 hM.1.2 rfl hM.m1.1 ?_
            refine V.sipush (v := nI 350) hF dX5_concurrent_45 (by decide) ?_
            refine V.iload_n hF dX5_concurrent_48 rfl ?_
            refine V.iadd hF dX5_concurrent_49 ?_
            refine V.ialoadF (j := (350 + m)) hF dX5_concurrent_50 hM.m1.2.1 hM.m1.2.2.1 (by simp only [nI_add, pk_mul, Nat.zero_add, Nat.add_zero]) (hM.m1.lt (by omega)) (hM.m1.sm (by decide)) hX ?_
            refine V.icmp_ne (tgt := 76) hF dX5_concurrent_51 (by decide) (fun h51 => ?_) (fun h51 => ?_)
            · refine V.iconst (v := nI 0) hF dX5_concurrent_76 (by decide) ?_
              refine V.iadd hF dX5_concurrent_77 ?_
              refine V.topi (y := nI c) (by simp only [nI_add, pk_mul, Nat.zero_add, Nat.add_zero]) ?_
              refine V.istore_n hF dX5_concurrent_78 (by decide) ?_
              refine V.iinc (v := nI (k + 1)) hF dX5_concurrent_79 rfl (by exact nI_1 _) (by decide) ?_
              refine V.goto (tgt := 14) hF dX5_concurrent_82 (by decide) ?_
              refine V.relv [0, 1, 2, 3] rfl ?_
              exact ih14 (k + 1) _ (by omega) (by omega) (by simp [zcB, zcon, zmis, zuns, zshF, hc, *])
            · refine V.aload_n hF dX5_concurrent_54 rfl ?_
              refine V.iload_n hF dX5_concurrent_55 rfl ?_
              refine V.iload_n hF dX5_concurrent_56 rfl ?_
              refine V.vI hF dX5_concurrent_57 (ct_X5_isCauseOf hst _ _ _ _ _ hM _ hX hv k m (by omega) (by omega)) lk_X5_111 sl_X5_isCauseOf hM.1.1 hM.1.2 rfl (Nat.le_of_ble_eq_true rfl) (fit_of rfl) (Nat.le_of_ble_eq_true rfl) rfl ?_
              refine V.if_neB (tgt := 76) hF dX5_concurrent_60 (by decide) (fun h60 => ?_) (fun h60 => ?_)
              · refine V.iconst (v := nI 0) hF dX5_concurrent_76 (by decide) ?_
                refine V.iadd hF dX5_concurrent_77 ?_
                refine V.topi (y := nI c) (by simp only [nI_add, pk_mul, Nat.zero_add, Nat.add_zero]) ?_
                refine V.istore_n hF dX5_concurrent_78 (by decide) ?_
                refine V.iinc (v := nI (k + 1)) hF dX5_concurrent_79 rfl (by exact nI_1 _) (by decide) ?_
                refine V.goto (tgt := 14) hF dX5_concurrent_82 (by decide) ?_
                refine V.relv [0, 1, 2, 3] rfl ?_
                exact ih14 (k + 1) _ (by omega) (by omega) (by simp [zcB, zcon, zmis, zuns, zshF, hc, *])
              · refine V.aload_n hF dX5_concurrent_63 rfl ?_
                refine V.iload_n hF dX5_concurrent_64 rfl ?_
                refine V.iload_n hF dX5_concurrent_65 rfl ?_
                refine V.vI hF dX5_concurrent_66 (ct_X5_isCauseOf hst _ _ _ _ _ hM _ hX hv m k (by omega) (by omega)) lk_X5_111 sl_X5_isCauseOf hM.1.1 hM.1.2 rfl (Nat.le_of_ble_eq_true rfl) (fit_of rfl) (Nat.le_of_ble_eq_true rfl) rfl ?_
                refine V.if_neB (tgt := 76) hF dX5_concurrent_69 (by decide) (fun h69 => ?_) (fun h69 => ?_)
                · refine V.iconst (v := nI 0) hF dX5_concurrent_76 (by decide) ?_
                  refine V.iadd hF dX5_concurrent_77 ?_
                  refine V.topi (y := nI c) (by simp only [nI_add, pk_mul, Nat.zero_add, Nat.add_zero]) ?_
                  refine V.istore_n hF dX5_concurrent_78 (by decide) ?_
                  refine V.iinc (v := nI (k + 1)) hF dX5_concurrent_79 rfl (by exact nI_1 _) (by decide) ?_
                  refine V.goto (tgt := 14) hF dX5_concurrent_82 (by decide) ?_
                  refine V.relv [0, 1, 2, 3] rfl ?_
                  exact ih14 (k + 1) _ (by omega) (by omega) (by simp [zcB, zcon, zmis, zuns, zshF, hc, *])
                · refine V.iconst (v := nI 1) hF dX5_concurrent_72 (by decide) ?_
                  refine V.goto (tgt := 77) hF dX5_concurrent_73 (by decide) ?_
                  refine V.iadd hF dX5_concurrent_77 ?_
                  refine V.topi (y := nI (c + 1)) (by simp only [nI_add, pk_mul, Nat.zero_add, Nat.add_zero]) ?_
                  refine V.istore_n hF dX5_concurrent_78 (by decide) ?_
                  refine V.iinc (v := nI (k + 1)) hF dX5_concurrent_79 rfl (by exact nI_1 _) (by decide) ?_
                  refine V.goto (tgt := 14) hF dX5_concurrent_82 (by decide) ?_
                  refine V.relv [0, 1, 2, 3] rfl ?_
                  exact ih14 (k + 1) _ (by omega) (by omega) (by simp [zcB, zcon, zmis, zuns, zshF, hc, *])
    refine V.relv [0, 1, 2, 3] rfl ?_
    exact L14 _ 0 0 (Nat.lt_succ_self _) (by omega) rfl
  · refine V.iconst (v := nI 0) hF dX5_concurrent_8 (by decide) ?_
    refine V.iret hF dX5_concurrent_9 (Nat.le_refl _) (Nat.le_refl _) ?_
    exact pR.e (by simp [n10, *]) (by simp [n10, th_th, *]) rfl
set_option maxRecDepth 20000 in
theorem ct_X5_logLength (hst : l.stackTraces = false) (σ : SH) (I X : IX) (o : Nat) (ar : Nat → Nat) (hM : MS σ o ar) (f : Rw) (hI : I o = f) (v : Rw) (hX : X (ar 1) = v) (hv : WV v) (x : Int32) : Ct l D cy sa sv yX5_logLength cX5_logLength 2 (some .int) 3 0 0 [.ref o, .int x] σ I X (pR (some (.int (if zPr x then v (1550 + x.toNatClampNeg) else nI 0))) σ (va_up I o (th f (if zPr x then nI 0 else nI 1))) X) noX := by
  refine Ct.of (by decide) hst (Nat.le_of_ble_eq_true rfl) ?_
  intro pp ee ss mm args below meth kc A hF hnm hout
  refine V.etaI o hI ?_
  refine V.aload_n hF dX5_logLength_0 rfl ?_
  refine V.iload_n hF dX5_logLength_1 rfl ?_
  refine V.vI hF dX5_logLength_2 (ct_X5_isOne hst _ _ _ _ _ hM _ (va_up_self _ _ _) _) lk_X5_63 sl_X5_isOne hM.1.1 hM.1.2 rfl (Nat.le_of_ble_eq_true rfl) (fit_of rfl) (Nat.le_of_ble_eq_true rfl) rfl ?_
  refine V.collI ?_
  refine V.if_eqB (tgt := 21) hF dX5_logLength_5 (by decide) (fun h5 => ?_) (fun h5 => ?_)
  · refine V.iconst (v := nI 0) hF dX5_logLength_21 (by decide) ?_
    refine V.iret hF dX5_logLength_22 (Nat.le_refl _) (Nat.le_refl _) ?_
    exact pR.e (by simp [n10, *]) (by simp [n10, th_th, *]) rfl
  · obtain ⟨p, hp, e⟩ := zPr_of h5
    subst e
    have cp : (nI p).toNatClampNeg = p := nI_clamp (by omega)
    refine V.eqI (I' := va_up I o (th f (nI 0))) (by rw [if_pos h5]) ?_
    refine V.aload_n hF dX5_logLength_8 rfl ?_
    refine V.getR hF dX5_logLength_9 fl_X5_9 hM.1.1 hM.1.2 rfl hM.m1.1 ?_
    refine V.sipush (v := nI 1550) hF dX5_logLength_12 (by decide) ?_
    refine V.iload_n hF dX5_logLength_15 rfl ?_
    refine V.iadd hF dX5_logLength_16 ?_
    refine V.ialoadF (j := (1550 + p)) hF dX5_logLength_17 hM.m1.2.1 hM.m1.2.2.1 (by simp only [nI_add, pk_mul, Nat.zero_add, Nat.add_zero]) (hM.m1.lt (by omega)) (hM.m1.sm (by decide)) hX ?_
    refine V.goto (tgt := 22) hF dX5_logLength_18 (by decide) ?_
    refine V.iret hF dX5_logLength_22 (Nat.le_refl _) (Nat.le_refl _) ?_
    exact pR.e (by simp [n10, *]) (by simp [n10, th_th, *]) rfl
set_option maxRecDepth 20000 in
theorem ct_X5_state (hst : l.stackTraces = false) (σ : SH) (I X : IX) (o : Nat) (ar : Nat → Nat) (hM : MS σ o ar) (f : Rw) (hI : I o = f) (v : Rw) (hX : X (ar 1) = v) (hv : WV v) (x : Int32) : Ct l D cy sa sv yX5_state cX5_state 2 (some .int) 3 0 0 [.ref o, .int x] σ I X (pR (some (.int (if zPr x then v (4260 + x.toNatClampNeg) else nI 0))) σ (va_up I o (th f (if zPr x then nI 0 else nI 1))) X) noX := by
  refine Ct.of (by decide) hst (Nat.le_of_ble_eq_true rfl) ?_
  intro pp ee ss mm args below meth kc A hF hnm hout
  refine V.etaI o hI ?_
  refine V.aload_n hF dX5_state_0 rfl ?_
  refine V.iload_n hF dX5_state_1 rfl ?_
  refine V.vI hF dX5_state_2 (ct_X5_isOne hst _ _ _ _ _ hM _ (va_up_self _ _ _) _) lk_X5_63 sl_X5_isOne hM.1.1 hM.1.2 rfl (Nat.le_of_ble_eq_true rfl) (fit_of rfl) (Nat.le_of_ble_eq_true rfl) rfl ?_
  refine V.collI ?_
  refine V.if_eqB (tgt := 21) hF dX5_state_5 (by decide) (fun h5 => ?_) (fun h5 => ?_)
  · refine V.iconst (v := nI 0) hF dX5_state_21 (by decide) ?_
    refine V.iret hF dX5_state_22 (Nat.le_refl _) (Nat.le_refl _) ?_
    exact pR.e (by simp [n10, *]) (by simp [n10, th_th, *]) rfl
  · obtain ⟨p, hp, e⟩ := zPr_of h5
    subst e
    have cp : (nI p).toNatClampNeg = p := nI_clamp (by omega)
    refine V.eqI (I' := va_up I o (th f (nI 0))) (by rw [if_pos h5]) ?_
    refine V.aload_n hF dX5_state_8 rfl ?_
    refine V.getR hF dX5_state_9 fl_X5_9 hM.1.1 hM.1.2 rfl hM.m1.1 ?_
    refine V.sipush (v := nI 4260) hF dX5_state_12 (by decide) ?_
    refine V.iload_n hF dX5_state_15 rfl ?_
    refine V.iadd hF dX5_state_16 ?_
    refine V.ialoadF (j := (4260 + p)) hF dX5_state_17 hM.m1.2.1 hM.m1.2.2.1 (by simp only [nI_add, pk_mul, Nat.zero_add, Nat.add_zero]) (hM.m1.lt (by omega)) (hM.m1.sm (by decide)) hX ?_
    refine V.goto (tgt := 22) hF dX5_state_18 (by decide) ?_
    refine V.iret hF dX5_state_22 (Nat.le_refl _) (Nat.le_refl _) ?_
    exact pR.e (by simp [n10, *]) (by simp [n10, th_th, *]) rfl
set_option maxRecDepth 20000 in
theorem ct_X5_logged (hst : l.stackTraces = false) (σ : SH) (I X : IX) (o : Nat) (ar : Nat → Nat) (hM : MS σ o ar) (f : Rw) (hI : I o = f) (v : Rw) (hX : X (ar 1) = v) (hv : WV v) (x y : Int32) : Ct l D cy sa sv yX5_logged cX5_logged 3 (some .int) 3 0 0 [.ref o, .int x, .int y] σ I X (pR (some (.int (if zPr x && zisIn y (nI 0) (v (1550 + x.toNatClampNeg) - nI 1) then v (1560 + 150 * x.toNatClampNeg + y.toNatClampNeg) else nI 0))) σ (va_up I o (th f (if zPr x && zisIn y (nI 0) (v (1550 + x.toNatClampNeg) - nI 1) then nI 0 else nI 1))) X) noX := by
  refine Ct.of (by decide) hst (Nat.le_of_ble_eq_true rfl) ?_
  intro pp ee ss mm args below meth kc A hF hnm hout
  refine V.etaI o hI ?_
  refine V.aload_n hF dX5_logged_0 rfl ?_
  refine V.iload_n hF dX5_logged_1 rfl ?_
  refine V.vI hF dX5_logged_2 (ct_X5_isOne hst _ _ _ _ _ hM _ (va_up_self _ _ _) _) lk_X5_63 sl_X5_isOne hM.1.1 hM.1.2 rfl (Nat.le_of_ble_eq_true rfl) (fit_of rfl) (Nat.le_of_ble_eq_true rfl) rfl ?_
  refine V.collI ?_
  refine V.if_neB (tgt := 10) hF dX5_logged_5 (by decide) (fun h5 => ?_) (fun h5 => ?_)
  · obtain ⟨p, hp, e⟩ := zPr_of h5
    subst e
    have cp : (nI p).toNatClampNeg = p := nI_clamp (by omega)
    refine V.eqI (I' := va_up I o (th f (nI 0))) (by rw [if_pos h5]) ?_
    refine V.iload_n hF dX5_logged_10 rfl ?_
    refine V.iconst (v := nI 0) hF dX5_logged_11 (by decide) ?_
    refine V.aload_n hF dX5_logged_12 rfl ?_
    refine V.getR hF dX5_logged_13 fl_X5_9 hM.1.1 hM.1.2 rfl hM.m1.1 ?_
    refine V.sipush (v := nI 1550) hF dX5_logged_16 (by decide) ?_
    refine V.iload_n hF dX5_logged_19 rfl ?_
    refine V.iadd hF dX5_logged_20 ?_
    refine V.ialoadF (j := (1550 + p)) hF dX5_logged_21 hM.m1.2.1 hM.m1.2.2.1 (by simp only [nI_add, pk_mul, Nat.zero_add, Nat.add_zero]) (hM.m1.lt (by omega)) (hM.m1.sm (by decide)) hX ?_
    refine V.iconst (v := nI 1) hF dX5_logged_22 (by decide) ?_
    refine V.isub hF dX5_logged_23 ?_
    refine V.sI hF dX5_logged_24 (ct_X5_isIn hst _ _ _ _ _ _) lk_X5_41 (fit_of rfl) (Nat.le_of_ble_eq_true rfl) rfl ?_
    refine V.if_eqB (tgt := 49) hF dX5_logged_27 (by decide) (fun h27 => ?_) (fun h27 => ?_)
    · refine V.aload_n hF dX5_logged_49 rfl ?_
      refine V.iconst (v := nI 1) hF dX5_logged_50 (by decide) ?_
      refine V.vI hF dX5_logged_51 (ct_X5_no hst _ _ _ _ _ hM _ (va_up_self _ _ _) _) lk_X5_59 sl_X5_no hM.1.1 hM.1.2 rfl (Nat.le_of_ble_eq_true rfl) (fit_of rfl) (Nat.le_of_ble_eq_true rfl) rfl ?_
      refine V.collI ?_
      refine V.iret hF dX5_logged_54 (Nat.le_refl _) (Nat.le_refl _) ?_
      exact pR.e (by simp [n10, *]) (by simp [n10, th_th, *]) rfl
    · obtain ⟨i, hi, hi2, e⟩ := zlg_of hv hp h27
      subst e
      have ci : (nI i).toNatClampNeg = i := nI_clamp (by omega)
      refine V.aload_n hF dX5_logged_30 rfl ?_
      refine V.getR hF dX5_logged_31 fl_X5_9 hM.1.1 hM.1.2 rfl hM.m1.1 ?_
      refine V.sipush (v := nI 1560) hF dX5_logged_34 (by decide) ?_
      refine V.sipush (v := nI 150) hF dX5_logged_37 (by decide) ?_
      refine V.iload_n hF dX5_logged_40 rfl ?_
      refine V.imul hF dX5_logged_41 ?_
      refine V.iadd hF dX5_logged_42 ?_
      refine V.iload_n hF dX5_logged_43 rfl ?_
      refine V.iadd hF dX5_logged_44 ?_
      refine V.ialoadF (j := ((1560 + (150 * p)) + i)) hF dX5_logged_45 hM.m1.2.1 hM.m1.2.2.1 (by simp only [nI_add, pk_mul, Nat.zero_add, Nat.add_zero]) (hM.m1.lt (by omega)) (hM.m1.sm (by decide)) hX ?_
      refine V.goto (tgt := 54) hF dX5_logged_46 (by decide) ?_
      refine V.iret hF dX5_logged_54 (Nat.le_refl _) (Nat.le_refl _) ?_
      exact pR.e (by simp [n10, *]) (by simp [n10, th_th, *]) rfl
  · refine V.iconst (v := nI 0) hF dX5_logged_8 (by decide) ?_
    refine V.iret hF dX5_logged_9 (Nat.le_refl _) (Nat.le_refl _) ?_
    exact pR.e (by simp [n10, *]) (by simp [n10, th_th, *]) rfl
set_option maxRecDepth 20000 in
theorem ct_X5_position (hst : l.stackTraces = false) (σ : SH) (I X : IX) (o : Nat) (ar : Nat → Nat) (hM : MS σ o ar) (f : Rw) (hI : I o = f) (v : Rw) (hX : X (ar 1) = v) (hv : WV v) (x y : Int32) : Ct l D cy sa sv yX5_position cX5_position 4 (some .int) 2 0 0 [.ref o, .int x, .int y] σ I X (pR (some (.int (if zPr x && zMs v y then (if zpl v x.toNatClampNeg y < 0 then nI 0 else zpl v x.toNatClampNeg y) else nI 0))) σ (va_up I o (th f (if zPr x && zMs v y then (if zpl v x.toNatClampNeg y < 0 then nI 2 else nI 0) else nI 1))) X) noX := by
  refine Ct.of (by decide) hst (Nat.le_of_ble_eq_true rfl) ?_
  intro pp ee ss mm args below meth kc A hF hnm hout
  refine V.etaI o hI ?_
  refine V.aload_n hF dX5_position_0 rfl ?_
  refine V.iconst (v := nI 0) hF dX5_position_1 (by decide) ?_
  refine V.putIU hF dX5_position_2 fl_X5_38 hM.1.1 hM.1.2 rfl rfl rfl ?_
  refine V.iload_n hF dX5_position_5 rfl ?_
  refine V.sI hF dX5_position_6 (ct_X5_isProcess hst _ _ _ _) lk_X5_49 (fit_of rfl) (Nat.le_of_ble_eq_true rfl) rfl ?_
  refine V.if_eqB (tgt := 20) hF dX5_position_9 (by decide) (fun h9 => ?_) (fun h9 => ?_)
  · refine V.aload_n hF dX5_position_20 rfl ?_
    refine V.iconst (v := nI 1) hF dX5_position_21 (by decide) ?_
    refine V.vI hF dX5_position_22 (ct_X5_no hst _ _ _ _ _ hM _ (va_up_self _ _ _) _) lk_X5_59 sl_X5_no hM.1.1 hM.1.2 rfl (Nat.le_of_ble_eq_true rfl) (fit_of rfl) (Nat.le_of_ble_eq_true rfl) rfl ?_
    refine V.collI ?_
    refine V.iret hF dX5_position_25 (Nat.le_refl _) (Nat.le_refl _) ?_
    exact pR.e (by simp [n10, *]) (by simp [n10, th_th, *]) rfl
  · refine V.aload_n hF dX5_position_12 rfl ?_
    refine V.iload_n hF dX5_position_13 rfl ?_
    refine V.vI hF dX5_position_14 (ct_X5_isMessage hst _ _ _ _ _ hM _ hX _) lk_X5_56 sl_X5_isMessage hM.1.1 hM.1.2 rfl (Nat.le_of_ble_eq_true rfl) (fit_of rfl) (Nat.le_of_ble_eq_true rfl) rfl ?_
    refine V.if_neB (tgt := 26) hF dX5_position_17 (by decide) (fun h17 => ?_) (fun h17 => ?_)
    · obtain ⟨p, hp, e⟩ := zPr_of h9
      subst e
      have cp : (nI p).toNatClampNeg = p := nI_clamp (by omega)
      refine V.aload_n hF dX5_position_26 rfl ?_
      refine V.iload_n hF dX5_position_27 rfl ?_
      refine V.iload_n hF dX5_position_28 rfl ?_
      refine V.vI hF dX5_position_29 (ct_X5_placeOf hst _ _ _ _ _ hM _ hX hv p (by omega) _) lk_X5_114 sl_X5_placeOf hM.1.1 hM.1.2 rfl (Nat.le_of_ble_eq_true rfl) (fit_of rfl) (Nat.le_of_ble_eq_true rfl) rfl ?_
      refine V.istore_n hF dX5_position_32 (by decide) ?_
      refine V.iload_n hF dX5_position_33 rfl ?_
      refine V.if_ge (tgt := 45) hF dX5_position_34 (by decide) (fun h34 => ?_) (fun h34 => ?_)
      · have hlt := le_nlt h34
        refine V.iload_n hF dX5_position_45 rfl ?_
        refine V.iret hF dX5_position_46 (Nat.le_refl _) (Nat.le_refl _) ?_
        exact pR.e (by simp [n10, *]) (by simp [n10, th_th, *]) rfl
      · have hlt := nle_lt h34
        refine V.aload_n hF dX5_position_37 rfl ?_
        refine V.iconst (v := nI 2) hF dX5_position_38 (by decide) ?_
        refine V.vI hF dX5_position_39 (ct_X5_no hst _ _ _ _ _ hM _ (va_up_self _ _ _) _) lk_X5_59 sl_X5_no hM.1.1 hM.1.2 rfl (Nat.le_of_ble_eq_true rfl) (fit_of rfl) (Nat.le_of_ble_eq_true rfl) rfl ?_
        refine V.collI ?_
        refine V.goto (tgt := 46) hF dX5_position_42 (by decide) ?_
        refine V.iret hF dX5_position_46 (Nat.le_refl _) (Nat.le_refl _) ?_
        exact pR.e (by simp [n10, *]) (by simp [n10, th_th, *]) rfl
    · refine V.aload_n hF dX5_position_20 rfl ?_
      refine V.iconst (v := nI 1) hF dX5_position_21 (by decide) ?_
      refine V.vI hF dX5_position_22 (ct_X5_no hst _ _ _ _ _ hM _ (va_up_self _ _ _) _) lk_X5_59 sl_X5_no hM.1.1 hM.1.2 rfl (Nat.le_of_ble_eq_true rfl) (fit_of rfl) (Nat.le_of_ble_eq_true rfl) rfl ?_
      refine V.collI ?_
      refine V.iret hF dX5_position_25 (Nat.le_refl _) (Nat.le_refl _) ?_
      exact pR.e (by simp [n10, *]) (by simp [n10, th_th, *]) rfl
set_option maxRecDepth 20000 in
theorem ct_X5_clock (hst : l.stackTraces = false) (σ : SH) (I X : IX) (o : Nat) (ar : Nat → Nat) (hM : MS σ o ar) (f : Rw) (hI : I o = f) (v : Rw) (hX : X (ar 1) = v) (hv : WV v) (x y : Int32) : Ct l D cy sa sv yX5_clock cX5_clock 3 (some .int) 2 0 0 [.ref o, .int x, .int y] σ I X (pR (some (.int (if zPr x && zPr y && zisM v x then zclk v x.toNatClampNeg y.toNatClampNeg else nI 0))) σ (va_up I o (th f (if zPr x && zPr y then (if zisM v x then nI 0 else nI 2) else nI 1))) X) noX := by
  refine Ct.of (by decide) hst (Nat.le_of_ble_eq_true rfl) ?_
  intro pp ee ss mm args below meth kc A hF hnm hout
  refine V.etaI o hI ?_
  refine V.aload_n hF dX5_clock_0 rfl ?_
  refine V.iconst (v := nI 0) hF dX5_clock_1 (by decide) ?_
  refine V.putIU hF dX5_clock_2 fl_X5_38 hM.1.1 hM.1.2 rfl rfl rfl ?_
  refine V.iload_n hF dX5_clock_5 rfl ?_
  refine V.sI hF dX5_clock_6 (ct_X5_isProcess hst _ _ _ _) lk_X5_49 (fit_of rfl) (Nat.le_of_ble_eq_true rfl) rfl ?_
  refine V.if_eqB (tgt := 19) hF dX5_clock_9 (by decide) (fun h9 => ?_) (fun h9 => ?_)
  · refine V.aload_n hF dX5_clock_19 rfl ?_
    refine V.iconst (v := nI 1) hF dX5_clock_20 (by decide) ?_
    refine V.vI hF dX5_clock_21 (ct_X5_no hst _ _ _ _ _ hM _ (va_up_self _ _ _) _) lk_X5_59 sl_X5_no hM.1.1 hM.1.2 rfl (Nat.le_of_ble_eq_true rfl) (fit_of rfl) (Nat.le_of_ble_eq_true rfl) rfl ?_
    refine V.collI ?_
    refine V.iret hF dX5_clock_24 (Nat.le_refl _) (Nat.le_refl _) ?_
    exact pR.e (by simp [n10, *]) (by simp [n10, th_th, *]) rfl
  · refine V.iload_n hF dX5_clock_12 rfl ?_
    refine V.sI hF dX5_clock_13 (ct_X5_isProcess hst _ _ _ _) lk_X5_49 (fit_of rfl) (Nat.le_of_ble_eq_true rfl) rfl ?_
    refine V.if_neB (tgt := 25) hF dX5_clock_16 (by decide) (fun h16 => ?_) (fun h16 => ?_)
    · obtain ⟨p, hp, e⟩ := zPr_of h9
      subst e
      have cp : (nI p).toNatClampNeg = p := nI_clamp (by omega)
      obtain ⟨q, hq, e⟩ := zPr_of h16
      subst e
      have cq : (nI q).toNatClampNeg = q := nI_clamp (by omega)
      refine V.aload_n hF dX5_clock_25 rfl ?_
      refine V.iload_n hF dX5_clock_26 rfl ?_
      refine V.vI hF dX5_clock_27 (ct_X5_isMember hst _ _ _ _ _ hM _ hX hv _) lk_X5_53 sl_X5_isMember hM.1.1 hM.1.2 rfl (Nat.le_of_ble_eq_true rfl) (fit_of rfl) (Nat.le_of_ble_eq_true rfl) rfl ?_
      refine V.if_eqB (tgt := 42) hF dX5_clock_30 (by decide) (fun h30 => ?_) (fun h30 => ?_)
      · refine V.aload_n hF dX5_clock_42 rfl ?_
        refine V.iconst (v := nI 2) hF dX5_clock_43 (by decide) ?_
        refine V.vI hF dX5_clock_44 (ct_X5_no hst _ _ _ _ _ hM _ (va_up_self _ _ _) _) lk_X5_59 sl_X5_no hM.1.1 hM.1.2 rfl (Nat.le_of_ble_eq_true rfl) (fit_of rfl) (Nat.le_of_ble_eq_true rfl) rfl ?_
        refine V.collI ?_
        refine V.iret hF dX5_clock_47 (Nat.le_refl _) (Nat.le_refl _) ?_
        exact pR.e (by simp [n10, *]) (by simp [n10, th_th, *]) rfl
      · refine V.aload_n hF dX5_clock_33 rfl ?_
        refine V.iload_n hF dX5_clock_34 rfl ?_
        refine V.iload_n hF dX5_clock_35 rfl ?_
        refine V.vI hF dX5_clock_36 (ct_X5_clockOf hst _ _ _ _ _ hM _ hX p q (by omega) (by omega)) lk_X5_76 sl_X5_clockOf hM.1.1 hM.1.2 rfl (Nat.le_of_ble_eq_true rfl) (fit_of rfl) (Nat.le_of_ble_eq_true rfl) rfl ?_
        refine V.goto (tgt := 47) hF dX5_clock_39 (by decide) ?_
        refine V.iret hF dX5_clock_47 (Nat.le_refl _) (Nat.le_refl _) ?_
        exact pR.e (by simp [n10, *]) (by simp [n10, th_th, *]) rfl
    · refine V.aload_n hF dX5_clock_19 rfl ?_
      refine V.iconst (v := nI 1) hF dX5_clock_20 (by decide) ?_
      refine V.vI hF dX5_clock_21 (ct_X5_no hst _ _ _ _ _ hM _ (va_up_self _ _ _) _) lk_X5_59 sl_X5_no hM.1.1 hM.1.2 rfl (Nat.le_of_ble_eq_true rfl) (fit_of rfl) (Nat.le_of_ble_eq_true rfl) rfl ?_
      refine V.collI ?_
      refine V.iret hF dX5_clock_24 (Nat.le_refl _) (Nat.le_refl _) ?_
      exact pR.e (by simp [n10, *]) (by simp [n10, th_th, *]) rfl
set_option maxRecDepth 20000 in
theorem ct_X5_buffered (hst : l.stackTraces = false) (σ : SH) (I X : IX) (o : Nat) (ar : Nat → Nat) (hM : MS σ o ar) (f : Rw) (hI : I o = f) (v : Rw) (hX : X (ar 1) = v) (hv : WV v) (x : Int32) : Ct l D cy sa sv yX5_buffered cX5_buffered 4 (some .int) 3 0 0 [.ref o, .int x] σ I X (pR (some (.int (if zPr x && zisM v x then nI (zcB (zbuf v x.toNatClampNeg) (vN v 44)) else nI 0))) σ (va_up I o (th f (if zPr x then (if zisM v x then nI 0 else nI 2) else nI 1))) X) noX := by
  refine Ct.of (by decide) hst (Nat.le_of_ble_eq_true rfl) ?_
  intro pp ee ss mm args below meth kc A hF hnm hout
  refine V.etaI o hI ?_
  refine V.aload_n hF dX5_buffered_0 rfl ?_
  refine V.iload_n hF dX5_buffered_1 rfl ?_
  refine V.vI hF dX5_buffered_2 (ct_X5_isInView hst _ _ _ _ _ hM _ (va_up_self _ _ _) _ hX hv _) lk_X5_96 sl_X5_isInView hM.1.1 hM.1.2 rfl (Nat.le_of_ble_eq_true rfl) (fit_of rfl) (Nat.le_of_ble_eq_true rfl) rfl ?_
  refine V.collI ?_
  refine V.if_neB (tgt := 10) hF dX5_buffered_5 (by decide) (fun h5 => ?_) (fun h5 => ?_)
  · obtain ⟨hp1, hm1⟩ := (Bool.and_eq_true _ _).mp h5
    obtain ⟨p, hp, e⟩ := zPr_of hp1
    subst e
    have cp : (nI p).toNatClampNeg = p := nI_clamp (by omega)
    have hn150 := hv.n150
    refine V.eqI (I' := va_up I o (th f (nI 0))) (by rw [if_pos hp1, if_pos hm1]) ?_
    refine V.iconst (v := nI 0) hF dX5_buffered_10 (by decide) ?_
    refine V.istore_n hF dX5_buffered_11 (by decide) ?_
    refine V.iconst (v := nI 0) hF dX5_buffered_12 (by decide) ?_
    refine V.istore_n hF dX5_buffered_13 (by decide) ?_
    have L14 : ∀ (n14 : Nat) (k c : Nat), vN v 44 - k < n14 → k ≤ vN v 44 → c = zcB (zbuf v p) k → V pp l ee (Rm 3 0 0) ss mm args below meth kc D cy A (QM below args ss D cy A (pR (some (.int (if zPr (nI p) && zisM v (nI p) then nI (zcB (zbuf v (nI p).toNatClampNeg) (vN v 44)) else nI 0))) σ (va_up I o (th f (if zPr (nI p) then (if zisM v (nI p) then nI 0 else nI 2) else nI 1))) X) noX 0 0) 4 0 0 σ (va_up I o (th f (nI 0))) X 14 [(0, .ref o), (1, .int (nI p)), (2, .int (nI c)), (3, .int (nI k))] [] := by
      intro n14
      induction n14 with
      | zero => intro k c hlt14; exact absurd hlt14 (Nat.not_lt_zero _)
      | succ n14 ih14 =>
        intro k c hlt14 hk hc
        refine V.iload_n hF dX5_buffered_14 rfl ?_
        refine V.aload_n hF dX5_buffered_15 rfl ?_
        refine V.getR hF dX5_buffered_16 fl_X5_9 hM.1.1 hM.1.2 rfl hM.m1.1 ?_
        refine V.bipush (v := nI 44) hF dX5_buffered_19 (by decide) ?_
        refine V.ialoadF (j := 44) hF dX5_buffered_21 hM.m1.2.1 hM.m1.2.2.1 rfl (hM.m1.lt (lt_of rfl)) (hM.m1.sm (by decide)) hX ?_
        refine V.topi (y := nI (vN v 44)) hv.n ?_
        refine V.icmp_ge (tgt := 48) hF dX5_buffered_22 (by decide) (fun h22 => ?_) (fun h22 => ?_)
        · have hk6 : k = vN v 44 := by have := nI_ge' h22 (by omega) (by omega); omega
          subst hk6
          refine V.iload_n hF dX5_buffered_48 rfl ?_
          refine V.iret hF dX5_buffered_49 (Nat.le_refl _) (Nat.le_refl _) ?_
          exact pR.e (by rw [if_pos h5, cp, hc]) (by rw [if_pos hp1, if_pos hm1]) rfl
        · have hk6 : k < vN v 44 := nI_nge h22 (by omega) (by omega)
          refine V.iload_n hF dX5_buffered_25 rfl ?_
          refine V.aload_n hF dX5_buffered_26 rfl ?_
          refine V.iload_n hF dX5_buffered_27 rfl ?_
          refine V.iload_n hF dX5_buffered_28 rfl ?_
          refine V.vI hF dX5_buffered_29 (ct_X5_isBuffered hst _ _ _ _ _ hM _ hX p k (by omega) (by omega)) lk_X5_99 sl_X5_isBuffered hM.1.1 hM.1.2 rfl (Nat.le_of_ble_eq_true rfl) (fit_of rfl) (Nat.le_of_ble_eq_true rfl) rfl ?_
          refine V.if_eqB (tgt := 39) hF dX5_buffered_32 (by decide) (fun h32 => ?_) (fun h32 => ?_)
          · refine V.iconst (v := nI 0) hF dX5_buffered_39 (by decide) ?_
            refine V.iadd hF dX5_buffered_40 ?_
            refine V.topi (y := nI c) (by simp only [nI_add, pk_mul, Nat.zero_add, Nat.add_zero]) ?_
            refine V.istore_n hF dX5_buffered_41 (by decide) ?_
            refine V.iinc (v := nI (k + 1)) hF dX5_buffered_42 rfl (by exact nI_1 _) (by decide) ?_
            refine V.goto (tgt := 14) hF dX5_buffered_45 (by decide) ?_
            refine V.relv [0, 1, 2, 3] rfl ?_
            exact ih14 (k + 1) _ (by omega) (by omega) (by simp [zcB, zcon, zmis, zuns, zshF, hc, *])
          · refine V.iconst (v := nI 1) hF dX5_buffered_35 (by decide) ?_
            refine V.goto (tgt := 40) hF dX5_buffered_36 (by decide) ?_
            refine V.iadd hF dX5_buffered_40 ?_
            refine V.topi (y := nI (c + 1)) (by simp only [nI_add, pk_mul, Nat.zero_add, Nat.add_zero]) ?_
            refine V.istore_n hF dX5_buffered_41 (by decide) ?_
            refine V.iinc (v := nI (k + 1)) hF dX5_buffered_42 rfl (by exact nI_1 _) (by decide) ?_
            refine V.goto (tgt := 14) hF dX5_buffered_45 (by decide) ?_
            refine V.relv [0, 1, 2, 3] rfl ?_
            exact ih14 (k + 1) _ (by omega) (by omega) (by simp [zcB, zcon, zmis, zuns, zshF, hc, *])
    refine V.relv [0, 1, 2, 3] rfl ?_
    exact L14 _ 0 0 (Nat.lt_succ_self _) (by omega) rfl
  · refine V.iconst (v := nI 0) hF dX5_buffered_8 (by decide) ?_
    refine V.iret hF dX5_buffered_9 (Nat.le_refl _) (Nat.le_refl _) ?_
    cases hq : zPr x <;> cases hq2 : zisM v x <;> simp [hq, hq2] at h5 <;> exact pR.e (by simp [Bool.and_true, hq, hq2, n10, n20]) (by simp [Bool.and_true, hq, hq2]) (by simp [Bool.and_true, hq, hq2, n10, n20, up_eta, hX])
set_option maxRecDepth 20000 in
theorem ct_X5_inTransit (hst : l.stackTraces = false) (σ : SH) (I X : IX) (o : Nat) (ar : Nat → Nat) (hM : MS σ o ar) (f : Rw) (hI : I o = f) (v : Rw) (hX : X (ar 1) = v) (hv : WV v) (x : Int32) : Ct l D cy sa sv yX5_inTransit cX5_inTransit 4 (some .int) 3 0 0 [.ref o, .int x] σ I X (pR (some (.int (if zPr x && zisM v x then nI (zcB (zotw v x.toNatClampNeg) (vN v 44)) else nI 0))) σ (va_up I o (th f (if zPr x then (if zisM v x then nI 0 else nI 2) else nI 1))) X) noX := by
  refine Ct.of (by decide) hst (Nat.le_of_ble_eq_true rfl) ?_
  intro pp ee ss mm args below meth kc A hF hnm hout
  refine V.etaI o hI ?_
  refine V.aload_n hF dX5_inTransit_0 rfl ?_
  refine V.iload_n hF dX5_inTransit_1 rfl ?_
  refine V.vI hF dX5_inTransit_2 (ct_X5_isInView hst _ _ _ _ _ hM _ (va_up_self _ _ _) _ hX hv _) lk_X5_96 sl_X5_isInView hM.1.1 hM.1.2 rfl (Nat.le_of_ble_eq_true rfl) (fit_of rfl) (Nat.le_of_ble_eq_true rfl) rfl ?_
  refine V.collI ?_
  refine V.if_neB (tgt := 10) hF dX5_inTransit_5 (by decide) (fun h5 => ?_) (fun h5 => ?_)
  · obtain ⟨hp1, hm1⟩ := (Bool.and_eq_true _ _).mp h5
    obtain ⟨p, hp, e⟩ := zPr_of hp1
    subst e
    have cp : (nI p).toNatClampNeg = p := nI_clamp (by omega)
    have hn150 := hv.n150
    refine V.eqI (I' := va_up I o (th f (nI 0))) (by rw [if_pos hp1, if_pos hm1]) ?_
    refine V.iconst (v := nI 0) hF dX5_inTransit_10 (by decide) ?_
    refine V.istore_n hF dX5_inTransit_11 (by decide) ?_
    refine V.iconst (v := nI 0) hF dX5_inTransit_12 (by decide) ?_
    refine V.istore_n hF dX5_inTransit_13 (by decide) ?_
    have L14 : ∀ (n14 : Nat) (k c : Nat), vN v 44 - k < n14 → k ≤ vN v 44 → c = zcB (zotw v p) k → V pp l ee (Rm 3 0 0) ss mm args below meth kc D cy A (QM below args ss D cy A (pR (some (.int (if zPr (nI p) && zisM v (nI p) then nI (zcB (zotw v (nI p).toNatClampNeg) (vN v 44)) else nI 0))) σ (va_up I o (th f (if zPr (nI p) then (if zisM v (nI p) then nI 0 else nI 2) else nI 1))) X) noX 0 0) 4 0 0 σ (va_up I o (th f (nI 0))) X 14 [(0, .ref o), (1, .int (nI p)), (2, .int (nI c)), (3, .int (nI k))] [] := by
      intro n14
      induction n14 with
      | zero => intro k c hlt14; exact absurd hlt14 (Nat.not_lt_zero _)
      | succ n14 ih14 =>
        intro k c hlt14 hk hc
        refine V.iload_n hF dX5_inTransit_14 rfl ?_
        refine V.aload_n hF dX5_inTransit_15 rfl ?_
        refine V.getR hF dX5_inTransit_16 fl_X5_9 hM.1.1 hM.1.2 rfl hM.m1.1 ?_
        refine V.bipush (v := nI 44) hF dX5_inTransit_19 (by decide) ?_
        refine V.ialoadF (j := 44) hF dX5_inTransit_21 hM.m1.2.1 hM.m1.2.2.1 rfl (hM.m1.lt (lt_of rfl)) (hM.m1.sm (by decide)) hX ?_
        refine V.topi (y := nI (vN v 44)) hv.n ?_
        refine V.icmp_ge (tgt := 48) hF dX5_inTransit_22 (by decide) (fun h22 => ?_) (fun h22 => ?_)
        · have hk6 : k = vN v 44 := by have := nI_ge' h22 (by omega) (by omega); omega
          subst hk6
          refine V.iload_n hF dX5_inTransit_48 rfl ?_
          refine V.iret hF dX5_inTransit_49 (Nat.le_refl _) (Nat.le_refl _) ?_
          exact pR.e (by rw [if_pos h5, cp, hc]) (by rw [if_pos hp1, if_pos hm1]) rfl
        · have hk6 : k < vN v 44 := nI_nge h22 (by omega) (by omega)
          refine V.iload_n hF dX5_inTransit_25 rfl ?_
          refine V.aload_n hF dX5_inTransit_26 rfl ?_
          refine V.iload_n hF dX5_inTransit_27 rfl ?_
          refine V.iload_n hF dX5_inTransit_28 rfl ?_
          refine V.vI hF dX5_inTransit_29 (ct_X5_isOnTheWay hst _ _ _ _ _ hM _ hX p k (by omega) (by omega)) lk_X5_102 sl_X5_isOnTheWay hM.1.1 hM.1.2 rfl (Nat.le_of_ble_eq_true rfl) (fit_of rfl) (Nat.le_of_ble_eq_true rfl) rfl ?_
          refine V.if_eqB (tgt := 39) hF dX5_inTransit_32 (by decide) (fun h32 => ?_) (fun h32 => ?_)
          · refine V.iconst (v := nI 0) hF dX5_inTransit_39 (by decide) ?_
            refine V.iadd hF dX5_inTransit_40 ?_
            refine V.topi (y := nI c) (by simp only [nI_add, pk_mul, Nat.zero_add, Nat.add_zero]) ?_
            refine V.istore_n hF dX5_inTransit_41 (by decide) ?_
            refine V.iinc (v := nI (k + 1)) hF dX5_inTransit_42 rfl (by exact nI_1 _) (by decide) ?_
            refine V.goto (tgt := 14) hF dX5_inTransit_45 (by decide) ?_
            refine V.relv [0, 1, 2, 3] rfl ?_
            exact ih14 (k + 1) _ (by omega) (by omega) (by simp [zcB, zcon, zmis, zuns, zshF, hc, *])
          · refine V.iconst (v := nI 1) hF dX5_inTransit_35 (by decide) ?_
            refine V.goto (tgt := 40) hF dX5_inTransit_36 (by decide) ?_
            refine V.iadd hF dX5_inTransit_40 ?_
            refine V.topi (y := nI (c + 1)) (by simp only [nI_add, pk_mul, Nat.zero_add, Nat.add_zero]) ?_
            refine V.istore_n hF dX5_inTransit_41 (by decide) ?_
            refine V.iinc (v := nI (k + 1)) hF dX5_inTransit_42 rfl (by exact nI_1 _) (by decide) ?_
            refine V.goto (tgt := 14) hF dX5_inTransit_45 (by decide) ?_
            refine V.relv [0, 1, 2, 3] rfl ?_
            exact ih14 (k + 1) _ (by omega) (by omega) (by simp [zcB, zcon, zmis, zuns, zshF, hc, *])
    refine V.relv [0, 1, 2, 3] rfl ?_
    exact L14 _ 0 0 (Nat.lt_succ_self _) (by omega) rfl
  · refine V.iconst (v := nI 0) hF dX5_inTransit_8 (by decide) ?_
    refine V.iret hF dX5_inTransit_9 (Nat.le_refl _) (Nat.le_refl _) ?_
    cases hq : zPr x <;> cases hq2 : zisM v x <;> simp [hq, hq2] at h5 <;> exact pR.e (by simp [Bool.and_true, hq, hq2, n10, n20]) (by simp [Bool.and_true, hq, hq2]) (by simp [Bool.and_true, hq, hq2, n10, n20, up_eta, hX])
set_option maxRecDepth 20000 in
theorem ct_X5_unstable (hst : l.stackTraces = false) (σ : SH) (I X : IX) (o : Nat) (ar : Nat → Nat) (hM : MS σ o ar) (f : Rw) (hI : I o = f) (v : Rw) (hX : X (ar 1) = v) (hv : WV v) (x : Int32) : Ct l D cy sa sv yX5_unstable cX5_unstable 4 (some .int) 3 0 0 [.ref o, .int x] σ I X (pR (some (.int (if zPr x && zisM v x then nI (zcB (zuns v x.toNatClampNeg) (vN v 44)) else nI 0))) σ (va_up I o (th f (if zPr x then (if zisM v x then nI 0 else nI 2) else nI 1))) X) noX := by
  refine Ct.of (by decide) hst (Nat.le_of_ble_eq_true rfl) ?_
  intro pp ee ss mm args below meth kc A hF hnm hout
  refine V.etaI o hI ?_
  refine V.aload_n hF dX5_unstable_0 rfl ?_
  refine V.iload_n hF dX5_unstable_1 rfl ?_
  refine V.vI hF dX5_unstable_2 (ct_X5_isInView hst _ _ _ _ _ hM _ (va_up_self _ _ _) _ hX hv _) lk_X5_96 sl_X5_isInView hM.1.1 hM.1.2 rfl (Nat.le_of_ble_eq_true rfl) (fit_of rfl) (Nat.le_of_ble_eq_true rfl) rfl ?_
  refine V.collI ?_
  refine V.if_neB (tgt := 10) hF dX5_unstable_5 (by decide) (fun h5 => ?_) (fun h5 => ?_)
  · obtain ⟨hp1, hm1⟩ := (Bool.and_eq_true _ _).mp h5
    obtain ⟨p, hp, e⟩ := zPr_of hp1
    subst e
    have cp : (nI p).toNatClampNeg = p := nI_clamp (by omega)
    have hn150 := hv.n150
    refine V.eqI (I' := va_up I o (th f (nI 0))) (by rw [if_pos hp1, if_pos hm1]) ?_
    refine V.iconst (v := nI 0) hF dX5_unstable_10 (by decide) ?_
    refine V.istore_n hF dX5_unstable_11 (by decide) ?_
    refine V.iconst (v := nI 0) hF dX5_unstable_12 (by decide) ?_
    refine V.istore_n hF dX5_unstable_13 (by decide) ?_
    have L14 : ∀ (n14 : Nat) (k c : Nat), vN v 44 - k < n14 → k ≤ vN v 44 → c = zcB (zuns v p) k → V pp l ee (Rm 3 0 0) ss mm args below meth kc D cy A (QM below args ss D cy A (pR (some (.int (if zPr (nI p) && zisM v (nI p) then nI (zcB (zuns v (nI p).toNatClampNeg) (vN v 44)) else nI 0))) σ (va_up I o (th f (if zPr (nI p) then (if zisM v (nI p) then nI 0 else nI 2) else nI 1))) X) noX 0 0) 4 0 0 σ (va_up I o (th f (nI 0))) X 14 [(0, .ref o), (1, .int (nI p)), (2, .int (nI c)), (3, .int (nI k))] [] := by
      intro n14
      induction n14 with
      | zero => intro k c hlt14; exact absurd hlt14 (Nat.not_lt_zero _)
      | succ n14 ih14 =>
        intro k c hlt14 hk hc
        refine V.iload_n hF dX5_unstable_14 rfl ?_
        refine V.aload_n hF dX5_unstable_15 rfl ?_
        refine V.getR hF dX5_unstable_16 fl_X5_9 hM.1.1 hM.1.2 rfl hM.m1.1 ?_
        refine V.bipush (v := nI 44) hF dX5_unstable_19 (by decide) ?_
        refine V.ialoadF (j := 44) hF dX5_unstable_21 hM.m1.2.1 hM.m1.2.2.1 rfl (hM.m1.lt (lt_of rfl)) (hM.m1.sm (by decide)) hX ?_
        refine V.topi (y := nI (vN v 44)) hv.n ?_
        refine V.icmp_ge (tgt := 57) hF dX5_unstable_22 (by decide) (fun h22 => ?_) (fun h22 => ?_)
        · have hk6 : k = vN v 44 := by have := nI_ge' h22 (by omega) (by omega); omega
          subst hk6
          refine V.iload_n hF dX5_unstable_57 rfl ?_
          refine V.iret hF dX5_unstable_58 (Nat.le_refl _) (Nat.le_refl _) ?_
          exact pR.e (by rw [if_pos h5, cp, hc]) (by rw [if_pos hp1, if_pos hm1]) rfl
        · have hk6 : k < vN v 44 := nI_nge h22 (by omega) (by omega)
          refine V.iload_n hF dX5_unstable_25 rfl ?_
          refine V.aload_n hF dX5_unstable_26 rfl ?_
          refine V.iload_n hF dX5_unstable_27 rfl ?_
          refine V.iload_n hF dX5_unstable_28 rfl ?_
          refine V.vI hF dX5_unstable_29 (ct_X5_isLogged hst _ _ _ _ _ hM _ hX p k (by omega) (by omega)) lk_X5_72 sl_X5_isLogged hM.1.1 hM.1.2 rfl (Nat.le_of_ble_eq_true rfl) (fit_of rfl) (Nat.le_of_ble_eq_true rfl) rfl ?_
          refine V.if_eqB (tgt := 48) hF dX5_unstable_32 (by decide) (fun h32 => ?_) (fun h32 => ?_)
          · refine V.iconst (v := nI 0) hF dX5_unstable_48 (by decide) ?_
            refine V.iadd hF dX5_unstable_49 ?_
            refine V.topi (y := nI c) (by simp only [nI_add, pk_mul, Nat.zero_add, Nat.add_zero]) ?_
            refine V.istore_n hF dX5_unstable_50 (by decide) ?_
            refine V.iinc (v := nI (k + 1)) hF dX5_unstable_51 rfl (by exact nI_1 _) (by decide) ?_
            refine V.goto (tgt := 14) hF dX5_unstable_54 (by decide) ?_
            refine V.relv [0, 1, 2, 3] rfl ?_
            exact ih14 (k + 1) _ (by omega) (by omega) (by simp [zcB, zcon, zmis, zuns, zshF, hc, *])
          · refine V.aload_n hF dX5_unstable_35 rfl ?_
            refine V.iload_n hF dX5_unstable_36 rfl ?_
            refine V.iload_n hF dX5_unstable_37 rfl ?_
            refine V.vI hF dX5_unstable_38 (ct_X5_isSafe hst _ _ _ _ _ hM _ hX hv p k (by omega) (by omega)) lk_X5_117 sl_X5_isSafe hM.1.1 hM.1.2 rfl (Nat.le_of_ble_eq_true rfl) (fit_of rfl) (Nat.le_of_ble_eq_true rfl) rfl ?_
            refine V.if_neB (tgt := 48) hF dX5_unstable_41 (by decide) (fun h41 => ?_) (fun h41 => ?_)
            · refine V.iconst (v := nI 0) hF dX5_unstable_48 (by decide) ?_
              refine V.iadd hF dX5_unstable_49 ?_
              refine V.topi (y := nI c) (by simp only [nI_add, pk_mul, Nat.zero_add, Nat.add_zero]) ?_
              refine V.istore_n hF dX5_unstable_50 (by decide) ?_
              refine V.iinc (v := nI (k + 1)) hF dX5_unstable_51 rfl (by exact nI_1 _) (by decide) ?_
              refine V.goto (tgt := 14) hF dX5_unstable_54 (by decide) ?_
              refine V.relv [0, 1, 2, 3] rfl ?_
              exact ih14 (k + 1) _ (by omega) (by omega) (by simp [zcB, zcon, zmis, zuns, zshF, hc, *])
            · refine V.iconst (v := nI 1) hF dX5_unstable_44 (by decide) ?_
              refine V.goto (tgt := 49) hF dX5_unstable_45 (by decide) ?_
              refine V.iadd hF dX5_unstable_49 ?_
              refine V.topi (y := nI (c + 1)) (by simp only [nI_add, pk_mul, Nat.zero_add, Nat.add_zero]) ?_
              refine V.istore_n hF dX5_unstable_50 (by decide) ?_
              refine V.iinc (v := nI (k + 1)) hF dX5_unstable_51 rfl (by exact nI_1 _) (by decide) ?_
              refine V.goto (tgt := 14) hF dX5_unstable_54 (by decide) ?_
              refine V.relv [0, 1, 2, 3] rfl ?_
              exact ih14 (k + 1) _ (by omega) (by omega) (by simp [zcB, zcon, zmis, zuns, zshF, hc, *])
    refine V.relv [0, 1, 2, 3] rfl ?_
    exact L14 _ 0 0 (Nat.lt_succ_self _) (by omega) rfl
  · refine V.iconst (v := nI 0) hF dX5_unstable_8 (by decide) ?_
    refine V.iret hF dX5_unstable_9 (Nat.le_refl _) (Nat.le_refl _) ?_
    cases hq : zPr x <;> cases hq2 : zisM v x <;> simp [hq, hq2] at h5 <;> exact pR.e (by simp [Bool.and_true, hq, hq2, n10, n20]) (by simp [Bool.and_true, hq, hq2]) (by simp [Bool.and_true, hq, hq2, n10, n20, up_eta, hX])
set_option maxRecDepth 20000 in
theorem ct_X5_bufferedMessage (hst : l.stackTraces = false) (σ : SH) (I X : IX) (o : Nat) (ar : Nat → Nat) (hM : MS σ o ar) (f : Rw) (hI : I o = f) (v : Rw) (hX : X (ar 1) = v) (hv : WV v) (x y : Int32) : Ct l D cy sa sv yX5_bufferedMessage cX5_bufferedMessage 5 (some .int) 3 0 0 [.ref o, .int x, .int y] σ I X (pR (some (.int (if zPr x && zisM v x then (if zfst (zbmF v x.toNatClampNeg y) (vN v 44) < vN v 44 then nI (zfst (zbmF v x.toNatClampNeg y) (vN v 44)) else nI 0) else nI 0))) σ (va_up I o (th f (if zPr x then (if zisM v x then (if zfst (zbmF v x.toNatClampNeg y) (vN v 44) < vN v 44 then nI 0 else nI 3) else nI 2) else nI 1))) X) noX := by
  refine Ct.of (by decide) hst (Nat.le_of_ble_eq_true rfl) ?_
  intro pp ee ss mm args below meth kc A hF hnm hout
  refine V.etaI o hI ?_
  refine V.aload_n hF dX5_bufferedMessage_0 rfl ?_
  refine V.iload_n hF dX5_bufferedMessage_1 rfl ?_
  refine V.vI hF dX5_bufferedMessage_2 (ct_X5_isInView hst _ _ _ _ _ hM _ (va_up_self _ _ _) _ hX hv _) lk_X5_96 sl_X5_isInView hM.1.1 hM.1.2 rfl (Nat.le_of_ble_eq_true rfl) (fit_of rfl) (Nat.le_of_ble_eq_true rfl) rfl ?_
  refine V.collI ?_
  refine V.if_neB (tgt := 10) hF dX5_bufferedMessage_5 (by decide) (fun h5 => ?_) (fun h5 => ?_)
  · obtain ⟨hp1, hm1⟩ := (Bool.and_eq_true _ _).mp h5
    obtain ⟨p, hp, e⟩ := zPr_of hp1
    subst e
    have cp : (nI p).toNatClampNeg = p := nI_clamp (by omega)
    have hn150 := hv.n150
    refine V.eqI (I' := va_up I o (th f (nI 0))) (by rw [if_pos hp1, if_pos hm1]) ?_
    refine V.iconst (v := nI 0) hF dX5_bufferedMessage_10 (by decide) ?_
    refine V.istore_n hF dX5_bufferedMessage_11 (by decide) ?_
    refine V.iconst (v := nI 0) hF dX5_bufferedMessage_12 (by decide) ?_
    refine V.istore hF dX5_bufferedMessage_13 (by decide) ?_
    have L15 : ∀ (n15 : Nat) (k c : Nat), vN v 44 - k < n15 → k ≤ vN v 44 → c = zcB (zbuf v p) k → (∀ j, j < k → zbmF v p y j = false) → V pp l ee (Rm 3 0 0) ss mm args below meth kc D cy A (QM below args ss D cy A (pR (some (.int (if zPr (nI p) && zisM v (nI p) then (if zfst (zbmF v (nI p).toNatClampNeg y) (vN v 44) < vN v 44 then nI (zfst (zbmF v (nI p).toNatClampNeg y) (vN v 44)) else nI 0) else nI 0))) σ (va_up I o (th f (if zPr (nI p) then (if zisM v (nI p) then (if zfst (zbmF v (nI p).toNatClampNeg y) (vN v 44) < vN v 44 then nI 0 else nI 3) else nI 2) else nI 1))) X) noX 0 0) 5 0 0 σ (va_up I o (th f (nI 0))) X 15 [(0, .ref o), (1, .int (nI p)), (2, .int y), (3, .int (nI c)), (4, .int (nI k))] [] := by
      intro n15
      induction n15 with
      | zero => intro k c hlt15; exact absurd hlt15 (Nat.not_lt_zero _)
      | succ n15 ih15 =>
        intro k c hlt15 hk hc ha
        refine V.iload hF dX5_bufferedMessage_15 rfl ?_
        refine V.aload_n hF dX5_bufferedMessage_17 rfl ?_
        refine V.getR hF dX5_bufferedMessage_18 fl_X5_9 hM.1.1 hM.1.2 rfl hM.m1.1 ?_
        refine V.bipush (v := nI 44) hF dX5_bufferedMessage_21 (by decide) ?_
        refine V.ialoadF (j := 44) hF dX5_bufferedMessage_23 hM.m1.2.1 hM.m1.2.2.1 rfl (hM.m1.lt (lt_of rfl)) (hM.m1.sm (by decide)) hX ?_
        refine V.topi (y := nI (vN v 44)) hv.n ?_
        refine V.icmp_ge (tgt := 57) hF dX5_bufferedMessage_24 (by decide) (fun h24 => ?_) (fun h24 => ?_)
        · have hk6 : k = vN v 44 := by have := nI_ge' h24 (by omega) (by omega); omega
          subst hk6
          refine V.aload_n hF dX5_bufferedMessage_57 rfl ?_
          refine V.iconst (v := nI 3) hF dX5_bufferedMessage_58 (by decide) ?_
          refine V.vI hF dX5_bufferedMessage_59 (ct_X5_no hst _ _ _ _ _ hM _ (va_up_self _ _ _) _) lk_X5_59 sl_X5_no hM.1.1 hM.1.2 rfl (Nat.le_of_ble_eq_true rfl) (fit_of rfl) (Nat.le_of_ble_eq_true rfl) rfl ?_
          refine V.collI ?_
          refine V.iret hF dX5_bufferedMessage_62 (Nat.le_refl _) (Nat.le_refl _) ?_
          have e := zfst_no ha
          exact pR.e (by simp [cp, e, *]) (by simp [cp, e, th_th, *]) rfl
        · have hk6 : k < vN v 44 := nI_nge h24 (by omega) (by omega)
          refine V.aload_n hF dX5_bufferedMessage_27 rfl ?_
          refine V.iload_n hF dX5_bufferedMessage_28 rfl ?_
          refine V.iload hF dX5_bufferedMessage_29 rfl ?_
          refine V.vI hF dX5_bufferedMessage_31 (ct_X5_isBuffered hst _ _ _ _ _ hM _ hX p k (by omega) (by omega)) lk_X5_99 sl_X5_isBuffered hM.1.1 hM.1.2 rfl (Nat.le_of_ble_eq_true rfl) (fit_of rfl) (Nat.le_of_ble_eq_true rfl) rfl ?_
          refine V.if_neB (tgt := 40) hF dX5_bufferedMessage_34 (by decide) (fun h34 => ?_) (fun h34 => ?_)
          · refine V.iload_n hF dX5_bufferedMessage_40 rfl ?_
            refine V.iload_n hF dX5_bufferedMessage_41 rfl ?_
            refine V.icmp_ne (tgt := 48) hF dX5_bufferedMessage_42 (by decide) (fun h42 => ?_) (fun h42 => ?_)
            · have h42b : ¬ nI (zcB (zbuf v p) k) = y := by rw [← hc]; exact h42
              refine V.iinc (v := nI (c + 1)) hF dX5_bufferedMessage_48 rfl (by exact nI_1 _) (by decide) ?_
              refine V.iinc (v := nI (k + 1)) hF dX5_bufferedMessage_51 rfl (by exact nI_1 _) (by decide) ?_
              refine V.goto (tgt := 15) hF dX5_bufferedMessage_54 (by decide) ?_
              refine V.relv [0, 1, 2, 3, 4] rfl ?_
              exact ih15 (k + 1) _ (by omega) (by omega) (by simp [zcB, hc, *]) (lt_s ha (by first | (unfold zbmF; rw [decide_eq_false h42b]; simp; done) | simp [zbmF, *]))
            · have h42b : nI (zcB (zbuf v p) k) = y := by rw [← hc]; exact h42
              have hz : zbmF v p y k = true := by unfold zbmF; rw [h34, decide_eq_true h42b]; rfl
              refine V.iload hF dX5_bufferedMessage_45 rfl ?_
              refine V.iret hF dX5_bufferedMessage_47 (Nat.le_refl _) (Nat.le_refl _) ?_
              have e := zfst_at ha hz hk6
              exact pR.e (by simp [cp, e, hk6, *]) (by simp [cp, e, hk6, *]) rfl
          · refine V.goto (tgt := 51) hF dX5_bufferedMessage_37 (by decide) ?_
            refine V.iinc (v := nI (k + 1)) hF dX5_bufferedMessage_51 rfl (by exact nI_1 _) (by decide) ?_
            refine V.goto (tgt := 15) hF dX5_bufferedMessage_54 (by decide) ?_
            refine V.relv [0, 1, 2, 3, 4] rfl ?_
            exact ih15 (k + 1) _ (by omega) (by omega) (by simp [zcB, hc, *]) (lt_s ha (by first | (unfold zbmF; rw [decide_eq_false h42b]; simp; done) | simp [zbmF, *]))
    refine V.relv [0, 1, 2, 3, 4] rfl ?_
    exact L15 _ 0 0 (Nat.lt_succ_self _) (by omega) rfl (fun j h => absurd h (Nat.not_lt_zero _))
  · refine V.iconst (v := nI 0) hF dX5_bufferedMessage_8 (by decide) ?_
    refine V.iret hF dX5_bufferedMessage_9 (Nat.le_refl _) (Nat.le_refl _) ?_
    cases hq : zPr x <;> cases hq2 : zisM v x <;> simp [hq, hq2] at h5 <;> exact pR.e (by simp [Bool.and_true, hq, hq2, n10, n20]) (by simp [Bool.and_true, hq, hq2]) (by simp [Bool.and_true, hq, hq2, n10, n20, up_eta, hX])
set_option maxRecDepth 20000 in
theorem ct_X5_missing (hst : l.stackTraces = false) (σ : SH) (I X : IX) (o : Nat) (ar : Nat → Nat) (hM : MS σ o ar) (f : Rw) (hI : I o = f) (v : Rw) (hX : X (ar 1) = v) (hv : WV v) (x y : Int32) : Ct l D cy sa sv yX5_missing cX5_missing 5 (some .int) 2 0 0 [.ref o, .int x, .int y] σ I X (pR (some (.int (if zaT v x y = nI 0 then nI (zcB (zmis v x.toNatClampNeg y.toNatClampNeg) (vN v 44)) else nI 0))) σ (va_up I o (th f (zaT v x y))) X) noX := by
  refine Ct.of (by decide) hst (Nat.le_of_ble_eq_true rfl) ?_
  intro pp ee ss mm args below meth kc A hF hnm hout
  refine V.etaI o hI ?_
  refine V.aload_n hF dX5_missing_0 rfl ?_
  refine V.iconst (v := nI 0) hF dX5_missing_1 (by decide) ?_
  refine V.putIU hF dX5_missing_2 fl_X5_38 hM.1.1 hM.1.2 rfl rfl rfl ?_
  refine V.iload_n hF dX5_missing_5 rfl ?_
  refine V.sI hF dX5_missing_6 (ct_X5_isProcess hst _ _ _ _) lk_X5_49 (fit_of rfl) (Nat.le_of_ble_eq_true rfl) rfl ?_
  refine V.if_eqB (tgt := 20) hF dX5_missing_9 (by decide) (fun h9 => ?_) (fun h9 => ?_)
  · refine V.aload_n hF dX5_missing_20 rfl ?_
    refine V.iconst (v := nI 1) hF dX5_missing_21 (by decide) ?_
    refine V.vI hF dX5_missing_22 (ct_X5_no hst _ _ _ _ _ hM _ (va_up_self _ _ _) _) lk_X5_59 sl_X5_no hM.1.1 hM.1.2 rfl (Nat.le_of_ble_eq_true rfl) (fit_of rfl) (Nat.le_of_ble_eq_true rfl) rfl ?_
    refine V.collI ?_
    refine V.iret hF dX5_missing_25 (Nat.le_refl _) (Nat.le_refl _) ?_
    exact pR.e (by simp [zaT, n10, n20, *]) (by simp [zaT, th_th, *]) rfl
  · refine V.aload_n hF dX5_missing_12 rfl ?_
    refine V.iload_n hF dX5_missing_13 rfl ?_
    refine V.vI hF dX5_missing_14 (ct_X5_isMessage hst _ _ _ _ _ hM _ hX _) lk_X5_56 sl_X5_isMessage hM.1.1 hM.1.2 rfl (Nat.le_of_ble_eq_true rfl) (fit_of rfl) (Nat.le_of_ble_eq_true rfl) rfl ?_
    refine V.if_neB (tgt := 26) hF dX5_missing_17 (by decide) (fun h17 => ?_) (fun h17 => ?_)
    · obtain ⟨p, hp, e⟩ := zPr_of h9
      subst e
      have cp : (nI p).toNatClampNeg = p := nI_clamp (by omega)
      obtain ⟨m, hmn, hm, e⟩ := zMs_of hv h17
      subst e
      have cm : (nI m).toNatClampNeg = m := nI_clamp (by omega)
      have hn150 := hv.n150
      refine V.aload_n hF dX5_missing_26 rfl ?_
      refine V.iload_n hF dX5_missing_27 rfl ?_
      refine V.vI hF dX5_missing_28 (ct_X5_isMember hst _ _ _ _ _ hM _ hX hv _) lk_X5_53 sl_X5_isMember hM.1.1 hM.1.2 rfl (Nat.le_of_ble_eq_true rfl) (fit_of rfl) (Nat.le_of_ble_eq_true rfl) rfl ?_
      refine V.if_eqB (tgt := 42) hF dX5_missing_31 (by decide) (fun h31 => ?_) (fun h31 => ?_)
      · refine V.aload_n hF dX5_missing_42 rfl ?_
        refine V.iconst (v := nI 2) hF dX5_missing_43 (by decide) ?_
        refine V.vI hF dX5_missing_44 (ct_X5_no hst _ _ _ _ _ hM _ (va_up_self _ _ _) _) lk_X5_59 sl_X5_no hM.1.1 hM.1.2 rfl (Nat.le_of_ble_eq_true rfl) (fit_of rfl) (Nat.le_of_ble_eq_true rfl) rfl ?_
        refine V.collI ?_
        refine V.iret hF dX5_missing_47 (Nat.le_refl _) (Nat.le_refl _) ?_
        exact pR.e (by simp [zaT, n10, n20, *]) (by simp [zaT, th_th, *]) rfl
      · refine V.aload_n hF dX5_missing_34 rfl ?_
        refine V.iload_n hF dX5_missing_35 rfl ?_
        refine V.vI hF dX5_missing_36 (ct_X5_isNow hst _ _ _ _ _ hM _ hX m (by omega)) lk_X5_69 sl_X5_isNow hM.1.1 hM.1.2 rfl (Nat.le_of_ble_eq_true rfl) (fit_of rfl) (Nat.le_of_ble_eq_true rfl) rfl ?_
        refine V.if_neB (tgt := 48) hF dX5_missing_39 (by decide) (fun h39 => ?_) (fun h39 => ?_)
        · have hT : zaT v (nI p) (nI m) = nI 0 := by simp [zaT, *]
          refine V.iconst (v := nI 0) hF dX5_missing_48 (by decide) ?_
          refine V.istore_n hF dX5_missing_49 (by decide) ?_
          refine V.iconst (v := nI 0) hF dX5_missing_50 (by decide) ?_
          refine V.istore hF dX5_missing_51 (by decide) ?_
          have L53 : ∀ (n53 : Nat) (k c : Nat), vN v 44 - k < n53 → k ≤ vN v 44 → c = zcB (zmis v p m) k → V pp l ee (Rm 2 0 0) ss mm args below meth kc D cy A (QM below args ss D cy A (pR (some (.int (if zaT v (nI p) (nI m) = nI 0 then nI (zcB (zmis v (nI p).toNatClampNeg (nI m).toNatClampNeg) (vN v 44)) else nI 0))) σ (va_up I o (th f (zaT v (nI p) (nI m)))) X) noX 0 0) 5 0 0 σ (va_up I o (upd f 0 (nI 0))) X 53 [(0, .ref o), (1, .int (nI p)), (2, .int (nI m)), (3, .int (nI c)), (4, .int (nI k))] [] := by
            intro n53
            induction n53 with
            | zero => intro k c hlt53; exact absurd hlt53 (Nat.not_lt_zero _)
            | succ n53 ih53 =>
              intro k c hlt53 hk hc
              refine V.iload hF dX5_missing_53 rfl ?_
              refine V.aload_n hF dX5_missing_55 rfl ?_
              refine V.getR hF dX5_missing_56 fl_X5_9 hM.1.1 hM.1.2 rfl hM.m1.1 ?_
              refine V.bipush (v := nI 44) hF dX5_missing_59 (by decide) ?_
              refine V.ialoadF (j := 44) hF dX5_missing_61 hM.m1.2.1 hM.m1.2.2.1 rfl (hM.m1.lt (lt_of rfl)) (hM.m1.sm (by decide)) hX ?_
              refine V.topi (y := nI (vN v 44)) hv.n ?_
              refine V.icmp_ge (tgt := 99) hF dX5_missing_62 (by decide) (fun h62 => ?_) (fun h62 => ?_)
              · have hk6 : k = vN v 44 := by have := nI_ge' h62 (by omega) (by omega); omega
                subst hk6
                refine V.iload_n hF dX5_missing_99 rfl ?_
                refine V.iret hF dX5_missing_100 (Nat.le_refl _) (Nat.le_refl _) ?_
                exact pR.e (by rw [if_pos hT, cp, cm, hc]) (by rw [hT]) rfl
              · have hk6 : k < vN v 44 := nI_nge h62 (by omega) (by omega)
                refine V.iload_n hF dX5_missing_65 rfl ?_
                refine V.aload_n hF dX5_missing_66 rfl ?_
                refine V.iload hF dX5_missing_67 rfl ?_
                refine V.iload_n hF dX5_missing_69 rfl ?_
                refine V.vI hF dX5_missing_70 (ct_X5_isCauseOf hst _ _ _ _ _ hM _ hX hv k m (by omega) (by omega)) lk_X5_111 sl_X5_isCauseOf hM.1.1 hM.1.2 rfl (Nat.le_of_ble_eq_true rfl) (fit_of rfl) (Nat.le_of_ble_eq_true rfl) rfl ?_
                refine V.if_eqB (tgt := 90) hF dX5_missing_73 (by decide) (fun h73 => ?_) (fun h73 => ?_)
                · refine V.iconst (v := nI 0) hF dX5_missing_90 (by decide) ?_
                  refine V.iadd hF dX5_missing_91 ?_
                  refine V.topi (y := nI c) (by simp only [nI_add, pk_mul, Nat.zero_add, Nat.add_zero]) ?_
                  refine V.istore_n hF dX5_missing_92 (by decide) ?_
                  refine V.iinc (v := nI (k + 1)) hF dX5_missing_93 rfl (by exact nI_1 _) (by decide) ?_
                  refine V.goto (tgt := 53) hF dX5_missing_96 (by decide) ?_
                  refine V.relv [0, 1, 2, 3, 4] rfl ?_
                  exact ih53 (k + 1) _ (by omega) (by omega) (by simp [zcB, zcon, zmis, zuns, zshF, hc, *])
                · refine V.aload_n hF dX5_missing_76 rfl ?_
                  refine V.iload_n hF dX5_missing_77 rfl ?_
                  refine V.iload hF dX5_missing_78 rfl ?_
                  refine V.vI hF dX5_missing_80 (ct_X5_isLogged hst _ _ _ _ _ hM _ hX p k (by omega) (by omega)) lk_X5_72 sl_X5_isLogged hM.1.1 hM.1.2 rfl (Nat.le_of_ble_eq_true rfl) (fit_of rfl) (Nat.le_of_ble_eq_true rfl) rfl ?_
                  refine V.if_neB (tgt := 90) hF dX5_missing_83 (by decide) (fun h83 => ?_) (fun h83 => ?_)
                  · refine V.iconst (v := nI 0) hF dX5_missing_90 (by decide) ?_
                    refine V.iadd hF dX5_missing_91 ?_
                    refine V.topi (y := nI c) (by simp only [nI_add, pk_mul, Nat.zero_add, Nat.add_zero]) ?_
                    refine V.istore_n hF dX5_missing_92 (by decide) ?_
                    refine V.iinc (v := nI (k + 1)) hF dX5_missing_93 rfl (by exact nI_1 _) (by decide) ?_
                    refine V.goto (tgt := 53) hF dX5_missing_96 (by decide) ?_
                    refine V.relv [0, 1, 2, 3, 4] rfl ?_
                    exact ih53 (k + 1) _ (by omega) (by omega) (by simp [zcB, zcon, zmis, zuns, zshF, hc, *])
                  · refine V.iconst (v := nI 1) hF dX5_missing_86 (by decide) ?_
                    refine V.goto (tgt := 91) hF dX5_missing_87 (by decide) ?_
                    refine V.iadd hF dX5_missing_91 ?_
                    refine V.topi (y := nI (c + 1)) (by simp only [nI_add, pk_mul, Nat.zero_add, Nat.add_zero]) ?_
                    refine V.istore_n hF dX5_missing_92 (by decide) ?_
                    refine V.iinc (v := nI (k + 1)) hF dX5_missing_93 rfl (by exact nI_1 _) (by decide) ?_
                    refine V.goto (tgt := 53) hF dX5_missing_96 (by decide) ?_
                    refine V.relv [0, 1, 2, 3, 4] rfl ?_
                    exact ih53 (k + 1) _ (by omega) (by omega) (by simp [zcB, zcon, zmis, zuns, zshF, hc, *])
          refine V.relv [0, 1, 2, 3, 4] rfl ?_
          exact L53 _ 0 0 (Nat.lt_succ_self _) (by omega) rfl
        · refine V.aload_n hF dX5_missing_42 rfl ?_
          refine V.iconst (v := nI 2) hF dX5_missing_43 (by decide) ?_
          refine V.vI hF dX5_missing_44 (ct_X5_no hst _ _ _ _ _ hM _ (va_up_self _ _ _) _) lk_X5_59 sl_X5_no hM.1.1 hM.1.2 rfl (Nat.le_of_ble_eq_true rfl) (fit_of rfl) (Nat.le_of_ble_eq_true rfl) rfl ?_
          refine V.collI ?_
          refine V.iret hF dX5_missing_47 (Nat.le_refl _) (Nat.le_refl _) ?_
          exact pR.e (by simp [zaT, n10, n20, *]) (by simp [zaT, th_th, *]) rfl
    · refine V.aload_n hF dX5_missing_20 rfl ?_
      refine V.iconst (v := nI 1) hF dX5_missing_21 (by decide) ?_
      refine V.vI hF dX5_missing_22 (ct_X5_no hst _ _ _ _ _ hM _ (va_up_self _ _ _) _) lk_X5_59 sl_X5_no hM.1.1 hM.1.2 rfl (Nat.le_of_ble_eq_true rfl) (fit_of rfl) (Nat.le_of_ble_eq_true rfl) rfl ?_
      refine V.collI ?_
      refine V.iret hF dX5_missing_25 (Nat.le_refl _) (Nat.le_refl _) ?_
      exact pR.e (by simp [zaT, n10, n20, *]) (by simp [zaT, th_th, *]) rfl
set_option maxRecDepth 20000 in
theorem ct_X5_known (hst : l.stackTraces = false) (σ : SH) (I X : IX) (o : Nat) (ar : Nat → Nat) (hM : MS σ o ar) (f : Rw) (hI : I o = f) (v : Rw) (hX : X (ar 1) = v) (hv : WV v) (x y z : Int32) : Ct l D cy sa sv yX5_known cX5_known 4 (some .int) 2 0 0 [.ref o, .int x, .int y, .int z] σ I X (pR (some (.int (if zPr x && zPr y && zPr z && zisM v x then v (4270 + 36 * x.toNatClampNeg + 6 * y.toNatClampNeg + z.toNatClampNeg) else nI 0))) σ (va_up I o (th f (if zPr x && zPr y && zPr z then (if zisM v x then nI 0 else nI 2) else nI 1))) X) noX := by
  refine Ct.of (by decide) hst (Nat.le_of_ble_eq_true rfl) ?_
  intro pp ee ss mm args below meth kc A hF hnm hout
  refine V.etaI o hI ?_
  refine V.aload_n hF dX5_known_0 rfl ?_
  refine V.iconst (v := nI 0) hF dX5_known_1 (by decide) ?_
  refine V.putIU hF dX5_known_2 fl_X5_38 hM.1.1 hM.1.2 rfl rfl rfl ?_
  refine V.iload_n hF dX5_known_5 rfl ?_
  refine V.sI hF dX5_known_6 (ct_X5_isProcess hst _ _ _ _) lk_X5_49 (fit_of rfl) (Nat.le_of_ble_eq_true rfl) rfl ?_
  refine V.if_eqB (tgt := 26) hF dX5_known_9 (by decide) (fun h9 => ?_) (fun h9 => ?_)
  · refine V.aload_n hF dX5_known_26 rfl ?_
    refine V.iconst (v := nI 1) hF dX5_known_27 (by decide) ?_
    refine V.vI hF dX5_known_28 (ct_X5_no hst _ _ _ _ _ hM _ (va_up_self _ _ _) _) lk_X5_59 sl_X5_no hM.1.1 hM.1.2 rfl (Nat.le_of_ble_eq_true rfl) (fit_of rfl) (Nat.le_of_ble_eq_true rfl) rfl ?_
    refine V.collI ?_
    refine V.iret hF dX5_known_31 (Nat.le_refl _) (Nat.le_refl _) ?_
    exact pR.e (by simp [n10, *]) (by simp [n10, th_th, *]) rfl
  · refine V.iload_n hF dX5_known_12 rfl ?_
    refine V.sI hF dX5_known_13 (ct_X5_isProcess hst _ _ _ _) lk_X5_49 (fit_of rfl) (Nat.le_of_ble_eq_true rfl) rfl ?_
    refine V.if_eqB (tgt := 26) hF dX5_known_16 (by decide) (fun h16 => ?_) (fun h16 => ?_)
    · refine V.aload_n hF dX5_known_26 rfl ?_
      refine V.iconst (v := nI 1) hF dX5_known_27 (by decide) ?_
      refine V.vI hF dX5_known_28 (ct_X5_no hst _ _ _ _ _ hM _ (va_up_self _ _ _) _) lk_X5_59 sl_X5_no hM.1.1 hM.1.2 rfl (Nat.le_of_ble_eq_true rfl) (fit_of rfl) (Nat.le_of_ble_eq_true rfl) rfl ?_
      refine V.collI ?_
      refine V.iret hF dX5_known_31 (Nat.le_refl _) (Nat.le_refl _) ?_
      exact pR.e (by simp [n10, *]) (by simp [n10, th_th, *]) rfl
    · refine V.iload_n hF dX5_known_19 rfl ?_
      refine V.sI hF dX5_known_20 (ct_X5_isProcess hst _ _ _ _) lk_X5_49 (fit_of rfl) (Nat.le_of_ble_eq_true rfl) rfl ?_
      refine V.if_neB (tgt := 32) hF dX5_known_23 (by decide) (fun h23 => ?_) (fun h23 => ?_)
      · obtain ⟨p, hp, e⟩ := zPr_of h9
        subst e
        have cp : (nI p).toNatClampNeg = p := nI_clamp (by omega)
        obtain ⟨q, hq, e⟩ := zPr_of h16
        subst e
        have cq : (nI q).toNatClampNeg = q := nI_clamp (by omega)
        obtain ⟨r, hr, e⟩ := zPr_of h23
        subst e
        have cr : (nI r).toNatClampNeg = r := nI_clamp (by omega)
        refine V.aload_n hF dX5_known_32 rfl ?_
        refine V.iload_n hF dX5_known_33 rfl ?_
        refine V.vI hF dX5_known_34 (ct_X5_isMember hst _ _ _ _ _ hM _ hX hv _) lk_X5_53 sl_X5_isMember hM.1.1 hM.1.2 rfl (Nat.le_of_ble_eq_true rfl) (fit_of rfl) (Nat.le_of_ble_eq_true rfl) rfl ?_
        refine V.if_eqB (tgt := 63) hF dX5_known_37 (by decide) (fun h37 => ?_) (fun h37 => ?_)
        · refine V.aload_n hF dX5_known_63 rfl ?_
          refine V.iconst (v := nI 2) hF dX5_known_64 (by decide) ?_
          refine V.vI hF dX5_known_65 (ct_X5_no hst _ _ _ _ _ hM _ (va_up_self _ _ _) _) lk_X5_59 sl_X5_no hM.1.1 hM.1.2 rfl (Nat.le_of_ble_eq_true rfl) (fit_of rfl) (Nat.le_of_ble_eq_true rfl) rfl ?_
          refine V.collI ?_
          refine V.iret hF dX5_known_68 (Nat.le_refl _) (Nat.le_refl _) ?_
          exact pR.e (by simp [n10, *]) (by simp [n10, th_th, *]) rfl
        · refine V.aload_n hF dX5_known_40 rfl ?_
          refine V.getR hF dX5_known_41 fl_X5_9 hM.1.1 hM.1.2 rfl hM.m1.1 ?_
          refine V.sipush (v := nI 4270) hF dX5_known_44 (by decide) ?_
          refine V.bipush (v := nI 36) hF dX5_known_47 (by decide) ?_
          refine V.iload_n hF dX5_known_49 rfl ?_
          refine V.imul hF dX5_known_50 ?_
          refine V.iadd hF dX5_known_51 ?_
          refine V.bipush (v := nI 6) hF dX5_known_52 (by decide) ?_
          refine V.iload_n hF dX5_known_54 rfl ?_
          refine V.imul hF dX5_known_55 ?_
          refine V.iadd hF dX5_known_56 ?_
          refine V.iload_n hF dX5_known_57 rfl ?_
          refine V.iadd hF dX5_known_58 ?_
          refine V.ialoadF (j := (((4270 + (36 * p)) + (6 * q)) + r)) hF dX5_known_59 hM.m1.2.1 hM.m1.2.2.1 (by simp only [nI_add, pk_mul, Nat.zero_add, Nat.add_zero]) (hM.m1.lt (by omega)) (hM.m1.sm (by decide)) hX ?_
          refine V.goto (tgt := 68) hF dX5_known_60 (by decide) ?_
          refine V.iret hF dX5_known_68 (Nat.le_refl _) (Nat.le_refl _) ?_
          exact pR.e (by simp [n10, *]) (by simp [n10, th_th, *]) rfl
      · refine V.aload_n hF dX5_known_26 rfl ?_
        refine V.iconst (v := nI 1) hF dX5_known_27 (by decide) ?_
        refine V.vI hF dX5_known_28 (ct_X5_no hst _ _ _ _ _ hM _ (va_up_self _ _ _) _) lk_X5_59 sl_X5_no hM.1.1 hM.1.2 rfl (Nat.le_of_ble_eq_true rfl) (fit_of rfl) (Nat.le_of_ble_eq_true rfl) rfl ?_
        refine V.collI ?_
        refine V.iret hF dX5_known_31 (Nat.le_refl _) (Nat.le_refl _) ?_
        exact pR.e (by simp [n10, *]) (by simp [n10, th_th, *]) rfl
set_option maxRecDepth 20000 in
theorem ct_X5_isStable (hst : l.stackTraces = false) (σ : SH) (I X : IX) (o : Nat) (ar : Nat → Nat) (hM : MS σ o ar) (f : Rw) (hI : I o = f) (v : Rw) (hX : X (ar 1) = v) (hv : WV v) (x y : Int32) : Ct l D cy sa sv yX5_isStable cX5_isStable 3 (some .boolean) 3 0 0 [.ref o, .int x, .int y] σ I X (pR (some (.int (bI (decide ((if zPr x && zMs v y then (if zisM v x then (if zlog v x.toNatClampNeg y.toNatClampNeg then nI 0 else nI 3) else nI 2) else nI 1) = nI 0) && zsafe v x.toNatClampNeg y.toNatClampNeg)))) σ (va_up I o (th f (if zPr x && zMs v y then (if zisM v x then (if zlog v x.toNatClampNeg y.toNatClampNeg then nI 0 else nI 3) else nI 2) else nI 1))) X) noX := by
  refine Ct.of (by decide) hst (Nat.le_of_ble_eq_true rfl) ?_
  intro pp ee ss mm args below meth kc A hF hnm hout
  refine V.etaI o hI ?_
  refine V.aload_n hF dX5_isStable_0 rfl ?_
  refine V.iload_n hF dX5_isStable_1 rfl ?_
  refine V.sI hF dX5_isStable_2 (ct_X5_isProcess hst _ _ _ _) lk_X5_49 (fit_of rfl) (Nat.le_of_ble_eq_true rfl) rfl ?_
  refine V.if_eqB (tgt := 16) hF dX5_isStable_5 (by decide) (fun h5 => ?_) (fun h5 => ?_)
  · refine V.iconst (v := nI 1) hF dX5_isStable_16 (by decide) ?_
    refine V.goto (tgt := 46) hF dX5_isStable_17 (by decide) ?_
    refine V.putIU hF dX5_isStable_46 fl_X5_38 hM.1.1 hM.1.2 rfl rfl rfl ?_
    refine V.aload_n hF dX5_isStable_49 rfl ?_
    refine V.getIF hF dX5_isStable_50 fl_X5_38 hM.1.1 hM.1.2 rfl (va_up_self _ _ _) ?_
    refine V.topi (y := nI 1) (by simp [upd]) ?_
    refine V.if_ne (tgt := 69) hF dX5_isStable_53 (by decide) (fun h53 => ?_) (fun h53 => ?_)
    · refine V.iconst (v := nI 0) hF dX5_isStable_69 (by decide) ?_
      refine V.zret hF dX5_isStable_70 (Or.inl rfl) (Nat.le_refl _) (Nat.le_refl _) ?_
      exact pR.e (by simp [bI, i0, i1, n10, n20, n30, *]) (by simp [th, *]) rfl
    · exact absurd h53 (by decide)
  · refine V.aload_n hF dX5_isStable_8 rfl ?_
    refine V.iload_n hF dX5_isStable_9 rfl ?_
    refine V.vI hF dX5_isStable_10 (ct_X5_isMessage hst _ _ _ _ _ hM _ hX _) lk_X5_56 sl_X5_isMessage hM.1.1 hM.1.2 rfl (Nat.le_of_ble_eq_true rfl) (fit_of rfl) (Nat.le_of_ble_eq_true rfl) rfl ?_
    refine V.if_neB (tgt := 20) hF dX5_isStable_13 (by decide) (fun h13 => ?_) (fun h13 => ?_)
    · obtain ⟨p, hp, e⟩ := zPr_of h5
      subst e
      have cp : (nI p).toNatClampNeg = p := nI_clamp (by omega)
      obtain ⟨m, hmn, hm, e⟩ := zMs_of hv h13
      subst e
      have cm : (nI m).toNatClampNeg = m := nI_clamp (by omega)
      refine V.aload_n hF dX5_isStable_20 rfl ?_
      refine V.iload_n hF dX5_isStable_21 rfl ?_
      refine V.vI hF dX5_isStable_22 (ct_X5_isMember hst _ _ _ _ _ hM _ hX hv _) lk_X5_53 sl_X5_isMember hM.1.1 hM.1.2 rfl (Nat.le_of_ble_eq_true rfl) (fit_of rfl) (Nat.le_of_ble_eq_true rfl) rfl ?_
      refine V.if_neB (tgt := 32) hF dX5_isStable_25 (by decide) (fun h25 => ?_) (fun h25 => ?_)
      · refine V.aload_n hF dX5_isStable_32 rfl ?_
        refine V.iload_n hF dX5_isStable_33 rfl ?_
        refine V.iload_n hF dX5_isStable_34 rfl ?_
        refine V.vI hF dX5_isStable_35 (ct_X5_isLogged hst _ _ _ _ _ hM _ hX p m (by omega) (by omega)) lk_X5_72 sl_X5_isLogged hM.1.1 hM.1.2 rfl (Nat.le_of_ble_eq_true rfl) (fit_of rfl) (Nat.le_of_ble_eq_true rfl) rfl ?_
        refine V.if_neB (tgt := 45) hF dX5_isStable_38 (by decide) (fun h38 => ?_) (fun h38 => ?_)
        · refine V.iconst (v := nI 0) hF dX5_isStable_45 (by decide) ?_
          refine V.putIU hF dX5_isStable_46 fl_X5_38 hM.1.1 hM.1.2 rfl rfl rfl ?_
          refine V.aload_n hF dX5_isStable_49 rfl ?_
          refine V.getIF hF dX5_isStable_50 fl_X5_38 hM.1.1 hM.1.2 rfl (va_up_self _ _ _) ?_
          refine V.topi (y := nI 0) (by simp [upd]) ?_
          refine V.if_ne (tgt := 69) hF dX5_isStable_53 (by decide) (fun h53 => ?_) (fun h53 => ?_)
          · exact (h53 (by decide)).elim
          · refine V.aload_n hF dX5_isStable_56 rfl ?_
            refine V.iload_n hF dX5_isStable_57 rfl ?_
            refine V.iload_n hF dX5_isStable_58 rfl ?_
            refine V.vI hF dX5_isStable_59 (ct_X5_isSafe hst _ _ _ _ _ hM _ hX hv p m (by omega) (by omega)) lk_X5_117 sl_X5_isSafe hM.1.1 hM.1.2 rfl (Nat.le_of_ble_eq_true rfl) (fit_of rfl) (Nat.le_of_ble_eq_true rfl) rfl ?_
            refine V.if_eqB (tgt := 69) hF dX5_isStable_62 (by decide) (fun h62 => ?_) (fun h62 => ?_)
            · refine V.iconst (v := nI 0) hF dX5_isStable_69 (by decide) ?_
              refine V.zret hF dX5_isStable_70 (Or.inl rfl) (Nat.le_refl _) (Nat.le_refl _) ?_
              exact pR.e (by simp [bI, i0, i1, n10, n20, n30, *]) (by simp [th, *]) rfl
            · refine V.iconst (v := nI 1) hF dX5_isStable_65 (by decide) ?_
              refine V.goto (tgt := 70) hF dX5_isStable_66 (by decide) ?_
              refine V.zret hF dX5_isStable_70 (Or.inr rfl) (Nat.le_refl _) (Nat.le_refl _) ?_
              exact pR.e (by simp [bI, i0, i1, n10, n20, n30, *]) (by simp [th, *]) rfl
        · refine V.iconst (v := nI 3) hF dX5_isStable_41 (by decide) ?_
          refine V.goto (tgt := 46) hF dX5_isStable_42 (by decide) ?_
          refine V.putIU hF dX5_isStable_46 fl_X5_38 hM.1.1 hM.1.2 rfl rfl rfl ?_
          refine V.aload_n hF dX5_isStable_49 rfl ?_
          refine V.getIF hF dX5_isStable_50 fl_X5_38 hM.1.1 hM.1.2 rfl (va_up_self _ _ _) ?_
          refine V.topi (y := nI 3) (by simp [upd]) ?_
          refine V.if_ne (tgt := 69) hF dX5_isStable_53 (by decide) (fun h53 => ?_) (fun h53 => ?_)
          · refine V.iconst (v := nI 0) hF dX5_isStable_69 (by decide) ?_
            refine V.zret hF dX5_isStable_70 (Or.inl rfl) (Nat.le_refl _) (Nat.le_refl _) ?_
            exact pR.e (by simp [bI, i0, i1, n10, n20, n30, *]) (by simp [th, *]) rfl
          · exact absurd h53 (by decide)
      · refine V.iconst (v := nI 2) hF dX5_isStable_28 (by decide) ?_
        refine V.goto (tgt := 46) hF dX5_isStable_29 (by decide) ?_
        refine V.putIU hF dX5_isStable_46 fl_X5_38 hM.1.1 hM.1.2 rfl rfl rfl ?_
        refine V.aload_n hF dX5_isStable_49 rfl ?_
        refine V.getIF hF dX5_isStable_50 fl_X5_38 hM.1.1 hM.1.2 rfl (va_up_self _ _ _) ?_
        refine V.topi (y := nI 2) (by simp [upd]) ?_
        refine V.if_ne (tgt := 69) hF dX5_isStable_53 (by decide) (fun h53 => ?_) (fun h53 => ?_)
        · refine V.iconst (v := nI 0) hF dX5_isStable_69 (by decide) ?_
          refine V.zret hF dX5_isStable_70 (Or.inl rfl) (Nat.le_refl _) (Nat.le_refl _) ?_
          exact pR.e (by simp [bI, i0, i1, n10, n20, n30, *]) (by simp [th, *]) rfl
        · exact absurd h53 (by decide)
    · refine V.iconst (v := nI 1) hF dX5_isStable_16 (by decide) ?_
      refine V.goto (tgt := 46) hF dX5_isStable_17 (by decide) ?_
      refine V.putIU hF dX5_isStable_46 fl_X5_38 hM.1.1 hM.1.2 rfl rfl rfl ?_
      refine V.aload_n hF dX5_isStable_49 rfl ?_
      refine V.getIF hF dX5_isStable_50 fl_X5_38 hM.1.1 hM.1.2 rfl (va_up_self _ _ _) ?_
      refine V.topi (y := nI 1) (by simp [upd]) ?_
      refine V.if_ne (tgt := 69) hF dX5_isStable_53 (by decide) (fun h53 => ?_) (fun h53 => ?_)
      · refine V.iconst (v := nI 0) hF dX5_isStable_69 (by decide) ?_
        refine V.zret hF dX5_isStable_70 (Or.inl rfl) (Nat.le_refl _) (Nat.le_refl _) ?_
        exact pR.e (by simp [bI, i0, i1, n10, n20, n30, *]) (by simp [th, *]) rfl
      · exact absurd h53 (by decide)
set_option maxRecDepth 20000 in
theorem ct_X5_isEverywhere (hst : l.stackTraces = false) (σ : SH) (I X : IX) (o : Nat) (ar : Nat → Nat) (hM : MS σ o ar) (f : Rw) (hI : I o = f) (v : Rw) (hX : X (ar 1) = v) (hv : WV v) (x : Int32) : Ct l D cy sa sv yX5_isEverywhere cX5_isEverywhere 2 (some .boolean) 3 0 0 [.ref o, .int x] σ I X (pR (some (.int (bI (zMs v x && zwith v x.toNatClampNeg)))) σ (va_up I o (th f (if zMs v x then nI 0 else nI 1))) X) noX := by
  refine Ct.of (by decide) hst (Nat.le_of_ble_eq_true rfl) ?_
  intro pp ee ss mm args below meth kc A hF hnm hout
  refine V.etaI o hI ?_
  refine V.aload_n hF dX5_isEverywhere_0 rfl ?_
  refine V.iload_n hF dX5_isEverywhere_1 rfl ?_
  refine V.vI hF dX5_isEverywhere_2 (ct_X5_isSent hst _ _ _ _ _ hM _ (va_up_self _ _ _) _ hX _) lk_X5_108 sl_X5_isSent hM.1.1 hM.1.2 rfl (Nat.le_of_ble_eq_true rfl) (fit_of rfl) (Nat.le_of_ble_eq_true rfl) rfl ?_
  refine V.collI ?_
  refine V.if_eqB (tgt := 20) hF dX5_isEverywhere_5 (by decide) (fun h5 => ?_) (fun h5 => ?_)
  · refine V.iconst (v := nI 0) hF dX5_isEverywhere_20 (by decide) ?_
    refine V.zret hF dX5_isEverywhere_21 (Or.inl rfl) (Nat.le_refl _) (Nat.le_refl _) ?_
    exact pR.e (by simp [bI, i0, i1, *]) (by simp [*]) rfl
  · obtain ⟨m, hmn, hm, e⟩ := zMs_of hv h5
    subst e
    have cm : (nI m).toNatClampNeg = m := nI_clamp (by omega)
    have hn150 := hv.n150
    refine V.eqI (I' := va_up I o (th f (nI 0))) (by rw [if_pos h5]) ?_
    refine V.aload_n hF dX5_isEverywhere_8 rfl ?_
    refine V.iload_n hF dX5_isEverywhere_9 rfl ?_
    refine V.vI hF dX5_isEverywhere_10 (ct_X5_isWithAll hst _ _ _ _ _ hM _ hX hv m (by omega)) lk_X5_120 sl_X5_isWithAll hM.1.1 hM.1.2 rfl (Nat.le_of_ble_eq_true rfl) (fit_of rfl) (Nat.le_of_ble_eq_true rfl) rfl ?_
    refine V.if_eqB (tgt := 20) hF dX5_isEverywhere_13 (by decide) (fun h13 => ?_) (fun h13 => ?_)
    · refine V.iconst (v := nI 0) hF dX5_isEverywhere_20 (by decide) ?_
      refine V.zret hF dX5_isEverywhere_21 (Or.inl rfl) (Nat.le_refl _) (Nat.le_refl _) ?_
      exact pR.e (by simp [bI, i0, i1, *]) (by simp [*]) rfl
    · refine V.iconst (v := nI 1) hF dX5_isEverywhere_16 (by decide) ?_
      refine V.goto (tgt := 21) hF dX5_isEverywhere_17 (by decide) ?_
      refine V.zret hF dX5_isEverywhere_21 (Or.inr rfl) (Nat.le_refl _) (Nat.le_refl _) ?_
      exact pR.e (by simp [bI, i0, i1, *]) (by simp [*]) rfl
set_option maxRecDepth 20000 in
theorem ct_X5_firstUnaware (hst : l.stackTraces = false) (σ : SH) (I X : IX) (o : Nat) (ar : Nat → Nat) (hM : MS σ o ar) (f : Rw) (hI : I o = f) (v : Rw) (hX : X (ar 1) = v) (hv : WV v) (x : Int32) : Ct l D cy sa sv yX5_firstUnaware cX5_firstUnaware 3 (some .int) 3 0 0 [.ref o, .int x] σ I X (pR (some (.int (if zMs v x && zwith v x.toNatClampNeg then (if zfst (zfuF v x.toNatClampNeg) 6 < 6 then nI (zfst (zfuF v x.toNatClampNeg) 6) else nI 0) else nI 0))) σ (va_up I o (th f (if zMs v x then (if zwith v x.toNatClampNeg && decide (zfst (zfuF v x.toNatClampNeg) 6 < 6) then nI 0 else nI 2) else nI 1))) X) noX := by
  refine Ct.of (by decide) hst (Nat.le_of_ble_eq_true rfl) ?_
  intro pp ee ss mm args below meth kc A hF hnm hout
  refine V.etaI o hI ?_
  refine V.aload_n hF dX5_firstUnaware_0 rfl ?_
  refine V.iload_n hF dX5_firstUnaware_1 rfl ?_
  refine V.vI hF dX5_firstUnaware_2 (ct_X5_isSent hst _ _ _ _ _ hM _ (va_up_self _ _ _) _ hX _) lk_X5_108 sl_X5_isSent hM.1.1 hM.1.2 rfl (Nat.le_of_ble_eq_true rfl) (fit_of rfl) (Nat.le_of_ble_eq_true rfl) rfl ?_
  refine V.collI ?_
  refine V.if_neB (tgt := 10) hF dX5_firstUnaware_5 (by decide) (fun h5 => ?_) (fun h5 => ?_)
  · obtain ⟨m, hmn, hm, e⟩ := zMs_of hv h5
    subst e
    have cm : (nI m).toNatClampNeg = m := nI_clamp (by omega)
    have hn150 := hv.n150
    refine V.eqI (I' := va_up I o (th f (nI 0))) (by rw [if_pos h5]) ?_
    refine V.iconst (v := nI 0) hF dX5_firstUnaware_10 (by decide) ?_
    refine V.istore_n hF dX5_firstUnaware_11 (by decide) ?_
    have L12 : ∀ (n12 : Nat) (p : Nat), 6 - p < n12 → p ≤ 6 → (∀ j, j < p → zfuF v m j = false) → V pp l ee (Rm 3 0 0) ss mm args below meth kc D cy A (QM below args ss D cy A (pR (some (.int (if zMs v (nI m) && zwith v (nI m).toNatClampNeg then (if zfst (zfuF v (nI m).toNatClampNeg) 6 < 6 then nI (zfst (zfuF v (nI m).toNatClampNeg) 6) else nI 0) else nI 0))) σ (va_up I o (th f (if zMs v (nI m) then (if zwith v (nI m).toNatClampNeg && decide (zfst (zfuF v (nI m).toNatClampNeg) 6 < 6) then nI 0 else nI 2) else nI 1))) X) noX 0 0) 3 0 0 σ (va_up I o (th f (nI 0))) X 12 [(0, .ref o), (1, .int (nI m)), (2, .int (nI p))] [] := by
      intro n12
      induction n12 with
      | zero => intro p hlt12; exact absurd hlt12 (Nat.not_lt_zero _)
      | succ n12 ih12 =>
        intro p hlt12 hp ha
        refine V.iload_n hF dX5_firstUnaware_12 rfl ?_
        refine V.bipush (v := nI 6) hF dX5_firstUnaware_13 (by decide) ?_
        refine V.icmp_ge (tgt := 51) hF dX5_firstUnaware_15 (by decide) (fun h15 => ?_) (fun h15 => ?_)
        · have hp6 : p = 6 := by have := nI_ge' h15 (by omega) (by omega); omega
          subst hp6
          refine V.aload_n hF dX5_firstUnaware_51 rfl ?_
          refine V.iconst (v := nI 2) hF dX5_firstUnaware_52 (by decide) ?_
          refine V.vI hF dX5_firstUnaware_53 (ct_X5_no hst _ _ _ _ _ hM _ (va_up_self _ _ _) _) lk_X5_59 sl_X5_no hM.1.1 hM.1.2 rfl (Nat.le_of_ble_eq_true rfl) (fit_of rfl) (Nat.le_of_ble_eq_true rfl) rfl ?_
          refine V.collI ?_
          refine V.iret hF dX5_firstUnaware_56 (Nat.le_refl _) (Nat.le_refl _) ?_
          exact pR.e (by first | (have e := zfst_no ha; simp [cm, e, *]; done) | simp [cm, *]) (by first | (have e := zfst_no ha; simp [cm, e, th_th, *]; done) | simp [cm, th_th, *]) rfl
        · have hp6 : p < 6 := nI_nge h15 (by omega) (by omega)
          refine V.aload_n hF dX5_firstUnaware_18 rfl ?_
          refine V.iload_n hF dX5_firstUnaware_19 rfl ?_
          refine V.vI hF dX5_firstUnaware_20 (ct_X5_isWithAll hst _ _ _ _ _ hM _ hX hv m (by omega)) lk_X5_120 sl_X5_isWithAll hM.1.1 hM.1.2 rfl (Nat.le_of_ble_eq_true rfl) (fit_of rfl) (Nat.le_of_ble_eq_true rfl) rfl ?_
          refine V.if_eqB (tgt := 51) hF dX5_firstUnaware_23 (by decide) (fun h23 => ?_) (fun h23 => ?_)
          · refine V.aload_n hF dX5_firstUnaware_51 rfl ?_
            refine V.iconst (v := nI 2) hF dX5_firstUnaware_52 (by decide) ?_
            refine V.vI hF dX5_firstUnaware_53 (ct_X5_no hst _ _ _ _ _ hM _ (va_up_self _ _ _) _) lk_X5_59 sl_X5_no hM.1.1 hM.1.2 rfl (Nat.le_of_ble_eq_true rfl) (fit_of rfl) (Nat.le_of_ble_eq_true rfl) rfl ?_
            refine V.collI ?_
            refine V.iret hF dX5_firstUnaware_56 (Nat.le_refl _) (Nat.le_refl _) ?_
            exact pR.e (by first | (have e := zfst_no ha; simp [cm, e, *]; done) | simp [cm, *]) (by first | (have e := zfst_no ha; simp [cm, e, th_th, *]; done) | simp [cm, th_th, *]) rfl
          · refine V.aload_n hF dX5_firstUnaware_26 rfl ?_
            refine V.iload_n hF dX5_firstUnaware_27 rfl ?_
            refine V.vI hF dX5_firstUnaware_28 (ct_X5_isMember hst _ _ _ _ _ hM _ hX hv _) lk_X5_53 sl_X5_isMember hM.1.1 hM.1.2 rfl (Nat.le_of_ble_eq_true rfl) (fit_of rfl) (Nat.le_of_ble_eq_true rfl) rfl ?_
            refine V.if_eqB (tgt := 45) hF dX5_firstUnaware_31 (by decide) (fun h31 => ?_) (fun h31 => ?_)
            · refine V.iinc (v := nI (p + 1)) hF dX5_firstUnaware_45 rfl (by exact nI_1 _) (by decide) ?_
              refine V.goto (tgt := 12) hF dX5_firstUnaware_48 (by decide) ?_
              refine V.relv [0, 1, 2] rfl ?_
              exact ih12 (p + 1) (by omega) (by omega) (lt_s ha (by simp [zfuF, *]))
            · refine V.aload_n hF dX5_firstUnaware_34 rfl ?_
              refine V.iload_n hF dX5_firstUnaware_35 rfl ?_
              refine V.iload_n hF dX5_firstUnaware_36 rfl ?_
              refine V.vI hF dX5_firstUnaware_37 (ct_X5_isSafe hst _ _ _ _ _ hM _ hX hv p m (by omega) (by omega)) lk_X5_117 sl_X5_isSafe hM.1.1 hM.1.2 rfl (Nat.le_of_ble_eq_true rfl) (fit_of rfl) (Nat.le_of_ble_eq_true rfl) rfl ?_
              refine V.if_neB (tgt := 45) hF dX5_firstUnaware_40 (by decide) (fun h40 => ?_) (fun h40 => ?_)
              · refine V.iinc (v := nI (p + 1)) hF dX5_firstUnaware_45 rfl (by exact nI_1 _) (by decide) ?_
                refine V.goto (tgt := 12) hF dX5_firstUnaware_48 (by decide) ?_
                refine V.relv [0, 1, 2] rfl ?_
                exact ih12 (p + 1) (by omega) (by omega) (lt_s ha (by simp [zfuF, *]))
              · have hz : zfuF v m p = true := by simp [zfuF, *]
                refine V.iload_n hF dX5_firstUnaware_43 rfl ?_
                refine V.iret hF dX5_firstUnaware_44 (Nat.le_refl _) (Nat.le_refl _) ?_
                have e := zfst_at ha hz hp6
                exact pR.e (by simp [cm, e, hp6, *]) (by simp [cm, e, hp6, *]) rfl
    refine V.relv [0, 1, 2] rfl ?_
    exact L12 _ 0 (Nat.lt_succ_self _) (by omega) (fun j h => absurd h (Nat.not_lt_zero _))
  · refine V.iconst (v := nI 0) hF dX5_firstUnaware_8 (by decide) ?_
    refine V.iret hF dX5_firstUnaware_9 (Nat.le_refl _) (Nat.le_refl _) ?_
    exact pR.e (by simp [n10, *]) (by simp [n10, th_th, *]) rfl
end MD
