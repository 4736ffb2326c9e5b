theorem n10 : (nI 1 = nI 0) = False := by decide
theorem n20 : (nI 2 = nI 0) = False := by decide
theorem n30 : (nI 3 = nI 0) = False := by decide
theorem m10 : (1 : Int32) ≠ 0 := by decide

section MD
variable {l : Launch} {D : va_G} {cy sa sv : Nat → Nat}
set_option maxRecDepth 20000 in
theorem ct_X5_broadcast (hst : l.stackTraces = false) (σ : SH) (I X : IX) (o : Nat) (ar : Nat → Nat) (hM : MS σ o ar) (f : Rw) (hI : I o = f) (v : Rw) (hX : X (ar 1) = v) (hv : WV v) (x y : Int32) : Ct l D cy sa sv yX5_broadcast cX5_broadcast 5 (some .int) 3 0 0 [.ref o, .int x, .int y] σ I X (pR (some (.int (if zbT v x = nI 0 then v 44 else nI 0))) σ (va_up I o (th f (zbT v x))) (va_up X (ar 1) (if zbT v x = nI 0 then zbV v x.toNatClampNeg y else v))) noX := by
  refine Ct.of (by decide) hst (Nat.le_of_ble_eq_true rfl) ?_
  intro pp ee ss mm args below meth kc A hF hnm hout
  refine V.etaI o hI ?_
  refine V.etaX (ar 1) hX ?_
  refine V.aload_n hF dX5_broadcast_0 rfl ?_
  refine V.iload_n hF dX5_broadcast_1 rfl ?_
  refine V.vI hF dX5_broadcast_2 (ct_X5_isInView hst _ _ _ _ _ hM _ (va_up_self _ _ _) _ (va_up_self _ _ _) hv _) lk_X5_96 sl_X5_isInView hM.1.1 hM.1.2 rfl (Nat.le_of_ble_eq_true rfl) (fit_of rfl) (Nat.le_of_ble_eq_true rfl) rfl ?_
  refine V.collI ?_
  refine V.if_neB (tgt := 10) hF dX5_broadcast_5 (by decide) (fun h5 => ?_) (fun h5 => ?_)
  · obtain ⟨hp1, hm1⟩ := (Bool.and_eq_true _ _).mp h5
    obtain ⟨p, hp, e⟩ := zPr_of hp1
    subst e
    have cp : (nI p).toNatClampNeg = p := nI_clamp (by omega)
    refine V.aload_n hF dX5_broadcast_10 rfl ?_
    refine V.getR hF dX5_broadcast_11 fl_X5_9 hM.1.1 hM.1.2 rfl hM.m1.1 ?_
    refine V.bipush (v := nI 44) hF dX5_broadcast_14 (by decide) ?_
    refine V.ialoadF (j := 44) hF dX5_broadcast_16 hM.m1.2.1 hM.m1.2.2.1 rfl (hM.m1.lt (lt_of rfl)) (hM.m1.sm (by decide)) (va_up_self _ _ _) ?_
    refine V.sipush (v := nI 150) hF dX5_broadcast_17 (by decide) ?_
    refine V.icmp_ne (tgt := 29) hF dX5_broadcast_20 (by decide) (fun h20 => ?_) (fun h20 => ?_)
    · have hn : vN v 44 < 150 := by
        have h1 := hv.n150
        have h2 : vN v 44 ≠ 150 := fun q => h20 (by rw [hv.n, q])
        omega
      have hT : zbT v (nI p) = nI 0 := by simp [zbT, hp1, hm1, h20]
      refine V.aload_n hF dX5_broadcast_29 rfl ?_
      refine V.getR hF dX5_broadcast_30 fl_X5_9 hM.1.1 hM.1.2 rfl hM.m1.1 ?_
      refine V.bipush (v := nI 44) hF dX5_broadcast_33 (by decide) ?_
      refine V.ialoadF (j := 44) hF dX5_broadcast_35 hM.m1.2.1 hM.m1.2.2.1 rfl (hM.m1.lt (lt_of rfl)) (hM.m1.sm (by decide)) (va_up_self _ _ _) ?_
      refine V.topi (y := nI (vN v 44)) hv.n ?_
      refine V.istore_n hF dX5_broadcast_36 (by decide) ?_
      refine V.aload_n hF dX5_broadcast_37 rfl ?_
      refine V.getR hF dX5_broadcast_38 fl_X5_9 hM.1.1 hM.1.2 rfl hM.m1.1 ?_
      refine V.bipush (v := nI 44) hF dX5_broadcast_41 (by decide) ?_
      refine V.dup2 hF dX5_broadcast_43 rfl rfl ?_
      refine V.ialoadF (j := 44) hF dX5_broadcast_44 hM.m1.2.1 hM.m1.2.2.1 rfl (hM.m1.lt (lt_of rfl)) (hM.m1.sm (by decide)) (va_up_self _ _ _) ?_
      refine V.iconst (v := nI 1) hF dX5_broadcast_45 (by decide) ?_
      refine V.iadd hF dX5_broadcast_46 ?_
      refine V.iastoreU (j := 44) hF dX5_broadcast_47 hM.m1.2.1 hM.m1.2.2.1 rfl (hM.m1.lt (lt_of rfl)) (hM.m1.sm (by decide)) ?_
      refine V.aload_n hF dX5_broadcast_48 rfl ?_
      refine V.getR hF dX5_broadcast_49 fl_X5_9 hM.1.1 hM.1.2 rfl hM.m1.1 ?_
      refine V.bipush (v := nI 50) hF dX5_broadcast_52 (by decide) ?_
      refine V.iload_n hF dX5_broadcast_54 rfl ?_
      refine V.iadd hF dX5_broadcast_55 ?_
      refine V.iload_n hF dX5_broadcast_56 rfl ?_
      refine V.iastoreU (j := (50 + (vN v 44))) hF dX5_broadcast_57 hM.m1.2.1 hM.m1.2.2.1 (by simp only [nI_add, pk_mul, Nat.zero_add, Nat.add_zero]) (hM.m1.lt (by omega)) (hM.m1.sm (by decide)) ?_
      refine V.aload_n hF dX5_broadcast_58 rfl ?_
      refine V.getR hF dX5_broadcast_59 fl_X5_9 hM.1.1 hM.1.2 rfl hM.m1.1 ?_
      refine V.sipush (v := nI 200) hF dX5_broadcast_62 (by decide) ?_
      refine V.iload_n hF dX5_broadcast_65 rfl ?_
      refine V.iadd hF dX5_broadcast_66 ?_
      refine V.iload_n hF dX5_broadcast_67 rfl ?_
      refine V.iastoreU (j := (200 + (vN v 44))) hF dX5_broadcast_68 hM.m1.2.1 hM.m1.2.2.1 (by simp only [nI_add, pk_mul, Nat.zero_add, Nat.add_zero]) (hM.m1.lt (by omega)) (hM.m1.sm (by decide)) ?_
      refine V.aload_n hF dX5_broadcast_69 rfl ?_
      refine V.getR hF dX5_broadcast_70 fl_X5_9 hM.1.1 hM.1.2 rfl hM.m1.1 ?_
      refine V.sipush (v := nI 350) hF dX5_broadcast_73 (by decide) ?_
      refine V.iload_n hF dX5_broadcast_76 rfl ?_
      refine V.iadd hF dX5_broadcast_77 ?_
      refine V.aload_n hF dX5_broadcast_78 rfl ?_
      refine V.getR hF dX5_broadcast_79 fl_X5_9 hM.1.1 hM.1.2 rfl hM.m1.1 ?_
      refine V.bipush (v := nI 42) hF dX5_broadcast_82 (by decide) ?_
      refine V.ialoadF (j := 42) hF dX5_broadcast_84 hM.m1.2.1 hM.m1.2.2.1 rfl (hM.m1.lt (lt_of rfl)) (hM.m1.sm (by decide)) (va_up_self _ _ _) ?_
      refine V.iastoreU (j := (350 + (vN v 44))) hF dX5_broadcast_85 hM.m1.2.1 hM.m1.2.2.1 (by simp only [nI_add, pk_mul, Nat.zero_add, Nat.add_zero]) (hM.m1.lt (by omega)) (hM.m1.sm (by decide)) ?_
      refine V.aload_n hF dX5_broadcast_86 rfl ?_
      refine V.getR hF dX5_broadcast_87 fl_X5_9 hM.1.1 hM.1.2 rfl hM.m1.1 ?_
      refine V.sipush (v := nI 500) hF dX5_broadcast_90 (by decide) ?_
      refine V.iload_n hF dX5_broadcast_93 rfl ?_
      refine V.iadd hF dX5_broadcast_94 ?_
      refine V.aload_n hF dX5_broadcast_95 rfl ?_
      refine V.iload_n hF dX5_broadcast_96 rfl ?_
      refine V.iload_n hF dX5_broadcast_97 rfl ?_
      refine V.vI hF dX5_broadcast_98 (ct_X5_clockOf hst _ _ _ _ _ hM _ (va_up_self _ _ _) p p (by omega) (by omega)) lk_X5_76 sl_X5_clockOf hM.1.1 hM.1.2 rfl (Nat.le_of_ble_eq_true rfl) (fit_of rfl) (Nat.le_of_ble_eq_true rfl) rfl ?_
      refine V.iconst (v := nI 1) hF dX5_broadcast_101 (by decide) ?_
      refine V.iadd hF dX5_broadcast_102 ?_
      refine V.iastoreU (j := (500 + (vN v 44))) hF dX5_broadcast_103 hM.m1.2.1 hM.m1.2.2.1 (by simp only [nI_add, pk_mul, Nat.zero_add, Nat.add_zero]) (hM.m1.lt (by omega)) (hM.m1.sm (by decide)) ?_
      refine V.aload_n hF dX5_broadcast_104 rfl ?_
      refine V.iload_n hF dX5_broadcast_105 rfl ?_
      refine V.iload_n hF dX5_broadcast_106 rfl ?_
      refine V.vV hF dX5_broadcast_107 (ct_X5_delivers hst _ _ _ _ _ hM _ (va_up_self _ _ _) (zb4_wv hv hp y hn).1 p (vN v 44) (by omega) (by omega)) lk_X5_90 sl_X5_delivers hM.1.1 hM.1.2 rfl (Nat.le_of_ble_eq_true rfl) (fit_of rfl) (Nat.le_of_ble_eq_true rfl) rfl ?_
      refine V.collX ?_
      refine V.iconst (v := nI 0) hF dX5_broadcast_110 (by decide) ?_
      refine V.istore hF dX5_broadcast_111 (by decide) ?_
      have L113 : ∀ (n113 : Nat) (q : Nat), 6 - q < n113 → q ≤ 6 → V pp l ee (Rm 3 0 0) ss mm args below meth kc D cy A (QM below args ss D cy A (pR (some (.int (if zbT v (nI p) = nI 0 then v 44 else nI 0))) σ (va_up I o (th f (zbT v (nI p)))) (va_up X (ar 1) (if zbT v (nI p) = nI 0 then zbV v (nI p).toNatClampNeg y else v))) noX 0 0) 5 0 0 σ (va_up I o (th f (if zPr (nI p) = true then if zisM v (nI p) = true then nI 0 else nI 2 else nI 1))) (va_up X (ar 1) (zbL p (vN v 44) (zdeliv (zb4 v p y) p (vN v 44)) q)) 113 [(0, .ref o), (1, .int (nI p)), (3, .int (nI (vN v 44))), (4, .int (nI q))] [] := by
        intro n113
        induction n113 with
        | zero => intro q hlt113; exact absurd hlt113 (Nat.not_lt_zero _)
        | succ n113 ih113 =>
          intro q hlt113 hq
          refine V.iload hF dX5_broadcast_113 rfl ?_
          refine V.bipush (v := nI 6) hF dX5_broadcast_115 (by decide) ?_
          refine V.icmp_ge (tgt := 149) hF dX5_broadcast_117 (by decide) (fun h117 => ?_) (fun h117 => ?_)
          · have hq6 : q = 6 := by have := nI_ge' h117 (by omega) (by omega); omega
            subst hq6
            refine V.iload_n hF dX5_broadcast_149 rfl ?_
            refine V.iret hF dX5_broadcast_150 (Nat.le_refl _) (Nat.le_refl _) ?_
            exact pR.e (by rw [if_pos hT, hv.n]) (by rw [hT, if_pos hp1, if_pos hm1]) (by rw [if_pos hT, cp]; rfl)
          · have hq6 : q < 6 := nI_nge h117 (by omega) (by omega)
            refine V.aload_n hF dX5_broadcast_120 rfl ?_
            refine V.getR hF dX5_broadcast_121 fl_X5_9 hM.1.1 hM.1.2 rfl hM.m1.1 ?_
            refine V.sipush (v := nI 650) hF dX5_broadcast_124 (by decide) ?_
            refine V.bipush (v := nI 6) hF dX5_broadcast_127 (by decide) ?_
            refine V.iload_n hF dX5_broadcast_129 rfl ?_
            refine V.imul hF dX5_broadcast_130 ?_
            refine V.iadd hF dX5_broadcast_131 ?_
            refine V.iload hF dX5_broadcast_132 rfl ?_
            refine V.iadd hF dX5_broadcast_134 ?_
            refine V.aload_n hF dX5_broadcast_135 rfl ?_
            refine V.iload_n hF dX5_broadcast_136 rfl ?_
            refine V.iload hF dX5_broadcast_137 rfl ?_
            refine V.vI hF dX5_broadcast_139 (ct_X5_clockOf hst _ _ _ _ _ hM _ (va_up_self _ _ _) p q (by omega) (by omega)) lk_X5_76 sl_X5_clockOf hM.1.1 hM.1.2 rfl (Nat.le_of_ble_eq_true rfl) (fit_of rfl) (Nat.le_of_ble_eq_true rfl) rfl ?_
            refine V.iastoreU (j := ((650 + (6 * (vN v 44))) + q)) hF dX5_broadcast_142 hM.m1.2.1 hM.m1.2.2.1 (by simp only [nI_add, pk_mul, Nat.zero_add, Nat.add_zero]) (hM.m1.lt (by omega)) (hM.m1.sm (by decide)) ?_
            refine V.iinc (v := nI (q + 1)) hF dX5_broadcast_143 rfl (by exact nI_1 _) (by decide) ?_
            refine V.goto (tgt := 113) hF dX5_broadcast_146 (by decide) ?_
            refine V.relv [0, 1, 3, 4] rfl ?_
            exact ih113 (q + 1) (by omega) (by omega)
      refine V.relv [0, 1, 3, 4] rfl ?_
      exact L113 _ 0 (Nat.lt_succ_self _) (by omega)
    · have hT : zbT v (nI p) = nI 2 := by simp [zbT, hp1, hm1, h20]
      refine V.aload_n hF dX5_broadcast_23 rfl ?_
      refine V.iconst (v := nI 2) hF dX5_broadcast_24 (by decide) ?_
      refine V.vI hF dX5_broadcast_25 (ct_X5_no hst _ _ _ _ _ hM _ (va_up_self _ _ _) _) lk_X5_59 sl_X5_no hM.1.1 hM.1.2 rfl (Nat.le_of_ble_eq_true rfl) (fit_of rfl) (Nat.le_of_ble_eq_true rfl) rfl ?_
      refine V.collI ?_
      refine V.iret hF dX5_broadcast_28 (Nat.le_refl _) (Nat.le_refl _) ?_
      exact pR.e (by simp [hT, n20]) (by simp [hT, th_th]) (by simp [hT, n20])
  · refine V.iconst (v := nI 0) hF dX5_broadcast_8 (by decide) ?_
    refine V.iret hF dX5_broadcast_9 (Nat.le_refl _) (Nat.le_refl _) ?_
    cases hq : zPr x <;> cases hq2 : zisM v x <;> simp [hq, hq2] at h5 <;> exact pR.e (by simp [zbT, hq, hq2, n10, n20]) (by simp [zbT, hq, hq2]) (by simp [zbT, hq, hq2, n10, n20, up_eta, hX])
set_option maxRecDepth 20000 in
theorem ct_X5_arrive (hst : l.stackTraces = false) (σ : SH) (I X : IX) (o : Nat) (ar : Nat → Nat) (hM : MS σ o ar) (f : Rw) (hI : I o = f) (v : Rw) (hX : X (ar 1) = v) (hv : WV v) (x y : Int32) : Ct l D cy sa sv yX5_arrive cX5_arrive 3 (some .int) 4 0 0 [.ref o, .int x, .int y] σ I X (pR (some (.int (if zaT v x y = nI 0 then (zaV v x.toNatClampNeg y.toNatClampNeg).2 else nI 0))) σ (va_up I o (th f (zaT v x y))) (va_up X (ar 1) (if zaT v x y = nI 0 then (zaV v x.toNatClampNeg y.toNatClampNeg).1 else v))) noX := by
  refine Ct.of (by decide) hst (Nat.le_of_ble_eq_true rfl) ?_
  intro pp ee ss mm args below meth kc A hF hnm hout
  refine V.etaI o hI ?_
  refine V.etaX (ar 1) hX ?_
  refine V.aload_n hF dX5_arrive_0 rfl ?_
  refine V.iconst (v := nI 0) hF dX5_arrive_1 (by decide) ?_
  refine V.putIU hF dX5_arrive_2 fl_X5_38 hM.1.1 hM.1.2 rfl rfl rfl ?_
  refine V.iload_n hF dX5_arrive_5 rfl ?_
  refine V.sI hF dX5_arrive_6 (ct_X5_isProcess hst _ _ _ _) lk_X5_49 (fit_of rfl) (Nat.le_of_ble_eq_true rfl) rfl ?_
  refine V.if_eqB (tgt := 20) hF dX5_arrive_9 (by decide) (fun h9 => ?_) (fun h9 => ?_)
  · refine V.aload_n hF dX5_arrive_20 rfl ?_
    refine V.iconst (v := nI 1) hF dX5_arrive_21 (by decide) ?_
    refine V.vI hF dX5_arrive_22 (ct_X5_no hst _ _ _ _ _ hM _ (va_up_self _ _ _) _) lk_X5_59 sl_X5_no hM.1.1 hM.1.2 rfl (Nat.le_of_ble_eq_true rfl) (fit_of rfl) (Nat.le_of_ble_eq_true rfl) rfl ?_
    refine V.collI ?_
    refine V.iret hF dX5_arrive_25 (Nat.le_refl _) (Nat.le_refl _) ?_
    exact pR.e (by simp [zaT, zaV, n10, n20, *]) (by simp [zaT, th_th, *]) (by simp [zaT, zaV, n10, n20, up_eta, *])
  · refine V.aload_n hF dX5_arrive_12 rfl ?_
    refine V.iload_n hF dX5_arrive_13 rfl ?_
    refine V.vI hF dX5_arrive_14 (ct_X5_isMessage hst _ _ _ _ _ hM _ (va_up_self _ _ _) _) lk_X5_56 sl_X5_isMessage hM.1.1 hM.1.2 rfl (Nat.le_of_ble_eq_true rfl) (fit_of rfl) (Nat.le_of_ble_eq_true rfl) rfl ?_
    refine V.if_neB (tgt := 26) hF dX5_arrive_17 (by decide) (fun h17 => ?_) (fun h17 => ?_)
    · obtain ⟨p, hp, e⟩ := zPr_of h9
      subst e
      have cp : (nI p).toNatClampNeg = p := nI_clamp (by omega)
      obtain ⟨m, hmn, hm, e⟩ := zMs_of hv h17
      subst e
      have cm : (nI m).toNatClampNeg = m := nI_clamp (by omega)
      refine V.aload_n hF dX5_arrive_26 rfl ?_
      refine V.iload_n hF dX5_arrive_27 rfl ?_
      refine V.vI hF dX5_arrive_28 (ct_X5_isMember hst _ _ _ _ _ hM _ (va_up_self _ _ _) hv _) lk_X5_53 sl_X5_isMember hM.1.1 hM.1.2 rfl (Nat.le_of_ble_eq_true rfl) (fit_of rfl) (Nat.le_of_ble_eq_true rfl) rfl ?_
      refine V.if_eqB (tgt := 42) hF dX5_arrive_31 (by decide) (fun h31 => ?_) (fun h31 => ?_)
      · refine V.aload_n hF dX5_arrive_42 rfl ?_
        refine V.iconst (v := nI 2) hF dX5_arrive_43 (by decide) ?_
        refine V.vI hF dX5_arrive_44 (ct_X5_no hst _ _ _ _ _ hM _ (va_up_self _ _ _) _) lk_X5_59 sl_X5_no hM.1.1 hM.1.2 rfl (Nat.le_of_ble_eq_true rfl) (fit_of rfl) (Nat.le_of_ble_eq_true rfl) rfl ?_
        refine V.collI ?_
        refine V.iret hF dX5_arrive_47 (Nat.le_refl _) (Nat.le_refl _) ?_
        exact pR.e (by simp [zaT, zaV, n10, n20, *]) (by simp [zaT, th_th, *]) (by simp [zaT, zaV, n10, n20, up_eta, *])
      · refine V.aload_n hF dX5_arrive_34 rfl ?_
        refine V.iload_n hF dX5_arrive_35 rfl ?_
        refine V.vI hF dX5_arrive_36 (ct_X5_isNow hst _ _ _ _ _ hM _ (va_up_self _ _ _) m (by omega)) lk_X5_69 sl_X5_isNow hM.1.1 hM.1.2 rfl (Nat.le_of_ble_eq_true rfl) (fit_of rfl) (Nat.le_of_ble_eq_true rfl) rfl ?_
        refine V.if_neB (tgt := 48) hF dX5_arrive_39 (by decide) (fun h39 => ?_) (fun h39 => ?_)
        · refine V.aload_n hF dX5_arrive_48 rfl ?_
          refine V.iload_n hF dX5_arrive_49 rfl ?_
          refine V.iload_n hF dX5_arrive_50 rfl ?_
          refine V.vI hF dX5_arrive_51 (ct_X5_isOnTheWay hst _ _ _ _ _ hM _ (va_up_self _ _ _) p m (by omega) (by omega)) lk_X5_102 sl_X5_isOnTheWay hM.1.1 hM.1.2 rfl (Nat.le_of_ble_eq_true rfl) (fit_of rfl) (Nat.le_of_ble_eq_true rfl) rfl ?_
          refine V.if_eqB (tgt := 64) hF dX5_arrive_54 (by decide) (fun h54 => ?_) (fun h54 => ?_)
          · refine V.aload_n hF dX5_arrive_64 rfl ?_
            refine V.getR hF dX5_arrive_65 fl_X5_9 hM.1.1 hM.1.2 rfl hM.m1.1 ?_
            refine V.bipush (v := nI 45) hF dX5_arrive_68 (by decide) ?_
            refine V.dup2 hF dX5_arrive_70 rfl rfl ?_
            refine V.ialoadF (j := 45) hF dX5_arrive_71 hM.m1.2.1 hM.m1.2.2.1 rfl (hM.m1.lt (lt_of rfl)) (hM.m1.sm (by decide)) (va_up_self _ _ _) ?_
            refine V.iconst (v := nI 1) hF dX5_arrive_72 (by decide) ?_
            refine V.iadd hF dX5_arrive_73 ?_
            refine V.iastoreU (j := 45) hF dX5_arrive_74 hM.m1.2.1 hM.m1.2.2.1 rfl (hM.m1.lt (lt_of rfl)) (hM.m1.sm (by decide)) ?_
            refine V.iconst (v := nI 0) hF dX5_arrive_75 (by decide) ?_
            refine V.iret hF dX5_arrive_76 (Nat.le_refl _) (Nat.le_refl _) ?_
            exact pR.e (by simp [zaT, zaV, n10, n20, *]) (by simp [zaT, th_th, *]) (by simp [zaT, zaV, n10, n20, up_eta, *])
          · refine V.aload_n hF dX5_arrive_57 rfl ?_
            refine V.iload_n hF dX5_arrive_58 rfl ?_
            refine V.iload_n hF dX5_arrive_59 rfl ?_
            refine V.vI hF dX5_arrive_60 (ct_X5_comes hst _ _ _ _ _ hM _ (va_up_self _ _ _) hv p m (by omega) (by omega)) lk_X5_105 sl_X5_comes hM.1.1 hM.1.2 rfl (Nat.le_of_ble_eq_true rfl) (fit_of rfl) (Nat.le_of_ble_eq_true rfl) rfl ?_
            refine V.collX ?_
            refine V.iret hF dX5_arrive_63 (Nat.le_refl _) (Nat.le_refl _) ?_
            exact pR.e (by simp [zaT, zaV, n10, n20, *]) (by simp [zaT, th_th, *]) (by simp [zaT, zaV, n10, n20, up_eta, *])
        · refine V.aload_n hF dX5_arrive_42 rfl ?_
          refine V.iconst (v := nI 2) hF dX5_arrive_43 (by decide) ?_
          refine V.vI hF dX5_arrive_44 (ct_X5_no hst _ _ _ _ _ hM _ (va_up_self _ _ _) _) lk_X5_59 sl_X5_no hM.1.1 hM.1.2 rfl (Nat.le_of_ble_eq_true rfl) (fit_of rfl) (Nat.le_of_ble_eq_true rfl) rfl ?_
          refine V.collI ?_
          refine V.iret hF dX5_arrive_47 (Nat.le_refl _) (Nat.le_refl _) ?_
          exact pR.e (by simp [zaT, zaV, n10, n20, *]) (by simp [zaT, th_th, *]) (by simp [zaT, zaV, n10, n20, up_eta, *])
    · refine V.aload_n hF dX5_arrive_20 rfl ?_
      refine V.iconst (v := nI 1) hF dX5_arrive_21 (by decide) ?_
      refine V.vI hF dX5_arrive_22 (ct_X5_no hst _ _ _ _ _ hM _ (va_up_self _ _ _) _) lk_X5_59 sl_X5_no hM.1.1 hM.1.2 rfl (Nat.le_of_ble_eq_true rfl) (fit_of rfl) (Nat.le_of_ble_eq_true rfl) rfl ?_
      refine V.collI ?_
      refine V.iret hF dX5_arrive_25 (Nat.le_refl _) (Nat.le_refl _) ?_
      exact pR.e (by simp [zaT, zaV, n10, n20, *]) (by simp [zaT, th_th, *]) (by simp [zaT, zaV, n10, n20, up_eta, *])
set_option maxRecDepth 20000 in
theorem ct_X5_arriveAll (hst : l.stackTraces = false) (σ : SH) (I X : IX) (o : Nat) (ar : Nat → Nat) (hM : MS σ o ar) (f : Rw) (hI : I o = f) (v : Rw) (hX : X (ar 1) = v) (hv : WV v) (x : Int32) : Ct l D cy sa sv yX5_arriveAll cX5_arriveAll 4 (some .int) 4 0 0 [.ref o, .int x] σ I X (pR (some (.int (if zPr x && zisM v x then (zalL x.toNatClampNeg v (vN v 44)).2 else nI 0))) σ (va_up I o (th f (if zPr x then (if zisM v x then nI 0 else nI 2) else nI 1))) (va_up X (ar 1) (if zPr x && zisM v x then (zalL x.toNatClampNeg v (vN v 44)).1 else v))) noX := by
  refine Ct.of (by decide) hst (Nat.le_of_ble_eq_true rfl) ?_
  intro pp ee ss mm args below meth kc A hF hnm hout
  refine V.etaI o hI ?_
  refine V.etaX (ar 1) hX ?_
  refine V.aload_n hF dX5_arriveAll_0 rfl ?_
  refine V.iload_n hF dX5_arriveAll_1 rfl ?_
  refine V.vI hF dX5_arriveAll_2 (ct_X5_isInView hst _ _ _ _ _ hM _ (va_up_self _ _ _) _ (va_up_self _ _ _) hv _) lk_X5_96 sl_X5_isInView hM.1.1 hM.1.2 rfl (Nat.le_of_ble_eq_true rfl) (fit_of rfl) (Nat.le_of_ble_eq_true rfl) rfl ?_
  refine V.collI ?_
  refine V.if_neB (tgt := 10) hF dX5_arriveAll_5 (by decide) (fun h5 => ?_) (fun h5 => ?_)
  · obtain ⟨hp1, hm1⟩ := (Bool.and_eq_true _ _).mp h5
    obtain ⟨p, hp, e⟩ := zPr_of hp1
    subst e
    have cp : (nI p).toNatClampNeg = p := nI_clamp (by omega)
    have hn150 := hv.n150
    refine V.iconst (v := nI 0) hF dX5_arriveAll_10 (by decide) ?_
    refine V.istore_n hF dX5_arriveAll_11 (by decide) ?_
    refine V.iconst (v := nI 0) hF dX5_arriveAll_12 (by decide) ?_
    refine V.istore_n hF dX5_arriveAll_13 (by decide) ?_
    have L14 : ∀ (n14 : Nat) (k : Nat) (w : Rw) (c : Int32), vN v 44 - k < n14 → k ≤ vN v 44 → zalL p v k = (w, c) → V pp l ee (Rm 4 0 0) ss mm args below meth kc D cy A (QM below args ss D cy A (pR (some (.int (if zPr (nI p) && zisM v (nI p) then (zalL (nI p).toNatClampNeg v (vN v 44)).2 else nI 0))) σ (va_up I o (th f (if zPr (nI p) then (if zisM v (nI p) then nI 0 else nI 2) else nI 1))) (va_up X (ar 1) (if zPr (nI p) && zisM v (nI p) then (zalL (nI p).toNatClampNeg v (vN v 44)).1 else v))) noX 0 0) 4 0 0 σ (va_up I o (th f (if zPr (nI p) = true then if zisM v (nI p) = true then nI 0 else nI 2 else nI 1))) (va_up X (ar 1) w) 14 [(0, .ref o), (1, .int (nI p)), (2, .int c), (3, .int (nI k))] [] := by
      intro n14
      induction n14 with
      | zero => intro k w c hlt14; exact absurd hlt14 (Nat.not_lt_zero _)
      | succ n14 ih14 =>
        intro k w c hlt14 hk hwc
        have hw : WV w := by have := zalL_wv hp hv k; rw [hwc] at this; exact this
        refine V.iload_n hF dX5_arriveAll_14 rfl ?_
        refine V.aload_n hF dX5_arriveAll_15 rfl ?_
        refine V.getR hF dX5_arriveAll_16 fl_X5_9 hM.1.1 hM.1.2 rfl hM.m1.1 ?_
        refine V.bipush (v := nI 44) hF dX5_arriveAll_19 (by decide) ?_
        refine V.ialoadF (j := 44) hF dX5_arriveAll_21 hM.m1.2.1 hM.m1.2.2.1 rfl (hM.m1.lt (lt_of rfl)) (hM.m1.sm (by decide)) (va_up_self _ _ _) ?_
        refine V.topi (y := nI (vN v 44)) (by rw [hw.n]; exact congrArg nI (by have := zalL_n (p := p) (v := v) k; rw [hwc] at this; exact this)) ?_
        refine V.icmp_ge (tgt := 53) hF dX5_arriveAll_22 (by decide) (fun h22 => ?_) (fun h22 => ?_)
        · have hk6 : k = vN v 44 := by have := nI_ge' h22 (by omega) (by omega); omega
          subst hk6
          refine V.iload_n hF dX5_arriveAll_53 rfl ?_
          refine V.iret hF dX5_arriveAll_54 (Nat.le_refl _) (Nat.le_refl _) ?_
          exact pR.e (by rw [if_pos h5, cp, hwc]) rfl (by rw [if_pos h5, cp, hwc])
        · have hk6 : k < vN v 44 := nI_nge h22 (by omega) (by omega)
          refine V.iload_n hF dX5_arriveAll_25 rfl ?_
          refine V.aload_n hF dX5_arriveAll_26 rfl ?_
          refine V.iload_n hF dX5_arriveAll_27 rfl ?_
          refine V.iload_n hF dX5_arriveAll_28 rfl ?_
          refine V.vI hF dX5_arriveAll_29 (ct_X5_isOnTheWay hst _ _ _ _ _ hM _ (va_up_self _ _ _) p k (by omega) (by omega)) lk_X5_102 sl_X5_isOnTheWay hM.1.1 hM.1.2 rfl (Nat.le_of_ble_eq_true rfl) (fit_of rfl) (Nat.le_of_ble_eq_true rfl) rfl ?_
          refine V.if_eqB (tgt := 44) hF dX5_arriveAll_32 (by decide) (fun h32 => ?_) (fun h32 => ?_)
          · refine V.iconst (v := nI 0) hF dX5_arriveAll_44 (by decide) ?_
            refine V.iadd hF dX5_arriveAll_45 ?_
            refine V.istore_n hF dX5_arriveAll_46 (by decide) ?_
            refine V.iinc (v := nI (k + 1)) hF dX5_arriveAll_47 rfl (by exact nI_1 _) (by decide) ?_
            refine V.goto (tgt := 14) hF dX5_arriveAll_50 (by decide) ?_
            refine V.relv [0, 1, 2, 3] rfl ?_
            exact ih14 (k + 1) _ _ (by omega) (by omega) (by simp [zalL, hwc, h32])
          · refine V.aload_n hF dX5_arriveAll_35 rfl ?_
            refine V.iload_n hF dX5_arriveAll_36 rfl ?_
            refine V.iload_n hF dX5_arriveAll_37 rfl ?_
            refine V.vI hF dX5_arriveAll_38 (ct_X5_comes hst _ _ _ _ _ hM _ (va_up_self _ _ _) hw p k (by omega) (by omega)) lk_X5_105 sl_X5_comes hM.1.1 hM.1.2 rfl (Nat.le_of_ble_eq_true rfl) (fit_of rfl) (Nat.le_of_ble_eq_true rfl) rfl ?_
            refine V.collX ?_
            refine V.goto (tgt := 45) hF dX5_arriveAll_41 (by decide) ?_
            refine V.iadd hF dX5_arriveAll_45 ?_
            refine V.istore_n hF dX5_arriveAll_46 (by decide) ?_
            refine V.iinc (v := nI (k + 1)) hF dX5_arriveAll_47 rfl (by exact nI_1 _) (by decide) ?_
            refine V.goto (tgt := 14) hF dX5_arriveAll_50 (by decide) ?_
            refine V.relv [0, 1, 2, 3] rfl ?_
            exact ih14 (k + 1) _ _ (by omega) (by omega) (by simp [zalL, hwc, h32])
    refine V.relv [0, 1, 2, 3] rfl ?_
    exact L14 _ 0 _ _ (Nat.lt_succ_self _) (by omega) rfl
  · refine V.iconst (v := nI 0) hF dX5_arriveAll_8 (by decide) ?_
    refine V.iret hF dX5_arriveAll_9 (Nat.le_refl _) (Nat.le_refl _) ?_
    cases hq : zPr x <;> cases hq2 : zisM v x <;> simp [hq, hq2] at h5 <;> exact pR.e (by simp [Bool.and_true, hq, hq2, n10, n20]) (by simp [Bool.and_true, hq, hq2]) (by simp [Bool.and_true, hq, hq2, n10, n20, up_eta, hX])
set_option maxRecDepth 20000 in
theorem ct_X5_gossip (hst : l.stackTraces = false) (σ : SH) (I X : IX) (o : Nat) (ar : Nat → Nat) (hM : MS σ o ar) (f : Rw) (hI : I o = f) (v : Rw) (hX : X (ar 1) = v) (hv : WV v) (x y : Int32) : Ct l D cy sa sv yX5_gossip cX5_gossip 8 (some .int) 2 0 0 [.ref o, .int x, .int y] σ I X (pR (some (.int (if zgT v x y = nI 0 then (zgO x.toNatClampNeg y.toNatClampNeg v 6).2 else nI 0))) σ (va_up I o (th f (zgT v x y))) (va_up X (ar 1) (if zgT v x y = nI 0 then (zgO x.toNatClampNeg y.toNatClampNeg v 6).1 else v))) noX := by
  refine Ct.of (by decide) hst (Nat.le_of_ble_eq_true rfl) ?_
  intro pp ee ss mm args below meth kc A hF hnm hout
  refine V.etaI o hI ?_
  refine V.etaX (ar 1) hX ?_
  refine V.aload_n hF dX5_gossip_0 rfl ?_
  refine V.iconst (v := nI 0) hF dX5_gossip_1 (by decide) ?_
  refine V.putIU hF dX5_gossip_2 fl_X5_38 hM.1.1 hM.1.2 rfl rfl rfl ?_
  refine V.iload_n hF dX5_gossip_5 rfl ?_
  refine V.sI hF dX5_gossip_6 (ct_X5_isProcess hst _ _ _ _) lk_X5_49 (fit_of rfl) (Nat.le_of_ble_eq_true rfl) rfl ?_
  refine V.if_eqB (tgt := 19) hF dX5_gossip_9 (by decide) (fun h9 => ?_) (fun h9 => ?_)
  · refine V.aload_n hF dX5_gossip_19 rfl ?_
    refine V.iconst (v := nI 1) hF dX5_gossip_20 (by decide) ?_
    refine V.vI hF dX5_gossip_21 (ct_X5_no hst _ _ _ _ _ hM _ (va_up_self _ _ _) _) lk_X5_59 sl_X5_no hM.1.1 hM.1.2 rfl (Nat.le_of_ble_eq_true rfl) (fit_of rfl) (Nat.le_of_ble_eq_true rfl) rfl ?_
    refine V.collI ?_
    refine V.iret hF dX5_gossip_24 (Nat.le_refl _) (Nat.le_refl _) ?_
    exact pR.e (by simp [zgT, n10, n20, *]) (by simp [zgT, th_th, *]) (by simp [zgT, n10, n20, up_eta, *])
  · refine V.iload_n hF dX5_gossip_12 rfl ?_
    refine V.sI hF dX5_gossip_13 (ct_X5_isProcess hst _ _ _ _) lk_X5_49 (fit_of rfl) (Nat.le_of_ble_eq_true rfl) rfl ?_
    refine V.if_neB (tgt := 25) hF dX5_gossip_16 (by decide) (fun h16 => ?_) (fun h16 => ?_)
    · refine V.aload_n hF dX5_gossip_25 rfl ?_
      refine V.iload_n hF dX5_gossip_26 rfl ?_
      refine V.vI hF dX5_gossip_27 (ct_X5_isMember hst _ _ _ _ _ hM _ (va_up_self _ _ _) hv _) lk_X5_53 sl_X5_isMember hM.1.1 hM.1.2 rfl (Nat.le_of_ble_eq_true rfl) (fit_of rfl) (Nat.le_of_ble_eq_true rfl) rfl ?_
      refine V.if_eqB (tgt := 46) hF dX5_gossip_30 (by decide) (fun h30 => ?_) (fun h30 => ?_)
      · refine V.aload_n hF dX5_gossip_46 rfl ?_
        refine V.iconst (v := nI 2) hF dX5_gossip_47 (by decide) ?_
        refine V.vI hF dX5_gossip_48 (ct_X5_no hst _ _ _ _ _ hM _ (va_up_self _ _ _) _) lk_X5_59 sl_X5_no hM.1.1 hM.1.2 rfl (Nat.le_of_ble_eq_true rfl) (fit_of rfl) (Nat.le_of_ble_eq_true rfl) rfl ?_
        refine V.collI ?_
        refine V.iret hF dX5_gossip_51 (Nat.le_refl _) (Nat.le_refl _) ?_
        exact pR.e (by simp [zgT, n10, n20, *]) (by simp [zgT, th_th, *]) (by simp [zgT, n10, n20, up_eta, *])
      · refine V.aload_n hF dX5_gossip_33 rfl ?_
        refine V.iload_n hF dX5_gossip_34 rfl ?_
        refine V.vI hF dX5_gossip_35 (ct_X5_isMember hst _ _ _ _ _ hM _ (va_up_self _ _ _) hv _) lk_X5_53 sl_X5_isMember hM.1.1 hM.1.2 rfl (Nat.le_of_ble_eq_true rfl) (fit_of rfl) (Nat.le_of_ble_eq_true rfl) rfl ?_
        refine V.if_eqB (tgt := 46) hF dX5_gossip_38 (by decide) (fun h38 => ?_) (fun h38 => ?_)
        · refine V.aload_n hF dX5_gossip_46 rfl ?_
          refine V.iconst (v := nI 2) hF dX5_gossip_47 (by decide) ?_
          refine V.vI hF dX5_gossip_48 (ct_X5_no hst _ _ _ _ _ hM _ (va_up_self _ _ _) _) lk_X5_59 sl_X5_no hM.1.1 hM.1.2 rfl (Nat.le_of_ble_eq_true rfl) (fit_of rfl) (Nat.le_of_ble_eq_true rfl) rfl ?_
          refine V.collI ?_
          refine V.iret hF dX5_gossip_51 (Nat.le_refl _) (Nat.le_refl _) ?_
          exact pR.e (by simp [zgT, n10, n20, *]) (by simp [zgT, th_th, *]) (by simp [zgT, n10, n20, up_eta, *])
        · refine V.iload_n hF dX5_gossip_41 rfl ?_
          refine V.iload_n hF dX5_gossip_42 rfl ?_
          refine V.icmp_ne (tgt := 52) hF dX5_gossip_43 (by decide) (fun h43 => ?_) (fun h43 => ?_)
          · have hT : zgT v x y = nI 0 := by simp [zgT, *]
            obtain ⟨a, ha, e⟩ := zPr_of h9
            subst e
            have ca : (nI a).toNatClampNeg = a := nI_clamp (by omega)
            obtain ⟨b, hb, e⟩ := zPr_of h16
            subst e
            have cb : (nI b).toNatClampNeg = b := nI_clamp (by omega)
            have hab := nI_ne h43
            refine V.iconst (v := nI 0) hF dX5_gossip_52 (by decide) ?_
            refine V.istore_n hF dX5_gossip_53 (by decide) ?_
            refine V.iconst (v := nI 0) hF dX5_gossip_54 (by decide) ?_
            refine V.istore hF dX5_gossip_55 (by decide) ?_
            have L57 : ∀ (n57 : Nat) (q : Nat) (w : Rw) (c : Int32), 6 - q < n57 → q ≤ 6 → zgO a b v q = (w, c) → V pp l ee (Rm 2 0 0) ss mm args below meth kc D cy A (QM below args ss D cy A (pR (some (.int (if zgT v (nI a) (nI b) = nI 0 then (zgO (nI a).toNatClampNeg (nI b).toNatClampNeg v 6).2 else nI 0))) σ (va_up I o (th f (zgT v (nI a) (nI b)))) (va_up X (ar 1) (if zgT v (nI a) (nI b) = nI 0 then (zgO (nI a).toNatClampNeg (nI b).toNatClampNeg v 6).1 else v))) noX 0 0) 8 0 0 σ (va_up I o (upd f 0 (nI 0))) (va_up X (ar 1) w) 57 [(0, .ref o), (1, .int (nI a)), (2, .int (nI b)), (3, .int c), (4, .int (nI q))] [] := by
              intro n57
              induction n57 with
              | zero => intro q w c hlt57; exact absurd hlt57 (Nat.not_lt_zero _)
              | succ n57 ih57 =>
                intro q w c hlt57 hq hwc
                refine V.iload hF dX5_gossip_57 rfl ?_
                refine V.bipush (v := nI 6) hF dX5_gossip_59 (by decide) ?_
                refine V.icmp_ge (tgt := 162) hF dX5_gossip_61 (by decide) (fun h61 => ?_) (fun h61 => ?_)
                · have hq6 : q = 6 := by have := nI_ge' h61 (by omega) (by omega); omega
                  subst hq6
                  refine V.iload_n hF dX5_gossip_162 rfl ?_
                  refine V.iret hF dX5_gossip_163 (Nat.le_refl _) (Nat.le_refl _) ?_
                  exact pR.e (by rw [if_pos hT, ca, cb, hwc]) (by rw [hT]) (by rw [if_pos hT, ca, cb, hwc])
                · have hq6 : q < 6 := nI_nge h61 (by omega) (by omega)
                  refine V.iconst (v := nI 0) hF dX5_gossip_64 (by decide) ?_
                  refine V.istore hF dX5_gossip_65 (by decide) ?_
                  have L67 : ∀ (n67 : Nat) (s2 : Nat) (w2 : Rw) (c2 : Int32), 6 - s2 < n67 → s2 ≤ 6 → zgI a b q w c s2 = (w2, c2) → (q = b → s2 = 0) → V pp l ee (Rm 2 0 0) ss mm args below meth kc D cy A (QM below args ss D cy A (pR (some (.int (if zgT v (nI a) (nI b) = nI 0 then (zgO (nI a).toNatClampNeg (nI b).toNatClampNeg v 6).2 else nI 0))) σ (va_up I o (th f (zgT v (nI a) (nI b)))) (va_up X (ar 1) (if zgT v (nI a) (nI b) = nI 0 then (zgO (nI a).toNatClampNeg (nI b).toNatClampNeg v 6).1 else v))) noX 0 0) 8 0 0 σ (va_up I o (upd f 0 (nI 0))) (va_up X (ar 1) w2) 67 [(0, .ref o), (1, .int (nI a)), (2, .int (nI b)), (3, .int c2), (4, .int (nI q)), (5, .int (nI s2))] [] := by
                    intro n67
                    induction n67 with
                    | zero => intro s2 w2 c2 hlt67; exact absurd hlt67 (Nat.not_lt_zero _)
                    | succ n67 ih67 =>
                      intro s2 w2 c2 hlt67 hs hwc2 hqb
                      refine V.iload hF dX5_gossip_67 rfl ?_
                      refine V.bipush (v := nI 6) hF dX5_gossip_69 (by decide) ?_
                      refine V.icmp_ge (tgt := 156) hF dX5_gossip_71 (by decide) (fun h71 => ?_) (fun h71 => ?_)
                      · have hs6 : s2 = 6 := by have := nI_ge' h71 (by omega) (by omega); omega
                        subst hs6
                        have hz : zgO a b v (q + 1) = (w2, c2) := by rw [zgO, if_neg (fun h => by have := hqb h; omega), hwc]; exact hwc2
                        refine V.iinc (v := nI (q + 1)) hF dX5_gossip_156 rfl (by exact nI_1 _) (by decide) ?_
                        refine V.goto (tgt := 57) hF dX5_gossip_159 (by decide) ?_
                        refine V.relv [0, 1, 2, 3, 4] rfl ?_
                        exact ih57 (q + 1) _ _ (by omega) (by omega) hz
                      · have hs6 : s2 < 6 := nI_nge h71 (by omega) (by omega)
                        refine V.iload hF dX5_gossip_74 rfl ?_
                        refine V.iload_n hF dX5_gossip_76 rfl ?_
                        refine V.icmp_eq (tgt := 156) hF dX5_gossip_77 (by decide) (fun h77 => ?_) (fun h77 => ?_)
                        · have hqb2 : q = b := nI_eq' h77 (by omega) (by omega)
                          have hs0 := hqb hqb2
                          subst hs0
                          obtain ⟨rfl, rfl⟩ := Prod.mk.inj hwc2
                          have hz : zgO a b v (q + 1) = (w, c) := by rw [zgO, if_pos hqb2, hwc]
                          refine V.iinc (v := nI (q + 1)) hF dX5_gossip_156 rfl (by exact nI_1 _) (by decide) ?_
                          refine V.goto (tgt := 57) hF dX5_gossip_159 (by decide) ?_
                          refine V.relv [0, 1, 2, 3, 4] rfl ?_
                          exact ih57 (q + 1) _ _ (by omega) (by omega) hz
                        · have hqb2 := nI_ne h77
                          refine V.sipush (v := nI 4270) hF dX5_gossip_80 (by decide) ?_
                          refine V.bipush (v := nI 36) hF dX5_gossip_83 (by decide) ?_
                          refine V.iload_n hF dX5_gossip_85 rfl ?_
                          refine V.imul hF dX5_gossip_86 ?_
                          refine V.iadd hF dX5_gossip_87 ?_
                          refine V.bipush (v := nI 6) hF dX5_gossip_88 (by decide) ?_
                          refine V.iload hF dX5_gossip_90 rfl ?_
                          refine V.imul hF dX5_gossip_92 ?_
                          refine V.iadd hF dX5_gossip_93 ?_
                          refine V.iload hF dX5_gossip_94 rfl ?_
                          refine V.iadd hF dX5_gossip_96 ?_
                          refine V.topi (y := nI (((4270 + (36 * b)) + (6 * q)) + s2)) (by simp only [nI_add, pk_mul, Nat.zero_add, Nat.add_zero]) ?_
                          refine V.istore hF dX5_gossip_97 (by decide) ?_
                          refine V.aload_n hF dX5_gossip_99 rfl ?_
                          refine V.getR hF dX5_gossip_100 fl_X5_9 hM.1.1 hM.1.2 rfl hM.m1.1 ?_
                          refine V.sipush (v := nI 4270) hF dX5_gossip_103 (by decide) ?_
                          refine V.bipush (v := nI 36) hF dX5_gossip_106 (by decide) ?_
                          refine V.iload_n hF dX5_gossip_108 rfl ?_
                          refine V.imul hF dX5_gossip_109 ?_
                          refine V.iadd hF dX5_gossip_110 ?_
                          refine V.bipush (v := nI 6) hF dX5_gossip_111 (by decide) ?_
                          refine V.iload hF dX5_gossip_113 rfl ?_
                          refine V.imul hF dX5_gossip_115 ?_
                          refine V.iadd hF dX5_gossip_116 ?_
                          refine V.iload hF dX5_gossip_117 rfl ?_
                          refine V.iadd hF dX5_gossip_119 ?_
                          refine V.ialoadF (j := (((4270 + (36 * a)) + (6 * q)) + s2)) hF dX5_gossip_120 hM.m1.2.1 hM.m1.2.2.1 (by simp only [nI_add, pk_mul, Nat.zero_add, Nat.add_zero]) (hM.m1.lt (by omega)) (hM.m1.sm (by decide)) (va_up_self _ _ _) ?_
                          refine V.istore hF dX5_gossip_121 (by decide) ?_
                          refine V.iload hF dX5_gossip_123 rfl ?_
                          refine V.aload_n hF dX5_gossip_125 rfl ?_
                          refine V.getR hF dX5_gossip_126 fl_X5_9 hM.1.1 hM.1.2 rfl hM.m1.1 ?_
                          refine V.iload hF dX5_gossip_129 rfl ?_
                          refine V.ialoadF (j := (((4270 + (36 * b)) + (6 * q)) + s2)) hF dX5_gossip_131 hM.m1.2.1 hM.m1.2.2.1 rfl (hM.m1.lt (by omega)) (hM.m1.sm (by decide)) (va_up_self _ _ _) ?_
                          refine V.icmp_gt (tgt := 138) hF dX5_gossip_132 (by decide) (fun h132 => ?_) (fun h132 => ?_)
                          · have hz2 : zgI a b q w c (s2 + 1) = (upd w2 (4270 + 36 * b + 6 * q + s2) (w2 (4270 + 36 * a + 6 * q + s2)), c2 + nI 1) := by rw [zgI_f (by rw [hwc2]; exact lt_nle h132), hwc2]
                            refine V.aload_n hF dX5_gossip_138 rfl ?_
                            refine V.getR hF dX5_gossip_139 fl_X5_9 hM.1.1 hM.1.2 rfl hM.m1.1 ?_
                            refine V.iload hF dX5_gossip_142 rfl ?_
                            refine V.iload hF dX5_gossip_144 rfl ?_
                            refine V.iastoreU (j := (((4270 + (36 * b)) + (6 * q)) + s2)) hF dX5_gossip_146 hM.m1.2.1 hM.m1.2.2.1 rfl (hM.m1.lt (by omega)) (hM.m1.sm (by decide)) ?_
                            refine V.iinc hF dX5_gossip_147 rfl (iinc1 _) (by decide) ?_
                            refine V.iinc (v := nI (s2 + 1)) hF dX5_gossip_150 rfl (by exact nI_1 _) (by decide) ?_
                            refine V.goto (tgt := 67) hF dX5_gossip_153 (by decide) ?_
                            refine V.relv [0, 1, 2, 3, 4, 5] rfl ?_
                            exact ih67 (s2 + 1) _ _ (by omega) (by omega) hz2 (fun h => absurd h hqb2)
                          · have hz2 : zgI a b q w c (s2 + 1) = (w2, c2) := by rw [zgI_t (by rw [hwc2]; exact nlt_le h132), hwc2]
                            refine V.goto (tgt := 150) hF dX5_gossip_135 (by decide) ?_
                            refine V.iinc (v := nI (s2 + 1)) hF dX5_gossip_150 rfl (by exact nI_1 _) (by decide) ?_
                            refine V.goto (tgt := 67) hF dX5_gossip_153 (by decide) ?_
                            refine V.relv [0, 1, 2, 3, 4, 5] rfl ?_
                            exact ih67 (s2 + 1) _ _ (by omega) (by omega) hz2 (fun h => absurd h hqb2)
                  refine V.relv [0, 1, 2, 3, 4, 5] rfl ?_
                  exact L67 _ 0 _ _ (Nat.lt_succ_self _) (by omega) rfl (fun _ => rfl)
            refine V.relv [0, 1, 2, 3, 4] rfl ?_
            exact L57 _ 0 _ _ (Nat.lt_succ_self _) (by omega) rfl
          · refine V.aload_n hF dX5_gossip_46 rfl ?_
            refine V.iconst (v := nI 2) hF dX5_gossip_47 (by decide) ?_
            refine V.vI hF dX5_gossip_48 (ct_X5_no hst _ _ _ _ _ hM _ (va_up_self _ _ _) _) lk_X5_59 sl_X5_no hM.1.1 hM.1.2 rfl (Nat.le_of_ble_eq_true rfl) (fit_of rfl) (Nat.le_of_ble_eq_true rfl) rfl ?_
            refine V.collI ?_
            refine V.iret hF dX5_gossip_51 (Nat.le_refl _) (Nat.le_refl _) ?_
            exact pR.e (by simp [zgT, n10, n20, *]) (by simp [zgT, th_th, *]) (by simp [zgT, n10, n20, up_eta, *])
    · refine V.aload_n hF dX5_gossip_19 rfl ?_
      refine V.iconst (v := nI 1) hF dX5_gossip_20 (by decide) ?_
      refine V.vI hF dX5_gossip_21 (ct_X5_no hst _ _ _ _ _ hM _ (va_up_self _ _ _) _) lk_X5_59 sl_X5_no hM.1.1 hM.1.2 rfl (Nat.le_of_ble_eq_true rfl) (fit_of rfl) (Nat.le_of_ble_eq_true rfl) rfl ?_
      refine V.collI ?_
      refine V.iret hF dX5_gossip_24 (Nat.le_refl _) (Nat.le_refl _) ?_
      exact pR.e (by simp [zgT, n10, n20, *]) (by simp [zgT, th_th, *]) (by simp [zgT, n10, n20, up_eta, *])
end MD
