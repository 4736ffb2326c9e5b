section VDr
variable {p : Program} {l : Launch} {e : Env} {R : Room} {s : State} {m : MethodId} {args : Array Value} {below : List Frame} {meth : Method} {c : Code} {D : va_G} {cy sa sv : Nat → Nat} {A : Nat → Prop} {Q : State → Prop} {cc : ByteArray} {nL : Nat} {own : String} {ret : Option FieldType} {cells slots : Nat} {σ : SH} {I X : IX} {pc : Nat} {lv : List (Nat × Value)} {st : List Value} {y : MethodName} {cc' : ByteArray} {n' : Nat} {ret' : Option FieldType} {d' mc ms : Nat}
theorem V.vD {σ' : SH} {I' X' : IX} {r : UInt64} (hF : Fx p l s m args meth c D cy sa sv A nL own cc ret) {idx b ci : Nat} {As : List Value} {C : String} {T : u_T} {N : Nat} (d : decode cc pc = .ok (.invokevirtual idx, 3)) (hc : Ct l D cy sa sv y cc' n' ret' d' mc ms (.ref b :: As) σ I X (pR (some (.double r)) σ' I' X') noX) (hl : Lk own idx y cc' n' ret' As.length (Cond.instanceMethod y)) (hsel : Cond.selects C y y ∈ GT) (hm : b ∈ shL σ) (hK : shK σ b = ci) (hC : vcl[ci]? = some (C, T, N)) (hci : ci < 6) (hR : Fit R d' n' mc ms cells slots) (hw : (st.map fun v => v.category).sum ≤ 8) {st0 : List Value} (hst : st0 = (.ref b :: As).reverse ++ st) (kk : V p l e R s m args below meth c D cy A Q nL (cells + mc) (slots + ms) σ' I' X' (pc + 3) lv (.double r :: st)) : V p l e R s m args below meth c D cy A Q nL cells slots σ I X pc lv st0 :=
  V.callV (av := .ref b :: As) (C := C) (ci := ci) hF d hc hl hsel ⟨b, As, rfl, hm, hK, hci, T, N, hC⟩ hR hw (fun _ _ _ _ h => h.elim) (fun v σ2 I2 X2 h => by obtain ⟨h1, h2, h3, h4⟩ := h; rw [h1, h2, h3, h4]; exact kk) hst
end VDr
section LWt
variable {σ : SH} {I X : IX} {o so om out dout : Nat} {ta ar : Nat → Nat} {tg ad : Nat → Nat} {C : IX} {n t1 t2 t3 : Nat}
theorem LWx.po (h : LWx σ I X o so om out dout ta ar tg ad C n t1 t2 t3) (C' : IX) : put idI I ad C' o = I o := put_off (h.gb.nI (by rw [h.1.1.2]; omega))
theorem LWx.err (h : LWx σ I X o so om out dout ta ar tg ad C n t1 t2 t3) : (if I o 4 = -1 then nI 1 else nI 0) = (if I om 7 < 0 then nI 1 else nI 0) ∧ ((if I om 7 < 0 then nI 1 else nI 0) = nI 0 → I o 4 = (if I om 7 < 0 then nI 0 else I om 7)) := by
  obtain ⟨e1, e2⟩ := h.2.2.2.2.2.2.2.2
  rw [e1]
  rcases e2 with e | ⟨k, hk, e⟩
  · rw [e]
    exact ⟨by decide, fun q => absurd q (by decide)⟩
  · rw [e, if_neg (nI_nm1 (by omega)), if_neg (nI_pos (by omega))]
    exact ⟨rfl, fun _ => (if_neg (nI_pos (by omega))).symm⟩
/-- a character more -/
theorem LWx.app (h : LWx σ I X o so om out dout ta ar tg ad C n t1 t2 t3) {σ' : SH} (hσ : ∃ (J : Nat → Nat → Int64) (Z : Nat → Nat → UInt64), σ' = (shL σ, shK σ, shR σ, shN σ, shY σ, J, Z)) (hn : n < 60) (x T : Int32) :
    LW σ' (va_up (va_up I so (upd (I so) 1 (nI (n + 1)))) om (upd (th (I om) T) 6 (nI (n + 1)))) (va_up (va_up X (ta 0) (upd (X (ta 0)) n x)) (ar 5) (upd (X (ar 5)) n x)) o so om out dout ta ar := by
  obtain ⟨J, Z, rfl⟩ := hσ
  obtain ⟨hS, hT, h1, hG, hRG, hTr, hSn, hIn, hEr⟩ := h
  have hms := hS.2.2.2.1
  have hss := hS.2.2.1
  have k0 : shK σ (ta 0) = 10 := hss.a0.2.2.1
  have n_so : so ≠ om := fun e => by have := hss.1.2; rw [e, hms.1.2] at this; omega
  have n_o : o ≠ om := fun e => by have := hS.1.2; rw [e, hms.1.2] at this; omega
  have n_os : o ≠ so := fun e => by have := hS.1.2; rw [e, hss.1.2] at this; omega
  have art : ∀ j, j ∈ mIx → ar j ≠ ta 0 := fun j hj e => by have a := hT.2.2 j hj; rw [e, hT.2.1 0 (by decide)] at a; omega
  have oth : ∀ {t : Nat} {bd : Nat → Nat} {E : IX}, t < 4 → GB σ I X tg t bd E → GB (shL σ, shK σ, shR σ, shN σ, shY σ, J, Z) (va_up (va_up I so (upd (I so) 1 (nI (n + 1)))) om (upd (th (I om) T) 6 (nI (n + 1)))) (va_up (va_up X (ta 0) (upd (X (ta 0)) n x)) (ar 5) (upd (X (ar 5)) n x)) tg t bd E := fun {t} {bd} {E} ht g => by
    refine ⟨g.1, g.2.1, fun k hk => ?_, fun k hk => ?_⟩
    · rw [va_up_ne _ _ (g.nI (by rw [hms.1.2]; omega) k hk), va_up_ne _ _ (g.nI (by rw [hss.1.2]; omega) k hk)]; exact g.2.2.1 k hk
    · rw [va_up_ne _ _ (g.nX (by rw [hT.2.2 5 (by decide)]; omega) k hk), va_up_ne _ _ (g.nX (by rw [hT.2.1 0 (by decide)]; omega) k hk)]; exact g.2.2.2 k hk
  have xr : ∀ j, j ∈ mIx → j ≠ 5 → (va_up (va_up X (ta 0) (upd (X (ta 0)) n x)) (ar 5) (upd (X (ar 5)) n x)) (ar j) = X (ar j) := fun j hj hne => by rw [va_up_ne _ _ (hms.ne j 5 hj (by decide) hne), va_up_ne _ _ (art j hj)]
  have fm : ∀ j, j ≠ 0 → j ≠ 6 → (va_up (va_up I so (upd (I so) 1 (nI (n + 1)))) om (upd (th (I om) T) 6 (nI (n + 1)))) om j = I om j := fun j h0 h6 => by rw [va_up_self, upd_at, if_neg h6]; exact th_n h0
  refine ⟨tg, ad, C, n + 1, t1, t2, t3, hS, hT, h1, oth hT.1.1 hG, by rw [xr 1 (by decide) (by omega)]; exact hRG, ?_, ?_, ⟨?_, by omega, ?_, fun i hi => ?_⟩, ⟨?_, ?_⟩⟩
  · rcases hTr with q | ⟨td, E, q1, q2, q3⟩
    · exact Or.inl q
    · exact Or.inr ⟨td, E, q1, oth hT.1.2.1 q2, q3⟩
  · rcases hSn with ⟨q1, q2⟩ | ⟨sd, E, q1, q2, q3, q4⟩
    · exact Or.inl ⟨q1, by rw [fm 4 (by omega) (by omega)]; exact q2⟩
    · exact Or.inr ⟨sd, E, q1, oth hT.1.2.2.1 q2, by rw [xr 2 (by decide) (by omega)]; exact q3, by rw [fm 4 (by omega) (by omega)]; exact q4⟩
  · rw [va_up_ne _ _ n_so, va_up_self, upd_at, if_pos rfl]
  · rw [va_up_self, upd_at, if_pos rfl]
  · rw [va_up_ne _ _ (Ne.symm (art 5 (by decide))), va_up_self, va_up_self, upd_at, upd_at]
    by_cases e : i = n
    · rw [if_pos e, if_pos e]
    · rw [if_neg e, if_neg e]; exact hIn.2.2.2 i (by omega)
  · rw [va_up_ne _ _ n_o, va_up_ne _ _ n_os, fm 7 (by omega) (by omega)]; exact hEr.1
  · rw [fm 7 (by omega) (by omega)]; exact hEr.2
theorem LWx.nmso (h : LWx σ I X o so om out dout ta ar tg ad C n t1 t2 t3) : om ≠ so := fun e => by have := h.ms.1.2; rw [e, h.ss.1.2] at this; omega
theorem LWx.na5 (h : LWx σ I X o so om out dout ta ar tg ad C n t1 t2 t3) : ar 5 ≠ ta 0 := fun e => by have a := h.2.1.2.2 5 (by decide); rw [e, h.2.1.2.1 0 (by decide)] at a; omega
theorem LWx.thr (h : LWx σ I X o so om out dout ta ar tg ad C n t1 t2 t3) {σ' : SH} (hσ : ∃ (J : Nat → Nat → Int64) (Z : Nat → Nat → UInt64), σ' = (shL σ, shK σ, shR σ, shN σ, shY σ, J, Z)) (T : Int32) : LW σ' (va_up I om (th (I om) T)) X o so om out dout ta ar :=
  ⟨tg, ad, C, n, t1, t2, t3, h.step hσ (fun a _ hn => va_up_ne _ _ hn) (fun j hj => by rw [va_up_self]; exact th_n hj) (fun k hk => by rw [va_up_ne _ _ (h.nom k hk)]; exact h.gb.2.2.1 k hk) (fun _ _ _ _ => rfl) h.gb.2.2.2 h.rg⟩
end LWt
theorem app_C {x : Int32} {n : Nat} : (zisIn x (nI 32) (nI 126) = true ∧ n ≠ 60 ∧ (if zisIn x (nI 32) (nI 126) then (if n = 60 then nI 2 else nI 0) else nI 1) = nI 0) ∨ (¬ (if zisIn x (nI 32) (nI 126) then (if n = 60 then nI 2 else nI 0) else nI 1) = nI 0 ∧ (∀ {f : Rw}, (if zisIn x (nI 32) (nI 126) then (if n = 60 then th f (nI 2) else upd (th f (nI 0)) 6 (nI (n + 1))) else th f (nI 1)) = th f (if zisIn x (nI 32) (nI 126) then (if n = 60 then nI 2 else nI 0) else nI 1)) ∧ ∀ {g : Rw}, (if zisIn x (nI 32) (nI 126) && !decide (n = 60) then upd g n x else g) = g) := by
  cases hz : zisIn x (nI 32) (nI 126) with
  | false => exact Or.inr ⟨show ¬ nI 1 = nI 0 by decide, fun {f} => rfl, fun {g} => rfl⟩
  | true =>
    by_cases e : n = 60
    · refine Or.inr ⟨?_, fun {f} => ?_, fun {g} => ?_⟩
      · rw [if_pos rfl, if_pos e]; decide
      · rw [if_pos rfl, if_pos rfl, if_pos e, if_pos e]
      · rw [decide_eq_true e]; rfl
    · refine Or.inl ⟨rfl, e, ?_⟩
      rw [if_pos rfl, if_neg e]

theorem ov_ex {C : IX} {v : Rw} (h : RG C v) (x y : Int32) (hT : (if zPr x && zPr y then (if v (1550 + x.toNatClampNeg) = 0 then nI 2 else nI 0) else nI 1) = nI 0) : ∃ n L, n < 151 ∧ L < 151 ∧ 0 < L ∧ (if (if zPr x && zPr y then (if v (1550 + x.toNatClampNeg) = 0 then nI 2 else nI 0) else nI 1) = nI 0 then FP.ddiv (FP.i2d (nI (zcB (zshF v x.toNatClampNeg y.toNatClampNeg) (vN v (1550 + x.toNatClampNeg))))) (FP.i2d (nI (vN v (1550 + x.toNatClampNeg)))) else FP.dconst0) = FP.ddiv (FP.i2d (nI n)) (FP.i2d (nI L)) := by
  rw [if_pos hT]
  have hbb : (zPr x && zPr y) = true := by
    cases hb : zPr x && zPr y with
    | true => rfl
    | false => rw [hb] at hT; exact absurd hT (show ¬ nI 1 = nI 0 by decide)
  obtain ⟨h1, h2⟩ := Bool.and_eq_true_iff.mp hbb
  obtain ⟨p, hp, e⟩ := zPr_of h1
  have cp : x.toNatClampNeg = p := by rw [e]; exact nI_clamp (by omega)
  rw [if_pos hbb, cp] at hT
  rw [cp]
  have hl := h.1.wv.l150 hp
  have hz := zcB_le (zshF v p y.toNatClampNeg) (vN v (1550 + p))
  refine ⟨_, _, by omega, by omega, Nat.pos_of_ne_zero (fun q => ?_), rfl⟩
  rw [if_pos (by rw [h.1.wv.l hp, q]; rfl)] at hT
  exact absurd hT (by decide)
section Cs2
variable {p : Program} {l : Launch} {e : Env} {R : Room} {s : State} {m : MethodId} {args : Array Value} {below : List Frame} {meth : Method} {c : Code} {D : va_G} {cy sa sv : Nat → Nat} {A : Nat → Prop} {Q : State → Prop} {cells slots : Nat} {σ : SH} {I X : IX} {b L i : Nat} {xs : Nat → Int32} {o so om out dout : Nat} {ta ar tg ad : Nat → Nat} {C : IX} {n t1 t2 t3 : Nat}
set_option maxRecDepth 20000 in
theorem lcase_errorPosition (hF : Fx p l s m args meth c D cy sa sv A 9 RL cL_law (some .boolean)) (hst : l.stackTraces = false) (hnc : NC s) (hXs : va_X b L xs s s.heap) (hbl : b < s.heap.size) (hbA : ¬ A b) (hi : i + 3 < L) (hL : L ≤ 2048) (hw : LWx σ I X o so om out dout ta ar tg ad C n t1 t2 t3) (hc1 : cells + 60 ≤ R.cells) (hs1 : slots + 5000 ≤ R.slots) (hR1 : 20 ≤ R.frames) (hR2 : 10000 ≤ R.locals)
    (K : ∀ (σ' : SH) (I' X' : IX), LW σ' I' X' o so om out dout ta ar → V p l e R s m args below meth c D cy A Q 9 (cells + 60) (slots + 5000) σ' I' X' 2493 [(0, .ref b), (1, .ref o), (2, .ref om), (3, .ref out), (4, .ref dout), (5, .int (nI i))] []) : V p l e R s m args below meth c D cy A Q 9 cells slots σ I X 2392 [(0, .ref b), (1, .ref o), (2, .ref om), (3, .ref out), (4, .ref dout), (5, .int (nI i))] [] := by
  have hms := hw.ms
  have her := hw.err
  refine V.eqI hw.eI ?_
  refine V.eqX hw.eX ?_
  refine V.aload_n hF dL_law_2392 rfl ?_
  refine V.aload_n hF dL_law_2393 rfl ?_
  refine V.callSW hF dL_law_2394 (ct_L_errorPosition hst σ (put idI I ad C) (put idX X ad C) o hw.1.1 (I o) (hw.po C) out hw.1.2.2.2.2.1.1 hw.1.2.2.2.2.1.2.1 hw.1.2.2.2.2.1.2.2) lw_L_errorPosition hnc ⟨by omega, by omega, by omega, by omega⟩ (Nat.le_of_ble_eq_true rfl) (fun r s2 I2 X2 hx => ?_) rfl
  obtain ⟨e0, g, e1, e2, e3, hg⟩ := hx
  rw [her.1] at e0 hg
  rw [e0, e1, e2, e3]
  refine V.istore hF dL_law_2397 (by decide) ?_
  refine V.aload_n hF dL_law_2399 rfl ?_
  refine V.vI hF dL_law_2400 (ct_X5_errorPosition hst (shSetJ σ out g) _ _ om ar hms _ (hw.pm C)) lk_L_270 sl_X5_errorPosition hms.1.1 hms.1.2 rfl (Nat.le_of_ble_eq_true rfl) ⟨by omega, by omega, by omega, by omega⟩ (Nat.le_of_ble_eq_true rfl) rfl ?_
  refine V.istore hF dL_law_2403 (by decide) ?_
  refine V.aload_n hF dL_law_2405 rfl ?_
  refine V.vI hF dL_law_2406 (ct_X5_thrown hst (shSetJ σ out g) _ _ om ar hms _ (va_up_self _ _ _)) lk_L_145 sl_X5_thrown hms.1.1 hms.1.2 rfl (Nat.le_of_ble_eq_true rfl) ⟨by omega, by omega, by omega, by omega⟩ (Nat.le_of_ble_eq_true rfl) rfl ?_
  refine V.topi (th_0 _ _) ?_
  refine V.iload hF dL_law_2409 rfl ?_
  refine V.icmp_eq (tgt := 2416) hF dL_law_2411 (by decide) (fun _ => ?_) (fun hq => absurd rfl hq)
  refine V.iload hF dL_law_2416 rfl ?_
  refine V.if_ne (tgt := 2433) hF dL_law_2418 (by decide) (fun _ => ?_) (fun h0 => ?_)
  · refine V.goto (tgt := 2493) hF dL_law_2433 (by decide) ?_
    refine V.relv [0, 1, 2, 3, 4, 5] rfl ?_
    refine V.widen (k := cells + 60) (n := slots + 5000) (by omega) (by omega) ?_
    exact K _ _ _ (hw.std0 ⟨_, _, rfl⟩ _ hw.rg)
  · refine V.aload_n hF dL_law_2421 rfl ?_
    refine V.iconst (v := nI 0) hF dL_law_2422 (by decide) ?_
    refine V.laload (j := 0) hF dL_law_2423 hw.1.2.2.2.2.1.1 hw.1.2.2.2.2.1.2.1 rfl (by show 0 < shN σ out; rw [hw.1.2.2.2.2.1.2.2]; omega) (by show shN σ out < _; rw [hw.1.2.2.2.2.1.2.2]; omega) ?_
    refine V.topl ((congrFun (va_up_self (shJ σ) out g) 0).trans ((hg h0).trans (congrArg Int32.toInt64 (her.2 h0)))) ?_
    refine V.iload hF dL_law_2424 rfl ?_
    refine V.i2l hF dL_law_2426 ?_
    refine V.lcmp hF dL_law_2427 ?_
    refine V.if_eq (tgt := 2433) hF dL_law_2428 (by decide) (fun _ => ?_) (fun hq => absurd (lg_self _) hq)
    refine V.goto (tgt := 2493) hF dL_law_2433 (by decide) ?_
    refine V.relv [0, 1, 2, 3, 4, 5] rfl ?_
    refine V.widen (k := cells + 60) (n := slots + 5000) (by omega) (by omega) ?_
    exact K _ _ _ (hw.std0 ⟨_, _, rfl⟩ _ hw.rg)
set_option maxRecDepth 20000 in
theorem lcase_overlap (hF : Fx p l s m args meth c D cy sa sv A 9 RL cL_law (some .boolean)) (hst : l.stackTraces = false) (hnc : NC s) (hXs : va_X b L xs s s.heap) (hbl : b < s.heap.size) (hbA : ¬ A b) (hi : i + 3 < L) (hL : L ≤ 2048) (hw : LWx σ I X o so om out dout ta ar tg ad C n t1 t2 t3) (hc1 : cells + 60 ≤ R.cells) (hs1 : slots + 5000 ≤ R.slots) (hR1 : 20 ≤ R.frames) (hR2 : 10000 ≤ R.locals)
    (K : ∀ (σ' : SH) (I' X' : IX), LW σ' I' X' o so om out dout ta ar → V p l e R s m args below meth c D cy A Q 9 (cells + 60) (slots + 5000) σ' I' X' 2493 [(0, .ref b), (1, .ref o), (2, .ref om), (3, .ref out), (4, .ref dout), (5, .int (nI i))] []) : V p l e R s m args below meth c D cy A Q 9 cells slots σ I X 1871 [(0, .ref b), (1, .ref o), (2, .ref om), (3, .ref out), (4, .ref dout), (5, .int (nI i))] [] := by
  have hms := hw.ms
  have hov : (if zPr (xs (i + 1)) && zPr (xs (i + 2)) then (if X (ar 1) (1550 + (xs (i + 1)).toNatClampNeg) = 0 then nI 2 else nI 0) else nI 1) = nI 0 → ∃ n L, n < 151 ∧ L < 151 ∧ 0 < L ∧ (if (if zPr (xs (i + 1)) && zPr (xs (i + 2)) then (if X (ar 1) (1550 + (xs (i + 1)).toNatClampNeg) = 0 then nI 2 else nI 0) else nI 1) = nI 0 then FP.ddiv (FP.i2d (nI (zcB (zshF (X (ar 1)) (xs (i + 1)).toNatClampNeg (xs (i + 2)).toNatClampNeg) (vN (X (ar 1)) (1550 + (xs (i + 1)).toNatClampNeg))))) (FP.i2d (nI (vN (X (ar 1)) (1550 + (xs (i + 1)).toNatClampNeg)))) else FP.dconst0) = FP.ddiv (FP.i2d (nI n)) (FP.i2d (nI L)) := ov_ex hw.rg _ _
  refine V.eqI hw.eI ?_
  refine V.eqX hw.eX ?_
  refine V.aload_n hF dL_law_1871 rfl ?_
  refine V.aload_n hF dL_law_1872 rfl ?_
  refine V.iload hF dL_law_1873 rfl ?_
  refine V.iconst (v := nI 1) hF dL_law_1875 (by decide) ?_
  refine V.iadd hF dL_law_1876 ?_
  refine V.sld (j := i + 1) hF hXs hbl hbA (by simp only [nI_add]) (by omega) hL dL_law_1877 ?_
  refine V.aload_n hF dL_law_1878 rfl ?_
  refine V.iload hF dL_law_1879 rfl ?_
  refine V.iconst (v := nI 2) hF dL_law_1881 (by decide) ?_
  refine V.iadd hF dL_law_1882 ?_
  refine V.sld (j := i + 2) hF hXs hbl hbA (by simp only [nI_add]) (by omega) hL dL_law_1883 ?_
  refine V.aload hF dL_law_1884 rfl ?_
  refine V.callSW hF dL_law_1886 (ct_L_overlap hst σ I X o ad hw.fs hw.gb.1 C (X (ar 1)) hw.rg dout hw.1.2.2.2.2.2.1 hw.1.2.2.2.2.2.2.1 hw.1.2.2.2.2.2.2.2 (xs (i + 1)) (xs (i + 2))) lw_L_overlap hnc ⟨by omega, by omega, by omega, by omega⟩ (Nat.le_of_ble_eq_true rfl) (fun r s2 I2 X2 hx => ?_) rfl
  obtain ⟨e0, g, e1, e2, e3, hg⟩ := hx
  rw [e0, e1, e2, e3]
  refine V.istore hF dL_law_1889 (by decide) ?_
  refine V.aload_n hF dL_law_1891 rfl ?_
  refine V.aload_n hF dL_law_1892 rfl ?_
  refine V.iload hF dL_law_1893 rfl ?_
  refine V.iconst (v := nI 1) hF dL_law_1895 (by decide) ?_
  refine V.iadd hF dL_law_1896 ?_
  refine V.sld (j := i + 1) hF hXs hbl hbA (by simp only [nI_add]) (by omega) hL dL_law_1897 ?_
  refine V.aload_n hF dL_law_1898 rfl ?_
  refine V.iload hF dL_law_1899 rfl ?_
  refine V.iconst (v := nI 2) hF dL_law_1901 (by decide) ?_
  refine V.iadd hF dL_law_1902 ?_
  refine V.sld (j := i + 2) hF hXs hbl hbA (by simp only [nI_add]) (by omega) hL dL_law_1903 ?_
  refine V.vD hF dL_law_1904 (ct_X5_overlap hst (shSetZ σ dout g) _ _ om ar hms _ (hw.pm C) _ (hw.pa C (by decide)) hw.rg.1.wv (xs (i + 1)) (xs (i + 2))) lk_L_244 sl_X5_overlap hms.1.1 hms.1.2 rfl (Nat.le_of_ble_eq_true rfl) ⟨by omega, by omega, by omega, by omega⟩ (Nat.le_of_ble_eq_true rfl) rfl ?_
  refine V.dstore hF dL_law_1907 (by decide) ?_
  refine V.aload_n hF dL_law_1909 rfl ?_
  refine V.vI hF dL_law_1910 (ct_X5_thrown hst (shSetZ σ dout g) _ _ om ar hms _ (va_up_self _ _ _)) lk_L_145 sl_X5_thrown hms.1.1 hms.1.2 rfl (Nat.le_of_ble_eq_true rfl) ⟨by omega, by omega, by omega, by omega⟩ (Nat.le_of_ble_eq_true rfl) rfl ?_
  refine V.topi (th_0 _ _) ?_
  refine V.iload hF dL_law_1913 rfl ?_
  refine V.icmp_eq (tgt := 1920) hF dL_law_1915 (by decide) (fun _ => ?_) (fun hq => absurd rfl hq)
  refine V.iload hF dL_law_1920 rfl ?_
  refine V.if_ne (tgt := 1957) hF dL_law_1922 (by decide) (fun _ => ?_) (fun h0 => ?_)
  · refine V.goto (tgt := 2493) hF dL_law_1957 (by decide) ?_
    refine V.relv [0, 1, 2, 3, 4, 5] rfl ?_
    refine V.widen (k := cells + 60) (n := slots + 5000) (by omega) (by omega) ?_
    exact K _ _ _ (hw.std0 ⟨_, _, rfl⟩ _ hw.rg)
  · refine V.aload hF dL_law_1925 rfl ?_
    refine V.iconst (v := nI 0) hF dL_law_1927 (by decide) ?_
    refine V.daload (j := 0) hF dL_law_1928 hw.1.2.2.2.2.2.1 hw.1.2.2.2.2.2.2.1 rfl (by show 0 < shN σ dout; rw [hw.1.2.2.2.2.2.2.2]; omega) (by show shN σ dout < _; rw [hw.1.2.2.2.2.2.2.2]; omega) ?_
    refine V.topd ((congrFun (va_up_self (shZ σ) dout g) 0).trans (hg h0)) ?_
    refine V.dload hF dL_law_1929 rfl ?_
    refine V.dcmp hF dL_law_1931 ?_
    refine V.if_eq (tgt := 1957) hF dL_law_1932 (by decide) (fun _ => ?_) (fun hq => absurd (ov_cmp (hov h0)) hq)
    refine V.goto (tgt := 2493) hF dL_law_1957 (by decide) ?_
    refine V.relv [0, 1, 2, 3, 4, 5] rfl ?_
    refine V.widen (k := cells + 60) (n := slots + 5000) (by omega) (by omega) ?_
    exact K _ _ _ (hw.std0 ⟨_, _, rfl⟩ _ hw.rg)
set_option maxRecDepth 20000 in
theorem lcase_append (hF : Fx p l s m args meth c D cy sa sv A 9 RL cL_law (some .boolean)) (hst : l.stackTraces = false) (hnc : NC s) (hXs : va_X b L xs s s.heap) (hbl : b < s.heap.size) (hbA : ¬ A b) (hi : i + 3 < L) (hL : L ≤ 2048) (hw : LWx σ I X o so om out dout ta ar tg ad C n t1 t2 t3) (hc1 : cells + 60 ≤ R.cells) (hs1 : slots + 5000 ≤ R.slots) (hR1 : 20 ≤ R.frames) (hR2 : 10000 ≤ R.locals)
    (K : ∀ (σ' : SH) (I' X' : IX), LW σ' I' X' o so om out dout ta ar → V p l e R s m args below meth c D cy A Q 9 (cells + 60) (slots + 5000) σ' I' X' 2493 [(0, .ref b), (1, .ref o), (2, .ref om), (3, .ref out), (4, .ref dout), (5, .int (nI i))] []) : V p l e R s m args below meth c D cy A Q 9 cells slots σ I X 2290 [(0, .ref b), (1, .ref o), (2, .ref om), (3, .ref out), (4, .ref dout), (5, .int (nI i))] [] := by
  have hms := hw.ms
  have hin := hw.2.2.2.2.2.2.2.1
  refine V.aload_n hF dL_law_2290 rfl ?_
  refine V.aload_n hF dL_law_2291 rfl ?_
  refine V.iload hF dL_law_2292 rfl ?_
  refine V.iconst (v := nI 1) hF dL_law_2294 (by decide) ?_
  refine V.iadd hF dL_law_2295 ?_
  refine V.sld (j := i + 1) hF hXs hbl hbA (by simp only [nI_add]) (by omega) hL dL_law_2296 ?_
  refine V.i2c hF dL_law_2297 ?_
  refine V.aload_n hF dL_law_2298 rfl ?_
  refine V.callSW hF dL_law_2299 (ct_L_append hst σ I X o so ta hw.1.1 hw.1.2.1 hw.ss (I so) (X (ta 0)) rfl rfl n hin.1 hin.2.1 ((xs (i + 1)).toUInt32 % 65536).toInt32 (pk_vc _) out hw.1.2.2.2.2.1.1 hw.1.2.2.2.2.1.2.1 hw.1.2.2.2.2.1.2.2) lw_L_append hnc ⟨by omega, by omega, by omega, by omega⟩ (Nat.le_of_ble_eq_true rfl) (fun r s2 I2 X2 hx => ?_) rfl
  obtain ⟨e0, g, e1, hg, e2, e3⟩ := hx
  rcases app_C (x := ((xs (i + 1)).toUInt32 % 65536).toInt32) (n := n) with ⟨hz, hn6, hT0⟩ | ⟨hT0, em, ex⟩
  · have hg0 := hg hT0
    rw [hT0] at e0
    rw [if_pos hT0] at e2 e3
    rw [e0, e1, e2, e3]
    have hct := ct_X5_append (l := l) (D := D) (cy := cy) (sa := sa) (sv := sv) hst (shSetJ σ out g) (va_up I so (upd (I so) 1 (nI (n + 1)))) (va_up X (ta 0) (upd (X (ta 0)) n ((xs (i + 1)).toUInt32 % 65536).toInt32)) om ar hms (I om) (va_up_ne _ _ hw.nmso) (X (ar 5)) (va_up_ne _ _ hw.na5) n hin.2.2.1 hin.2.1 ((xs (i + 1)).toUInt32 % 65536).toInt32
    rw [hz, decide_eq_false hn6, if_neg hn6, if_neg hn6, if_pos rfl, if_pos rfl] at hct
    refine V.istore hF dL_law_2302 (by decide) ?_
    refine V.aload_n hF dL_law_2304 rfl ?_
    refine V.aload_n hF dL_law_2305 rfl ?_
    refine V.iload hF dL_law_2306 rfl ?_
    refine V.iconst (v := nI 1) hF dL_law_2308 (by decide) ?_
    refine V.iadd hF dL_law_2309 ?_
    refine V.sld (j := i + 1) hF hXs hbl hbA (by simp only [nI_add]) (by omega) hL dL_law_2310 ?_
    refine V.i2c hF dL_law_2311 ?_
    refine V.vI hF dL_law_2312 hct lk_L_264 sl_X5_append hms.1.1 hms.1.2 rfl (Nat.le_of_ble_eq_true rfl) ⟨by omega, by omega, by omega, by omega⟩ (Nat.le_of_ble_eq_true rfl) rfl ?_
    refine V.istore hF dL_law_2315 (by decide) ?_
    refine V.aload_n hF dL_law_2317 rfl ?_
    refine V.vI hF dL_law_2318 (ct_X5_thrown hst (shSetJ σ out g) _ _ om ar hms _ (va_up_self _ _ _)) lk_L_145 sl_X5_thrown hms.1.1 hms.1.2 rfl (Nat.le_of_ble_eq_true rfl) ⟨by omega, by omega, by omega, by omega⟩ (Nat.le_of_ble_eq_true rfl) rfl ?_
    refine V.topi (y := nI 0) (by rw [upd_at, if_neg (by omega), th_0]) ?_
    refine V.iload hF dL_law_2321 rfl ?_
    refine V.icmp_eq (tgt := 2328) hF dL_law_2323 (by decide) (fun _ => ?_) (fun hq => absurd rfl hq)
    refine V.iload hF dL_law_2328 rfl ?_
    refine V.if_ne (tgt := 2345) hF dL_law_2330 (by decide) (fun hq => absurd rfl hq) (fun h0 => ?_)
    refine V.aload_n hF dL_law_2333 rfl ?_
    refine V.iconst (v := nI 0) hF dL_law_2334 (by decide) ?_
    refine V.laload (j := 0) hF dL_law_2335 hw.1.2.2.2.2.1.1 hw.1.2.2.2.2.1.2.1 rfl (by show 0 < shN σ out; rw [hw.1.2.2.2.2.1.2.2]; omega) (by show shN σ out < _; rw [hw.1.2.2.2.2.1.2.2]; omega) ?_
    refine V.topl ((congrFun (va_up_self (shJ σ) out g) 0).trans hg0) ?_
    refine V.iload hF dL_law_2336 rfl ?_
    refine V.i2l hF dL_law_2338 ?_
    refine V.lcmp hF dL_law_2339 ?_
    refine V.if_eq (tgt := 2345) hF dL_law_2340 (by decide) (fun _ => ?_) (fun hq => absurd (lg_self _) hq)
    refine V.goto (tgt := 2493) hF dL_law_2345 (by decide) ?_
    refine V.relv [0, 1, 2, 3, 4, 5] rfl ?_
    refine V.widen (k := cells + 60) (n := slots + 5000) (by omega) (by omega) ?_
    exact K _ _ _ (hw.app ⟨_, _, rfl⟩ (by have := hin.2.1; omega) ((xs (i + 1)).toUInt32 % 65536).toInt32 _)
  · rw [if_neg hT0] at e2 e3
    rw [e0, e1, e2, e3]
    have hct := ct_X5_append (l := l) (D := D) (cy := cy) (sa := sa) (sv := sv) hst (shSetJ σ out g) I X om ar hms (I om) rfl (X (ar 5)) rfl n hin.2.2.1 hin.2.1 ((xs (i + 1)).toUInt32 % 65536).toInt32
    rw [em, ex] at hct
    refine V.istore hF dL_law_2302 (by decide) ?_
    refine V.aload_n hF dL_law_2304 rfl ?_
    refine V.aload_n hF dL_law_2305 rfl ?_
    refine V.iload hF dL_law_2306 rfl ?_
    refine V.iconst (v := nI 1) hF dL_law_2308 (by decide) ?_
    refine V.iadd hF dL_law_2309 ?_
    refine V.sld (j := i + 1) hF hXs hbl hbA (by simp only [nI_add]) (by omega) hL dL_law_2310 ?_
    refine V.i2c hF dL_law_2311 ?_
    refine V.vI hF dL_law_2312 hct lk_L_264 sl_X5_append hms.1.1 hms.1.2 rfl (Nat.le_of_ble_eq_true rfl) ⟨by omega, by omega, by omega, by omega⟩ (Nat.le_of_ble_eq_true rfl) rfl ?_
    refine V.istore hF dL_law_2315 (by decide) ?_
    refine V.aload_n hF dL_law_2317 rfl ?_
    refine V.vI hF dL_law_2318 (ct_X5_thrown hst (shSetJ σ out g) _ _ om ar hms _ (va_up_self _ _ _)) lk_L_145 sl_X5_thrown hms.1.1 hms.1.2 rfl (Nat.le_of_ble_eq_true rfl) ⟨by omega, by omega, by omega, by omega⟩ (Nat.le_of_ble_eq_true rfl) rfl ?_
    refine V.topi (th_0 _ _) ?_
    refine V.iload hF dL_law_2321 rfl ?_
    refine V.icmp_eq (tgt := 2328) hF dL_law_2323 (by decide) (fun _ => ?_) (fun hq => absurd rfl hq)
    refine V.iload hF dL_law_2328 rfl ?_
    refine V.if_ne (tgt := 2345) hF dL_law_2330 (by decide) (fun _ => ?_) (fun h0 => absurd h0 hT0)
    rw [up_eta]
    refine V.goto (tgt := 2493) hF dL_law_2345 (by decide) ?_
    refine V.relv [0, 1, 2, 3, 4, 5] rfl ?_
    refine V.widen (k := cells + 60) (n := slots + 5000) (by omega) (by omega) ?_
    exact K _ _ _ (hw.thr ⟨_, _, rfl⟩ _)
end Cs2
