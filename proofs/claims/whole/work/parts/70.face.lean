/-! THE FACE: the object o, its group ad -/
def FS (σ : SH) (o : Nat) (ad : Nat → Nat) : Prop := (o ∈ shL σ ∧ shK σ o = 4) ∧ shR σ o 1 = some (ad 100)
abbrev eIOB : String := "java/lang/IndexOutOfBoundsException"
abbrev eISE : String := "java/lang/IllegalStateException"
abbrev eIAE : String := "java/lang/IllegalArgumentException"
abbrev eNSE : String := "java/util/NoSuchElementException"
abbrev eARI : String := "java/lang/ArithmeticException"
/-- a guard: it returns where g, else it throws n -/
def gP (g : Bool) (σ : SH) (I X : IX) : PO := fun v' σ' I' X' => g = true ∧ pR none σ I X v' σ' I' X'
def gX (g : Bool) (n : String) (σ : SH) (I X : IX) : PX := fun E σ' I' X' => g = false ∧ E = n ∧ σ' = σ ∧ I' = I ∧ X' = X
/-- a method's code T: 0 where it returns, else what it throws -/
def pT (T : Int32) (q : PO) : PO := fun v' σ' I' X' => T = nI 0 ∧ q v' σ' I' X'
def xT (T : Int32) (ns : List String) (σ : SH) (I X : IX) : PX := fun E σ' I' X' => (∃ j : Nat, ns[j]? = some E ∧ T = nI (j + 1)) ∧ σ' = σ ∧ I' = I ∧ X' = X
section VGu
variable {p : Program} {l : Launch} {e : Env} {R : Room} {s : State} {m : MethodId} {args : Array Value} {below : List Frame} {meth : Method} {c : Code} {D : va_G} {cy sa sv : Nat → Nat} {A : Nat → Prop} {cc : ByteArray} {nL : Nat} {own : String} {ret : Option FieldType} {cells slots : Nat} {σ : SH} {I X : IX} {pc : Nat} {lv : List (Nat × Value)} {st : List Value}
variable {y : MethodName} {cc' : ByteArray} {n' : Nat} {ret' : Option FieldType} {d' mc ms mc0 ms0 : Nat} {av : List Value} {post : PO} {xp : PX} {g : Bool} {n : String}
theorem V.sG (hF : Fx p l s m args meth c D cy sa sv A nL own cc ret) {idx : Nat} (d : decode cc pc = .ok (.invokestatic idx, 3)) (hc : Ct l D cy sa sv y cc' n' ret' d' mc ms av σ I X (gP g σ I X) (gX g n σ I X)) (hl : Lk own idx y cc' n' ret' av.length (Cond.static y)) (hR : Fit R d' n' mc ms cells slots) (hw : (st.map fun v => v.category).sum ≤ 8) (hout : ∀ x ∈ c.exceptionTable.toList, False) (h1 : cells + mc ≤ mc0) (h2 : slots + ms ≤ ms0) {st0 : List Value} (hst : st0 = av.reverse ++ st)
    (kx : g = false → xp n σ I X) (kk : g = true → V p l e R s m args below meth c D cy A (QM below args s D cy A post xp mc0 ms0) nL (cells + mc) (slots + ms) σ I X (pc + 3) lv st) : V p l e R s m args below meth c D cy A (QM below args s D cy A post xp mc0 ms0) nL cells slots σ I X pc lv st0 := by
  refine V.callS hF d hc hl hR hw (fun E σ' I' X' h => ?_) (fun v σ' I' X' h => ?_) hst
  · obtain ⟨hg, hE, hs, hI, hX⟩ := h
    rw [hE, hs, hI, hX]
    exact VX.out hF hout h1 h2 (kx hg)
  · obtain ⟨hg, hv, hs, hI, hX⟩ := h
    rw [hv, hs, hI, hX]
    exact kk hg
theorem V.vG (hF : Fx p l s m args meth c D cy sa sv A nL own cc ret) {idx b ci : Nat} {As : List Value} {C : String} {T : u_T} {N : Nat} (d : decode cc pc = .ok (.invokevirtual idx, 3)) (hc : Ct l D cy sa sv y cc' n' ret' d' mc ms (.ref b :: As) σ I X (gP g σ I X) (gX g n σ I X)) (hl : Lk own idx y cc' n' ret' As.length (Cond.instanceMethod y)) (hsel : Cond.selects C y y ∈ GT) (hm : b ∈ shL σ) (hK : shK σ b = ci) (hC : vcl[ci]? = some (C, T, N)) (hci : ci < 6) (hR : Fit R d' n' mc ms cells slots) (hw : (st.map fun v => v.category).sum ≤ 8) (hout : ∀ x ∈ c.exceptionTable.toList, False) (h1 : cells + mc ≤ mc0) (h2 : slots + ms ≤ ms0) {st0 : List Value} (hst : st0 = (.ref b :: As).reverse ++ st)
    (kx : g = false → xp n σ I X) (kk : g = true → V p l e R s m args below meth c D cy A (QM below args s D cy A post xp mc0 ms0) nL (cells + mc) (slots + ms) σ I X (pc + 3) lv st) : V p l e R s m args below meth c D cy A (QM below args s D cy A post xp mc0 ms0) nL cells slots σ I X pc lv st0 := by
  refine V.callV (av := .ref b :: As) (C := C) (ci := ci) hF d hc hl hsel ⟨b, As, rfl, hm, hK, hci, T, N, hC⟩ hR hw (fun E σ' I' X' h => ?_) (fun v σ' I' X' h => ?_) hst
  · obtain ⟨hg, hE, hs, hI, hX⟩ := h
    rw [hE, hs, hI, hX]
    exact VX.out hF hout h1 h2 (kx hg)
  · obtain ⟨hg, hv, hs, hI, hX⟩ := h
    rw [hv, hs, hI, hX]
    exact kk hg
end VGu
theorem gvw_of {C : IX} (hC : WC C) {x : Int32} (h : zisIn x (nI 0) (C 100 4) = true) : ∃ j, j ≤ cN C 100 4 ∧ x = nI j := by
  have h20 := hC.vw20
  rw [hC.vw] at h
  exact zin_of (by omega) h
theorem zin_f1 {x a b : Int32} (h : x < a) : zisIn x a b = false := by rw [zisIn, decide_eq_false (lt_nle h)]; rfl
theorem zin_f2 {x a b : Int32} (h : ¬ x ≤ b) : zisIn x a b = false := by rw [zisIn, decide_eq_false h, Bool.and_false]
theorem zin_t {x a b : Int32} (h1 : ¬ x < a) (h2 : x ≤ b) : zisIn x a b = true := by rw [zisIn, decide_eq_true (nlt_le h1), decide_eq_true h2]; rfl
def ylgd (C : IX) (x y : Int32) : Bool := !decide (y < 0) && decide (y < C (10 + x.toNatClampNeg) 4)
theorem msg_out {y : Int32} (h : zisIn y (nI 0) (nI 3) = false) : y.toInt < 0 ∨ 3 < y.toInt := by
  have e0 : (nI 0).toInt = 0 := by decide
  have e3 : (nI 3).toInt = 3 := by decide
  simp only [zisIn, Bool.and_eq_false_iff, decide_eq_false_iff_not, Int32.le_iff_toInt_le] at h
  omega

section Fc
variable {l : Launch} {D : va_G} {cy sa sv : Nat → Nat}
set_option maxRecDepth 20000 in
theorem ct_X4_requireProcess (hst : l.stackTraces = false) (σ : SH) (I X : IX) (x : Int32) : Ct l D cy sa sv yX4_requireProcess cX4_requireProcess 1 none 6 1 6 [.int x] σ I X (gP (zPr x) σ I X) (gX (zPr x) eIOB σ I X) := by
  refine Ct.of (by decide) hst (Nat.le_of_ble_eq_true rfl) ?_
  intro pp ee ss mm args below meth kc A hF hnm hout
  refine V.iload_n hF dX4_requireProcess_0 rfl ?_
  refine V.sI hF dX4_requireProcess_1 (ct_X4_isProcess hst _ _ _ _) lk_X4_293 (fit_of rfl) (Nat.le_of_ble_eq_true rfl) rfl ?_
  refine V.if_neB (tgt := 18) hF dX4_requireProcess_4 (by decide) (fun h4 => ?_) (fun h4 => ?_)
  · refine V.vret hF dX4_requireProcess_18 (Nat.le_of_ble_eq_true rfl) (Nat.le_of_ble_eq_true rfl) ?_
    exact ⟨h4, rfl, rfl, rfl, rfl⟩
  · exact V.throwSW hF xw_IOB 17 rfl dX4_requireProcess_7 dX4_requireProcess_10 dX4_requireProcess_11 dX4_requireProcess_14 dX4_requireProcess_17 hout (Nat.le_of_ble_eq_true rfl) (Nat.le_of_ble_eq_true rfl) (Nat.le_of_ble_eq_true rfl) (Nat.le_of_ble_eq_true rfl) (Nat.le_of_ble_eq_true rfl) (Nat.le_of_ble_eq_true rfl) ⟨h4, rfl, rfl, rfl, rfl⟩
set_option maxRecDepth 20000 in
theorem ct_X4_requireMessage (hst : l.stackTraces = false) (σ : SH) (I X : IX) (o : Nat) (ad : Nat → Nat) (hO : FS σ o ad) (hG : GS σ ad) (C : IX) (x : Int32) : Ct l D cy sa sv yX4_requireMessage cX4_requireMessage 2 none 6 1 6 [.ref o, .int x] σ (put idI I ad C) (put idX X ad C) (gP (yhas C x) σ (put idI I ad C) (put idX X ad C)) (gX (yhas C x) eIOB σ (put idI I ad C) (put idX X ad C)) := by
  refine Ct.of (by decide) hst (Nat.le_of_ble_eq_true rfl) ?_
  intro pp ee ss mm args below meth kc A hF hnm hout
  refine V.aload_n hF dX4_requireMessage_0 rfl ?_
  refine V.getR hF dX4_requireMessage_1 fl_X4_19 hO.1.1 hO.1.2 rfl hO.2 ?_
  refine V.getRP (i := 2) hF dX4_requireMessage_4 fl_X4_40 hG.g rfl hG.r2 ?_
  refine V.iload_n hF dX4_requireMessage_7 rfl ?_
  refine V.vI hF dX4_requireMessage_8 (ct_X1_has hst _ _ _ _ hG _ _) lk_X4_298 sl_X1_has hG.m.1 hG.m.2 rfl (Nat.le_of_ble_eq_true rfl) (fit_of rfl) (Nat.le_of_ble_eq_true rfl) rfl ?_
  refine V.if_neB (tgt := 25) hF dX4_requireMessage_11 (by decide) (fun h11 => ?_) (fun h11 => ?_)
  · refine V.vret hF dX4_requireMessage_25 (Nat.le_of_ble_eq_true rfl) (Nat.le_of_ble_eq_true rfl) ?_
    exact ⟨h11, rfl, rfl, rfl, rfl⟩
  · exact V.throwSW hF xw_IOB 18 rfl dX4_requireMessage_14 dX4_requireMessage_17 dX4_requireMessage_18 dX4_requireMessage_21 dX4_requireMessage_24 hout (Nat.le_of_ble_eq_true rfl) (Nat.le_of_ble_eq_true rfl) (Nat.le_of_ble_eq_true rfl) (Nat.le_of_ble_eq_true rfl) (Nat.le_of_ble_eq_true rfl) (Nat.le_of_ble_eq_true rfl) ⟨h11, rfl, rfl, rfl, rfl⟩
set_option maxRecDepth 20000 in
theorem ct_X4_requireView (hst : l.stackTraces = false) (σ : SH) (I X : IX) (o : Nat) (ad : Nat → Nat) (hO : FS σ o ad) (hG : GS σ ad) (C : IX) (x : Int32) : Ct l D cy sa sv yX4_requireView cX4_requireView 2 none 6 1 6 [.ref o, .int x] σ (put idI I ad C) (put idX X ad C) (gP (zisIn x (nI 0) (C 100 4)) σ (put idI I ad C) (put idX X ad C)) (gX (zisIn x (nI 0) (C 100 4)) eIOB σ (put idI I ad C) (put idX X ad C)) := by
  refine Ct.of (by decide) hst (Nat.le_of_ble_eq_true rfl) ?_
  intro pp ee ss mm args below meth kc A hF hnm hout
  refine V.iload_n hF dX4_requireView_0 rfl ?_
  refine V.if_lt (tgt := 15) hF dX4_requireView_1 (by decide) (fun h1 => ?_) (fun h1 => ?_)
  · exact V.throwSW hF xw_IOB 19 rfl dX4_requireView_15 dX4_requireView_18 dX4_requireView_19 dX4_requireView_22 dX4_requireView_25 hout (Nat.le_of_ble_eq_true rfl) (Nat.le_of_ble_eq_true rfl) (Nat.le_of_ble_eq_true rfl) (Nat.le_of_ble_eq_true rfl) (Nat.le_of_ble_eq_true rfl) (Nat.le_of_ble_eq_true rfl) ⟨(by first | exact zin_f1 h1 | exact zin_f2 h12), rfl, rfl, rfl, rfl⟩
  · refine V.iload_n hF dX4_requireView_4 rfl ?_
    refine V.aload_n hF dX4_requireView_5 rfl ?_
    refine V.getR hF dX4_requireView_6 fl_X4_19 hO.1.1 hO.1.2 rfl hO.2 ?_
    refine V.getIP hF dX4_requireView_9 fl_X4_53 hG.g rfl hG (by decide) ?_
    refine V.icmp_le (tgt := 26) hF dX4_requireView_12 (by decide) (fun h12 => ?_) (fun h12 => ?_)
    · refine V.vret hF dX4_requireView_26 (Nat.le_of_ble_eq_true rfl) (Nat.le_of_ble_eq_true rfl) ?_
      exact ⟨zin_t h1 h12, rfl, rfl, rfl, rfl⟩
    · exact V.throwSW hF xw_IOB 19 rfl dX4_requireView_15 dX4_requireView_18 dX4_requireView_19 dX4_requireView_22 dX4_requireView_25 hout (Nat.le_of_ble_eq_true rfl) (Nat.le_of_ble_eq_true rfl) (Nat.le_of_ble_eq_true rfl) (Nat.le_of_ble_eq_true rfl) (Nat.le_of_ble_eq_true rfl) (Nat.le_of_ble_eq_true rfl) ⟨(by first | exact zin_f1 h1 | exact zin_f2 h12), rfl, rfl, rfl, rfl⟩
set_option maxRecDepth 20000 in
theorem ct_X4_requireMember (hst : l.stackTraces = false) (σ : SH) (I X : IX) (o : Nat) (ad : Nat → Nat) (hO : FS σ o ad) (hG : GS σ ad) (C : IX) (hC : WC C) (x : Int32) : Ct l D cy sa sv yX4_requireMember cX4_requireMember 2 none 6 1 6 [.ref o, .int x] σ (put idI I ad C) (put idX X ad C) (gP (yisM C x) σ (put idI I ad C) (put idX X ad C)) (gX (yisM C x) eISE σ (put idI I ad C) (put idX X ad C)) := by
  refine Ct.of (by decide) hst (Nat.le_of_ble_eq_true rfl) ?_
  intro pp ee ss mm args below meth kc A hF hnm hout
  refine V.aload_n hF dX4_requireMember_0 rfl ?_
  refine V.getR hF dX4_requireMember_1 fl_X4_19 hO.1.1 hO.1.2 rfl hO.2 ?_
  refine V.iload_n hF dX4_requireMember_4 rfl ?_
  refine V.vI hF dX4_requireMember_5 (ct_X0_isMember hst _ _ _ _ hG _ hC _) lk_X4_305 sl_X0_isMember hG.g.1 hG.g.2 rfl (Nat.le_of_ble_eq_true rfl) (fit_of rfl) (Nat.le_of_ble_eq_true rfl) rfl ?_
  refine V.if_neB (tgt := 22) hF dX4_requireMember_8 (by decide) (fun h8 => ?_) (fun h8 => ?_)
  · refine V.vret hF dX4_requireMember_22 (Nat.le_of_ble_eq_true rfl) (Nat.le_of_ble_eq_true rfl) ?_
    exact ⟨h8, rfl, rfl, rfl, rfl⟩
  · exact V.throwSW hF xw_ISE 20 rfl dX4_requireMember_11 dX4_requireMember_14 dX4_requireMember_15 dX4_requireMember_18 dX4_requireMember_21 hout (Nat.le_of_ble_eq_true rfl) (Nat.le_of_ble_eq_true rfl) (Nat.le_of_ble_eq_true rfl) (Nat.le_of_ble_eq_true rfl) (Nat.le_of_ble_eq_true rfl) (Nat.le_of_ble_eq_true rfl) ⟨h8, rfl, rfl, rfl, rfl⟩
set_option maxRecDepth 20000 in
theorem ct_X4_requireReach (hst : l.stackTraces = false) (σ : SH) (I X : IX) (o : Nat) (ad : Nat → Nat) (hO : FS σ o ad) (hG : GS σ ad) (C : IX) (hC : WC C) (x y : Int32) : Ct l D cy sa sv yX4_requireReach cX4_requireReach 3 none 6 1 6 [.ref o, .int x, .int y] σ (put idI I ad C) (put idX X ad C) (gP (yisM C x && yhas C y && !decide (y < C 100 6)) σ (put idI I ad C) (put idX X ad C)) (gX (yisM C x && yhas C y && !decide (y < C 100 6)) eISE σ (put idI I ad C) (put idX X ad C)) := by
  refine Ct.of (by decide) hst (Nat.le_of_ble_eq_true rfl) ?_
  intro pp ee ss mm args below meth kc A hF hnm hout
  refine V.aload_n hF dX4_requireReach_0 rfl ?_
  refine V.getR hF dX4_requireReach_1 fl_X4_19 hO.1.1 hO.1.2 rfl hO.2 ?_
  refine V.iload_n hF dX4_requireReach_4 rfl ?_
  refine V.iload_n hF dX4_requireReach_5 rfl ?_
  refine V.vI hF dX4_requireReach_6 (ct_X0_canReceive hst _ _ _ _ hG _ hC _ _) lk_X4_310 sl_X0_canReceive hG.g.1 hG.g.2 rfl (Nat.le_of_ble_eq_true rfl) (fit_of rfl) (Nat.le_of_ble_eq_true rfl) rfl ?_
  refine V.if_neB (tgt := 23) hF dX4_requireReach_9 (by decide) (fun h9 => ?_) (fun h9 => ?_)
  · refine V.vret hF dX4_requireReach_23 (Nat.le_of_ble_eq_true rfl) (Nat.le_of_ble_eq_true rfl) ?_
    exact ⟨h9, rfl, rfl, rfl, rfl⟩
  · exact V.throwSW hF xw_ISE 21 rfl dX4_requireReach_12 dX4_requireReach_15 dX4_requireReach_16 dX4_requireReach_19 dX4_requireReach_22 hout (Nat.le_of_ble_eq_true rfl) (Nat.le_of_ble_eq_true rfl) (Nat.le_of_ble_eq_true rfl) (Nat.le_of_ble_eq_true rfl) (Nat.le_of_ble_eq_true rfl) (Nat.le_of_ble_eq_true rfl) ⟨h9, rfl, rfl, rfl, rfl⟩
set_option maxRecDepth 20000 in
theorem ct_X4_requireLogged (hst : l.stackTraces = false) (σ : SH) (I X : IX) (o : Nat) (ad : Nat → Nat) (hO : FS σ o ad) (hG : GS σ ad) (C : IX) (p : Nat) (hp : p < 6) (m : Nat) (hm : m < 150) : Ct l D cy sa sv yX4_requireLogged cX4_requireLogged 3 none 6 1 6 [.ref o, .int (nI p), .int (nI m)] σ (put idI I ad C) (put idX X ad C) (gP (ylog C p m) σ (put idI I ad C) (put idX X ad C)) (gX (ylog C p m) eNSE σ (put idI I ad C) (put idX X ad C)) := by
  refine Ct.of (by decide) hst (Nat.le_of_ble_eq_true rfl) ?_
  intro pp ee ss mm args below meth kc A hF hnm hout
  refine V.aload_n hF dX4_requireLogged_0 rfl ?_
  refine V.getR hF dX4_requireLogged_1 fl_X4_19 hO.1.1 hO.1.2 rfl hO.2 ?_
  refine V.getRP (i := 3) hF dX4_requireLogged_4 fl_X4_169 hG.g rfl hG.r3 ?_
  refine V.iload_n hF dX4_requireLogged_7 rfl ?_
  refine V.aaload (j := p) hF dX4_requireLogged_8 hG.ym hG.yk rfl (hG.yl (by omega)) hG.ys (hG.y (by omega)) ?_
  refine V.iload_n hF dX4_requireLogged_9 rfl ?_
  refine V.vI hF dX4_requireLogged_10 (ct_X2_hasLogged hst _ _ _ _ hG _ p hp m (by omega)) lk_X4_315 sl_X2_hasLogged (hG.rp hp).1 (hG.rp hp).2 rfl (Nat.le_of_ble_eq_true rfl) (fit_of rfl) (Nat.le_of_ble_eq_true rfl) rfl ?_
  refine V.if_neB (tgt := 27) hF dX4_requireLogged_13 (by decide) (fun h13 => ?_) (fun h13 => ?_)
  · refine V.vret hF dX4_requireLogged_27 (Nat.le_of_ble_eq_true rfl) (Nat.le_of_ble_eq_true rfl) ?_
    exact ⟨h13, rfl, rfl, rfl, rfl⟩
  · exact V.throwN hF 22 rfl dX4_requireLogged_16 dX4_requireLogged_19 (Or.inr ⟨dX4_requireLogged_20, rfl⟩) dX4_requireLogged_23 dX4_requireLogged_26 hout (Nat.le_of_ble_eq_true rfl) (Nat.le_of_ble_eq_true rfl) (Nat.le_of_ble_eq_true rfl) (Nat.le_of_ble_eq_true rfl) (Nat.le_of_ble_eq_true rfl) (Nat.le_of_ble_eq_true rfl) ⟨h13, rfl, rfl, rfl, rfl⟩
set_option maxRecDepth 20000 in
theorem ct_X4_view (hst : l.stackTraces = false) (σ : SH) (I X : IX) (o : Nat) (ad : Nat → Nat) (hO : FS σ o ad) (hG : GS σ ad) (C : IX) : Ct l D cy sa sv yX4_view cX4_view 1 (some .int) 1 0 0 [.ref o] σ (put idI I ad C) (put idX X ad C) (pR (some (.int (C 100 4))) σ (put idI I ad C) (put idX X ad C)) noX := by
  refine Ct.of (by decide) hst (Nat.le_of_ble_eq_true rfl) ?_
  intro pp ee ss mm args below meth kc A hF hnm hout
  refine V.aload_n hF dX4_view_0 rfl ?_
  refine V.getR hF dX4_view_1 fl_X4_19 hO.1.1 hO.1.2 rfl hO.2 ?_
  refine V.getIP hF dX4_view_4 fl_X4_53 hG.g rfl hG (by decide) ?_
  refine V.iret hF dX4_view_7 (Nat.le_of_ble_eq_true rfl) (Nat.le_of_ble_eq_true rfl) ?_
  exact pR.i rfl
set_option maxRecDepth 20000 in
theorem ct_X4_proposed (hst : l.stackTraces = false) (σ : SH) (I X : IX) (o : Nat) (ad : Nat → Nat) (hO : FS σ o ad) (hG : GS σ ad) (C : IX) : Ct l D cy sa sv yX4_proposed cX4_proposed 1 (some .int) 1 0 0 [.ref o] σ (put idI I ad C) (put idX X ad C) (pR (some (.int (C 100 5))) σ (put idI I ad C) (put idX X ad C)) noX := by
  refine Ct.of (by decide) hst (Nat.le_of_ble_eq_true rfl) ?_
  intro pp ee ss mm args below meth kc A hF hnm hout
  refine V.aload_n hF dX4_proposed_0 rfl ?_
  refine V.getR hF dX4_proposed_1 fl_X4_19 hO.1.1 hO.1.2 rfl hO.2 ?_
  refine V.getIP hF dX4_proposed_4 fl_X4_66 hG.g rfl hG (by decide) ?_
  refine V.iret hF dX4_proposed_7 (Nat.le_of_ble_eq_true rfl) (Nat.le_of_ble_eq_true rfl) ?_
  exact pR.i rfl
set_option maxRecDepth 20000 in
theorem ct_X4_messageCount (hst : l.stackTraces = false) (σ : SH) (I X : IX) (o : Nat) (ad : Nat → Nat) (hO : FS σ o ad) (hG : GS σ ad) (C : IX) : Ct l D cy sa sv yX4_messageCount cX4_messageCount 1 (some .int) 1 0 0 [.ref o] σ (put idI I ad C) (put idX X ad C) (pR (some (.int (C 2 6))) σ (put idI I ad C) (put idX X ad C)) noX := by
  refine Ct.of (by decide) hst (Nat.le_of_ble_eq_true rfl) ?_
  intro pp ee ss mm args below meth kc A hF hnm hout
  refine V.aload_n hF dX4_messageCount_0 rfl ?_
  refine V.getR hF dX4_messageCount_1 fl_X4_19 hO.1.1 hO.1.2 rfl hO.2 ?_
  refine V.getRP (i := 2) hF dX4_messageCount_4 fl_X4_40 hG.g rfl hG.r2 ?_
  refine V.getIP hF dX4_messageCount_7 fl_X4_44 hG.m rfl hG (by decide) ?_
  refine V.iret hF dX4_messageCount_10 (Nat.le_of_ble_eq_true rfl) (Nat.le_of_ble_eq_true rfl) ?_
  exact pR.i rfl
set_option maxRecDepth 20000 in
theorem ct_X4_duplicates (hst : l.stackTraces = false) (σ : SH) (I X : IX) (o : Nat) (ad : Nat → Nat) (hO : FS σ o ad) (hG : GS σ ad) (C : IX) : Ct l D cy sa sv yX4_duplicates cX4_duplicates 1 (some .int) 1 0 0 [.ref o] σ (put idI I ad C) (put idX X ad C) (pR (some (.int (C 100 7))) σ (put idI I ad C) (put idX X ad C)) noX := by
  refine Ct.of (by decide) hst (Nat.le_of_ble_eq_true rfl) ?_
  intro pp ee ss mm args below meth kc A hF hnm hout
  refine V.aload_n hF dX4_duplicates_0 rfl ?_
  refine V.getR hF dX4_duplicates_1 fl_X4_19 hO.1.1 hO.1.2 rfl hO.2 ?_
  refine V.getIP hF dX4_duplicates_4 fl_X4_166 hG.g rfl hG (by decide) ?_
  refine V.iret hF dX4_duplicates_7 (Nat.le_of_ble_eq_true rfl) (Nat.le_of_ble_eq_true rfl) ?_
  exact pR.i rfl
set_option maxRecDepth 20000 in
theorem ct_X4_reset (hst : l.stackTraces = false) (σ : SH) (I X : IX) (o : Nat) (ad : Nat → Nat) (hO : FS σ o ad) (hG : GS σ ad) (C : IX) (hC : WC C)  (x : Int32) : Ct l D cy sa sv yX4_reset cX4_reset 3 (some .int) 7 1 6 [.ref o, .int x] σ (put idI I ad C) (put idX X ad C) (pT (if zisIn x (nI 1) (nI 63) then nI 0 else nI 1) (pR (some (.int (C 2 6))) σ (put idI I ad (ysn C x)) (put idX X ad (ysn C x)))) (xT (if zisIn x (nI 1) (nI 63) then nI 0 else nI 1) [eIAE] σ (put idI I ad C) (put idX X ad C)) := by
  refine Ct.of (by decide) hst (Nat.le_of_ble_eq_true rfl) ?_
  intro pp ee ss mm args below meth kc A hF hnm hout
  refine V.iload_n hF dX4_reset_0 rfl ?_
  refine V.iconst (v := nI 1) hF dX4_reset_1 (by decide) ?_
  refine V.icmp_lt (tgt := 11) hF dX4_reset_2 (by decide) (fun h2 => ?_) (fun h2 => ?_)
  · have hz : zisIn x (nI 1) (nI 63) = false := zin_f1 h2
    exact V.throwS hF xw_IAE 0 rfl dX4_reset_11 dX4_reset_14 dX4_reset_15 dX4_reset_17 dX4_reset_20 hout (Nat.le_of_ble_eq_true rfl) (Nat.le_of_ble_eq_true rfl) (Nat.le_of_ble_eq_true rfl) (Nat.le_of_ble_eq_true rfl) (Nat.le_of_ble_eq_true rfl) (Nat.le_of_ble_eq_true rfl) ⟨⟨0, rfl, by simp [hz]⟩, rfl, rfl, rfl⟩
  · refine V.iload_n hF dX4_reset_5 rfl ?_
    refine V.bipush (v := nI 63) hF dX4_reset_6 (by decide) ?_
    refine V.icmp_le (tgt := 21) hF dX4_reset_8 (by decide) (fun h8 => ?_) (fun h8 => ?_)
    · have hz : zisIn x (nI 1) (nI 63) = true := zin_t h2 h8
      refine V.aload_n hF dX4_reset_21 rfl ?_
      refine V.getR hF dX4_reset_22 fl_X4_19 hO.1.1 hO.1.2 rfl hO.2 ?_
      refine V.getRP (i := 2) hF dX4_reset_25 fl_X4_40 hG.g rfl hG.r2 ?_
      refine V.getIP hF dX4_reset_28 fl_X4_44 hG.m rfl hG (by decide) ?_
      refine V.istore_n hF dX4_reset_31 (by decide) ?_
      refine V.aload_n hF dX4_reset_32 rfl ?_
      refine V.getR hF dX4_reset_33 fl_X4_19 hO.1.1 hO.1.2 rfl hO.2 ?_
      refine V.iload_n hF dX4_reset_36 rfl ?_
      refine V.vV hF dX4_reset_37 (ct_X0_startAnew hst _ _ _ _ hG _ _) lk_X4_49 sl_X0_startAnew hG.g.1 hG.g.2 rfl (Nat.le_of_ble_eq_true rfl) (fit_of rfl) (Nat.le_of_ble_eq_true rfl) rfl ?_
      refine V.iload_n hF dX4_reset_40 rfl ?_
      refine V.iret hF dX4_reset_41 (Nat.le_of_ble_eq_true rfl) (Nat.le_of_ble_eq_true rfl) ?_
      exact ⟨by simp [hz], pR.i rfl⟩
    · have hz : zisIn x (nI 1) (nI 63) = false := zin_f2 h8
      exact V.throwS hF xw_IAE 0 rfl dX4_reset_11 dX4_reset_14 dX4_reset_15 dX4_reset_17 dX4_reset_20 hout (Nat.le_of_ble_eq_true rfl) (Nat.le_of_ble_eq_true rfl) (Nat.le_of_ble_eq_true rfl) (Nat.le_of_ble_eq_true rfl) (Nat.le_of_ble_eq_true rfl) (Nat.le_of_ble_eq_true rfl) ⟨⟨0, rfl, by simp [hz]⟩, rfl, rfl, rfl⟩
set_option maxRecDepth 20000 in
theorem ct_X4_membersOf (hst : l.stackTraces = false) (σ : SH) (I X : IX) (o : Nat) (ad : Nat → Nat) (hO : FS σ o ad) (hG : GS σ ad) (C : IX) (hC : WC C)  (x : Int32) : Ct l D cy sa sv yX4_membersOf cX4_membersOf 2 (some .int) 7 1 6 [.ref o, .int x] σ (put idI I ad C) (put idX X ad C) (pT (if zisIn x (nI 0) (C 100 4) then nI 0 else nI 1) (pR (some (.int (C 0 x.toNatClampNeg))) σ (put idI I ad C) (put idX X ad C))) (xT (if zisIn x (nI 0) (C 100 4) then nI 0 else nI 1) [eIOB] σ (put idI I ad C) (put idX X ad C)) := by
  refine Ct.of (by decide) hst (Nat.le_of_ble_eq_true rfl) ?_
  intro pp ee ss mm args below meth kc A hF hnm hout
  refine V.aload_n hF dX4_membersOf_0 rfl ?_
  refine V.iload_n hF dX4_membersOf_1 rfl ?_
  refine V.vG hF dX4_membersOf_2 (ct_X4_requireView hst _ _ _ _ _ hO hG _ _) lk_X4_56 sl_X4_requireView hO.1.1 hO.1.2 rfl (Nat.le_of_ble_eq_true rfl) (fit_of rfl) (Nat.le_of_ble_eq_true rfl) hout (Nat.le_of_ble_eq_true rfl) (Nat.le_of_ble_eq_true rfl) rfl (fun hg1 => ⟨⟨0, rfl, by simp [hg1]⟩, rfl, rfl, rfl⟩) (fun hg1 => ?_)
  have hv20 := hC.vw20
  obtain ⟨j, hj, ej⟩ := gvw_of hC hg1
  subst ej
  have cj : (nI j).toNatClampNeg = j := nI_clamp (by omega)
  refine V.aload_n hF dX4_membersOf_5 rfl ?_
  refine V.getR hF dX4_membersOf_6 fl_X4_19 hO.1.1 hO.1.2 rfl hO.2 ?_
  refine V.getRP (i := 0) hF dX4_membersOf_9 fl_X4_59 hG.g rfl hG.r0 ?_
  refine V.iload_n hF dX4_membersOf_12 rfl ?_
  refine V.ialoadP (j := j) hF dX4_membersOf_13 hG.a0 rfl (by omega) (by decide) hG (by decide) ?_
  refine V.iret hF dX4_membersOf_14 (Nat.le_of_ble_eq_true rfl) (Nat.le_of_ble_eq_true rfl) ?_
  exact ⟨by simp [hg1], pR.i (by rw [cj])⟩
set_option maxRecDepth 20000 in
theorem ct_X4_forcedIn (hst : l.stackTraces = false) (σ : SH) (I X : IX) (o : Nat) (ad : Nat → Nat) (hO : FS σ o ad) (hG : GS σ ad) (C : IX) (hC : WC C)  (x : Int32) : Ct l D cy sa sv yX4_forcedIn cX4_forcedIn 2 (some .int) 7 1 6 [.ref o, .int x] σ (put idI I ad C) (put idX X ad C) (pT (if zisIn x (nI 0) (C 100 4) then nI 0 else nI 1) (pR (some (.int (C 1 x.toNatClampNeg))) σ (put idI I ad C) (put idX X ad C))) (xT (if zisIn x (nI 0) (C 100 4) then nI 0 else nI 1) [eIOB] σ (put idI I ad C) (put idX X ad C)) := by
  refine Ct.of (by decide) hst (Nat.le_of_ble_eq_true rfl) ?_
  intro pp ee ss mm args below meth kc A hF hnm hout
  refine V.aload_n hF dX4_forcedIn_0 rfl ?_
  refine V.iload_n hF dX4_forcedIn_1 rfl ?_
  refine V.vG hF dX4_forcedIn_2 (ct_X4_requireView hst _ _ _ _ _ hO hG _ _) lk_X4_56 sl_X4_requireView hO.1.1 hO.1.2 rfl (Nat.le_of_ble_eq_true rfl) (fit_of rfl) (Nat.le_of_ble_eq_true rfl) hout (Nat.le_of_ble_eq_true rfl) (Nat.le_of_ble_eq_true rfl) rfl (fun hg1 => ⟨⟨0, rfl, by simp [hg1]⟩, rfl, rfl, rfl⟩) (fun hg1 => ?_)
  have hv20 := hC.vw20
  obtain ⟨j, hj, ej⟩ := gvw_of hC hg1
  subst ej
  have cj : (nI j).toNatClampNeg = j := nI_clamp (by omega)
  refine V.aload_n hF dX4_forcedIn_5 rfl ?_
  refine V.getR hF dX4_forcedIn_6 fl_X4_19 hO.1.1 hO.1.2 rfl hO.2 ?_
  refine V.getRP (i := 1) hF dX4_forcedIn_9 fl_X4_63 hG.g rfl hG.r1 ?_
  refine V.iload_n hF dX4_forcedIn_12 rfl ?_
  refine V.ialoadP (j := j) hF dX4_forcedIn_13 hG.a1 rfl (by omega) (by decide) hG (by decide) ?_
  refine V.iret hF dX4_forcedIn_14 (Nat.le_of_ble_eq_true rfl) (Nat.le_of_ble_eq_true rfl) ?_
  exact ⟨by simp [hg1], pR.i (by rw [cj])⟩
set_option maxRecDepth 20000 in
theorem ct_X4_requestJoin (hst : l.stackTraces = false) (σ : SH) (I X : IX) (o : Nat) (ad : Nat → Nat) (hO : FS σ o ad) (hG : GS σ ad) (C : IX) (hC : WC C)  (x : Int32) : Ct l D cy sa sv yX4_requestJoin cX4_requestJoin 2 (some .int) 7 2 12 [.ref o, .int x] σ (put idI I ad C) (put idX X ad C) (pT (if zPr x then (if zbit (C 100 5) x then nI 2 else nI 0) else nI 1) (pR (some (.int (ybc (C 100 5 ||| (nI 1 <<< (x &&& 31)))))) σ (put idI I ad (va_up C 100 (upd (C 100) 5 (C 100 5 ||| (nI 1 <<< (x &&& 31)))))) (put idX X ad (va_up C 100 (upd (C 100) 5 (C 100 5 ||| (nI 1 <<< (x &&& 31)))))))) (xT (if zPr x then (if zbit (C 100 5) x then nI 2 else nI 0) else nI 1) [eIOB, eISE] σ (put idI I ad C) (put idX X ad C)) := by
  refine Ct.of (by decide) hst (Nat.le_of_ble_eq_true rfl) ?_
  intro pp ee ss mm args below meth kc A hF hnm hout
  refine V.iload_n hF dX4_requestJoin_0 rfl ?_
  refine V.sG hF dX4_requestJoin_1 (ct_X4_requireProcess hst _ _ _ _) lk_X4_69 (fit_of rfl) (Nat.le_of_ble_eq_true rfl) hout (Nat.le_of_ble_eq_true rfl) (Nat.le_of_ble_eq_true rfl) rfl (fun hg1 => ⟨⟨0, rfl, by simp [hg1]⟩, rfl, rfl, rfl⟩) (fun hg1 => ?_)
  obtain ⟨p, hp, ep⟩ := zPr_of hg1
  subst ep
  have cp : (nI p).toNatClampNeg = p := nI_clamp (by omega)
  refine V.aload_n hF dX4_requestJoin_4 rfl ?_
  refine V.getR hF dX4_requestJoin_5 fl_X4_19 hO.1.1 hO.1.2 rfl hO.2 ?_
  refine V.iload_n hF dX4_requestJoin_8 rfl ?_
  refine V.vI hF dX4_requestJoin_9 (ct_X0_canEnter hst _ _ _ _ hG _ _) lk_X4_72 sl_X0_canEnter hG.g.1 hG.g.2 rfl (Nat.le_of_ble_eq_true rfl) (fit_of rfl) (Nat.le_of_ble_eq_true rfl) rfl ?_
  refine V.if_neB (tgt := 25) hF dX4_requestJoin_12 (by decide) (fun h12 => ?_) (fun h12 => ?_)
  · refine V.aload_n hF dX4_requestJoin_25 rfl ?_
    refine V.getR hF dX4_requestJoin_26 fl_X4_19 hO.1.1 hO.1.2 rfl hO.2 ?_
    refine V.iload_n hF dX4_requestJoin_29 rfl ?_
    refine V.vI hF dX4_requestJoin_30 (ct_X0_enter hst _ _ _ _ hG _ _) lk_X4_81 sl_X0_enter hG.g.1 hG.g.2 rfl (Nat.le_of_ble_eq_true rfl) (fit_of rfl) (Nat.le_of_ble_eq_true rfl) rfl ?_
    refine V.iret hF dX4_requestJoin_33 (Nat.le_of_ble_eq_true rfl) (Nat.le_of_ble_eq_true rfl) ?_
    exact ⟨by simp [hg1] at h12; simp [hg1, h12], pR.i rfl⟩
  · exact V.throwS hF xw_ISE 1 rfl dX4_requestJoin_15 dX4_requestJoin_18 dX4_requestJoin_19 dX4_requestJoin_21 dX4_requestJoin_24 hout (Nat.le_of_ble_eq_true rfl) (Nat.le_of_ble_eq_true rfl) (Nat.le_of_ble_eq_true rfl) (Nat.le_of_ble_eq_true rfl) (Nat.le_of_ble_eq_true rfl) (Nat.le_of_ble_eq_true rfl) ⟨⟨1, rfl, by simp [hg1] at h12; simp [hg1, h12]⟩, rfl, rfl, rfl⟩
set_option maxRecDepth 20000 in
theorem ct_X4_requestLeave (hst : l.stackTraces = false) (σ : SH) (I X : IX) (o : Nat) (ad : Nat → Nat) (hO : FS σ o ad) (hG : GS σ ad) (C : IX) (hC : WC C)  (x : Int32) : Ct l D cy sa sv yX4_requestLeave cX4_requestLeave 2 (some .int) 7 2 12 [.ref o, .int x] σ (put idI I ad C) (put idX X ad C) (pT (if zPr x then (if (zbit (C 100 5) x && !decide ((ymem C &&& C 100 5) &&& ((nI 1 <<< (x &&& 31)) ^^^ (-1)) = 0)) then nI 0 else nI 2) else nI 1) (pR (some (.int (ybc (C 100 5 &&& ((nI 1 <<< (x &&& 31)) ^^^ (-1)))))) σ (put idI I ad (va_up C 100 (upd (C 100) 5 (C 100 5 &&& ((nI 1 <<< (x &&& 31)) ^^^ (-1)))))) (put idX X ad (va_up C 100 (upd (C 100) 5 (C 100 5 &&& ((nI 1 <<< (x &&& 31)) ^^^ (-1)))))))) (xT (if zPr x then (if (zbit (C 100 5) x && !decide ((ymem C &&& C 100 5) &&& ((nI 1 <<< (x &&& 31)) ^^^ (-1)) = 0)) then nI 0 else nI 2) else nI 1) [eIOB, eISE] σ (put idI I ad C) (put idX X ad C)) := by
  refine Ct.of (by decide) hst (Nat.le_of_ble_eq_true rfl) ?_
  intro pp ee ss mm args below meth kc A hF hnm hout
  refine V.iload_n hF dX4_requestLeave_0 rfl ?_
  refine V.sG hF dX4_requestLeave_1 (ct_X4_requireProcess hst _ _ _ _) lk_X4_69 (fit_of rfl) (Nat.le_of_ble_eq_true rfl) hout (Nat.le_of_ble_eq_true rfl) (Nat.le_of_ble_eq_true rfl) rfl (fun hg1 => ⟨⟨0, rfl, by simp [hg1]⟩, rfl, rfl, rfl⟩) (fun hg1 => ?_)
  obtain ⟨p, hp, ep⟩ := zPr_of hg1
  subst ep
  have cp : (nI p).toNatClampNeg = p := nI_clamp (by omega)
  refine V.aload_n hF dX4_requestLeave_4 rfl ?_
  refine V.getR hF dX4_requestLeave_5 fl_X4_19 hO.1.1 hO.1.2 rfl hO.2 ?_
  refine V.iload_n hF dX4_requestLeave_8 rfl ?_
  refine V.vI hF dX4_requestLeave_9 (ct_X0_canQuit hst _ _ _ _ hG _ hC _) lk_X4_85 sl_X0_canQuit hG.g.1 hG.g.2 rfl (Nat.le_of_ble_eq_true rfl) (fit_of rfl) (Nat.le_of_ble_eq_true rfl) rfl ?_
  refine V.if_neB (tgt := 25) hF dX4_requestLeave_12 (by decide) (fun h12 => ?_) (fun h12 => ?_)
  · refine V.aload_n hF dX4_requestLeave_25 rfl ?_
    refine V.getR hF dX4_requestLeave_26 fl_X4_19 hO.1.1 hO.1.2 rfl hO.2 ?_
    refine V.iload_n hF dX4_requestLeave_29 rfl ?_
    refine V.vI hF dX4_requestLeave_30 (ct_X0_quit hst _ _ _ _ hG _ _) lk_X4_90 sl_X0_quit hG.g.1 hG.g.2 rfl (Nat.le_of_ble_eq_true rfl) (fit_of rfl) (Nat.le_of_ble_eq_true rfl) rfl ?_
    refine V.iret hF dX4_requestLeave_33 (Nat.le_of_ble_eq_true rfl) (Nat.le_of_ble_eq_true rfl) ?_
    exact ⟨by rw [hg1, Bool.true_and] at h12; rw [if_pos hg1, h12]; rfl, pR.i rfl⟩
  · exact V.throwS hF xw_ISE 2 rfl dX4_requestLeave_15 dX4_requestLeave_18 dX4_requestLeave_19 dX4_requestLeave_21 dX4_requestLeave_24 hout (Nat.le_of_ble_eq_true rfl) (Nat.le_of_ble_eq_true rfl) (Nat.le_of_ble_eq_true rfl) (Nat.le_of_ble_eq_true rfl) (Nat.le_of_ble_eq_true rfl) (Nat.le_of_ble_eq_true rfl) ⟨⟨1, rfl, by rw [hg1, Bool.true_and] at h12; rw [if_pos hg1, h12]; rfl⟩, rfl, rfl, rfl⟩
set_option maxRecDepth 20000 in
theorem ct_X4_install (hst : l.stackTraces = false) (σ : SH) (I X : IX) (o : Nat) (ad : Nat → Nat) (hO : FS σ o ad) (hG : GS σ ad) (C : IX) (hC : WC C) (hS : yWS C) : Ct l D cy sa sv yX4_install cX4_install 1 (some .int) 7 1 6 [.ref o] σ (put idI I ad C) (put idX X ad C) (pT (if !decide (nI 20 ≤ C 100 4) then nI 0 else nI 1) (pR (some (.int (ychN C))) σ (put idI I ad (ych C)) (put idX X ad (ych C)))) (xT (if !decide (nI 20 ≤ C 100 4) then nI 0 else nI 1) [eISE] σ (put idI I ad C) (put idX X ad C)) := by
  refine Ct.of (by decide) hst (Nat.le_of_ble_eq_true rfl) ?_
  intro pp ee ss mm args below meth kc A hF hnm hout
  refine V.aload_n hF dX4_install_0 rfl ?_
  refine V.getR hF dX4_install_1 fl_X4_19 hO.1.1 hO.1.2 rfl hO.2 ?_
  refine V.vI hF dX4_install_4 (ct_X0_canChangeView hst _ _ _ _ hG _) lk_X4_93 sl_X0_canChangeView hG.g.1 hG.g.2 rfl (Nat.le_of_ble_eq_true rfl) (fit_of rfl) (Nat.le_of_ble_eq_true rfl) rfl ?_
  refine V.if_neB (tgt := 20) hF dX4_install_7 (by decide) (fun h7 => ?_) (fun h7 => ?_)
  · have hv20 : cN C 100 4 < 20 := by have h8 := hC.vw20; have h9 := of_decide_eq_false ((Bool.not_eq_true' _).mp h7); rw [hC.vw] at h9; exact nI_nge h9 (by omega) (by omega)
    refine V.aload_n hF dX4_install_20 rfl ?_
    refine V.getR hF dX4_install_21 fl_X4_19 hO.1.1 hO.1.2 rfl hO.2 ?_
    refine V.vI hF dX4_install_24 (ct_X0_changeView hst _ _ _ _ hG _ hC hS hv20) lk_X4_99 sl_X0_changeView hG.g.1 hG.g.2 rfl (Nat.le_of_ble_eq_true rfl) (fit_of rfl) (Nat.le_of_ble_eq_true rfl) rfl ?_
    refine V.iret hF dX4_install_27 (Nat.le_of_ble_eq_true rfl) (Nat.le_of_ble_eq_true rfl) ?_
    exact ⟨by rw [h7]; rfl, pR.i rfl⟩
  · exact V.throwS hF xw_ISE 3 rfl dX4_install_10 dX4_install_13 dX4_install_14 dX4_install_16 dX4_install_19 hout (Nat.le_of_ble_eq_true rfl) (Nat.le_of_ble_eq_true rfl) (Nat.le_of_ble_eq_true rfl) (Nat.le_of_ble_eq_true rfl) (Nat.le_of_ble_eq_true rfl) (Nat.le_of_ble_eq_true rfl) ⟨⟨0, rfl, by rw [h7]; rfl⟩, rfl, rfl, rfl⟩
set_option maxRecDepth 20000 in
theorem ct_X4_broadcast (hst : l.stackTraces = false) (σ : SH) (I X : IX) (o : Nat) (ad : Nat → Nat) (hO : FS σ o ad) (hG : GS σ ad) (C : IX) (hC : WC C)  (x y : Int32) : Ct l D cy sa sv yX4_broadcast cX4_broadcast 3 (some .int) 7 2 12 [.ref o, .int x, .int y] σ (put idI I ad C) (put idX X ad C) (pT (if zPr x then (if yisM C x && !yfull C then nI 0 else nI 2) else nI 1) (pR (some (.int (nI (cN C 2 6)))) σ (put idI I ad (ysend C x.toNatClampNeg y)) (put idX X ad (ysend C x.toNatClampNeg y)))) (xT (if zPr x then (if yisM C x && !yfull C then nI 0 else nI 2) else nI 1) [eIOB, eISE] σ (put idI I ad C) (put idX X ad C)) := by
  refine Ct.of (by decide) hst (Nat.le_of_ble_eq_true rfl) ?_
  intro pp ee ss mm args below meth kc A hF hnm hout
  refine V.iload_n hF dX4_broadcast_0 rfl ?_
  refine V.sG hF dX4_broadcast_1 (ct_X4_requireProcess hst _ _ _ _) lk_X4_69 (fit_of rfl) (Nat.le_of_ble_eq_true rfl) hout (Nat.le_of_ble_eq_true rfl) (Nat.le_of_ble_eq_true rfl) rfl (fun hg1 => ⟨⟨0, rfl, by simp [hg1]⟩, rfl, rfl, rfl⟩) (fun hg1 => ?_)
  obtain ⟨p, hp, ep⟩ := zPr_of hg1
  subst ep
  have cp : (nI p).toNatClampNeg = p := nI_clamp (by omega)
  refine V.aload_n hF dX4_broadcast_4 rfl ?_
  refine V.getR hF dX4_broadcast_5 fl_X4_19 hO.1.1 hO.1.2 rfl hO.2 ?_
  refine V.iload_n hF dX4_broadcast_8 rfl ?_
  refine V.vI hF dX4_broadcast_9 (ct_X0_canSend hst _ _ _ _ hG _ hC _) lk_X4_103 sl_X0_canSend hG.g.1 hG.g.2 rfl (Nat.le_of_ble_eq_true rfl) (fit_of rfl) (Nat.le_of_ble_eq_true rfl) rfl ?_
  refine V.if_neB (tgt := 25) hF dX4_broadcast_12 (by decide) (fun h12 => ?_) (fun h12 => ?_)
  · have hn150 := ynf hC (Bool.and_eq_true_iff.mp h12).2
    refine V.aload_n hF dX4_broadcast_25 rfl ?_
    refine V.getR hF dX4_broadcast_26 fl_X4_19 hO.1.1 hO.1.2 rfl hO.2 ?_
    refine V.iload_n hF dX4_broadcast_29 rfl ?_
    refine V.iload_n hF dX4_broadcast_30 rfl ?_
    refine V.vI hF dX4_broadcast_31 (ct_X0_send hst _ _ _ _ hG _ hC p (by omega) _ hn150) lk_X4_108 sl_X0_send hG.g.1 hG.g.2 rfl (Nat.le_of_ble_eq_true rfl) (fit_of rfl) (Nat.le_of_ble_eq_true rfl) rfl ?_
    refine V.iret hF dX4_broadcast_34 (Nat.le_of_ble_eq_true rfl) (Nat.le_of_ble_eq_true rfl) ?_
    exact ⟨by rw [if_pos hg1, h12]; rfl, pR.e rfl (by rw [cp]) (by rw [cp])⟩
  · exact V.throwS hF xw_ISE 4 rfl dX4_broadcast_15 dX4_broadcast_18 dX4_broadcast_19 dX4_broadcast_21 dX4_broadcast_24 hout (Nat.le_of_ble_eq_true rfl) (Nat.le_of_ble_eq_true rfl) (Nat.le_of_ble_eq_true rfl) (Nat.le_of_ble_eq_true rfl) (Nat.le_of_ble_eq_true rfl) (Nat.le_of_ble_eq_true rfl) ⟨⟨1, rfl, by rw [if_pos hg1, h12]; rfl⟩, rfl, rfl, rfl⟩
set_option maxRecDepth 20000 in
theorem ct_X4_arrive (hst : l.stackTraces = false) (σ : SH) (I X : IX) (o : Nat) (ad : Nat → Nat) (hO : FS σ o ad) (hG : GS σ ad) (C : IX) (hC : WC C)  (x y : Int32) : Ct l D cy sa sv yX4_arrive cX4_arrive 3 (some .int) 7 3 18 [.ref o, .int x, .int y] σ (put idI I ad C) (put idX X ad C) (pT (if zPr x && yhas C y then (if yisM C x && yhas C y && !decide (y < C 100 6) then nI 0 else nI 2) else nI 1) (pR (some (.int ((yrcv C x.toNatClampNeg y.toNatClampNeg).2))) σ (put idI I ad (yrcv C x.toNatClampNeg y.toNatClampNeg).1) (put idX X ad (yrcv C x.toNatClampNeg y.toNatClampNeg).1))) (xT (if zPr x && yhas C y then (if yisM C x && yhas C y && !decide (y < C 100 6) then nI 0 else nI 2) else nI 1) [eIOB, eISE] σ (put idI I ad C) (put idX X ad C)) := by
  refine Ct.of (by decide) hst (Nat.le_of_ble_eq_true rfl) ?_
  intro pp ee ss mm args below meth kc A hF hnm hout
  refine V.iload_n hF dX4_arrive_0 rfl ?_
  refine V.sG hF dX4_arrive_1 (ct_X4_requireProcess hst _ _ _ _) lk_X4_69 (fit_of rfl) (Nat.le_of_ble_eq_true rfl) hout (Nat.le_of_ble_eq_true rfl) (Nat.le_of_ble_eq_true rfl) rfl (fun hg1 => ⟨⟨0, rfl, by simp [hg1]⟩, rfl, rfl, rfl⟩) (fun hg1 => ?_)
  obtain ⟨p, hp, ep⟩ := zPr_of hg1
  subst ep
  have cp : (nI p).toNatClampNeg = p := nI_clamp (by omega)
  refine V.aload_n hF dX4_arrive_4 rfl ?_
  refine V.iload_n hF dX4_arrive_5 rfl ?_
  refine V.vG hF dX4_arrive_6 (ct_X4_requireMessage hst _ _ _ _ _ hO hG _ _) lk_X4_112 sl_X4_requireMessage hO.1.1 hO.1.2 rfl (Nat.le_of_ble_eq_true rfl) (fit_of rfl) (Nat.le_of_ble_eq_true rfl) hout (Nat.le_of_ble_eq_true rfl) (Nat.le_of_ble_eq_true rfl) rfl (fun hg2 => ⟨⟨0, rfl, by simp [hg1, hg2]⟩, rfl, rfl, rfl⟩) (fun hg2 => ?_)
  obtain ⟨m, hm, km, em⟩ := yhas_of hC hg2
  subst em
  have cm : (nI m).toNatClampNeg = m := nI_clamp (by omega)
  refine V.aload_n hF dX4_arrive_9 rfl ?_
  refine V.iload_n hF dX4_arrive_10 rfl ?_
  refine V.iload_n hF dX4_arrive_11 rfl ?_
  refine V.vG hF dX4_arrive_12 (ct_X4_requireReach hst _ _ _ _ _ hO hG _ hC _ _) lk_X4_115 sl_X4_requireReach hO.1.1 hO.1.2 rfl (Nat.le_of_ble_eq_true rfl) (fit_of rfl) (Nat.le_of_ble_eq_true rfl) hout (Nat.le_of_ble_eq_true rfl) (Nat.le_of_ble_eq_true rfl) rfl (fun hg3 => ⟨⟨1, rfl, by rw [if_pos (show (zPr (nI p) && yhas C (nI m)) = true by rw [hg1, hg2]; rfl), hg3]; rfl⟩, rfl, rfl, rfl⟩) (fun hg3 => ?_)
  refine V.aload_n hF dX4_arrive_15 rfl ?_
  refine V.getR hF dX4_arrive_16 fl_X4_19 hO.1.1 hO.1.2 rfl hO.2 ?_
  refine V.iload_n hF dX4_arrive_19 rfl ?_
  refine V.iload_n hF dX4_arrive_20 rfl ?_
  refine V.vI hF dX4_arrive_21 (ct_X0_receive hst _ _ _ _ hG _ hC p (by omega) m (by omega)) lk_X4_119 sl_X0_receive hG.g.1 hG.g.2 rfl (Nat.le_of_ble_eq_true rfl) (fit_of rfl) (Nat.le_of_ble_eq_true rfl) rfl ?_
  refine V.iret hF dX4_arrive_24 (Nat.le_of_ble_eq_true rfl) (Nat.le_of_ble_eq_true rfl) ?_
  exact ⟨by rw [if_pos (show (zPr (nI p) && yhas C (nI m)) = true by rw [hg1, hg2]; rfl), hg3]; rfl, pR.e (by rw [cp, cm]) (by rw [cp, cm]) (by rw [cp, cm])⟩
set_option maxRecDepth 20000 in
theorem ct_X4_arriveAll (hst : l.stackTraces = false) (σ : SH) (I X : IX) (o : Nat) (ad : Nat → Nat) (hO : FS σ o ad) (hG : GS σ ad) (C : IX) (hC : WC C)  (x : Int32) : Ct l D cy sa sv yX4_arriveAll cX4_arriveAll 2 (some .int) 7 2 12 [.ref o, .int x] σ (put idI I ad C) (put idX X ad C) (pT (if zPr x then (if yisM C x then nI 0 else nI 2) else nI 1) (pR (some (.int ((yrr C x.toNatClampNeg (cN C 2 6 - cN C 100 6)).2))) σ (put idI I ad (yrr C x.toNatClampNeg (cN C 2 6 - cN C 100 6)).1) (put idX X ad (yrr C x.toNatClampNeg (cN C 2 6 - cN C 100 6)).1))) (xT (if zPr x then (if yisM C x then nI 0 else nI 2) else nI 1) [eIOB, eISE] σ (put idI I ad C) (put idX X ad C)) := by
  refine Ct.of (by decide) hst (Nat.le_of_ble_eq_true rfl) ?_
  intro pp ee ss mm args below meth kc A hF hnm hout
  refine V.iload_n hF dX4_arriveAll_0 rfl ?_
  refine V.sG hF dX4_arriveAll_1 (ct_X4_requireProcess hst _ _ _ _) lk_X4_69 (fit_of rfl) (Nat.le_of_ble_eq_true rfl) hout (Nat.le_of_ble_eq_true rfl) (Nat.le_of_ble_eq_true rfl) rfl (fun hg1 => ⟨⟨0, rfl, by simp [hg1]⟩, rfl, rfl, rfl⟩) (fun hg1 => ?_)
  obtain ⟨p, hp, ep⟩ := zPr_of hg1
  subst ep
  have cp : (nI p).toNatClampNeg = p := nI_clamp (by omega)
  refine V.aload_n hF dX4_arriveAll_4 rfl ?_
  refine V.iload_n hF dX4_arriveAll_5 rfl ?_
  refine V.vG hF dX4_arriveAll_6 (ct_X4_requireMember hst _ _ _ _ _ hO hG _ hC _) lk_X4_122 sl_X4_requireMember hO.1.1 hO.1.2 rfl (Nat.le_of_ble_eq_true rfl) (fit_of rfl) (Nat.le_of_ble_eq_true rfl) hout (Nat.le_of_ble_eq_true rfl) (Nat.le_of_ble_eq_true rfl) rfl (fun hg2 => ⟨⟨1, rfl, by simp [hg1, hg2]⟩, rfl, rfl, rfl⟩) (fun hg2 => ?_)
  refine V.aload_n hF dX4_arriveAll_9 rfl ?_
  refine V.getR hF dX4_arriveAll_10 fl_X4_19 hO.1.1 hO.1.2 rfl hO.2 ?_
  refine V.iload_n hF dX4_arriveAll_13 rfl ?_
  refine V.vI hF dX4_arriveAll_14 (ct_X0_receiveRest hst _ _ _ _ hG _ hC p (by omega)) lk_X4_125 sl_X0_receiveRest hG.g.1 hG.g.2 rfl (Nat.le_of_ble_eq_true rfl) (fit_of rfl) (Nat.le_of_ble_eq_true rfl) rfl ?_
  refine V.iret hF dX4_arriveAll_17 (Nat.le_of_ble_eq_true rfl) (Nat.le_of_ble_eq_true rfl) ?_
  exact ⟨by rw [hg1, hg2]; rfl, pR.e (by rw [cp]) (by rw [cp]) (by rw [cp])⟩
set_option maxRecDepth 20000 in
theorem ct_X4_gossip (hst : l.stackTraces = false) (σ : SH) (I X : IX) (o : Nat) (ad : Nat → Nat) (hO : FS σ o ad) (hG : GS σ ad) (C : IX) (hC : WC C)  (x y : Int32) : Ct l D cy sa sv yX4_gossip cX4_gossip 3 (some .int) 7 3 18 [.ref o, .int x, .int y] σ (put idI I ad C) (put idX X ad C) (pT (if zPr x && zPr y then (if yisM C x && yisM C y && !decide (x = y) then nI 0 else nI 2) else nI 1) (pR (some (.int ((yltL C y.toNatClampNeg x.toNatClampNeg 36).2))) σ (put idI I ad (yltL C y.toNatClampNeg x.toNatClampNeg 36).1) (put idX X ad (yltL C y.toNatClampNeg x.toNatClampNeg 36).1))) (xT (if zPr x && zPr y then (if yisM C x && yisM C y && !decide (x = y) then nI 0 else nI 2) else nI 1) [eIOB, eISE] σ (put idI I ad C) (put idX X ad C)) := by
  refine Ct.of (by decide) hst (Nat.le_of_ble_eq_true rfl) ?_
  intro pp ee ss mm args below meth kc A hF hnm hout
  refine V.iload_n hF dX4_gossip_0 rfl ?_
  refine V.sG hF dX4_gossip_1 (ct_X4_requireProcess hst _ _ _ _) lk_X4_69 (fit_of rfl) (Nat.le_of_ble_eq_true rfl) hout (Nat.le_of_ble_eq_true rfl) (Nat.le_of_ble_eq_true rfl) rfl (fun hg1 => ⟨⟨0, rfl, by simp [hg1]⟩, rfl, rfl, rfl⟩) (fun hg1 => ?_)
  obtain ⟨p, hp, ep⟩ := zPr_of hg1
  subst ep
  have cp : (nI p).toNatClampNeg = p := nI_clamp (by omega)
  refine V.iload_n hF dX4_gossip_4 rfl ?_
  refine V.sG hF dX4_gossip_5 (ct_X4_requireProcess hst _ _ _ _) lk_X4_69 (fit_of rfl) (Nat.le_of_ble_eq_true rfl) hout (Nat.le_of_ble_eq_true rfl) (Nat.le_of_ble_eq_true rfl) rfl (fun hg2 => ⟨⟨0, rfl, by simp [hg1, hg2]⟩, rfl, rfl, rfl⟩) (fun hg2 => ?_)
  obtain ⟨q, hq, eq⟩ := zPr_of hg2
  subst eq
  have cq : (nI q).toNatClampNeg = q := nI_clamp (by omega)
  refine V.aload_n hF dX4_gossip_8 rfl ?_
  refine V.getR hF dX4_gossip_9 fl_X4_19 hO.1.1 hO.1.2 rfl hO.2 ?_
  refine V.iload_n hF dX4_gossip_12 rfl ?_
  refine V.iload_n hF dX4_gossip_13 rfl ?_
  refine V.vI hF dX4_gossip_14 (ct_X0_canTell hst _ _ _ _ hG _ hC _ _) lk_X4_128 sl_X0_canTell hG.g.1 hG.g.2 rfl (Nat.le_of_ble_eq_true rfl) (fit_of rfl) (Nat.le_of_ble_eq_true rfl) rfl ?_
  refine V.if_neB (tgt := 30) hF dX4_gossip_17 (by decide) (fun h17 => ?_) (fun h17 => ?_)
  · refine V.aload_n hF dX4_gossip_30 rfl ?_
    refine V.getR hF dX4_gossip_31 fl_X4_19 hO.1.1 hO.1.2 rfl hO.2 ?_
    refine V.iload_n hF dX4_gossip_34 rfl ?_
    refine V.iload_n hF dX4_gossip_35 rfl ?_
    refine V.vI hF dX4_gossip_36 (ct_X0_tell hst _ _ _ _ hG _ hC p (by omega) q (by omega)) lk_X4_134 sl_X0_tell hG.g.1 hG.g.2 rfl (Nat.le_of_ble_eq_true rfl) (fit_of rfl) (Nat.le_of_ble_eq_true rfl) rfl ?_
    refine V.iret hF dX4_gossip_39 (Nat.le_of_ble_eq_true rfl) (Nat.le_of_ble_eq_true rfl) ?_
    exact ⟨by rw [hg1, hg2, h17]; rfl, pR.e (by rw [cp, cq]) (by rw [cp, cq]) (by rw [cp, cq])⟩
  · exact V.throwS hF xw_ISE 5 rfl dX4_gossip_20 dX4_gossip_23 dX4_gossip_24 dX4_gossip_26 dX4_gossip_29 hout (Nat.le_of_ble_eq_true rfl) (Nat.le_of_ble_eq_true rfl) (Nat.le_of_ble_eq_true rfl) (Nat.le_of_ble_eq_true rfl) (Nat.le_of_ble_eq_true rfl) (Nat.le_of_ble_eq_true rfl) ⟨⟨1, rfl, by rw [hg1, hg2, h17]; rfl⟩, rfl, rfl, rfl⟩
set_option maxRecDepth 20000 in
theorem ct_X4_messageClock (hst : l.stackTraces = false) (σ : SH) (I X : IX) (o : Nat) (ad : Nat → Nat) (hO : FS σ o ad) (hG : GS σ ad) (C : IX) (hC : WC C)  (x y : Int32) : Ct l D cy sa sv yX4_messageClock cX4_messageClock 3 (some .int) 7 2 12 [.ref o, .int x, .int y] σ (put idI I ad C) (put idX X ad C) (pT (if yhas C x && zPr y then nI 0 else nI 1) (pR (some (.int (yent C x.toNatClampNeg y.toNatClampNeg))) σ (put idI I ad C) (put idX X ad C))) (xT (if yhas C x && zPr y then nI 0 else nI 1) [eIOB] σ (put idI I ad C) (put idX X ad C)) := by
  refine Ct.of (by decide) hst (Nat.le_of_ble_eq_true rfl) ?_
  intro pp ee ss mm args below meth kc A hF hnm hout
  refine V.aload_n hF dX4_messageClock_0 rfl ?_
  refine V.iload_n hF dX4_messageClock_1 rfl ?_
  refine V.vG hF dX4_messageClock_2 (ct_X4_requireMessage hst _ _ _ _ _ hO hG _ _) lk_X4_112 sl_X4_requireMessage hO.1.1 hO.1.2 rfl (Nat.le_of_ble_eq_true rfl) (fit_of rfl) (Nat.le_of_ble_eq_true rfl) hout (Nat.le_of_ble_eq_true rfl) (Nat.le_of_ble_eq_true rfl) rfl (fun hg1 => ⟨⟨0, rfl, by simp [hg1]⟩, rfl, rfl, rfl⟩) (fun hg1 => ?_)
  obtain ⟨m, hm, km, em⟩ := yhas_of hC hg1
  subst em
  have cm : (nI m).toNatClampNeg = m := nI_clamp (by omega)
  refine V.iload_n hF dX4_messageClock_5 rfl ?_
  refine V.sG hF dX4_messageClock_6 (ct_X4_requireProcess hst _ _ _ _) lk_X4_69 (fit_of rfl) (Nat.le_of_ble_eq_true rfl) hout (Nat.le_of_ble_eq_true rfl) (Nat.le_of_ble_eq_true rfl) rfl (fun hg2 => ⟨⟨0, rfl, by simp [hg1, hg2]⟩, rfl, rfl, rfl⟩) (fun hg2 => ?_)
  obtain ⟨q, hq, eq⟩ := zPr_of hg2
  subst eq
  have cq : (nI q).toNatClampNeg = q := nI_clamp (by omega)
  refine V.aload_n hF dX4_messageClock_9 rfl ?_
  refine V.getR hF dX4_messageClock_10 fl_X4_19 hO.1.1 hO.1.2 rfl hO.2 ?_
  refine V.getRP (i := 2) hF dX4_messageClock_13 fl_X4_40 hG.g rfl hG.r2 ?_
  refine V.iload_n hF dX4_messageClock_16 rfl ?_
  refine V.iload_n hF dX4_messageClock_17 rfl ?_
  refine V.vI hF dX4_messageClock_18 (ct_X1_entry hst _ _ _ _ hG _ m q (by omega) (by omega)) lk_X4_151 sl_X1_entry hG.m.1 hG.m.2 rfl (Nat.le_of_ble_eq_true rfl) (fit_of rfl) (Nat.le_of_ble_eq_true rfl) rfl ?_
  refine V.iret hF dX4_messageClock_21 (Nat.le_of_ble_eq_true rfl) (Nat.le_of_ble_eq_true rfl) ?_
  exact ⟨by rw [hg1, hg2]; rfl, pR.i (by rw [cm, cq])⟩
set_option maxRecDepth 20000 in
theorem ct_X4_isCause (hst : l.stackTraces = false) (σ : SH) (I X : IX) (o : Nat) (ad : Nat → Nat) (hO : FS σ o ad) (hG : GS σ ad) (C : IX) (hC : WC C)  (x y : Int32) : Ct l D cy sa sv yX4_isCause cX4_isCause 3 (some .boolean) 7 2 12 [.ref o, .int x, .int y] σ (put idI I ad C) (put idX X ad C) (pT (if yhas C x && yhas C y then nI 0 else nI 1) (pR (some (.int (bI (yprec C x.toNatClampNeg y.toNatClampNeg)))) σ (put idI I ad C) (put idX X ad C))) (xT (if yhas C x && yhas C y then nI 0 else nI 1) [eIOB] σ (put idI I ad C) (put idX X ad C)) := by
  refine Ct.of (by decide) hst (Nat.le_of_ble_eq_true rfl) ?_
  intro pp ee ss mm args below meth kc A hF hnm hout
  refine V.aload_n hF dX4_isCause_0 rfl ?_
  refine V.iload_n hF dX4_isCause_1 rfl ?_
  refine V.vG hF dX4_isCause_2 (ct_X4_requireMessage hst _ _ _ _ _ hO hG _ _) lk_X4_112 sl_X4_requireMessage hO.1.1 hO.1.2 rfl (Nat.le_of_ble_eq_true rfl) (fit_of rfl) (Nat.le_of_ble_eq_true rfl) hout (Nat.le_of_ble_eq_true rfl) (Nat.le_of_ble_eq_true rfl) rfl (fun hg1 => ⟨⟨0, rfl, by simp [hg1]⟩, rfl, rfl, rfl⟩) (fun hg1 => ?_)
  obtain ⟨m, hm, km, em⟩ := yhas_of hC hg1
  subst em
  have cm : (nI m).toNatClampNeg = m := nI_clamp (by omega)
  refine V.aload_n hF dX4_isCause_5 rfl ?_
  refine V.iload_n hF dX4_isCause_6 rfl ?_
  refine V.vG hF dX4_isCause_7 (ct_X4_requireMessage hst _ _ _ _ _ hO hG _ _) lk_X4_112 sl_X4_requireMessage hO.1.1 hO.1.2 rfl (Nat.le_of_ble_eq_true rfl) (fit_of rfl) (Nat.le_of_ble_eq_true rfl) hout (Nat.le_of_ble_eq_true rfl) (Nat.le_of_ble_eq_true rfl) rfl (fun hg2 => ⟨⟨0, rfl, by simp [hg1, hg2]⟩, rfl, rfl, rfl⟩) (fun hg2 => ?_)
  obtain ⟨n, hn, kn, en⟩ := yhas_of hC hg2
  subst en
  have cn : (nI n).toNatClampNeg = n := nI_clamp (by omega)
  refine V.aload_n hF dX4_isCause_10 rfl ?_
  refine V.getR hF dX4_isCause_11 fl_X4_19 hO.1.1 hO.1.2 rfl hO.2 ?_
  refine V.getRP (i := 2) hF dX4_isCause_14 fl_X4_40 hG.g rfl hG.r2 ?_
  refine V.iload_n hF dX4_isCause_17 rfl ?_
  refine V.iload_n hF dX4_isCause_18 rfl ?_
  refine V.vI hF dX4_isCause_19 (ct_X1_precedes hst _ _ _ _ hG _ hC m n (by omega) (by omega)) lk_X4_154 sl_X1_precedes hG.m.1 hG.m.2 rfl (Nat.le_of_ble_eq_true rfl) (fit_of rfl) (Nat.le_of_ble_eq_true rfl) rfl ?_
  refine V.zret hF dX4_isCause_22 (bI_01 _) (Nat.le_of_ble_eq_true rfl) (Nat.le_of_ble_eq_true rfl) ?_
  exact ⟨by rw [hg1, hg2]; rfl, pR.i (by rw [cm, cn])⟩
set_option maxRecDepth 20000 in
theorem ct_X4_causes (hst : l.stackTraces = false) (σ : SH) (I X : IX) (o : Nat) (ad : Nat → Nat) (hO : FS σ o ad) (hG : GS σ ad) (C : IX) (hC : WC C)  (x : Int32) : Ct l D cy sa sv yX4_causes cX4_causes 2 (some .int) 7 1 6 [.ref o, .int x] σ (put idI I ad C) (put idX X ad C) (pT (if yhas C x then nI 0 else nI 1) (pR (some (.int (nI (zcB (fun k => yprec C k x.toNatClampNeg) (cN C 2 6))))) σ (put idI I ad C) (put idX X ad C))) (xT (if yhas C x then nI 0 else nI 1) [eIOB] σ (put idI I ad C) (put idX X ad C)) := by
  refine Ct.of (by decide) hst (Nat.le_of_ble_eq_true rfl) ?_
  intro pp ee ss mm args below meth kc A hF hnm hout
  refine V.aload_n hF dX4_causes_0 rfl ?_
  refine V.iload_n hF dX4_causes_1 rfl ?_
  refine V.vG hF dX4_causes_2 (ct_X4_requireMessage hst _ _ _ _ _ hO hG _ _) lk_X4_112 sl_X4_requireMessage hO.1.1 hO.1.2 rfl (Nat.le_of_ble_eq_true rfl) (fit_of rfl) (Nat.le_of_ble_eq_true rfl) hout (Nat.le_of_ble_eq_true rfl) (Nat.le_of_ble_eq_true rfl) rfl (fun hg1 => ⟨⟨0, rfl, by simp [hg1]⟩, rfl, rfl, rfl⟩) (fun hg1 => ?_)
  obtain ⟨m, hm, km, em⟩ := yhas_of hC hg1
  subst em
  have cm : (nI m).toNatClampNeg = m := nI_clamp (by omega)
  refine V.aload_n hF dX4_causes_5 rfl ?_
  refine V.getR hF dX4_causes_6 fl_X4_19 hO.1.1 hO.1.2 rfl hO.2 ?_
  refine V.getRP (i := 2) hF dX4_causes_9 fl_X4_40 hG.g rfl hG.r2 ?_
  refine V.iload_n hF dX4_causes_12 rfl ?_
  refine V.vI hF dX4_causes_13 (ct_X1_countCauses hst _ _ _ _ hG _ hC m (by omega)) lk_X4_157 sl_X1_countCauses hG.m.1 hG.m.2 rfl (Nat.le_of_ble_eq_true rfl) (fit_of rfl) (Nat.le_of_ble_eq_true rfl) rfl ?_
  refine V.iret hF dX4_causes_16 (Nat.le_of_ble_eq_true rfl) (Nat.le_of_ble_eq_true rfl) ?_
  exact ⟨by rw [hg1]; rfl, pR.i (by rw [cm])⟩
set_option maxRecDepth 20000 in
theorem ct_X4_concurrent (hst : l.stackTraces = false) (σ : SH) (I X : IX) (o : Nat) (ad : Nat → Nat) (hO : FS σ o ad) (hG : GS σ ad) (C : IX) (hC : WC C)  (x : Int32) : Ct l D cy sa sv yX4_concurrent cX4_concurrent 2 (some .int) 7 1 6 [.ref o, .int x] σ (put idI I ad C) (put idX X ad C) (pT (if yhas C x then nI 0 else nI 1) (pR (some (.int (nI (zcB (ycon C x.toNatClampNeg) (cN C 2 6))))) σ (put idI I ad C) (put idX X ad C))) (xT (if yhas C x then nI 0 else nI 1) [eIOB] σ (put idI I ad C) (put idX X ad C)) := by
  refine Ct.of (by decide) hst (Nat.le_of_ble_eq_true rfl) ?_
  intro pp ee ss mm args below meth kc A hF hnm hout
  refine V.aload_n hF dX4_concurrent_0 rfl ?_
  refine V.iload_n hF dX4_concurrent_1 rfl ?_
  refine V.vG hF dX4_concurrent_2 (ct_X4_requireMessage hst _ _ _ _ _ hO hG _ _) lk_X4_112 sl_X4_requireMessage hO.1.1 hO.1.2 rfl (Nat.le_of_ble_eq_true rfl) (fit_of rfl) (Nat.le_of_ble_eq_true rfl) hout (Nat.le_of_ble_eq_true rfl) (Nat.le_of_ble_eq_true rfl) rfl (fun hg1 => ⟨⟨0, rfl, by simp [hg1]⟩, rfl, rfl, rfl⟩) (fun hg1 => ?_)
  obtain ⟨m, hm, km, em⟩ := yhas_of hC hg1
  subst em
  have cm : (nI m).toNatClampNeg = m := nI_clamp (by omega)
  refine V.aload_n hF dX4_concurrent_5 rfl ?_
  refine V.getR hF dX4_concurrent_6 fl_X4_19 hO.1.1 hO.1.2 rfl hO.2 ?_
  refine V.getRP (i := 2) hF dX4_concurrent_9 fl_X4_40 hG.g rfl hG.r2 ?_
  refine V.iload_n hF dX4_concurrent_12 rfl ?_
  refine V.vI hF dX4_concurrent_13 (ct_X1_countConcurrent hst _ _ _ _ hG _ hC m (by omega)) lk_X4_160 sl_X1_countConcurrent hG.m.1 hG.m.2 rfl (Nat.le_of_ble_eq_true rfl) (fit_of rfl) (Nat.le_of_ble_eq_true rfl) rfl ?_
  refine V.iret hF dX4_concurrent_16 (Nat.le_of_ble_eq_true rfl) (Nat.le_of_ble_eq_true rfl) ?_
  exact ⟨by rw [hg1]; rfl, pR.i (by rw [cm])⟩
set_option maxRecDepth 20000 in
theorem ct_X4_longestChain (hst : l.stackTraces = false) (σ : SH) (I X : IX) (o : Nat) (ad : Nat → Nat) (hO : FS σ o ad) (hG : GS σ ad) (C : IX) (hC : WC C)  (x : Int32) : Ct l D cy sa sv yX4_longestChain cX4_longestChain 2 (some .int) 7 1 6 [.ref o, .int x] σ (put idI I ad C) (put idX X ad C) (pT (if zisIn x (nI 0) (C 100 4) then nI 0 else nI 1) (pR (some (.int (ygd C x (cN C 2 6)))) σ (put idI I ad C) (put idX X ad C))) (xT (if zisIn x (nI 0) (C 100 4) then nI 0 else nI 1) [eIOB] σ (put idI I ad C) (put idX X ad C)) := by
  refine Ct.of (by decide) hst (Nat.le_of_ble_eq_true rfl) ?_
  intro pp ee ss mm args below meth kc A hF hnm hout
  refine V.aload_n hF dX4_longestChain_0 rfl ?_
  refine V.iload_n hF dX4_longestChain_1 rfl ?_
  refine V.vG hF dX4_longestChain_2 (ct_X4_requireView hst _ _ _ _ _ hO hG _ _) lk_X4_56 sl_X4_requireView hO.1.1 hO.1.2 rfl (Nat.le_of_ble_eq_true rfl) (fit_of rfl) (Nat.le_of_ble_eq_true rfl) hout (Nat.le_of_ble_eq_true rfl) (Nat.le_of_ble_eq_true rfl) rfl (fun hg1 => ⟨⟨0, rfl, by simp [hg1]⟩, rfl, rfl, rfl⟩) (fun hg1 => ?_)
  have hv20 := hC.vw20
  obtain ⟨j, hj, ej⟩ := gvw_of hC hg1
  subst ej
  have cj : (nI j).toNatClampNeg = j := nI_clamp (by omega)
  refine V.aload_n hF dX4_longestChain_5 rfl ?_
  refine V.getR hF dX4_longestChain_6 fl_X4_19 hO.1.1 hO.1.2 rfl hO.2 ?_
  refine V.getRP (i := 2) hF dX4_longestChain_9 fl_X4_40 hG.g rfl hG.r2 ?_
  refine V.iload_n hF dX4_longestChain_12 rfl ?_
  refine V.vI hF dX4_longestChain_13 (ct_X1_greatestDepth hst _ _ _ _ hG _ hC _) lk_X4_163 sl_X1_greatestDepth hG.m.1 hG.m.2 rfl (Nat.le_of_ble_eq_true rfl) (fit_of rfl) (Nat.le_of_ble_eq_true rfl) rfl ?_
  refine V.iret hF dX4_longestChain_16 (Nat.le_of_ble_eq_true rfl) (Nat.le_of_ble_eq_true rfl) ?_
  exact ⟨by rw [hg1]; rfl, pR.i rfl⟩
set_option maxRecDepth 20000 in
theorem ct_X4_logLength (hst : l.stackTraces = false) (σ : SH) (I X : IX) (o : Nat) (ad : Nat → Nat) (hO : FS σ o ad) (hG : GS σ ad) (C : IX) (hC : WC C)  (x : Int32) : Ct l D cy sa sv yX4_logLength cX4_logLength 2 (some .int) 7 1 6 [.ref o, .int x] σ (put idI I ad C) (put idX X ad C) (pT (if zPr x then nI 0 else nI 1) (pR (some (.int (C (10 + x.toNatClampNeg) 4))) σ (put idI I ad C) (put idX X ad C))) (xT (if zPr x then nI 0 else nI 1) [eIOB] σ (put idI I ad C) (put idX X ad C)) := by
  refine Ct.of (by decide) hst (Nat.le_of_ble_eq_true rfl) ?_
  intro pp ee ss mm args below meth kc A hF hnm hout
  refine V.iload_n hF dX4_logLength_0 rfl ?_
  refine V.sG hF dX4_logLength_1 (ct_X4_requireProcess hst _ _ _ _) lk_X4_69 (fit_of rfl) (Nat.le_of_ble_eq_true rfl) hout (Nat.le_of_ble_eq_true rfl) (Nat.le_of_ble_eq_true rfl) rfl (fun hg1 => ⟨⟨0, rfl, by simp [hg1]⟩, rfl, rfl, rfl⟩) (fun hg1 => ?_)
  obtain ⟨p, hp, ep⟩ := zPr_of hg1
  subst ep
  have cp : (nI p).toNatClampNeg = p := nI_clamp (by omega)
  refine V.aload_n hF dX4_logLength_4 rfl ?_
  refine V.getR hF dX4_logLength_5 fl_X4_19 hO.1.1 hO.1.2 rfl hO.2 ?_
  refine V.getRP (i := 3) hF dX4_logLength_8 fl_X4_169 hG.g rfl hG.r3 ?_
  refine V.iload_n hF dX4_logLength_11 rfl ?_
  refine V.aaload (j := p) hF dX4_logLength_12 hG.ym hG.yk rfl (hG.yl (by omega)) hG.ys (hG.y (by omega)) ?_
  refine V.getIP hF dX4_logLength_13 fl_X4_173 (hG.rp hp) rfl hG (mem_rp hp) ?_
  refine V.iret hF dX4_logLength_16 (Nat.le_of_ble_eq_true rfl) (Nat.le_of_ble_eq_true rfl) ?_
  exact ⟨by rw [hg1]; rfl, pR.i (by rw [cp])⟩
set_option maxRecDepth 20000 in
theorem ct_X4_state (hst : l.stackTraces = false) (σ : SH) (I X : IX) (o : Nat) (ad : Nat → Nat) (hO : FS σ o ad) (hG : GS σ ad) (C : IX) (hC : WC C)  (x : Int32) : Ct l D cy sa sv yX4_state cX4_state 2 (some .int) 7 1 6 [.ref o, .int x] σ (put idI I ad C) (put idX X ad C) (pT (if zPr x then nI 0 else nI 1) (pR (some (.int (C (10 + x.toNatClampNeg) 5))) σ (put idI I ad C) (put idX X ad C))) (xT (if zPr x then nI 0 else nI 1) [eIOB] σ (put idI I ad C) (put idX X ad C)) := by
  refine Ct.of (by decide) hst (Nat.le_of_ble_eq_true rfl) ?_
  intro pp ee ss mm args below meth kc A hF hnm hout
  refine V.iload_n hF dX4_state_0 rfl ?_
  refine V.sG hF dX4_state_1 (ct_X4_requireProcess hst _ _ _ _) lk_X4_69 (fit_of rfl) (Nat.le_of_ble_eq_true rfl) hout (Nat.le_of_ble_eq_true rfl) (Nat.le_of_ble_eq_true rfl) rfl (fun hg1 => ⟨⟨0, rfl, by simp [hg1]⟩, rfl, rfl, rfl⟩) (fun hg1 => ?_)
  obtain ⟨p, hp, ep⟩ := zPr_of hg1
  subst ep
  have cp : (nI p).toNatClampNeg = p := nI_clamp (by omega)
  refine V.aload_n hF dX4_state_4 rfl ?_
  refine V.getR hF dX4_state_5 fl_X4_19 hO.1.1 hO.1.2 rfl hO.2 ?_
  refine V.getRP (i := 3) hF dX4_state_8 fl_X4_169 hG.g rfl hG.r3 ?_
  refine V.iload_n hF dX4_state_11 rfl ?_
  refine V.aaload (j := p) hF dX4_state_12 hG.ym hG.yk rfl (hG.yl (by omega)) hG.ys (hG.y (by omega)) ?_
  refine V.getIP hF dX4_state_13 fl_X4_192 (hG.rp hp) rfl hG (mem_rp hp) ?_
  refine V.iret hF dX4_state_16 (Nat.le_of_ble_eq_true rfl) (Nat.le_of_ble_eq_true rfl) ?_
  exact ⟨by rw [hg1]; rfl, pR.i (by rw [cp])⟩
set_option maxRecDepth 20000 in
theorem ct_X4_logged (hst : l.stackTraces = false) (σ : SH) (I X : IX) (o : Nat) (ad : Nat → Nat) (hO : FS σ o ad) (hG : GS σ ad) (C : IX) (hC : WC C)  (x y : Int32) : Ct l D cy sa sv yX4_logged cX4_logged 3 (some .int) 7 2 12 [.ref o, .int x, .int y] σ (put idI I ad C) (put idX X ad C) (pT (if zPr x && ylgd C x y then nI 0 else nI 1) (pR (some (.int (C (20 + x.toNatClampNeg) y.toNatClampNeg))) σ (put idI I ad C) (put idX X ad C))) (xT (if zPr x && ylgd C x y then nI 0 else nI 1) [eIOB] σ (put idI I ad C) (put idX X ad C)) := by
  refine Ct.of (by decide) hst (Nat.le_of_ble_eq_true rfl) ?_
  intro pp ee ss mm args below meth kc A hF hnm hout
  refine V.iload_n hF dX4_logged_0 rfl ?_
  refine V.sG hF dX4_logged_1 (ct_X4_requireProcess hst _ _ _ _) lk_X4_69 (fit_of rfl) (Nat.le_of_ble_eq_true rfl) hout (Nat.le_of_ble_eq_true rfl) (Nat.le_of_ble_eq_true rfl) rfl (fun hg1 => ⟨⟨0, rfl, by simp [hg1]⟩, rfl, rfl, rfl⟩) (fun hg1 => ?_)
  obtain ⟨p, hp, ep⟩ := zPr_of hg1
  subst ep
  have cp : (nI p).toNatClampNeg = p := nI_clamp (by omega)
  refine V.iload_n hF dX4_logged_4 rfl ?_
  refine V.if_lt (tgt := 24) hF dX4_logged_5 (by decide) (fun h5 => ?_) (fun h5 => ?_)
  · have hz : ylgd C (nI p) y = false := by rw [ylgd, cp, decide_eq_true h5]; rfl
    exact V.throwS hF xw_IOB 7 rfl dX4_logged_24 dX4_logged_27 dX4_logged_28 dX4_logged_30 dX4_logged_33 hout (Nat.le_of_ble_eq_true rfl) (Nat.le_of_ble_eq_true rfl) (Nat.le_of_ble_eq_true rfl) (Nat.le_of_ble_eq_true rfl) (Nat.le_of_ble_eq_true rfl) (Nat.le_of_ble_eq_true rfl) ⟨⟨0, rfl, by rw [hg1, hz]; rfl⟩, rfl, rfl, rfl⟩
  · refine V.iload_n hF dX4_logged_8 rfl ?_
    refine V.aload_n hF dX4_logged_9 rfl ?_
    refine V.getR hF dX4_logged_10 fl_X4_19 hO.1.1 hO.1.2 rfl hO.2 ?_
    refine V.getRP (i := 3) hF dX4_logged_13 fl_X4_169 hG.g rfl hG.r3 ?_
    refine V.iload_n hF dX4_logged_16 rfl ?_
    refine V.aaload (j := p) hF dX4_logged_17 hG.ym hG.yk rfl (hG.yl (by omega)) hG.ys (hG.y (by omega)) ?_
    refine V.getIP hF dX4_logged_18 fl_X4_173 (hG.rp hp) rfl hG (mem_rp hp) ?_
    refine V.icmp_lt (tgt := 34) hF dX4_logged_21 (by decide) (fun h21 => ?_) (fun h21 => ?_)
    · have hz : ylgd C (nI p) y = true := by rw [ylgd, cp, decide_eq_false h5, decide_eq_true h21]; rfl
      have hl150 := hC.l150 hp
      obtain ⟨i, hi, e2⟩ := nI_of h5
      subst e2
      have hi2 : i < cN C (10 + p) 4 := by have h22 := h21; rw [hC.l hp] at h22; exact (nI_ltI hi (by omega)).mp h22
      have ci : (nI i).toNatClampNeg = i := nI_clamp (by omega)
      refine V.aload_n hF dX4_logged_34 rfl ?_
      refine V.getR hF dX4_logged_35 fl_X4_19 hO.1.1 hO.1.2 rfl hO.2 ?_
      refine V.getRP (i := 3) hF dX4_logged_38 fl_X4_169 hG.g rfl hG.r3 ?_
      refine V.iload_n hF dX4_logged_41 rfl ?_
      refine V.aaload (j := p) hF dX4_logged_42 hG.ym hG.yk rfl (hG.yl (by omega)) hG.ys (hG.y (by omega)) ?_
      refine V.getRP (i := (20 + p)) hF dX4_logged_43 fl_X4_183 (hG.rp hp) rfl (hG.p1 hp) ?_
      refine V.iload_n hF dX4_logged_46 rfl ?_
      refine V.ialoadP (j := i) hF dX4_logged_47 (hG.al hp) rfl (by omega) (by decide) hG (mem_lg hp) ?_
      refine V.iret hF dX4_logged_48 (Nat.le_of_ble_eq_true rfl) (Nat.le_of_ble_eq_true rfl) ?_
      exact ⟨by rw [hg1, hz]; rfl, pR.i (by rw [cp, ci])⟩
    · have hz : ylgd C (nI p) y = false := by rw [ylgd, cp, decide_eq_false h21, Bool.and_false]
      exact V.throwS hF xw_IOB 7 rfl dX4_logged_24 dX4_logged_27 dX4_logged_28 dX4_logged_30 dX4_logged_33 hout (Nat.le_of_ble_eq_true rfl) (Nat.le_of_ble_eq_true rfl) (Nat.le_of_ble_eq_true rfl) (Nat.le_of_ble_eq_true rfl) (Nat.le_of_ble_eq_true rfl) (Nat.le_of_ble_eq_true rfl) ⟨⟨0, rfl, by rw [hg1, hz]; rfl⟩, rfl, rfl, rfl⟩
set_option maxRecDepth 20000 in
theorem ct_X4_position (hst : l.stackTraces = false) (σ : SH) (I X : IX) (o : Nat) (ad : Nat → Nat) (hO : FS σ o ad) (hG : GS σ ad) (C : IX) (hC : WC C)  (x y : Int32) : Ct l D cy sa sv yX4_position cX4_position 3 (some .int) 7 3 18 [.ref o, .int x, .int y] σ (put idI I ad C) (put idX X ad C) (pT (if zPr x && yhas C y then (if ylog C x.toNatClampNeg y.toNatClampNeg then nI 0 else nI 2) else nI 1) (pR (some (.int (C (30 + x.toNatClampNeg) y.toNatClampNeg))) σ (put idI I ad C) (put idX X ad C))) (xT (if zPr x && yhas C y then (if ylog C x.toNatClampNeg y.toNatClampNeg then nI 0 else nI 2) else nI 1) [eIOB, eNSE] σ (put idI I ad C) (put idX X ad C)) := by
  refine Ct.of (by decide) hst (Nat.le_of_ble_eq_true rfl) ?_
  intro pp ee ss mm args below meth kc A hF hnm hout
  refine V.iload_n hF dX4_position_0 rfl ?_
  refine V.sG hF dX4_position_1 (ct_X4_requireProcess hst _ _ _ _) lk_X4_69 (fit_of rfl) (Nat.le_of_ble_eq_true rfl) hout (Nat.le_of_ble_eq_true rfl) (Nat.le_of_ble_eq_true rfl) rfl (fun hg1 => ⟨⟨0, rfl, by simp [hg1]⟩, rfl, rfl, rfl⟩) (fun hg1 => ?_)
  obtain ⟨p, hp, ep⟩ := zPr_of hg1
  subst ep
  have cp : (nI p).toNatClampNeg = p := nI_clamp (by omega)
  refine V.aload_n hF dX4_position_4 rfl ?_
  refine V.iload_n hF dX4_position_5 rfl ?_
  refine V.vG hF dX4_position_6 (ct_X4_requireMessage hst _ _ _ _ _ hO hG _ _) lk_X4_112 sl_X4_requireMessage hO.1.1 hO.1.2 rfl (Nat.le_of_ble_eq_true rfl) (fit_of rfl) (Nat.le_of_ble_eq_true rfl) hout (Nat.le_of_ble_eq_true rfl) (Nat.le_of_ble_eq_true rfl) rfl (fun hg2 => ⟨⟨0, rfl, by simp [hg1, hg2]⟩, rfl, rfl, rfl⟩) (fun hg2 => ?_)
  obtain ⟨m, hm, km, em⟩ := yhas_of hC hg2
  subst em
  have cm : (nI m).toNatClampNeg = m := nI_clamp (by omega)
  refine V.aload_n hF dX4_position_9 rfl ?_
  refine V.iload_n hF dX4_position_10 rfl ?_
  refine V.iload_n hF dX4_position_11 rfl ?_
  refine V.vG hF dX4_position_12 (ct_X4_requireLogged hst _ _ _ _ _ hO hG _ p (by omega) m (by omega)) lk_X4_186 sl_X4_requireLogged hO.1.1 hO.1.2 rfl (Nat.le_of_ble_eq_true rfl) (fit_of rfl) (Nat.le_of_ble_eq_true rfl) hout (Nat.le_of_ble_eq_true rfl) (Nat.le_of_ble_eq_true rfl) rfl (fun hg3 => ⟨⟨1, rfl, by rw [cp, cm, hg1, hg2, hg3]; rfl⟩, rfl, rfl, rfl⟩) (fun hg3 => ?_)
  refine V.aload_n hF dX4_position_15 rfl ?_
  refine V.getR hF dX4_position_16 fl_X4_19 hO.1.1 hO.1.2 rfl hO.2 ?_
  refine V.getRP (i := 3) hF dX4_position_19 fl_X4_169 hG.g rfl hG.r3 ?_
  refine V.iload_n hF dX4_position_22 rfl ?_
  refine V.aaload (j := p) hF dX4_position_23 hG.ym hG.yk rfl (hG.yl (by omega)) hG.ys (hG.y (by omega)) ?_
  refine V.getRP (i := (30 + p)) hF dX4_position_24 fl_X4_189 (hG.rp hp) rfl (hG.p2 hp) ?_
  refine V.iload_n hF dX4_position_27 rfl ?_
  refine V.ialoadP (j := m) hF dX4_position_28 (hG.ap hp) rfl (by omega) (by decide) hG (mem_pl hp) ?_
  refine V.iret hF dX4_position_29 (Nat.le_of_ble_eq_true rfl) (Nat.le_of_ble_eq_true rfl) ?_
  exact ⟨by simp [hg1, hg2, hg3, cp, cm], pR.i (by rw [cp, cm])⟩
set_option maxRecDepth 20000 in
theorem ct_X4_clock (hst : l.stackTraces = false) (σ : SH) (I X : IX) (o : Nat) (ad : Nat → Nat) (hO : FS σ o ad) (hG : GS σ ad) (C : IX) (hC : WC C)  (x y : Int32) : Ct l D cy sa sv yX4_clock cX4_clock 3 (some .int) 7 3 18 [.ref o, .int x, .int y] σ (put idI I ad C) (put idX X ad C) (pT (if zPr x && zPr y then (if yisM C x then nI 0 else nI 2) else nI 1) (pR (some (.int (yclk C x.toNatClampNeg y.toNatClampNeg))) σ (put idI I ad C) (put idX X ad C))) (xT (if zPr x && zPr y then (if yisM C x then nI 0 else nI 2) else nI 1) [eIOB, eISE] σ (put idI I ad C) (put idX X ad C)) := by
  refine Ct.of (by decide) hst (Nat.le_of_ble_eq_true rfl) ?_
  intro pp ee ss mm args below meth kc A hF hnm hout
  refine V.iload_n hF dX4_clock_0 rfl ?_
  refine V.sG hF dX4_clock_1 (ct_X4_requireProcess hst _ _ _ _) lk_X4_69 (fit_of rfl) (Nat.le_of_ble_eq_true rfl) hout (Nat.le_of_ble_eq_true rfl) (Nat.le_of_ble_eq_true rfl) rfl (fun hg1 => ⟨⟨0, rfl, by simp [hg1]⟩, rfl, rfl, rfl⟩) (fun hg1 => ?_)
  obtain ⟨p, hp, ep⟩ := zPr_of hg1
  subst ep
  have cp : (nI p).toNatClampNeg = p := nI_clamp (by omega)
  refine V.iload_n hF dX4_clock_4 rfl ?_
  refine V.sG hF dX4_clock_5 (ct_X4_requireProcess hst _ _ _ _) lk_X4_69 (fit_of rfl) (Nat.le_of_ble_eq_true rfl) hout (Nat.le_of_ble_eq_true rfl) (Nat.le_of_ble_eq_true rfl) rfl (fun hg2 => ⟨⟨0, rfl, by simp [hg1, hg2]⟩, rfl, rfl, rfl⟩) (fun hg2 => ?_)
  obtain ⟨q, hq, eq⟩ := zPr_of hg2
  subst eq
  have cq : (nI q).toNatClampNeg = q := nI_clamp (by omega)
  refine V.aload_n hF dX4_clock_8 rfl ?_
  refine V.iload_n hF dX4_clock_9 rfl ?_
  refine V.vG hF dX4_clock_10 (ct_X4_requireMember hst _ _ _ _ _ hO hG _ hC _) lk_X4_122 sl_X4_requireMember hO.1.1 hO.1.2 rfl (Nat.le_of_ble_eq_true rfl) (fit_of rfl) (Nat.le_of_ble_eq_true rfl) hout (Nat.le_of_ble_eq_true rfl) (Nat.le_of_ble_eq_true rfl) rfl (fun hg3 => ⟨⟨1, rfl, by simp [hg1, hg2, hg3]⟩, rfl, rfl, rfl⟩) (fun hg3 => ?_)
  refine V.aload_n hF dX4_clock_13 rfl ?_
  refine V.getR hF dX4_clock_14 fl_X4_19 hO.1.1 hO.1.2 rfl hO.2 ?_
  refine V.getRP (i := 3) hF dX4_clock_17 fl_X4_169 hG.g rfl hG.r3 ?_
  refine V.iload_n hF dX4_clock_20 rfl ?_
  refine V.aaload (j := p) hF dX4_clock_21 hG.ym hG.yk rfl (hG.yl (by omega)) hG.ys (hG.y (by omega)) ?_
  refine V.iload_n hF dX4_clock_22 rfl ?_
  refine V.vI hF dX4_clock_23 (ct_X2_entry hst _ _ _ _ hG _ hC p hp q (by omega)) lk_X4_195 sl_X2_entry (hG.rp hp).1 (hG.rp hp).2 rfl (Nat.le_of_ble_eq_true rfl) (fit_of rfl) (Nat.le_of_ble_eq_true rfl) rfl ?_
  refine V.iret hF dX4_clock_26 (Nat.le_of_ble_eq_true rfl) (Nat.le_of_ble_eq_true rfl) ?_
  exact ⟨by rw [hg1, hg2, hg3]; rfl, pR.i (by rw [cp, cq])⟩
set_option maxRecDepth 20000 in
theorem ct_X4_buffered (hst : l.stackTraces = false) (σ : SH) (I X : IX) (o : Nat) (ad : Nat → Nat) (hO : FS σ o ad) (hG : GS σ ad) (C : IX) (hC : WC C)  (x : Int32) : Ct l D cy sa sv yX4_buffered cX4_buffered 2 (some .int) 7 2 12 [.ref o, .int x] σ (put idI I ad C) (put idX X ad C) (pT (if zPr x then (if yisM C x then nI 0 else nI 2) else nI 1) (pR (some (.int (nI (yfr (ypc C x.toNatClampNeg (-1)) C)))) σ (put idI I ad C) (put idX X ad C))) (xT (if zPr x then (if yisM C x then nI 0 else nI 2) else nI 1) [eIOB, eISE] σ (put idI I ad C) (put idX X ad C)) := by
  refine Ct.of (by decide) hst (Nat.le_of_ble_eq_true rfl) ?_
  intro pp ee ss mm args below meth kc A hF hnm hout
  refine V.iload_n hF dX4_buffered_0 rfl ?_
  refine V.sG hF dX4_buffered_1 (ct_X4_requireProcess hst _ _ _ _) lk_X4_69 (fit_of rfl) (Nat.le_of_ble_eq_true rfl) hout (Nat.le_of_ble_eq_true rfl) (Nat.le_of_ble_eq_true rfl) rfl (fun hg1 => ⟨⟨0, rfl, by simp [hg1]⟩, rfl, rfl, rfl⟩) (fun hg1 => ?_)
  obtain ⟨p, hp, ep⟩ := zPr_of hg1
  subst ep
  have cp : (nI p).toNatClampNeg = p := nI_clamp (by omega)
  refine V.aload_n hF dX4_buffered_4 rfl ?_
  refine V.iload_n hF dX4_buffered_5 rfl ?_
  refine V.vG hF dX4_buffered_6 (ct_X4_requireMember hst _ _ _ _ _ hO hG _ hC _) lk_X4_122 sl_X4_requireMember hO.1.1 hO.1.2 rfl (Nat.le_of_ble_eq_true rfl) (fit_of rfl) (Nat.le_of_ble_eq_true rfl) hout (Nat.le_of_ble_eq_true rfl) (Nat.le_of_ble_eq_true rfl) rfl (fun hg2 => ⟨⟨1, rfl, by simp [hg1, hg2]⟩, rfl, rfl, rfl⟩) (fun hg2 => ?_)
  refine V.aload_n hF dX4_buffered_9 rfl ?_
  refine V.getR hF dX4_buffered_10 fl_X4_19 hO.1.1 hO.1.2 rfl hO.2 ?_
  refine V.iload_n hF dX4_buffered_13 rfl ?_
  refine V.iconst (v := -1) hF dX4_buffered_14 (by decide) ?_
  refine V.vI hF dX4_buffered_15 (ct_X0_countPlaced hst _ _ _ _ hG _ hC p (by omega) _) lk_X4_197 sl_X0_countPlaced hG.g.1 hG.g.2 rfl (Nat.le_of_ble_eq_true rfl) (fit_of rfl) (Nat.le_of_ble_eq_true rfl) rfl ?_
  refine V.iret hF dX4_buffered_18 (Nat.le_of_ble_eq_true rfl) (Nat.le_of_ble_eq_true rfl) ?_
  exact ⟨by rw [hg1, hg2]; rfl, pR.i (by rw [cp])⟩
set_option maxRecDepth 20000 in
theorem ct_X4_inTransit (hst : l.stackTraces = false) (σ : SH) (I X : IX) (o : Nat) (ad : Nat → Nat) (hO : FS σ o ad) (hG : GS σ ad) (C : IX) (hC : WC C)  (x : Int32) : Ct l D cy sa sv yX4_inTransit cX4_inTransit 2 (some .int) 7 2 12 [.ref o, .int x] σ (put idI I ad C) (put idX X ad C) (pT (if zPr x then (if yisM C x then nI 0 else nI 2) else nI 1) (pR (some (.int (nI (yfr (ypc C x.toNatClampNeg (-2)) C)))) σ (put idI I ad C) (put idX X ad C))) (xT (if zPr x then (if yisM C x then nI 0 else nI 2) else nI 1) [eIOB, eISE] σ (put idI I ad C) (put idX X ad C)) := by
  refine Ct.of (by decide) hst (Nat.le_of_ble_eq_true rfl) ?_
  intro pp ee ss mm args below meth kc A hF hnm hout
  refine V.iload_n hF dX4_inTransit_0 rfl ?_
  refine V.sG hF dX4_inTransit_1 (ct_X4_requireProcess hst _ _ _ _) lk_X4_69 (fit_of rfl) (Nat.le_of_ble_eq_true rfl) hout (Nat.le_of_ble_eq_true rfl) (Nat.le_of_ble_eq_true rfl) rfl (fun hg1 => ⟨⟨0, rfl, by simp [hg1]⟩, rfl, rfl, rfl⟩) (fun hg1 => ?_)
  obtain ⟨p, hp, ep⟩ := zPr_of hg1
  subst ep
  have cp : (nI p).toNatClampNeg = p := nI_clamp (by omega)
  refine V.aload_n hF dX4_inTransit_4 rfl ?_
  refine V.iload_n hF dX4_inTransit_5 rfl ?_
  refine V.vG hF dX4_inTransit_6 (ct_X4_requireMember hst _ _ _ _ _ hO hG _ hC _) lk_X4_122 sl_X4_requireMember hO.1.1 hO.1.2 rfl (Nat.le_of_ble_eq_true rfl) (fit_of rfl) (Nat.le_of_ble_eq_true rfl) hout (Nat.le_of_ble_eq_true rfl) (Nat.le_of_ble_eq_true rfl) rfl (fun hg2 => ⟨⟨1, rfl, by simp [hg1, hg2]⟩, rfl, rfl, rfl⟩) (fun hg2 => ?_)
  refine V.aload_n hF dX4_inTransit_9 rfl ?_
  refine V.getR hF dX4_inTransit_10 fl_X4_19 hO.1.1 hO.1.2 rfl hO.2 ?_
  refine V.iload_n hF dX4_inTransit_13 rfl ?_
  refine V.bipush (v := -2) hF dX4_inTransit_14 (by decide) ?_
  refine V.vI hF dX4_inTransit_16 (ct_X0_countPlaced hst _ _ _ _ hG _ hC p (by omega) _) lk_X4_197 sl_X0_countPlaced hG.g.1 hG.g.2 rfl (Nat.le_of_ble_eq_true rfl) (fit_of rfl) (Nat.le_of_ble_eq_true rfl) rfl ?_
  refine V.iret hF dX4_inTransit_19 (Nat.le_of_ble_eq_true rfl) (Nat.le_of_ble_eq_true rfl) ?_
  exact ⟨by rw [hg1, hg2]; rfl, pR.i (by rw [cp])⟩
set_option maxRecDepth 20000 in
theorem ct_X4_bufferedMessage (hst : l.stackTraces = false) (σ : SH) (I X : IX) (o : Nat) (ad : Nat → Nat) (hO : FS σ o ad) (hG : GS σ ad) (C : IX) (hC : WC C)  (x y : Int32) : Ct l D cy sa sv yX4_bufferedMessage cX4_bufferedMessage 4 (some .int) 7 3 18 [.ref o, .int x, .int y] σ (put idI I ad C) (put idX X ad C) (pT (if zPr x then (if yisM C x then (if ywt C x.toNatClampNeg y = -1 then nI 3 else nI 0) else nI 2) else nI 1) (pR (some (.int (ywt C x.toNatClampNeg y))) σ (put idI I ad C) (put idX X ad C))) (xT (if zPr x then (if yisM C x then (if ywt C x.toNatClampNeg y = -1 then nI 3 else nI 0) else nI 2) else nI 1) [eIOB, eISE, eNSE] σ (put idI I ad C) (put idX X ad C)) := by
  refine Ct.of (by decide) hst (Nat.le_of_ble_eq_true rfl) ?_
  intro pp ee ss mm args below meth kc A hF hnm hout
  refine V.iload_n hF dX4_bufferedMessage_0 rfl ?_
  refine V.sG hF dX4_bufferedMessage_1 (ct_X4_requireProcess hst _ _ _ _) lk_X4_69 (fit_of rfl) (Nat.le_of_ble_eq_true rfl) hout (Nat.le_of_ble_eq_true rfl) (Nat.le_of_ble_eq_true rfl) rfl (fun hg1 => ⟨⟨0, rfl, by simp [hg1]⟩, rfl, rfl, rfl⟩) (fun hg1 => ?_)
  obtain ⟨p, hp, ep⟩ := zPr_of hg1
  subst ep
  have cp : (nI p).toNatClampNeg = p := nI_clamp (by omega)
  refine V.aload_n hF dX4_bufferedMessage_4 rfl ?_
  refine V.iload_n hF dX4_bufferedMessage_5 rfl ?_
  refine V.vG hF dX4_bufferedMessage_6 (ct_X4_requireMember hst _ _ _ _ _ hO hG _ hC _) lk_X4_122 sl_X4_requireMember hO.1.1 hO.1.2 rfl (Nat.le_of_ble_eq_true rfl) (fit_of rfl) (Nat.le_of_ble_eq_true rfl) hout (Nat.le_of_ble_eq_true rfl) (Nat.le_of_ble_eq_true rfl) rfl (fun hg2 => ⟨⟨1, rfl, by simp [hg1, hg2]⟩, rfl, rfl, rfl⟩) (fun hg2 => ?_)
  refine V.aload_n hF dX4_bufferedMessage_9 rfl ?_
  refine V.getR hF dX4_bufferedMessage_10 fl_X4_19 hO.1.1 hO.1.2 rfl hO.2 ?_
  refine V.iload_n hF dX4_bufferedMessage_13 rfl ?_
  refine V.iload_n hF dX4_bufferedMessage_14 rfl ?_
  refine V.vI hF dX4_bufferedMessage_15 (ct_X0_waitingAt hst _ _ _ _ hG _ hC p (by omega) _) lk_X4_200 sl_X0_waitingAt hG.g.1 hG.g.2 rfl (Nat.le_of_ble_eq_true rfl) (fit_of rfl) (Nat.le_of_ble_eq_true rfl) rfl ?_
  refine V.istore_n hF dX4_bufferedMessage_18 (by decide) ?_
  refine V.iload_n hF dX4_bufferedMessage_19 rfl ?_
  refine V.iconst (v := -1) hF dX4_bufferedMessage_20 (by decide) ?_
  refine V.icmp_ne (tgt := 34) hF dX4_bufferedMessage_21 (by decide) (fun h21 => ?_) (fun h21 => ?_)
  · refine V.iload_n hF dX4_bufferedMessage_34 rfl ?_
    refine V.iret hF dX4_bufferedMessage_35 (Nat.le_of_ble_eq_true rfl) (Nat.le_of_ble_eq_true rfl) ?_
    exact ⟨by rw [hg1, hg2, cp, if_pos rfl, if_pos rfl, if_neg h21], pR.i (by rw [cp])⟩
  · exact V.throwN hF 8 rfl dX4_bufferedMessage_24 dX4_bufferedMessage_27 (Or.inl ⟨dX4_bufferedMessage_28, rfl⟩) dX4_bufferedMessage_30 dX4_bufferedMessage_33 hout (Nat.le_of_ble_eq_true rfl) (Nat.le_of_ble_eq_true rfl) (Nat.le_of_ble_eq_true rfl) (Nat.le_of_ble_eq_true rfl) (Nat.le_of_ble_eq_true rfl) (Nat.le_of_ble_eq_true rfl) ⟨⟨2, rfl, by rw [hg1, hg2, cp, h21]; rfl⟩, rfl, rfl, rfl⟩
set_option maxRecDepth 20000 in
theorem ct_X4_missing (hst : l.stackTraces = false) (σ : SH) (I X : IX) (o : Nat) (ad : Nat → Nat) (hO : FS σ o ad) (hG : GS σ ad) (C : IX) (hC : WC C)  (x y : Int32) : Ct l D cy sa sv yX4_missing cX4_missing 3 (some .int) 7 3 18 [.ref o, .int x, .int y] σ (put idI I ad C) (put idX X ad C) (pT (if zPr x && yhas C y then (if yisM C x && yhas C y && !decide (y < C 100 6) then nI 0 else nI 2) else nI 1) (pR (some (.int (nI (yfr (ymi C x.toNatClampNeg y.toNatClampNeg) C)))) σ (put idI I ad C) (put idX X ad C))) (xT (if zPr x && yhas C y then (if yisM C x && yhas C y && !decide (y < C 100 6) then nI 0 else nI 2) else nI 1) [eIOB, eISE] σ (put idI I ad C) (put idX X ad C)) := by
  refine Ct.of (by decide) hst (Nat.le_of_ble_eq_true rfl) ?_
  intro pp ee ss mm args below meth kc A hF hnm hout
  refine V.iload_n hF dX4_missing_0 rfl ?_
  refine V.sG hF dX4_missing_1 (ct_X4_requireProcess hst _ _ _ _) lk_X4_69 (fit_of rfl) (Nat.le_of_ble_eq_true rfl) hout (Nat.le_of_ble_eq_true rfl) (Nat.le_of_ble_eq_true rfl) rfl (fun hg1 => ⟨⟨0, rfl, by simp [hg1]⟩, rfl, rfl, rfl⟩) (fun hg1 => ?_)
  obtain ⟨p, hp, ep⟩ := zPr_of hg1
  subst ep
  have cp : (nI p).toNatClampNeg = p := nI_clamp (by omega)
  refine V.aload_n hF dX4_missing_4 rfl ?_
  refine V.iload_n hF dX4_missing_5 rfl ?_
  refine V.vG hF dX4_missing_6 (ct_X4_requireMessage hst _ _ _ _ _ hO hG _ _) lk_X4_112 sl_X4_requireMessage hO.1.1 hO.1.2 rfl (Nat.le_of_ble_eq_true rfl) (fit_of rfl) (Nat.le_of_ble_eq_true rfl) hout (Nat.le_of_ble_eq_true rfl) (Nat.le_of_ble_eq_true rfl) rfl (fun hg2 => ⟨⟨0, rfl, by simp [hg1, hg2]⟩, rfl, rfl, rfl⟩) (fun hg2 => ?_)
  obtain ⟨m, hm, km, em⟩ := yhas_of hC hg2
  subst em
  have cm : (nI m).toNatClampNeg = m := nI_clamp (by omega)
  refine V.aload_n hF dX4_missing_9 rfl ?_
  refine V.iload_n hF dX4_missing_10 rfl ?_
  refine V.iload_n hF dX4_missing_11 rfl ?_
  refine V.vG hF dX4_missing_12 (ct_X4_requireReach hst _ _ _ _ _ hO hG _ hC _ _) lk_X4_115 sl_X4_requireReach hO.1.1 hO.1.2 rfl (Nat.le_of_ble_eq_true rfl) (fit_of rfl) (Nat.le_of_ble_eq_true rfl) hout (Nat.le_of_ble_eq_true rfl) (Nat.le_of_ble_eq_true rfl) rfl (fun hg3 => ⟨⟨1, rfl, by rw [if_pos (show (zPr (nI p) && yhas C (nI m)) = true by rw [hg1, hg2]; rfl), hg3]; rfl⟩, rfl, rfl, rfl⟩) (fun hg3 => ?_)
  refine V.aload_n hF dX4_missing_15 rfl ?_
  refine V.getR hF dX4_missing_16 fl_X4_19 hO.1.1 hO.1.2 rfl hO.2 ?_
  refine V.iload_n hF dX4_missing_19 rfl ?_
  refine V.iload_n hF dX4_missing_20 rfl ?_
  refine V.vI hF dX4_missing_21 (ct_X0_countMissing hst _ _ _ _ hG _ hC p (by omega) m (by omega)) lk_X4_208 sl_X0_countMissing hG.g.1 hG.g.2 rfl (Nat.le_of_ble_eq_true rfl) (fit_of rfl) (Nat.le_of_ble_eq_true rfl) rfl ?_
  refine V.iret hF dX4_missing_24 (Nat.le_of_ble_eq_true rfl) (Nat.le_of_ble_eq_true rfl) ?_
  exact ⟨by rw [if_pos (show (zPr (nI p) && yhas C (nI m)) = true by rw [hg1, hg2]; rfl), hg3]; rfl, pR.i (by rw [cp, cm])⟩
set_option maxRecDepth 20000 in
theorem ct_X4_disagreements (hst : l.stackTraces = false) (σ : SH) (I X : IX) (o : Nat) (ad : Nat → Nat) (hO : FS σ o ad) (hG : GS σ ad) (C : IX) (hC : WC C)  (x y : Int32) : Ct l D cy sa sv yX4_disagreements cX4_disagreements 3 (some .int) 7 2 12 [.ref o, .int x, .int y] σ (put idI I ad C) (put idX X ad C) (pT (if zPr x && zPr y then nI 0 else nI 1) (pR (some (.int (nI (yswS C x.toNatClampNeg y.toNatClampNeg (cN C (10 + x.toNatClampNeg) 4))))) σ (put idI I ad C) (put idX X ad C))) (xT (if zPr x && zPr y then nI 0 else nI 1) [eIOB] σ (put idI I ad C) (put idX X ad C)) := by
  refine Ct.of (by decide) hst (Nat.le_of_ble_eq_true rfl) ?_
  intro pp ee ss mm args below meth kc A hF hnm hout
  refine V.iload_n hF dX4_disagreements_0 rfl ?_
  refine V.sG hF dX4_disagreements_1 (ct_X4_requireProcess hst _ _ _ _) lk_X4_69 (fit_of rfl) (Nat.le_of_ble_eq_true rfl) hout (Nat.le_of_ble_eq_true rfl) (Nat.le_of_ble_eq_true rfl) rfl (fun hg1 => ⟨⟨0, rfl, by simp [hg1]⟩, rfl, rfl, rfl⟩) (fun hg1 => ?_)
  obtain ⟨p, hp, ep⟩ := zPr_of hg1
  subst ep
  have cp : (nI p).toNatClampNeg = p := nI_clamp (by omega)
  refine V.iload_n hF dX4_disagreements_4 rfl ?_
  refine V.sG hF dX4_disagreements_5 (ct_X4_requireProcess hst _ _ _ _) lk_X4_69 (fit_of rfl) (Nat.le_of_ble_eq_true rfl) hout (Nat.le_of_ble_eq_true rfl) (Nat.le_of_ble_eq_true rfl) rfl (fun hg2 => ⟨⟨0, rfl, by simp [hg1, hg2]⟩, rfl, rfl, rfl⟩) (fun hg2 => ?_)
  obtain ⟨q, hq, eq⟩ := zPr_of hg2
  subst eq
  have cq : (nI q).toNatClampNeg = q := nI_clamp (by omega)
  refine V.aload_n hF dX4_disagreements_8 rfl ?_
  refine V.getR hF dX4_disagreements_9 fl_X4_19 hO.1.1 hO.1.2 rfl hO.2 ?_
  refine V.getRP (i := 3) hF dX4_disagreements_12 fl_X4_169 hG.g rfl hG.r3 ?_
  refine V.iload_n hF dX4_disagreements_15 rfl ?_
  refine V.aaload (j := p) hF dX4_disagreements_16 hG.ym hG.yk rfl (hG.yl (by omega)) hG.ys (hG.y (by omega)) ?_
  refine V.aload_n hF dX4_disagreements_17 rfl ?_
  refine V.getR hF dX4_disagreements_18 fl_X4_19 hO.1.1 hO.1.2 rfl hO.2 ?_
  refine V.getRP (i := 3) hF dX4_disagreements_21 fl_X4_169 hG.g rfl hG.r3 ?_
  refine V.iload_n hF dX4_disagreements_24 rfl ?_
  refine V.aaload (j := q) hF dX4_disagreements_25 hG.ym hG.yk rfl (hG.yl (by omega)) hG.ys (hG.y (by omega)) ?_
  refine V.vI hF dX4_disagreements_26 (ct_X2_countSwapped hst _ _ _ _ hG _ hC p hp q hq) lk_X4_211 sl_X2_countSwapped (hG.rp hp).1 (hG.rp hp).2 rfl (Nat.le_of_ble_eq_true rfl) (fit_of rfl) (Nat.le_of_ble_eq_true rfl) rfl ?_
  refine V.iret hF dX4_disagreements_29 (Nat.le_of_ble_eq_true rfl) (Nat.le_of_ble_eq_true rfl) ?_
  exact ⟨by rw [hg1, hg2]; rfl, pR.i (by rw [cp, cq])⟩
set_option maxRecDepth 20000 in
theorem ct_X4_overlap (hst : l.stackTraces = false) (σ : SH) (I X : IX) (o : Nat) (ad : Nat → Nat) (hO : FS σ o ad) (hG : GS σ ad) (C : IX) (hC : WC C)  (x y : Int32) : Ct l D cy sa sv yX4_overlap cX4_overlap 5 (some .double) 7 3 18 [.ref o, .int x, .int y] σ (put idI I ad C) (put idX X ad C) (pT (if zPr x && zPr y then (if C (10 + x.toNatClampNeg) 4 = 0 then nI 2 else nI 0) else nI 1) (pR (some (.double (FP.ddiv (FP.i2d (nI (zcB (yshF C x.toNatClampNeg y.toNatClampNeg) (cN C (10 + x.toNatClampNeg) 4)))) (FP.i2d (nI (cN C (10 + x.toNatClampNeg) 4)))))) σ (put idI I ad C) (put idX X ad C))) (xT (if zPr x && zPr y then (if C (10 + x.toNatClampNeg) 4 = 0 then nI 2 else nI 0) else nI 1) [eIOB, eARI] σ (put idI I ad C) (put idX X ad C)) := by
  refine Ct.of (by decide) hst (Nat.le_of_ble_eq_true rfl) ?_
  intro pp ee ss mm args below meth kc A hF hnm hout
  refine V.iload_n hF dX4_overlap_0 rfl ?_
  refine V.sG hF dX4_overlap_1 (ct_X4_requireProcess hst _ _ _ _) lk_X4_69 (fit_of rfl) (Nat.le_of_ble_eq_true rfl) hout (Nat.le_of_ble_eq_true rfl) (Nat.le_of_ble_eq_true rfl) rfl (fun hg1 => ⟨⟨0, rfl, by simp [hg1]⟩, rfl, rfl, rfl⟩) (fun hg1 => ?_)
  obtain ⟨p, hp, ep⟩ := zPr_of hg1
  subst ep
  have cp : (nI p).toNatClampNeg = p := nI_clamp (by omega)
  refine V.iload_n hF dX4_overlap_4 rfl ?_
  refine V.sG hF dX4_overlap_5 (ct_X4_requireProcess hst _ _ _ _) lk_X4_69 (fit_of rfl) (Nat.le_of_ble_eq_true rfl) hout (Nat.le_of_ble_eq_true rfl) (Nat.le_of_ble_eq_true rfl) rfl (fun hg2 => ⟨⟨0, rfl, by simp [hg1, hg2]⟩, rfl, rfl, rfl⟩) (fun hg2 => ?_)
  obtain ⟨q, hq, eq⟩ := zPr_of hg2
  subst eq
  have cq : (nI q).toNatClampNeg = q := nI_clamp (by omega)
  refine V.aload_n hF dX4_overlap_8 rfl ?_
  refine V.getR hF dX4_overlap_9 fl_X4_19 hO.1.1 hO.1.2 rfl hO.2 ?_
  refine V.getRP (i := 3) hF dX4_overlap_12 fl_X4_169 hG.g rfl hG.r3 ?_
  refine V.iload_n hF dX4_overlap_15 rfl ?_
  refine V.aaload (j := p) hF dX4_overlap_16 hG.ym hG.yk rfl (hG.yl (by omega)) hG.ys (hG.y (by omega)) ?_
  refine V.getIP hF dX4_overlap_17 fl_X4_173 (hG.rp hp) rfl hG (mem_rp hp) ?_
  refine V.topi (y := nI (cN C (10 + p) 4)) (hC.l hp) ?_
  refine V.istore_n hF dX4_overlap_20 (by decide) ?_
  refine V.iload_n hF dX4_overlap_21 rfl ?_
  refine V.if_ne (tgt := 35) hF dX4_overlap_22 (by decide) (fun h22 => ?_) (fun h22 => ?_)
  · have hl150 := hC.l150 hp
    have hl0 : ¬ C (10 + p) 4 = 0 := by rw [hC.l hp]; exact h22
    have hlp : 0 < cN C (10 + p) 4 := Nat.pos_of_ne_zero (fun q => h22 (by rw [q]; rfl))
    refine V.aload_n hF dX4_overlap_35 rfl ?_
    refine V.getR hF dX4_overlap_36 fl_X4_19 hO.1.1 hO.1.2 rfl hO.2 ?_
    refine V.getRP (i := 3) hF dX4_overlap_39 fl_X4_169 hG.g rfl hG.r3 ?_
    refine V.iload_n hF dX4_overlap_42 rfl ?_
    refine V.aaload (j := p) hF dX4_overlap_43 hG.ym hG.yk rfl (hG.yl (by omega)) hG.ys (hG.y (by omega)) ?_
    refine V.aload_n hF dX4_overlap_44 rfl ?_
    refine V.getR hF dX4_overlap_45 fl_X4_19 hO.1.1 hO.1.2 rfl hO.2 ?_
    refine V.getRP (i := 3) hF dX4_overlap_48 fl_X4_169 hG.g rfl hG.r3 ?_
    refine V.iload_n hF dX4_overlap_51 rfl ?_
    refine V.aaload (j := q) hF dX4_overlap_52 hG.ym hG.yk rfl (hG.yl (by omega)) hG.ys (hG.y (by omega)) ?_
    refine V.vI hF dX4_overlap_53 (ct_X2_countShared hst _ _ _ _ hG _ hC p hp q hq) lk_X4_220 sl_X2_countShared (hG.rp hp).1 (hG.rp hp).2 rfl (Nat.le_of_ble_eq_true rfl) (fit_of rfl) (Nat.le_of_ble_eq_true rfl) rfl ?_
    refine V.istore hF dX4_overlap_56 (by decide) ?_
    refine V.iload hF dX4_overlap_58 rfl ?_
    refine V.i2d hF dX4_overlap_60 ?_
    refine V.iload_n hF dX4_overlap_61 rfl ?_
    refine V.i2d hF dX4_overlap_62 ?_
    refine V.ddiv hF dX4_overlap_63 (ov_nn _ (by have := zcB_le (yshF C p q) (cN C (10 + p) 4); omega) _ (by omega) hlp) ?_
    refine V.dret hF dX4_overlap_64 (Nat.le_of_ble_eq_true rfl) (Nat.le_of_ble_eq_true rfl) ?_
    exact ⟨by rw [hg1, hg2, cp, if_neg hl0]; rfl, pR.ed (by rw [cp, cq]) rfl rfl⟩
  · have hl0 : C (10 + p) 4 = 0 := by rw [hC.l hp]; exact h22
    exact V.throwS hF xw_ARI 9 rfl dX4_overlap_25 dX4_overlap_28 dX4_overlap_29 dX4_overlap_31 dX4_overlap_34 hout (Nat.le_of_ble_eq_true rfl) (Nat.le_of_ble_eq_true rfl) (Nat.le_of_ble_eq_true rfl) (Nat.le_of_ble_eq_true rfl) (Nat.le_of_ble_eq_true rfl) (Nat.le_of_ble_eq_true rfl) ⟨⟨1, rfl, by rw [hg1, hg2, cp, hl0]; rfl⟩, rfl, rfl, rfl⟩
set_option maxRecDepth 20000 in
theorem ct_X4_known (hst : l.stackTraces = false) (σ : SH) (I X : IX) (o : Nat) (ad : Nat → Nat) (hO : FS σ o ad) (hG : GS σ ad) (C : IX) (hC : WC C)  (x y z : Int32) : Ct l D cy sa sv yX4_known cX4_known 4 (some .int) 7 4 24 [.ref o, .int x, .int y, .int z] σ (put idI I ad C) (put idX X ad C) (pT (if zPr x && zPr y && zPr z then (if yisM C x then nI 0 else nI 2) else nI 1) (pR (some (.int (yhrd C x.toNatClampNeg y.toNatClampNeg z.toNatClampNeg))) σ (put idI I ad C) (put idX X ad C))) (xT (if zPr x && zPr y && zPr z then (if yisM C x then nI 0 else nI 2) else nI 1) [eIOB, eISE] σ (put idI I ad C) (put idX X ad C)) := by
  refine Ct.of (by decide) hst (Nat.le_of_ble_eq_true rfl) ?_
  intro pp ee ss mm args below meth kc A hF hnm hout
  refine V.iload_n hF dX4_known_0 rfl ?_
  refine V.sG hF dX4_known_1 (ct_X4_requireProcess hst _ _ _ _) lk_X4_69 (fit_of rfl) (Nat.le_of_ble_eq_true rfl) hout (Nat.le_of_ble_eq_true rfl) (Nat.le_of_ble_eq_true rfl) rfl (fun hg1 => ⟨⟨0, rfl, by simp [hg1]⟩, rfl, rfl, rfl⟩) (fun hg1 => ?_)
  obtain ⟨p, hp, ep⟩ := zPr_of hg1
  subst ep
  have cp : (nI p).toNatClampNeg = p := nI_clamp (by omega)
  refine V.iload_n hF dX4_known_4 rfl ?_
  refine V.sG hF dX4_known_5 (ct_X4_requireProcess hst _ _ _ _) lk_X4_69 (fit_of rfl) (Nat.le_of_ble_eq_true rfl) hout (Nat.le_of_ble_eq_true rfl) (Nat.le_of_ble_eq_true rfl) rfl (fun hg2 => ⟨⟨0, rfl, by simp [hg1, hg2]⟩, rfl, rfl, rfl⟩) (fun hg2 => ?_)
  obtain ⟨q, hq, eq⟩ := zPr_of hg2
  subst eq
  have cq : (nI q).toNatClampNeg = q := nI_clamp (by omega)
  refine V.iload_n hF dX4_known_8 rfl ?_
  refine V.sG hF dX4_known_9 (ct_X4_requireProcess hst _ _ _ _) lk_X4_69 (fit_of rfl) (Nat.le_of_ble_eq_true rfl) hout (Nat.le_of_ble_eq_true rfl) (Nat.le_of_ble_eq_true rfl) rfl (fun hg3 => ⟨⟨0, rfl, by simp [hg1, hg2, hg3]⟩, rfl, rfl, rfl⟩) (fun hg3 => ?_)
  obtain ⟨r, hr, er⟩ := zPr_of hg3
  subst er
  have cr : (nI r).toNatClampNeg = r := nI_clamp (by omega)
  refine V.aload_n hF dX4_known_12 rfl ?_
  refine V.iload_n hF dX4_known_13 rfl ?_
  refine V.vG hF dX4_known_14 (ct_X4_requireMember hst _ _ _ _ _ hO hG _ hC _) lk_X4_122 sl_X4_requireMember hO.1.1 hO.1.2 rfl (Nat.le_of_ble_eq_true rfl) (fit_of rfl) (Nat.le_of_ble_eq_true rfl) hout (Nat.le_of_ble_eq_true rfl) (Nat.le_of_ble_eq_true rfl) rfl (fun hg4 => ⟨⟨1, rfl, by simp [hg1, hg2, hg3, hg4]⟩, rfl, rfl, rfl⟩) (fun hg4 => ?_)
  refine V.aload_n hF dX4_known_17 rfl ?_
  refine V.getR hF dX4_known_18 fl_X4_19 hO.1.1 hO.1.2 rfl hO.2 ?_
  refine V.getRP (i := 3) hF dX4_known_21 fl_X4_169 hG.g rfl hG.r3 ?_
  refine V.iload_n hF dX4_known_24 rfl ?_
  refine V.aaload (j := p) hF dX4_known_25 hG.ym hG.yk rfl (hG.yl (by omega)) hG.ys (hG.y (by omega)) ?_
  refine V.iload_n hF dX4_known_26 rfl ?_
  refine V.iload_n hF dX4_known_27 rfl ?_
  refine V.vI hF dX4_known_28 (ct_X2_heard hst _ _ _ _ hG _ p hp q r (by omega) (by omega)) lk_X4_223 sl_X2_heard (hG.rp hp).1 (hG.rp hp).2 rfl (Nat.le_of_ble_eq_true rfl) (fit_of rfl) (Nat.le_of_ble_eq_true rfl) rfl ?_
  refine V.iret hF dX4_known_31 (Nat.le_of_ble_eq_true rfl) (Nat.le_of_ble_eq_true rfl) ?_
  exact ⟨by rw [hg1, hg2, hg3, hg4]; rfl, pR.i (by rw [cp, cq, cr])⟩
set_option maxRecDepth 20000 in
theorem ct_X4_isStable (hst : l.stackTraces = false) (σ : SH) (I X : IX) (o : Nat) (ad : Nat → Nat) (hO : FS σ o ad) (hG : GS σ ad) (C : IX) (hC : WC C)  (x y : Int32) : Ct l D cy sa sv yX4_isStable cX4_isStable 3 (some .boolean) 7 4 24 [.ref o, .int x, .int y] σ (put idI I ad C) (put idX X ad C) (pT (if zPr x && yhas C y then (if yisM C x then (if ylog C x.toNatClampNeg y.toNatClampNeg then nI 0 else nI 3) else nI 2) else nI 1) (pR (some (.int (bI (yset C x.toNatClampNeg y.toNatClampNeg)))) σ (put idI I ad C) (put idX X ad C))) (xT (if zPr x && yhas C y then (if yisM C x then (if ylog C x.toNatClampNeg y.toNatClampNeg then nI 0 else nI 3) else nI 2) else nI 1) [eIOB, eISE, eNSE] σ (put idI I ad C) (put idX X ad C)) := by
  refine Ct.of (by decide) hst (Nat.le_of_ble_eq_true rfl) ?_
  intro pp ee ss mm args below meth kc A hF hnm hout
  refine V.iload_n hF dX4_isStable_0 rfl ?_
  refine V.sG hF dX4_isStable_1 (ct_X4_requireProcess hst _ _ _ _) lk_X4_69 (fit_of rfl) (Nat.le_of_ble_eq_true rfl) hout (Nat.le_of_ble_eq_true rfl) (Nat.le_of_ble_eq_true rfl) rfl (fun hg1 => ⟨⟨0, rfl, by simp [hg1]⟩, rfl, rfl, rfl⟩) (fun hg1 => ?_)
  obtain ⟨p, hp, ep⟩ := zPr_of hg1
  subst ep
  have cp : (nI p).toNatClampNeg = p := nI_clamp (by omega)
  refine V.aload_n hF dX4_isStable_4 rfl ?_
  refine V.iload_n hF dX4_isStable_5 rfl ?_
  refine V.vG hF dX4_isStable_6 (ct_X4_requireMessage hst _ _ _ _ _ hO hG _ _) lk_X4_112 sl_X4_requireMessage hO.1.1 hO.1.2 rfl (Nat.le_of_ble_eq_true rfl) (fit_of rfl) (Nat.le_of_ble_eq_true rfl) hout (Nat.le_of_ble_eq_true rfl) (Nat.le_of_ble_eq_true rfl) rfl (fun hg2 => ⟨⟨0, rfl, by simp [hg1, hg2]⟩, rfl, rfl, rfl⟩) (fun hg2 => ?_)
  obtain ⟨m, hm, km, em⟩ := yhas_of hC hg2
  subst em
  have cm : (nI m).toNatClampNeg = m := nI_clamp (by omega)
  refine V.aload_n hF dX4_isStable_9 rfl ?_
  refine V.iload_n hF dX4_isStable_10 rfl ?_
  refine V.vG hF dX4_isStable_11 (ct_X4_requireMember hst _ _ _ _ _ hO hG _ hC _) lk_X4_122 sl_X4_requireMember hO.1.1 hO.1.2 rfl (Nat.le_of_ble_eq_true rfl) (fit_of rfl) (Nat.le_of_ble_eq_true rfl) hout (Nat.le_of_ble_eq_true rfl) (Nat.le_of_ble_eq_true rfl) rfl (fun hg3 => ⟨⟨1, rfl, by simp [hg1, hg2, hg3]⟩, rfl, rfl, rfl⟩) (fun hg3 => ?_)
  refine V.aload_n hF dX4_isStable_14 rfl ?_
  refine V.iload_n hF dX4_isStable_15 rfl ?_
  refine V.iload_n hF dX4_isStable_16 rfl ?_
  refine V.vG hF dX4_isStable_17 (ct_X4_requireLogged hst _ _ _ _ _ hO hG _ p (by omega) m (by omega)) lk_X4_186 sl_X4_requireLogged hO.1.1 hO.1.2 rfl (Nat.le_of_ble_eq_true rfl) (fit_of rfl) (Nat.le_of_ble_eq_true rfl) hout (Nat.le_of_ble_eq_true rfl) (Nat.le_of_ble_eq_true rfl) rfl (fun hg4 => ⟨⟨2, rfl, by rw [cp, cm, hg1, hg2, hg3, hg4]; rfl⟩, rfl, rfl, rfl⟩) (fun hg4 => ?_)
  refine V.aload_n hF dX4_isStable_20 rfl ?_
  refine V.getR hF dX4_isStable_21 fl_X4_19 hO.1.1 hO.1.2 rfl hO.2 ?_
  refine V.iload_n hF dX4_isStable_24 rfl ?_
  refine V.iload_n hF dX4_isStable_25 rfl ?_
  refine V.vI hF dX4_isStable_26 (ct_X0_isSettled hst _ _ _ _ hG _ hC p (by omega) m (by omega)) lk_X4_226 sl_X0_isSettled hG.g.1 hG.g.2 rfl (Nat.le_of_ble_eq_true rfl) (fit_of rfl) (Nat.le_of_ble_eq_true rfl) rfl ?_
  refine V.zret hF dX4_isStable_29 (bI_01 _) (Nat.le_of_ble_eq_true rfl) (Nat.le_of_ble_eq_true rfl) ?_
  exact ⟨by simp [hg1, hg2, hg3, hg4, cp, cm], pR.i (by rw [cp, cm])⟩
set_option maxRecDepth 20000 in
theorem ct_X4_unstable (hst : l.stackTraces = false) (σ : SH) (I X : IX) (o : Nat) (ad : Nat → Nat) (hO : FS σ o ad) (hG : GS σ ad) (C : IX) (hC : WC C)  (x : Int32) : Ct l D cy sa sv yX4_unstable cX4_unstable 2 (some .int) 7 2 12 [.ref o, .int x] σ (put idI I ad C) (put idX X ad C) (pT (if zPr x then (if yisM C x then nI 0 else nI 2) else nI 1) (pR (some (.int (nI (yfr (yun C x.toNatClampNeg) C)))) σ (put idI I ad C) (put idX X ad C))) (xT (if zPr x then (if yisM C x then nI 0 else nI 2) else nI 1) [eIOB, eISE] σ (put idI I ad C) (put idX X ad C)) := by
  refine Ct.of (by decide) hst (Nat.le_of_ble_eq_true rfl) ?_
  intro pp ee ss mm args below meth kc A hF hnm hout
  refine V.iload_n hF dX4_unstable_0 rfl ?_
  refine V.sG hF dX4_unstable_1 (ct_X4_requireProcess hst _ _ _ _) lk_X4_69 (fit_of rfl) (Nat.le_of_ble_eq_true rfl) hout (Nat.le_of_ble_eq_true rfl) (Nat.le_of_ble_eq_true rfl) rfl (fun hg1 => ⟨⟨0, rfl, by simp [hg1]⟩, rfl, rfl, rfl⟩) (fun hg1 => ?_)
  obtain ⟨p, hp, ep⟩ := zPr_of hg1
  subst ep
  have cp : (nI p).toNatClampNeg = p := nI_clamp (by omega)
  refine V.aload_n hF dX4_unstable_4 rfl ?_
  refine V.iload_n hF dX4_unstable_5 rfl ?_
  refine V.vG hF dX4_unstable_6 (ct_X4_requireMember hst _ _ _ _ _ hO hG _ hC _) lk_X4_122 sl_X4_requireMember hO.1.1 hO.1.2 rfl (Nat.le_of_ble_eq_true rfl) (fit_of rfl) (Nat.le_of_ble_eq_true rfl) hout (Nat.le_of_ble_eq_true rfl) (Nat.le_of_ble_eq_true rfl) rfl (fun hg2 => ⟨⟨1, rfl, by simp [hg1, hg2]⟩, rfl, rfl, rfl⟩) (fun hg2 => ?_)
  refine V.aload_n hF dX4_unstable_9 rfl ?_
  refine V.getR hF dX4_unstable_10 fl_X4_19 hO.1.1 hO.1.2 rfl hO.2 ?_
  refine V.iload_n hF dX4_unstable_13 rfl ?_
  refine V.vI hF dX4_unstable_14 (ct_X0_countUnsettled hst _ _ _ _ hG _ hC p (by omega)) lk_X4_229 sl_X0_countUnsettled hG.g.1 hG.g.2 rfl (Nat.le_of_ble_eq_true rfl) (fit_of rfl) (Nat.le_of_ble_eq_true rfl) rfl ?_
  refine V.iret hF dX4_unstable_17 (Nat.le_of_ble_eq_true rfl) (Nat.le_of_ble_eq_true rfl) ?_
  exact ⟨by rw [hg1, hg2]; rfl, pR.i (by rw [cp])⟩
set_option maxRecDepth 20000 in
theorem ct_X4_isEverywhere (hst : l.stackTraces = false) (σ : SH) (I X : IX) (o : Nat) (ad : Nat → Nat) (hO : FS σ o ad) (hG : GS σ ad) (C : IX) (hC : WC C)  (x : Int32) : Ct l D cy sa sv yX4_isEverywhere cX4_isEverywhere 2 (some .boolean) 7 1 6 [.ref o, .int x] σ (put idI I ad C) (put idX X ad C) (pT (if yhas C x then nI 0 else nI 1) (pR (some (.int (bI (ywa C x.toNatClampNeg)))) σ (put idI I ad C) (put idX X ad C))) (xT (if yhas C x then nI 0 else nI 1) [eIOB] σ (put idI I ad C) (put idX X ad C)) := by
  refine Ct.of (by decide) hst (Nat.le_of_ble_eq_true rfl) ?_
  intro pp ee ss mm args below meth kc A hF hnm hout
  refine V.aload_n hF dX4_isEverywhere_0 rfl ?_
  refine V.iload_n hF dX4_isEverywhere_1 rfl ?_
  refine V.vG hF dX4_isEverywhere_2 (ct_X4_requireMessage hst _ _ _ _ _ hO hG _ _) lk_X4_112 sl_X4_requireMessage hO.1.1 hO.1.2 rfl (Nat.le_of_ble_eq_true rfl) (fit_of rfl) (Nat.le_of_ble_eq_true rfl) hout (Nat.le_of_ble_eq_true rfl) (Nat.le_of_ble_eq_true rfl) rfl (fun hg1 => ⟨⟨0, rfl, by simp [hg1]⟩, rfl, rfl, rfl⟩) (fun hg1 => ?_)
  obtain ⟨m, hm, km, em⟩ := yhas_of hC hg1
  subst em
  have cm : (nI m).toNatClampNeg = m := nI_clamp (by omega)
  refine V.aload_n hF dX4_isEverywhere_5 rfl ?_
  refine V.getR hF dX4_isEverywhere_6 fl_X4_19 hO.1.1 hO.1.2 rfl hO.2 ?_
  refine V.iload_n hF dX4_isEverywhere_9 rfl ?_
  refine V.vI hF dX4_isEverywhere_10 (ct_X0_isWithAll hst _ _ _ _ hG _ hC m (by omega)) lk_X4_232 sl_X0_isWithAll hG.g.1 hG.g.2 rfl (Nat.le_of_ble_eq_true rfl) (fit_of rfl) (Nat.le_of_ble_eq_true rfl) rfl ?_
  refine V.zret hF dX4_isEverywhere_13 (bI_01 _) (Nat.le_of_ble_eq_true rfl) (Nat.le_of_ble_eq_true rfl) ?_
  exact ⟨by rw [hg1]; rfl, pR.i (by rw [cm])⟩
set_option maxRecDepth 20000 in
theorem ct_X4_firstUnaware (hst : l.stackTraces = false) (σ : SH) (I X : IX) (o : Nat) (ad : Nat → Nat) (hO : FS σ o ad) (hG : GS σ ad) (C : IX) (hC : WC C)  (x : Int32) : Ct l D cy sa sv yX4_firstUnaware cX4_firstUnaware 3 (some .int) 7 2 12 [.ref o, .int x] σ (put idI I ad C) (put idX X ad C) (pT (if yhas C x then (if yfn C x.toNatClampNeg = -1 then nI 2 else nI 0) else nI 1) (pR (some (.int (yfn C x.toNatClampNeg))) σ (put idI I ad C) (put idX X ad C))) (xT (if yhas C x then (if yfn C x.toNatClampNeg = -1 then nI 2 else nI 0) else nI 1) [eIOB, eNSE] σ (put idI I ad C) (put idX X ad C)) := by
  refine Ct.of (by decide) hst (Nat.le_of_ble_eq_true rfl) ?_
  intro pp ee ss mm args below meth kc A hF hnm hout
  refine V.aload_n hF dX4_firstUnaware_0 rfl ?_
  refine V.iload_n hF dX4_firstUnaware_1 rfl ?_
  refine V.vG hF dX4_firstUnaware_2 (ct_X4_requireMessage hst _ _ _ _ _ hO hG _ _) lk_X4_112 sl_X4_requireMessage hO.1.1 hO.1.2 rfl (Nat.le_of_ble_eq_true rfl) (fit_of rfl) (Nat.le_of_ble_eq_true rfl) hout (Nat.le_of_ble_eq_true rfl) (Nat.le_of_ble_eq_true rfl) rfl (fun hg1 => ⟨⟨0, rfl, by simp [hg1]⟩, rfl, rfl, rfl⟩) (fun hg1 => ?_)
  obtain ⟨m, hm, km, em⟩ := yhas_of hC hg1
  subst em
  have cm : (nI m).toNatClampNeg = m := nI_clamp (by omega)
  refine V.aload_n hF dX4_firstUnaware_5 rfl ?_
  refine V.getR hF dX4_firstUnaware_6 fl_X4_19 hO.1.1 hO.1.2 rfl hO.2 ?_
  refine V.iload_n hF dX4_firstUnaware_9 rfl ?_
  refine V.vI hF dX4_firstUnaware_10 (ct_X0_findUnaware hst _ _ _ _ hG _ hC m (by omega)) lk_X4_235 sl_X0_findUnaware hG.g.1 hG.g.2 rfl (Nat.le_of_ble_eq_true rfl) (fit_of rfl) (Nat.le_of_ble_eq_true rfl) rfl ?_
  refine V.istore_n hF dX4_firstUnaware_13 (by decide) ?_
  refine V.iload_n hF dX4_firstUnaware_14 rfl ?_
  refine V.iconst (v := -1) hF dX4_firstUnaware_15 (by decide) ?_
  refine V.icmp_ne (tgt := 29) hF dX4_firstUnaware_16 (by decide) (fun h16 => ?_) (fun h16 => ?_)
  · refine V.iload_n hF dX4_firstUnaware_29 rfl ?_
    refine V.iret hF dX4_firstUnaware_30 (Nat.le_of_ble_eq_true rfl) (Nat.le_of_ble_eq_true rfl) ?_
    exact ⟨by rw [hg1, cm, if_pos rfl, if_neg h16], pR.i (by rw [cm])⟩
  · exact V.throwN hF 10 rfl dX4_firstUnaware_19 dX4_firstUnaware_22 (Or.inl ⟨dX4_firstUnaware_23, rfl⟩) dX4_firstUnaware_25 dX4_firstUnaware_28 hout (Nat.le_of_ble_eq_true rfl) (Nat.le_of_ble_eq_true rfl) (Nat.le_of_ble_eq_true rfl) (Nat.le_of_ble_eq_true rfl) (Nat.le_of_ble_eq_true rfl) (Nat.le_of_ble_eq_true rfl) ⟨⟨1, rfl, by rw [hg1, cm, h16]; rfl⟩, rfl, rfl, rfl⟩
set_option maxRecDepth 20000 in
theorem ct_X4_message_0 (hst : l.stackTraces = false) (σ : SH) (I X : IX) (o : Nat) (ad : Nat → Nat) (hO : FS σ o ad) (hG : GS σ ad) (C : IX) (hC : WC C)  (x : Int32) : Ct l D cy sa sv yX4_message cX4_message 3 (some .int) 7 2 12 [.ref o, .int x, .int (nI 0)] σ (put idI I ad C) (put idX X ad C) (pT (if yhas C x then nI 0 else nI 1) (pR (some (.int (C 4 x.toNatClampNeg))) σ (put idI I ad C) (put idX X ad C))) (xT (if yhas C x then nI 0 else nI 1) [eIOB, eIAE] σ (put idI I ad C) (put idX X ad C)) := by
  refine Ct.of (by decide) hst (Nat.le_of_ble_eq_true rfl) ?_
  intro pp ee ss mm args below meth kc A hF hnm hout
  refine V.aload_n hF dX4_message_0 rfl ?_
  refine V.iload_n hF dX4_message_1 rfl ?_
  refine V.vG hF dX4_message_2 (ct_X4_requireMessage hst _ _ _ _ _ hO hG _ _) lk_X4_112 sl_X4_requireMessage hO.1.1 hO.1.2 rfl (Nat.le_of_ble_eq_true rfl) (fit_of rfl) (Nat.le_of_ble_eq_true rfl) hout (Nat.le_of_ble_eq_true rfl) (Nat.le_of_ble_eq_true rfl) rfl (fun hg1 => ⟨⟨0, rfl, by simp [hg1]⟩, rfl, rfl, rfl⟩) (fun hg1 => ?_)
  obtain ⟨m, hm, km, em⟩ := yhas_of hC hg1
  subst em
  have cm : (nI m).toNatClampNeg = m := nI_clamp (by omega)
  refine V.iload_n hF dX4_message_5 rfl ?_
  refine V.tableIn (tgt := 36) hF dX4_message_6 (by decide) (by decide) rfl (by decide) ?_
  refine V.aload_n hF dX4_message_36 rfl ?_
  refine V.getR hF dX4_message_37 fl_X4_19 hO.1.1 hO.1.2 rfl hO.2 ?_
  refine V.getRP (i := 2) hF dX4_message_40 fl_X4_40 hG.g rfl hG.r2 ?_
  refine V.getRP (i := 4) hF dX4_message_43 fl_X4_137 hG.m rfl (hG.mr 0 (by decide)) ?_
  refine V.iload_n hF dX4_message_46 rfl ?_
  refine V.ialoadP (j := m) hF dX4_message_47 hG.a4 rfl (by omega) (by decide) hG (by decide) ?_
  refine V.iret hF dX4_message_48 (Nat.le_of_ble_eq_true rfl) (Nat.le_of_ble_eq_true rfl) ?_
  exact ⟨by rw [hg1]; rfl, pR.i (by rw [cm])⟩
set_option maxRecDepth 20000 in
theorem ct_X4_message_1 (hst : l.stackTraces = false) (σ : SH) (I X : IX) (o : Nat) (ad : Nat → Nat) (hO : FS σ o ad) (hG : GS σ ad) (C : IX) (hC : WC C)  (x : Int32) : Ct l D cy sa sv yX4_message cX4_message 3 (some .int) 7 2 12 [.ref o, .int x, .int (nI 1)] σ (put idI I ad C) (put idX X ad C) (pT (if yhas C x then nI 0 else nI 1) (pR (some (.int (C 5 x.toNatClampNeg))) σ (put idI I ad C) (put idX X ad C))) (xT (if yhas C x then nI 0 else nI 1) [eIOB, eIAE] σ (put idI I ad C) (put idX X ad C)) := by
  refine Ct.of (by decide) hst (Nat.le_of_ble_eq_true rfl) ?_
  intro pp ee ss mm args below meth kc A hF hnm hout
  refine V.aload_n hF dX4_message_0 rfl ?_
  refine V.iload_n hF dX4_message_1 rfl ?_
  refine V.vG hF dX4_message_2 (ct_X4_requireMessage hst _ _ _ _ _ hO hG _ _) lk_X4_112 sl_X4_requireMessage hO.1.1 hO.1.2 rfl (Nat.le_of_ble_eq_true rfl) (fit_of rfl) (Nat.le_of_ble_eq_true rfl) hout (Nat.le_of_ble_eq_true rfl) (Nat.le_of_ble_eq_true rfl) rfl (fun hg1 => ⟨⟨0, rfl, by simp [hg1]⟩, rfl, rfl, rfl⟩) (fun hg1 => ?_)
  obtain ⟨m, hm, km, em⟩ := yhas_of hC hg1
  subst em
  have cm : (nI m).toNatClampNeg = m := nI_clamp (by omega)
  refine V.iload_n hF dX4_message_5 rfl ?_
  refine V.tableIn (tgt := 49) hF dX4_message_6 (by decide) (by decide) rfl (by decide) ?_
  refine V.aload_n hF dX4_message_49 rfl ?_
  refine V.getR hF dX4_message_50 fl_X4_19 hO.1.1 hO.1.2 rfl hO.2 ?_
  refine V.getRP (i := 2) hF dX4_message_53 fl_X4_40 hG.g rfl hG.r2 ?_
  refine V.getRP (i := 5) hF dX4_message_56 fl_X4_140 hG.m rfl (hG.mr 1 (by decide)) ?_
  refine V.iload_n hF dX4_message_59 rfl ?_
  refine V.ialoadP (j := m) hF dX4_message_60 hG.a5 rfl (by omega) (by decide) hG (by decide) ?_
  refine V.iret hF dX4_message_61 (Nat.le_of_ble_eq_true rfl) (Nat.le_of_ble_eq_true rfl) ?_
  exact ⟨by rw [hg1]; rfl, pR.i (by rw [cm])⟩
set_option maxRecDepth 20000 in
theorem ct_X4_message_2 (hst : l.stackTraces = false) (σ : SH) (I X : IX) (o : Nat) (ad : Nat → Nat) (hO : FS σ o ad) (hG : GS σ ad) (C : IX) (hC : WC C)  (x : Int32) : Ct l D cy sa sv yX4_message cX4_message 3 (some .int) 7 2 12 [.ref o, .int x, .int (nI 2)] σ (put idI I ad C) (put idX X ad C) (pT (if yhas C x then nI 0 else nI 1) (pR (some (.int (C 6 x.toNatClampNeg))) σ (put idI I ad C) (put idX X ad C))) (xT (if yhas C x then nI 0 else nI 1) [eIOB, eIAE] σ (put idI I ad C) (put idX X ad C)) := by
  refine Ct.of (by decide) hst (Nat.le_of_ble_eq_true rfl) ?_
  intro pp ee ss mm args below meth kc A hF hnm hout
  refine V.aload_n hF dX4_message_0 rfl ?_
  refine V.iload_n hF dX4_message_1 rfl ?_
  refine V.vG hF dX4_message_2 (ct_X4_requireMessage hst _ _ _ _ _ hO hG _ _) lk_X4_112 sl_X4_requireMessage hO.1.1 hO.1.2 rfl (Nat.le_of_ble_eq_true rfl) (fit_of rfl) (Nat.le_of_ble_eq_true rfl) hout (Nat.le_of_ble_eq_true rfl) (Nat.le_of_ble_eq_true rfl) rfl (fun hg1 => ⟨⟨0, rfl, by simp [hg1]⟩, rfl, rfl, rfl⟩) (fun hg1 => ?_)
  obtain ⟨m, hm, km, em⟩ := yhas_of hC hg1
  subst em
  have cm : (nI m).toNatClampNeg = m := nI_clamp (by omega)
  refine V.iload_n hF dX4_message_5 rfl ?_
  refine V.tableIn (tgt := 62) hF dX4_message_6 (by decide) (by decide) rfl (by decide) ?_
  refine V.aload_n hF dX4_message_62 rfl ?_
  refine V.getR hF dX4_message_63 fl_X4_19 hO.1.1 hO.1.2 rfl hO.2 ?_
  refine V.getRP (i := 2) hF dX4_message_66 fl_X4_40 hG.g rfl hG.r2 ?_
  refine V.getRP (i := 6) hF dX4_message_69 fl_X4_143 hG.m rfl (hG.mr 2 (by decide)) ?_
  refine V.iload_n hF dX4_message_72 rfl ?_
  refine V.ialoadP (j := m) hF dX4_message_73 hG.a6 rfl (by omega) (by decide) hG (by decide) ?_
  refine V.iret hF dX4_message_74 (Nat.le_of_ble_eq_true rfl) (Nat.le_of_ble_eq_true rfl) ?_
  exact ⟨by rw [hg1]; rfl, pR.i (by rw [cm])⟩
set_option maxRecDepth 20000 in
theorem ct_X4_message_3 (hst : l.stackTraces = false) (σ : SH) (I X : IX) (o : Nat) (ad : Nat → Nat) (hO : FS σ o ad) (hG : GS σ ad) (C : IX) (hC : WC C)  (x : Int32) : Ct l D cy sa sv yX4_message cX4_message 3 (some .int) 7 2 12 [.ref o, .int x, .int (nI 3)] σ (put idI I ad C) (put idX X ad C) (pT (if yhas C x then nI 0 else nI 1) (pR (some (.int (C 7 x.toNatClampNeg))) σ (put idI I ad C) (put idX X ad C))) (xT (if yhas C x then nI 0 else nI 1) [eIOB, eIAE] σ (put idI I ad C) (put idX X ad C)) := by
  refine Ct.of (by decide) hst (Nat.le_of_ble_eq_true rfl) ?_
  intro pp ee ss mm args below meth kc A hF hnm hout
  refine V.aload_n hF dX4_message_0 rfl ?_
  refine V.iload_n hF dX4_message_1 rfl ?_
  refine V.vG hF dX4_message_2 (ct_X4_requireMessage hst _ _ _ _ _ hO hG _ _) lk_X4_112 sl_X4_requireMessage hO.1.1 hO.1.2 rfl (Nat.le_of_ble_eq_true rfl) (fit_of rfl) (Nat.le_of_ble_eq_true rfl) hout (Nat.le_of_ble_eq_true rfl) (Nat.le_of_ble_eq_true rfl) rfl (fun hg1 => ⟨⟨0, rfl, by simp [hg1]⟩, rfl, rfl, rfl⟩) (fun hg1 => ?_)
  obtain ⟨m, hm, km, em⟩ := yhas_of hC hg1
  subst em
  have cm : (nI m).toNatClampNeg = m := nI_clamp (by omega)
  refine V.iload_n hF dX4_message_5 rfl ?_
  refine V.tableIn (tgt := 75) hF dX4_message_6 (by decide) (by decide) rfl (by decide) ?_
  refine V.aload_n hF dX4_message_75 rfl ?_
  refine V.getR hF dX4_message_76 fl_X4_19 hO.1.1 hO.1.2 rfl hO.2 ?_
  refine V.getRP (i := 2) hF dX4_message_79 fl_X4_40 hG.g rfl hG.r2 ?_
  refine V.getRP (i := 7) hF dX4_message_82 fl_X4_146 hG.m rfl (hG.mr 3 (by decide)) ?_
  refine V.iload_n hF dX4_message_85 rfl ?_
  refine V.ialoadP (j := m) hF dX4_message_86 hG.a7 rfl (by omega) (by decide) hG (by decide) ?_
  refine V.iret hF dX4_message_87 (Nat.le_of_ble_eq_true rfl) (Nat.le_of_ble_eq_true rfl) ?_
  exact ⟨by rw [hg1]; rfl, pR.i (by rw [cm])⟩
set_option maxRecDepth 20000 in
theorem ct_X4_message_9 (hst : l.stackTraces = false) (σ : SH) (I X : IX) (o : Nat) (ad : Nat → Nat) (hO : FS σ o ad) (hG : GS σ ad) (C : IX) (hC : WC C)  (x y : Int32) (hy : zisIn y (nI 0) (nI 3) = false) : Ct l D cy sa sv yX4_message cX4_message 3 (some .int) 7 2 12 [.ref o, .int x, .int y] σ (put idI I ad C) (put idX X ad C) (pT (if yhas C x then nI 2 else nI 1) (pR (some (.int (if y = nI 0 then C 4 x.toNatClampNeg else if y = nI 1 then C 5 x.toNatClampNeg else if y = nI 2 then C 6 x.toNatClampNeg else C 7 x.toNatClampNeg))) σ (put idI I ad C) (put idX X ad C))) (xT (if yhas C x then nI 2 else nI 1) [eIOB, eIAE] σ (put idI I ad C) (put idX X ad C)) := by
  refine Ct.of (by decide) hst (Nat.le_of_ble_eq_true rfl) ?_
  intro pp ee ss mm args below meth kc A hF hnm hout
  refine V.aload_n hF dX4_message_0 rfl ?_
  refine V.iload_n hF dX4_message_1 rfl ?_
  refine V.vG hF dX4_message_2 (ct_X4_requireMessage hst _ _ _ _ _ hO hG _ _) lk_X4_112 sl_X4_requireMessage hO.1.1 hO.1.2 rfl (Nat.le_of_ble_eq_true rfl) (fit_of rfl) (Nat.le_of_ble_eq_true rfl) hout (Nat.le_of_ble_eq_true rfl) (Nat.le_of_ble_eq_true rfl) rfl (fun hg1 => ⟨⟨0, rfl, by simp [hg1]⟩, rfl, rfl, rfl⟩) (fun hg1 => ?_)
  obtain ⟨m, hm, km, em⟩ := yhas_of hC hg1
  subst em
  have cm : (nI m).toNatClampNeg = m := nI_clamp (by omega)
  refine V.iload_n hF dX4_message_5 rfl ?_
  refine V.tableOut (tgt := 88) hF dX4_message_6 (msg_out hy) (by decide) ?_
  exact V.throwS hF xw_IAE 6 rfl dX4_message_88 dX4_message_91 dX4_message_92 dX4_message_94 dX4_message_97 hout (Nat.le_of_ble_eq_true rfl) (Nat.le_of_ble_eq_true rfl) (Nat.le_of_ble_eq_true rfl) (Nat.le_of_ble_eq_true rfl) (Nat.le_of_ble_eq_true rfl) (Nat.le_of_ble_eq_true rfl) ⟨⟨1, rfl, by rw [hg1]; rfl⟩, rfl, rfl, rfl⟩
end Fc
