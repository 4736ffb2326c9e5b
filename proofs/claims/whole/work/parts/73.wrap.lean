/-! methods with handlers, and their calls -/
def NC (U : State) : Prop := va_Nc eISE eIOB U ∧ va_Nc eNSE eIOB U ∧ va_Nc eIAE eIOB U ∧ va_Nc eARI eIOB U ∧ va_Nc eNSE eISE U ∧ va_Nc eISE eIAE U
theorem NC.moved {u U : State} (h : u.vm.Alike U.vm) (g : NC u) : NC U := ⟨g.1.moved h, g.2.1.moved h, g.2.2.1.moved h, g.2.2.2.1.moved h, g.2.2.2.2.1.moved h, g.2.2.2.2.2.moved h⟩
def CtW (l : Launch) (D : va_G) (cy sa sv : Nat → Nat) (y : MethodName) (cc : ByteArray) (n : Nat) (ret : Option FieldType) (hh : List (Nat × Nat × Nat × Nat)) (d mc ms : Nat) (av : List Value) (σ : SH) (I X : IX) (post : PO) : Prop :=
  ∀ sz : Nat, vx_Met l y (Cond.codeWith y cc n ret hh :: GT) (Rm d mc ms) (fun a U => CtP D cy sa sv σ I X av sz a U ∧ NC U) (CtQ D cy (va_A (pw cy σ I X) sz) post) (CtX D cy (va_A (pw cy σ I X) sz) noX) mc ms (va_A (pw cy σ I X) sz)
theorem CtW.of {l : Launch} {D : va_G} {cy sa sv : Nat → Nat} {y : MethodName} {cc : ByteArray} {n : Nat} {ret : Option FieldType} {hh : List (Nat × Nat × Nat × Nat)} {d mc ms : Nat} {av : List Value} {σ : SH} {I X : IX} {post : PO} (hy : plainName y.cls = true) (hst : l.stackTraces = false) (hlen : (lg_sl av).length ≤ n)
    (body : ∀ (p : Program) (e : Env) (s : State) (m : MethodId) (args : Array Value) (below : List Frame) (meth : Method) (c : Code) (A : Nat → Prop), Fx p l s m args meth c D cy sa sv A n y.cls cc ret → c.exceptionTable.toList = tableOf hh → NC s →
      V p l e (Rm d mc ms) s m args below meth c D cy A (QM below args s D cy A post noX mc ms) n 0 0 σ I X 0 (lv_args 0 av) []) : CtW l D cy sa sv y cc n ret hh d mc ms av σ I X post := by
  intro sz
  refine vx_ofWH (cc := cc) (maxL := n) (ret := ret) (hh := hh) hy rfl ?_
  intro p e s m args below meth c s₁ B hml hv
  obtain ⟨⟨rfl, hsz, hP, hK, hD0, hE⟩, hnc⟩ := hv
  have hts0 := atoms_spec (ws := Cond.codeWith y cc n ret hh :: GT) B.pre
  subst hsz
  have hF : Fx p l s m av.toArray meth c D cy sa sv (va_A (pw cy σ I X) s.heap.size) n y.cls cc ret :=
    ⟨B.exec, B.bytes, hml, findClass_of_methodNamed B.named, fun w hw => hts0 w (List.mem_cons_of_mem _ hw), hK, B.notSynchronized, B.returns, hE, hst, fun q h => Or.inr h⟩
  have hb := body p e s m av.toArray below meth c _ hF (vx_table (x := y) B (hts0 _ List.mem_cons_self)) hnc
  rw [lg_entry_eq]
  exact hb s.heap [] _ hP (hD0.self (sz := s.heap.size)) va_S.rf (lv_entry av hlen)
/-- a call's link to a method with handlers -/
def LkW (own : String) (idx : Nat) (y : MethodName) (cc : ByteArray) (n : Nat) (ret : Option FieldType) (hh : List (Nat × Nat × Nat × Nat)) (np : Nat) : Prop :=
  Cond.methodLink own idx y ∈ GT ∧ Cond.static y ∈ GT ∧ Cond.initialized y.cls ∈ GT ∧ Cond.codeWith y cc n ret hh ∈ GT ∧ (y.cls ≠ "java/lang/invoke/MethodHandle" ∧ y.cls ≠ "java/lang/invoke/VarHandle" ∧ (parseMethodDescriptor y.desc).map (fun d => d.parameters.length) = some np)
section VW
variable {p : Program} {l : Launch} {e : Env} {R : Room} {s : State} {m : MethodId} {args : Array Value} {below : List Frame} {meth : Method} {c : Code} {D : va_G} {cy sa sv : Nat → Nat} {A : Nat → Prop} {Q : State → Prop} {cc : ByteArray} {nL : Nat} {own : String} {ret : Option FieldType} {cells slots : Nat} {σ : SH} {I X : IX} {pc : Nat} {lv : List (Nat × Value)} {st : List Value}
variable {y : MethodName} {cc' : ByteArray} {n' : Nat} {ret' : Option FieldType} {d' mc ms : Nat} {av : List Value} {post : PO} {hh : List (Nat × Nat × Nat × Nat)}
theorem VX.catch (hF : Fx p l s m args meth c D cy sa sv A nL own cc ret) {E name : String} (pre : List (Nat × Nat × Nat × Nat)) (x : Nat × Nat × Nat × Nat) (suf : List (Nat × Nat × Nat × Nat)) (ht : c.exceptionTable.toList = tableOf (pre ++ x :: suf)) (hpass : ∀ z ∈ pre, z.2.2.2 ≠ 0 ∧ ∃ nm : String, Cond.classLink own z.2.2.2 nm ∈ GT ∧ va_Nc E nm s)
    (hx : covers ⟨x.1, x.2.1, x.2.2.1, x.2.2.2⟩ pc = true) (h0 : x.2.2.2 ≠ 0) (hlink : Cond.classLink own x.2.2.2 name ∈ GT) (hcast : Cond.castable E name ∈ GN) (kk : ∀ q : Nat, V p l e R s m args below meth c D cy A Q nL cells slots σ I X x.2.2.1 lv [.ref q]) : VX p l e R s m args below meth c D cy A Q nL cells slots σ I X E pc lv st := fun H locs ls q ce hP hD hS hl h1 h2 h3 =>
  vx_catch hF.2.2.2.1 (tableOf pre) ⟨x.1, x.2.1, x.2.2.1, x.2.2.2⟩ (tableOf suf) (by rw [ht]; simp [tableOf]) (fun z hz => by
    obtain ⟨w, hw, rfl⟩ := List.mem_map.mp hz
    obtain ⟨a, nm, b, c⟩ := hpass w hw
    exact Or.inr ⟨a, nm, hF.2.2.2.2.1 _ b, c⟩) hx h0 (hF.2.2.2.2.1 _ hlink) (va_tabs rfl rfl (hF.2.2.2.2.2.2.2.2.1.1 _ hcast)) h1 h2 h3 (kk q H locs ls hP hD hS hl)
theorem V.callSW (hF : Fx p l s m args meth c D cy sa sv A nL own cc ret) {idx : Nat} (d : decode cc pc = .ok (.invokestatic idx, 3)) (hc : CtW l D cy sa sv y cc' n' ret' hh d' mc ms av σ I X post) (hl : LkW own idx y cc' n' ret' hh av.length) (hnc : NC s) (hR : Fit R d' n' mc ms cells slots) (hw : (st.map fun v => v.category).sum ≤ 8)
    (kk : ∀ (v : Option Value) (σ' : SH) (I' X' : IX), post v σ' I' X' → V p l e R s m args below meth c D cy A Q nL (cells + mc) (slots + ms) σ' I' X' (pc + 3) lv (v.toList ++ st)) {st0 : List Value} (hst : st0 = av.reverse ++ st) : V p l e R s m args below meth c D cy A Q nL cells slots σ I X pc lv st0 := by
  refine V.ofRun (xp := noX) hF (a := av.toArray) (fun H locs ls hP hD hS hls => ?_) (fun _ _ _ _ h => h.elim) kk
  have hpre := ct_pre (av := av) hF hP hD hS
  refine vx_runSX (fx_fix hF) (hc H.size) ⟨⟨rfl, rfl, hR.1, hR.2.1, pay_in hF.2.2.2.2.1 (GT_in hl.2.2.2.1), List.mem_cons_self⟩, hF.2.2.2.2.1 _ hl.2.2.2.1, hF.2.2.2.2.1 _ hl.2.2.1, ⟨hl.2.2.2.2.1, hl.2.2.2.2.2.1⟩, fun sig h => ?_, hF.2.2.2.2.1 _ hl.1, hF.2.2.2.2.1 _ hl.2.1⟩ ⟨fun a U g mk h => ⟨ct_blind a U g mk h.1, h.2.moved (Vm.Alike.refl U.vm)⟩, fun U hU hW => ⟨hpre U hU hW, hnc.moved hW.alike⟩⟩ rfl rfl hls.1 hst (lv_room hw) d ⟨hR.2.2.1, hR.2.2.2⟩
  have h2 := hl.2.2.2.2.2.2
  rw [h] at h2
  exact (Option.some.inj h2).symm
end VW
theorem shSetJ_eta (σ : SH) (a : Nat) : shSetJ σ a (shJ σ a) = σ := by
  unfold shSetJ
  rw [up_eta]
theorem shSetZ_eta (σ : SH) (a : Nat) : shSetZ σ a (shZ σ a) = σ := by
  unfold shSetZ
  rw [up_eta]
/-- what a wrapper leaves: the code T, the answer in out where T is 0, the group's rows beside the reference's row w -/
def WP (σ : SH) (I X : IX) (ad : Nat → Nat) (out : Nat) (T ans : Int32) (w : Rw) : PO := fun r σ' I' X' => r = some (.int T) ∧ ∃ (C' : IX) (g : Nat → Int64), RG C' w ∧ σ' = shSetJ σ out g ∧ I' = put idI I ad C' ∧ X' = put idX X ad C' ∧ (T = nI 0 → g 0 = ans.toInt64)
theorem upl0 {f : Nat → Int64} {x : Int64} : vp_updL f 0 x 0 = x := by simp [vp_updL]
theorem bI64 (b : Bool) : (if b then (1 : Int64) else 0) = (bI b).toInt64 := by cases b <;> rfl

theorem lc_13 : Cond.classLink RL 13 eIAE ∈ GT := gw 313 (by decide +kernel) (by decide +kernel)
theorem lc_18 : Cond.classLink RL 18 eIOB ∈ GT := gw 393 (by decide +kernel) (by decide +kernel)
theorem lc_26 : Cond.classLink RL 26 eISE ∈ GT := gw 448 (by decide +kernel) (by decide +kernel)
theorem lc_76 : Cond.classLink RL 76 eNSE ∈ GT := gw 774 (by decide +kernel) (by decide +kernel)
theorem lc_103 : Cond.classLink RL 103 eARI ∈ GT := gw 875 (by decide +kernel) (by decide +kernel)
theorem cc_IAE : Cond.castable eIAE eIAE ∈ GN := gn 320 (by decide +kernel) (by decide +kernel)
theorem cc_IOB : Cond.castable eIOB eIOB ∈ GN := gn 427 (by decide +kernel) (by decide +kernel)
theorem cc_ISE : Cond.castable eISE eISE ∈ GN := gn 470 (by decide +kernel) (by decide +kernel)
theorem cc_NSE : Cond.castable eNSE eNSE ∈ GN := gn 786 (by decide +kernel) (by decide +kernel)
theorem cc_ARI : Cond.castable eARI eARI ∈ GN := gn 887 (by decide +kernel) (by decide +kernel)
section Wr
variable {l : Launch} {D : va_G} {cy sa sv : Nat → Nat}

theorem zin3c {y : Int32} (h : zisIn y (nI 0) (nI 3) = true) : y = nI 0 ∨ y = nI 1 ∨ y = nI 2 ∨ y = nI 3 := by
  obtain ⟨k, hk, e⟩ := zin_of (by omega) h
  rcases (by omega : k = 0 ∨ k = 1 ∨ k = 2 ∨ k = 3) with rfl | rfl | rfl | rfl
  · exact Or.inl e
  · exact Or.inr (Or.inl e)
  · exact Or.inr (Or.inr (Or.inl e))
  · exact Or.inr (Or.inr (Or.inr e))
theorem ct_X4_message (hst : l.stackTraces = false) (σ : SH) (I X : IX) (o : Nat) (ad : Nat → Nat) (hO : FS σ o ad) (hG : GS σ ad) (C : IX) (hC : WC C) (x y : Int32) : Ct l D cy sa sv yX4_message cX4_message 3 (some .int) 7 2 12 [.ref o, .int x, .int y] σ (put idI I ad C) (put idX X ad C) (pT (if yhas C x then (if zisIn y (nI 0) (nI 3) then nI 0 else nI 2) else nI 1) (pR (some (.int (if y = nI 0 then C 4 x.toNatClampNeg else if y = nI 1 then C 5 x.toNatClampNeg else if y = nI 2 then C 6 x.toNatClampNeg else C 7 x.toNatClampNeg))) σ (put idI I ad C) (put idX X ad C))) (xT (if yhas C x then (if zisIn y (nI 0) (nI 3) then nI 0 else nI 2) else nI 1) [eIOB, eIAE] σ (put idI I ad C) (put idX X ad C)) := by
  cases hy : zisIn y (nI 0) (nI 3) with
  | true =>
    rw [if_pos rfl]
    rcases zin3c hy with rfl | rfl | rfl | rfl
    · rw [if_pos rfl]; exact ct_X4_message_0 hst σ I X o ad hO hG C hC x
    · rw [if_neg (show ¬ nI 1 = nI 0 by decide), if_pos rfl]; exact ct_X4_message_1 hst σ I X o ad hO hG C hC x
    · rw [if_neg (show ¬ nI 2 = nI 0 by decide), if_neg (show ¬ nI 2 = nI 1 by decide), if_pos rfl]; exact ct_X4_message_2 hst σ I X o ad hO hG C hC x
    · rw [if_neg (show ¬ nI 3 = nI 0 by decide), if_neg (show ¬ nI 3 = nI 1 by decide), if_neg (show ¬ nI 3 = nI 2 by decide)]; exact ct_X4_message_3 hst σ I X o ad hO hG C hC x
  | false =>
    rw [if_neg (show ¬ (false = true) by decide)]
    exact ct_X4_message_9 hst σ I X o ad hO hG C hC x y hy

theorem lw_L_reset : LkW RL 139 yL_reset cL_reset 4 (some .int) [(0, 9, 12, 13)] 3 := ⟨gw 310 (by decide +kernel) (by decide +kernel), gw 311 (by decide +kernel) (by decide +kernel), gw 52 (by decide +kernel) (by decide +kernel), gw 312 (by decide +kernel) (by decide +kernel), by decide +kernel⟩
set_option maxRecDepth 20000 in
theorem ct_L_reset (hst : l.stackTraces = false) (σ : SH) (I X : IX) (o : Nat) (ad : Nat → Nat) (hO : FS σ o ad) (hG : GS σ ad) (C : IX) (v : Rw) (hR : RG C v) (out : Nat) (hm : out ∈ shL σ) (hk : shK σ out = 13) (hn : shN σ out = 1) (x : Int32) : CtW l D cy sa sv yL_reset cL_reset 4 (some .int) [(0, 9, 12, 13)] 8 1 6 [.ref o, .int x, .ref out] σ (put idI I ad C) (put idX X ad C) (WP σ I X ad out (if zisIn x (nI 1) (nI 63) then nI 0 else nI 1) (if zisIn x (nI 1) (nI 63) then v 44 else nI 0) (if zisIn x (nI 1) (nI 63) then zreset v x else v)) := by
  have hb := br_reset hR x
  refine CtW.of (by decide) hst (Nat.le_of_ble_eq_true rfl) ?_
  intro pp ee ss mm args below meth kc A hF htb hnc
  refine V.aload_n hF dL_reset_0 rfl ?_
  refine V.iconst (v := nI 0) hF dL_reset_1 (by decide) ?_
  refine V.aload_n hF dL_reset_2 rfl ?_
  refine V.iload_n hF dL_reset_3 rfl ?_
  refine V.callV hF dL_reset_4 (ct_X4_reset hst _ _ _ _ _ hO hG _ hR.1.wc x) lk_L_7 sl_X4_reset ⟨_, _, rfl, hO.1.1, hO.1.2, (Nat.le_of_ble_eq_true rfl), _, _, rfl⟩ (fit_of rfl) (Nat.le_of_ble_eq_true rfl) (fun E s2 I2 X2 hx => ?_) (fun r s2 I2 X2 hx => ?_) rfl
  · obtain ⟨⟨j, hj, hT⟩, e1, e2, e3⟩ := hx
    rw [e1, e2, e3]
    match j, hj, hT with
    | 0, hj, hT =>
      have hE := Option.some.inj hj
      rw [← hE]
      refine VX.catch hF [] (0, 9, 12, 13) [] htb (fun z hz => absurd hz List.not_mem_nil) (by decide) (by decide) lc_13 cc_IAE (fun q => ?_)
      refine V.astore_n hF dL_reset_12 (by decide) ?_
      refine V.iconst (v := nI 1) hF dL_reset_13 (by decide) ?_
      refine V.iret hF dL_reset_14 (Nat.le_of_ble_eq_true rfl) (Nat.le_of_ble_eq_true rfl) ?_
      exact ⟨congrArg (fun t => some (Value.int t)) (hT.symm.trans hb.1), C, shJ σ out, by rw [hb.2.2 (by rw [← hb.1, hT]; decide)]; exact hR, (shSetJ_eta _ _).symm, rfl, rfl, fun q => absurd (hT.symm.trans (hb.1.trans q)) (by decide)⟩
    | j + 1, hj, hT => exact absurd hj (by simp)
  · obtain ⟨hT, e0, e1, e2, e3⟩ := hx
    rw [e0, e1, e2, e3]
    obtain ⟨ha, hR2⟩ := hb.2.1 (hb.1.symm.trans hT)
    refine V.i2l hF dL_reset_7 ?_
    refine V.lastore (j := 0) hF dL_reset_8 hm hk rfl (by rw [hn]; exact lt_of rfl) (by rw [hn]; exact lt_of rfl) ?_
    refine V.goto (tgt := 15) hF dL_reset_9 (by decide) ?_
    refine V.iconst (v := nI 0) hF dL_reset_15 (by decide) ?_
    refine V.iret hF dL_reset_16 (Nat.le_of_ble_eq_true rfl) (Nat.le_of_ble_eq_true rfl) ?_
    exact ⟨congrArg (fun t => some (Value.int t)) (hT.symm.trans hb.1), _, _, hR2, rfl, rfl, rfl, fun _ => by rw [upl0, ← ha]⟩
theorem lw_L_membersOf : LkW RL 152 yL_membersOf cL_membersOf 4 (some .int) [(0, 9, 12, 18)] 3 := ⟨gw 390 (by decide +kernel) (by decide +kernel), gw 391 (by decide +kernel) (by decide +kernel), gw 52 (by decide +kernel) (by decide +kernel), gw 392 (by decide +kernel) (by decide +kernel), by decide +kernel⟩
set_option maxRecDepth 20000 in
theorem ct_L_membersOf (hst : l.stackTraces = false) (σ : SH) (I X : IX) (o : Nat) (ad : Nat → Nat) (hO : FS σ o ad) (hG : GS σ ad) (C : IX) (v : Rw) (hR : RG C v) (out : Nat) (hm : out ∈ shL σ) (hk : shK σ out = 13) (hn : shN σ out = 1) (x : Int32) : CtW l D cy sa sv yL_membersOf cL_membersOf 4 (some .int) [(0, 9, 12, 18)] 8 1 6 [.ref o, .int x, .ref out] σ (put idI I ad C) (put idX X ad C) (WP σ I X ad out (if zisIn x (nI 0) (v 42) then nI 0 else nI 1) (if zisIn x (nI 0) (v 42) then v x.toNatClampNeg else nI 0) (v)) := by
  have hb := br_membersOf hR x
  refine CtW.of (by decide) hst (Nat.le_of_ble_eq_true rfl) ?_
  intro pp ee ss mm args below meth kc A hF htb hnc
  refine V.aload_n hF dL_membersOf_0 rfl ?_
  refine V.iconst (v := nI 0) hF dL_membersOf_1 (by decide) ?_
  refine V.aload_n hF dL_membersOf_2 rfl ?_
  refine V.iload_n hF dL_membersOf_3 rfl ?_
  refine V.callV hF dL_membersOf_4 (ct_X4_membersOf hst _ _ _ _ _ hO hG _ hR.1.wc x) lk_L_15 sl_X4_membersOf ⟨_, _, rfl, hO.1.1, hO.1.2, (Nat.le_of_ble_eq_true rfl), _, _, rfl⟩ (fit_of rfl) (Nat.le_of_ble_eq_true rfl) (fun E s2 I2 X2 hx => ?_) (fun r s2 I2 X2 hx => ?_) rfl
  · obtain ⟨⟨j, hj, hT⟩, e1, e2, e3⟩ := hx
    rw [e1, e2, e3]
    match j, hj, hT with
    | 0, hj, hT =>
      have hE := Option.some.inj hj
      rw [← hE]
      refine VX.catch hF [] (0, 9, 12, 18) [] htb (fun z hz => absurd hz List.not_mem_nil) (by decide) (by decide) lc_18 cc_IOB (fun q => ?_)
      refine V.astore_n hF dL_membersOf_12 (by decide) ?_
      refine V.iconst (v := nI 1) hF dL_membersOf_13 (by decide) ?_
      refine V.iret hF dL_membersOf_14 (Nat.le_of_ble_eq_true rfl) (Nat.le_of_ble_eq_true rfl) ?_
      exact ⟨congrArg (fun t => some (Value.int t)) (hT.symm.trans hb.1), C, shJ σ out, by rw [hb.2.2 (by rw [← hb.1, hT]; decide)]; exact hR, (shSetJ_eta _ _).symm, rfl, rfl, fun q => absurd (hT.symm.trans (hb.1.trans q)) (by decide)⟩
    | j + 1, hj, hT => exact absurd hj (by simp)
  · obtain ⟨hT, e0, e1, e2, e3⟩ := hx
    rw [e0, e1, e2, e3]
    obtain ⟨ha, hR2⟩ := hb.2.1 (hb.1.symm.trans hT)
    refine V.i2l hF dL_membersOf_7 ?_
    refine V.lastore (j := 0) hF dL_membersOf_8 hm hk rfl (by rw [hn]; exact lt_of rfl) (by rw [hn]; exact lt_of rfl) ?_
    refine V.goto (tgt := 15) hF dL_membersOf_9 (by decide) ?_
    refine V.iconst (v := nI 0) hF dL_membersOf_15 (by decide) ?_
    refine V.iret hF dL_membersOf_16 (Nat.le_of_ble_eq_true rfl) (Nat.le_of_ble_eq_true rfl) ?_
    exact ⟨congrArg (fun t => some (Value.int t)) (hT.symm.trans hb.1), _, _, hR2, rfl, rfl, rfl, fun _ => by rw [upl0, ← ha]⟩
theorem lw_L_forcedIn : LkW RL 155 yL_forcedIn cL_forcedIn 4 (some .int) [(0, 9, 12, 18)] 3 := ⟨gw 438 (by decide +kernel) (by decide +kernel), gw 439 (by decide +kernel) (by decide +kernel), gw 52 (by decide +kernel) (by decide +kernel), gw 440 (by decide +kernel) (by decide +kernel), by decide +kernel⟩
set_option maxRecDepth 20000 in
theorem ct_L_forcedIn (hst : l.stackTraces = false) (σ : SH) (I X : IX) (o : Nat) (ad : Nat → Nat) (hO : FS σ o ad) (hG : GS σ ad) (C : IX) (v : Rw) (hR : RG C v) (out : Nat) (hm : out ∈ shL σ) (hk : shK σ out = 13) (hn : shN σ out = 1) (x : Int32) : CtW l D cy sa sv yL_forcedIn cL_forcedIn 4 (some .int) [(0, 9, 12, 18)] 8 1 6 [.ref o, .int x, .ref out] σ (put idI I ad C) (put idX X ad C) (WP σ I X ad out (if zisIn x (nI 0) (v 42) then nI 0 else nI 1) (if zisIn x (nI 0) (v 42) then v (21 + x.toNatClampNeg) else nI 0) (v)) := by
  have hb := br_forcedIn hR x
  refine CtW.of (by decide) hst (Nat.le_of_ble_eq_true rfl) ?_
  intro pp ee ss mm args below meth kc A hF htb hnc
  refine V.aload_n hF dL_forcedIn_0 rfl ?_
  refine V.iconst (v := nI 0) hF dL_forcedIn_1 (by decide) ?_
  refine V.aload_n hF dL_forcedIn_2 rfl ?_
  refine V.iload_n hF dL_forcedIn_3 rfl ?_
  refine V.callV hF dL_forcedIn_4 (ct_X4_forcedIn hst _ _ _ _ _ hO hG _ hR.1.wc x) lk_L_20 sl_X4_forcedIn ⟨_, _, rfl, hO.1.1, hO.1.2, (Nat.le_of_ble_eq_true rfl), _, _, rfl⟩ (fit_of rfl) (Nat.le_of_ble_eq_true rfl) (fun E s2 I2 X2 hx => ?_) (fun r s2 I2 X2 hx => ?_) rfl
  · obtain ⟨⟨j, hj, hT⟩, e1, e2, e3⟩ := hx
    rw [e1, e2, e3]
    match j, hj, hT with
    | 0, hj, hT =>
      have hE := Option.some.inj hj
      rw [← hE]
      refine VX.catch hF [] (0, 9, 12, 18) [] htb (fun z hz => absurd hz List.not_mem_nil) (by decide) (by decide) lc_18 cc_IOB (fun q => ?_)
      refine V.astore_n hF dL_forcedIn_12 (by decide) ?_
      refine V.iconst (v := nI 1) hF dL_forcedIn_13 (by decide) ?_
      refine V.iret hF dL_forcedIn_14 (Nat.le_of_ble_eq_true rfl) (Nat.le_of_ble_eq_true rfl) ?_
      exact ⟨congrArg (fun t => some (Value.int t)) (hT.symm.trans hb.1), C, shJ σ out, by rw [hb.2.2 (by rw [← hb.1, hT]; decide)]; exact hR, (shSetJ_eta _ _).symm, rfl, rfl, fun q => absurd (hT.symm.trans (hb.1.trans q)) (by decide)⟩
    | j + 1, hj, hT => exact absurd hj (by simp)
  · obtain ⟨hT, e0, e1, e2, e3⟩ := hx
    rw [e0, e1, e2, e3]
    obtain ⟨ha, hR2⟩ := hb.2.1 (hb.1.symm.trans hT)
    refine V.i2l hF dL_forcedIn_7 ?_
    refine V.lastore (j := 0) hF dL_forcedIn_8 hm hk rfl (by rw [hn]; exact lt_of rfl) (by rw [hn]; exact lt_of rfl) ?_
    refine V.goto (tgt := 15) hF dL_forcedIn_9 (by decide) ?_
    refine V.iconst (v := nI 0) hF dL_forcedIn_15 (by decide) ?_
    refine V.iret hF dL_forcedIn_16 (Nat.le_of_ble_eq_true rfl) (Nat.le_of_ble_eq_true rfl) ?_
    exact ⟨congrArg (fun t => some (Value.int t)) (hT.symm.trans hb.1), _, _, hR2, rfl, rfl, rfl, fun _ => by rw [upl0, ← ha]⟩
theorem lw_L_requestJoin : LkW RL 162 yL_requestJoin cL_requestJoin 4 (some .int) [(0, 9, 12, 18), (0, 9, 15, 26)] 3 := ⟨gw 445 (by decide +kernel) (by decide +kernel), gw 446 (by decide +kernel) (by decide +kernel), gw 52 (by decide +kernel) (by decide +kernel), gw 447 (by decide +kernel) (by decide +kernel), by decide +kernel⟩
set_option maxRecDepth 20000 in
theorem ct_L_requestJoin (hst : l.stackTraces = false) (σ : SH) (I X : IX) (o : Nat) (ad : Nat → Nat) (hO : FS σ o ad) (hG : GS σ ad) (C : IX) (v : Rw) (hR : RG C v) (out : Nat) (hm : out ∈ shL σ) (hk : shK σ out = 13) (hn : shN σ out = 1) (x : Int32) : CtW l D cy sa sv yL_requestJoin cL_requestJoin 4 (some .int) [(0, 9, 12, 18), (0, 9, 15, 26)] 8 2 12 [.ref o, .int x, .ref out] σ (put idI I ad C) (put idX X ad C) (WP σ I X ad out (if zPr x then (if zbit (v 43) x then nI 2 else nI 0) else nI 1) (if zPr x && !zbit (v 43) x then zcnt (v 43 ||| (nI 1 <<< (x &&& 31))) 6 else nI 0) (if zPr x && !zbit (v 43) x then zjoin v x else v)) := by
  have hb := br_requestJoin hR x
  refine CtW.of (by decide) hst (Nat.le_of_ble_eq_true rfl) ?_
  intro pp ee ss mm args below meth kc A hF htb hnc
  refine V.aload_n hF dL_requestJoin_0 rfl ?_
  refine V.iconst (v := nI 0) hF dL_requestJoin_1 (by decide) ?_
  refine V.aload_n hF dL_requestJoin_2 rfl ?_
  refine V.iload_n hF dL_requestJoin_3 rfl ?_
  refine V.callV hF dL_requestJoin_4 (ct_X4_requestJoin hst _ _ _ _ _ hO hG _ hR.1.wc x) lk_L_23 sl_X4_requestJoin ⟨_, _, rfl, hO.1.1, hO.1.2, (Nat.le_of_ble_eq_true rfl), _, _, rfl⟩ (fit_of rfl) (Nat.le_of_ble_eq_true rfl) (fun E s2 I2 X2 hx => ?_) (fun r s2 I2 X2 hx => ?_) rfl
  · obtain ⟨⟨j, hj, hT⟩, e1, e2, e3⟩ := hx
    rw [e1, e2, e3]
    match j, hj, hT with
    | 0, hj, hT =>
      have hE := Option.some.inj hj
      rw [← hE]
      refine VX.catch hF [] (0, 9, 12, 18) [(0, 9, 15, 26)] htb (fun z hz => absurd hz List.not_mem_nil) (by decide) (by decide) lc_18 cc_IOB (fun q => ?_)
      refine V.astore_n hF dL_requestJoin_12 (by decide) ?_
      refine V.iconst (v := nI 1) hF dL_requestJoin_13 (by decide) ?_
      refine V.iret hF dL_requestJoin_14 (Nat.le_of_ble_eq_true rfl) (Nat.le_of_ble_eq_true rfl) ?_
      exact ⟨congrArg (fun t => some (Value.int t)) (hT.symm.trans hb.1), C, shJ σ out, by rw [hb.2.2 (by rw [← hb.1, hT]; decide)]; exact hR, (shSetJ_eta _ _).symm, rfl, rfl, fun q => absurd (hT.symm.trans (hb.1.trans q)) (by decide)⟩
    | 1, hj, hT =>
      have hE := Option.some.inj hj
      rw [← hE]
      refine VX.catch hF [(0, 9, 12, 18)] (0, 9, 15, 26) [] htb (fun z hz => by rw [List.mem_singleton.mp hz]; exact ⟨by decide, _, lc_18, hnc.1⟩) (by decide) (by decide) lc_26 cc_ISE (fun q => ?_)
      refine V.astore_n hF dL_requestJoin_15 (by decide) ?_
      refine V.iconst (v := nI 2) hF dL_requestJoin_16 (by decide) ?_
      refine V.iret hF dL_requestJoin_17 (Nat.le_of_ble_eq_true rfl) (Nat.le_of_ble_eq_true rfl) ?_
      exact ⟨congrArg (fun t => some (Value.int t)) (hT.symm.trans hb.1), C, shJ σ out, by rw [hb.2.2 (by rw [← hb.1, hT]; decide)]; exact hR, (shSetJ_eta _ _).symm, rfl, rfl, fun q => absurd (hT.symm.trans (hb.1.trans q)) (by decide)⟩
    | j + 2, hj, hT => exact absurd hj (by simp)
  · obtain ⟨hT, e0, e1, e2, e3⟩ := hx
    rw [e0, e1, e2, e3]
    obtain ⟨ha, hR2⟩ := hb.2.1 (hb.1.symm.trans hT)
    refine V.i2l hF dL_requestJoin_7 ?_
    refine V.lastore (j := 0) hF dL_requestJoin_8 hm hk rfl (by rw [hn]; exact lt_of rfl) (by rw [hn]; exact lt_of rfl) ?_
    refine V.goto (tgt := 18) hF dL_requestJoin_9 (by decide) ?_
    refine V.iconst (v := nI 0) hF dL_requestJoin_18 (by decide) ?_
    refine V.iret hF dL_requestJoin_19 (Nat.le_of_ble_eq_true rfl) (Nat.le_of_ble_eq_true rfl) ?_
    exact ⟨congrArg (fun t => some (Value.int t)) (hT.symm.trans hb.1), _, _, hR2, rfl, rfl, rfl, fun _ => by rw [upl0, ← ha]⟩
theorem lw_L_requestLeave : LkW RL 165 yL_requestLeave cL_requestLeave 4 (some .int) [(0, 9, 12, 18), (0, 9, 15, 26)] 3 := ⟨gw 494 (by decide +kernel) (by decide +kernel), gw 495 (by decide +kernel) (by decide +kernel), gw 52 (by decide +kernel) (by decide +kernel), gw 496 (by decide +kernel) (by decide +kernel), by decide +kernel⟩
set_option maxRecDepth 20000 in
theorem ct_L_requestLeave (hst : l.stackTraces = false) (σ : SH) (I X : IX) (o : Nat) (ad : Nat → Nat) (hO : FS σ o ad) (hG : GS σ ad) (C : IX) (v : Rw) (hR : RG C v) (out : Nat) (hm : out ∈ shL σ) (hk : shK σ out = 13) (hn : shN σ out = 1) (x : Int32) : CtW l D cy sa sv yL_requestLeave cL_requestLeave 4 (some .int) [(0, 9, 12, 18), (0, 9, 15, 26)] 8 2 12 [.ref o, .int x, .ref out] σ (put idI I ad C) (put idX X ad C) (WP σ I X ad out (if zPr x then (if zlok v x then nI 0 else nI 2) else nI 1) (if zPr x && zlok v x then zcnt (zleft v x) 6 else nI 0) (if zPr x && zlok v x then upd v 43 (zleft v x) else v)) := by
  have hb := br_requestLeave hR x
  refine CtW.of (by decide) hst (Nat.le_of_ble_eq_true rfl) ?_
  intro pp ee ss mm args below meth kc A hF htb hnc
  refine V.aload_n hF dL_requestLeave_0 rfl ?_
  refine V.iconst (v := nI 0) hF dL_requestLeave_1 (by decide) ?_
  refine V.aload_n hF dL_requestLeave_2 rfl ?_
  refine V.iload_n hF dL_requestLeave_3 rfl ?_
  refine V.callV hF dL_requestLeave_4 (ct_X4_requestLeave hst _ _ _ _ _ hO hG _ hR.1.wc x) lk_L_28 sl_X4_requestLeave ⟨_, _, rfl, hO.1.1, hO.1.2, (Nat.le_of_ble_eq_true rfl), _, _, rfl⟩ (fit_of rfl) (Nat.le_of_ble_eq_true rfl) (fun E s2 I2 X2 hx => ?_) (fun r s2 I2 X2 hx => ?_) rfl
  · obtain ⟨⟨j, hj, hT⟩, e1, e2, e3⟩ := hx
    rw [e1, e2, e3]
    match j, hj, hT with
    | 0, hj, hT =>
      have hE := Option.some.inj hj
      rw [← hE]
      refine VX.catch hF [] (0, 9, 12, 18) [(0, 9, 15, 26)] htb (fun z hz => absurd hz List.not_mem_nil) (by decide) (by decide) lc_18 cc_IOB (fun q => ?_)
      refine V.astore_n hF dL_requestLeave_12 (by decide) ?_
      refine V.iconst (v := nI 1) hF dL_requestLeave_13 (by decide) ?_
      refine V.iret hF dL_requestLeave_14 (Nat.le_of_ble_eq_true rfl) (Nat.le_of_ble_eq_true rfl) ?_
      exact ⟨congrArg (fun t => some (Value.int t)) (hT.symm.trans hb.1), C, shJ σ out, by rw [hb.2.2 (by rw [← hb.1, hT]; decide)]; exact hR, (shSetJ_eta _ _).symm, rfl, rfl, fun q => absurd (hT.symm.trans (hb.1.trans q)) (by decide)⟩
    | 1, hj, hT =>
      have hE := Option.some.inj hj
      rw [← hE]
      refine VX.catch hF [(0, 9, 12, 18)] (0, 9, 15, 26) [] htb (fun z hz => by rw [List.mem_singleton.mp hz]; exact ⟨by decide, _, lc_18, hnc.1⟩) (by decide) (by decide) lc_26 cc_ISE (fun q => ?_)
      refine V.astore_n hF dL_requestLeave_15 (by decide) ?_
      refine V.iconst (v := nI 2) hF dL_requestLeave_16 (by decide) ?_
      refine V.iret hF dL_requestLeave_17 (Nat.le_of_ble_eq_true rfl) (Nat.le_of_ble_eq_true rfl) ?_
      exact ⟨congrArg (fun t => some (Value.int t)) (hT.symm.trans hb.1), C, shJ σ out, by rw [hb.2.2 (by rw [← hb.1, hT]; decide)]; exact hR, (shSetJ_eta _ _).symm, rfl, rfl, fun q => absurd (hT.symm.trans (hb.1.trans q)) (by decide)⟩
    | j + 2, hj, hT => exact absurd hj (by simp)
  · obtain ⟨hT, e0, e1, e2, e3⟩ := hx
    rw [e0, e1, e2, e3]
    obtain ⟨ha, hR2⟩ := hb.2.1 (hb.1.symm.trans hT)
    refine V.i2l hF dL_requestLeave_7 ?_
    refine V.lastore (j := 0) hF dL_requestLeave_8 hm hk rfl (by rw [hn]; exact lt_of rfl) (by rw [hn]; exact lt_of rfl) ?_
    refine V.goto (tgt := 18) hF dL_requestLeave_9 (by decide) ?_
    refine V.iconst (v := nI 0) hF dL_requestLeave_18 (by decide) ?_
    refine V.iret hF dL_requestLeave_19 (Nat.le_of_ble_eq_true rfl) (Nat.le_of_ble_eq_true rfl) ?_
    exact ⟨congrArg (fun t => some (Value.int t)) (hT.symm.trans hb.1), _, _, hR2, rfl, rfl, rfl, fun _ => by rw [upl0, ← ha]⟩
theorem lw_L_install : LkW RL 168 yL_install cL_install 3 (some .int) [(0, 8, 11, 26)] 2 := ⟨gw 514 (by decide +kernel) (by decide +kernel), gw 515 (by decide +kernel) (by decide +kernel), gw 52 (by decide +kernel) (by decide +kernel), gw 516 (by decide +kernel) (by decide +kernel), by decide +kernel⟩
set_option maxRecDepth 20000 in
theorem ct_L_install (hst : l.stackTraces = false) (σ : SH) (I X : IX) (o : Nat) (ad : Nat → Nat) (hO : FS σ o ad) (hG : GS σ ad) (C : IX) (v : Rw) (hR : RG C v) (out : Nat) (hm : out ∈ shL σ) (hk : shK σ out = 13) (hn : shN σ out = 1) : CtW l D cy sa sv yL_install cL_install 3 (some .int) [(0, 8, 11, 26)] 8 1 6 [.ref o, .ref out] σ (put idI I ad C) (put idX X ad C) (WP σ I X ad out (if zinT v then nI 1 else nI 0) (if zinT v then nI 0 else zinC v) (if zinT v then v else zinV v)) := by
  have hb := br_install hR
  refine CtW.of (by decide) hst (Nat.le_of_ble_eq_true rfl) ?_
  intro pp ee ss mm args below meth kc A hF htb hnc
  refine V.aload_n hF dL_install_0 rfl ?_
  refine V.iconst (v := nI 0) hF dL_install_1 (by decide) ?_
  refine V.aload_n hF dL_install_2 rfl ?_
  refine V.callV hF dL_install_3 (ct_X4_install hst _ _ _ _ _ hO hG _ hR.1.wc hR.yws) lk_L_31 sl_X4_install ⟨_, _, rfl, hO.1.1, hO.1.2, (Nat.le_of_ble_eq_true rfl), _, _, rfl⟩ (fit_of rfl) (Nat.le_of_ble_eq_true rfl) (fun E s2 I2 X2 hx => ?_) (fun r s2 I2 X2 hx => ?_) rfl
  · obtain ⟨⟨j, hj, hT⟩, e1, e2, e3⟩ := hx
    rw [e1, e2, e3]
    match j, hj, hT with
    | 0, hj, hT =>
      have hE := Option.some.inj hj
      rw [← hE]
      refine VX.catch hF [] (0, 8, 11, 26) [] htb (fun z hz => absurd hz List.not_mem_nil) (by decide) (by decide) lc_26 cc_ISE (fun q => ?_)
      refine V.astore_n hF dL_install_11 (by decide) ?_
      refine V.iconst (v := nI 1) hF dL_install_12 (by decide) ?_
      refine V.iret hF dL_install_13 (Nat.le_of_ble_eq_true rfl) (Nat.le_of_ble_eq_true rfl) ?_
      exact ⟨congrArg (fun t => some (Value.int t)) (hT.symm.trans hb.1), C, shJ σ out, by rw [hb.2.2 (by rw [← hb.1, hT]; decide)]; exact hR, (shSetJ_eta _ _).symm, rfl, rfl, fun q => absurd (hT.symm.trans (hb.1.trans q)) (by decide)⟩
    | j + 1, hj, hT => exact absurd hj (by simp)
  · obtain ⟨hT, e0, e1, e2, e3⟩ := hx
    rw [e0, e1, e2, e3]
    obtain ⟨ha, hR2⟩ := hb.2.1 (hb.1.symm.trans hT)
    refine V.i2l hF dL_install_6 ?_
    refine V.lastore (j := 0) hF dL_install_7 hm hk rfl (by rw [hn]; exact lt_of rfl) (by rw [hn]; exact lt_of rfl) ?_
    refine V.goto (tgt := 14) hF dL_install_8 (by decide) ?_
    refine V.iconst (v := nI 0) hF dL_install_14 (by decide) ?_
    refine V.iret hF dL_install_15 (Nat.le_of_ble_eq_true rfl) (Nat.le_of_ble_eq_true rfl) ?_
    exact ⟨congrArg (fun t => some (Value.int t)) (hT.symm.trans hb.1), _, _, hR2, rfl, rfl, rfl, fun _ => by rw [upl0, ← ha]⟩
theorem lw_L_broadcast : LkW RL 172 yL_broadcast cL_broadcast 5 (some .int) [(0, 10, 13, 18), (0, 10, 17, 26)] 4 := ⟨gw 585 (by decide +kernel) (by decide +kernel), gw 586 (by decide +kernel) (by decide +kernel), gw 52 (by decide +kernel) (by decide +kernel), gw 587 (by decide +kernel) (by decide +kernel), by decide +kernel⟩
set_option maxRecDepth 20000 in
theorem ct_L_broadcast (hst : l.stackTraces = false) (σ : SH) (I X : IX) (o : Nat) (ad : Nat → Nat) (hO : FS σ o ad) (hG : GS σ ad) (C : IX) (v : Rw) (hR : RG C v) (out : Nat) (hm : out ∈ shL σ) (hk : shK σ out = 13) (hn : shN σ out = 1) (x y : Int32) : CtW l D cy sa sv yL_broadcast cL_broadcast 5 (some .int) [(0, 10, 13, 18), (0, 10, 17, 26)] 8 2 12 [.ref o, .int x, .int y, .ref out] σ (put idI I ad C) (put idX X ad C) (WP σ I X ad out (zbT v x) (if zbT v x = nI 0 then v 44 else nI 0) (if zbT v x = nI 0 then zbV v x.toNatClampNeg y else v)) := by
  have hb := br_broadcast hR x y
  refine CtW.of (by decide) hst (Nat.le_of_ble_eq_true rfl) ?_
  intro pp ee ss mm args below meth kc A hF htb hnc
  refine V.aload_n hF dL_broadcast_0 rfl ?_
  refine V.iconst (v := nI 0) hF dL_broadcast_1 (by decide) ?_
  refine V.aload_n hF dL_broadcast_2 rfl ?_
  refine V.iload_n hF dL_broadcast_3 rfl ?_
  refine V.iload_n hF dL_broadcast_4 rfl ?_
  refine V.callV hF dL_broadcast_5 (ct_X4_broadcast hst _ _ _ _ _ hO hG _ hR.1.wc x y) lk_L_35 sl_X4_broadcast ⟨_, _, rfl, hO.1.1, hO.1.2, (Nat.le_of_ble_eq_true rfl), _, _, rfl⟩ (fit_of rfl) (Nat.le_of_ble_eq_true rfl) (fun E s2 I2 X2 hx => ?_) (fun r s2 I2 X2 hx => ?_) rfl
  · obtain ⟨⟨j, hj, hT⟩, e1, e2, e3⟩ := hx
    rw [e1, e2, e3]
    match j, hj, hT with
    | 0, hj, hT =>
      have hE := Option.some.inj hj
      rw [← hE]
      refine VX.catch hF [] (0, 10, 13, 18) [(0, 10, 17, 26)] htb (fun z hz => absurd hz List.not_mem_nil) (by decide) (by decide) lc_18 cc_IOB (fun q => ?_)
      refine V.astore hF dL_broadcast_13 (by decide) ?_
      refine V.iconst (v := nI 1) hF dL_broadcast_15 (by decide) ?_
      refine V.iret hF dL_broadcast_16 (Nat.le_of_ble_eq_true rfl) (Nat.le_of_ble_eq_true rfl) ?_
      exact ⟨congrArg (fun t => some (Value.int t)) (hT.symm.trans hb.1), C, shJ σ out, by rw [hb.2.2 (by rw [← hb.1, hT]; decide)]; exact hR, (shSetJ_eta _ _).symm, rfl, rfl, fun q => absurd (hT.symm.trans (hb.1.trans q)) (by decide)⟩
    | 1, hj, hT =>
      have hE := Option.some.inj hj
      rw [← hE]
      refine VX.catch hF [(0, 10, 13, 18)] (0, 10, 17, 26) [] htb (fun z hz => by rw [List.mem_singleton.mp hz]; exact ⟨by decide, _, lc_18, hnc.1⟩) (by decide) (by decide) lc_26 cc_ISE (fun q => ?_)
      refine V.astore hF dL_broadcast_17 (by decide) ?_
      refine V.iconst (v := nI 2) hF dL_broadcast_19 (by decide) ?_
      refine V.iret hF dL_broadcast_20 (Nat.le_of_ble_eq_true rfl) (Nat.le_of_ble_eq_true rfl) ?_
      exact ⟨congrArg (fun t => some (Value.int t)) (hT.symm.trans hb.1), C, shJ σ out, by rw [hb.2.2 (by rw [← hb.1, hT]; decide)]; exact hR, (shSetJ_eta _ _).symm, rfl, rfl, fun q => absurd (hT.symm.trans (hb.1.trans q)) (by decide)⟩
    | j + 2, hj, hT => exact absurd hj (by simp)
  · obtain ⟨hT, e0, e1, e2, e3⟩ := hx
    rw [e0, e1, e2, e3]
    obtain ⟨ha, hR2⟩ := hb.2.1 (hb.1.symm.trans hT)
    refine V.i2l hF dL_broadcast_8 ?_
    refine V.lastore (j := 0) hF dL_broadcast_9 hm hk rfl (by rw [hn]; exact lt_of rfl) (by rw [hn]; exact lt_of rfl) ?_
    refine V.goto (tgt := 21) hF dL_broadcast_10 (by decide) ?_
    refine V.iconst (v := nI 0) hF dL_broadcast_21 (by decide) ?_
    refine V.iret hF dL_broadcast_22 (Nat.le_of_ble_eq_true rfl) (Nat.le_of_ble_eq_true rfl) ?_
    exact ⟨congrArg (fun t => some (Value.int t)) (hT.symm.trans hb.1), _, _, hR2, rfl, rfl, rfl, fun _ => by rw [upl0, ← ha]⟩
theorem lw_L_arrive : LkW RL 176 yL_arrive cL_arrive 5 (some .int) [(0, 10, 13, 18), (0, 10, 17, 26)] 4 := ⟨gw 627 (by decide +kernel) (by decide +kernel), gw 628 (by decide +kernel) (by decide +kernel), gw 52 (by decide +kernel) (by decide +kernel), gw 629 (by decide +kernel) (by decide +kernel), by decide +kernel⟩
set_option maxRecDepth 20000 in
theorem ct_L_arrive (hst : l.stackTraces = false) (σ : SH) (I X : IX) (o : Nat) (ad : Nat → Nat) (hO : FS σ o ad) (hG : GS σ ad) (C : IX) (v : Rw) (hR : RG C v) (out : Nat) (hm : out ∈ shL σ) (hk : shK σ out = 13) (hn : shN σ out = 1) (x y : Int32) : CtW l D cy sa sv yL_arrive cL_arrive 5 (some .int) [(0, 10, 13, 18), (0, 10, 17, 26)] 8 3 18 [.ref o, .int x, .int y, .ref out] σ (put idI I ad C) (put idX X ad C) (WP σ I X ad out (zaT v x y) (if zaT v x y = nI 0 then (zaV v x.toNatClampNeg y.toNatClampNeg).2 else nI 0) (if zaT v x y = nI 0 then (zaV v x.toNatClampNeg y.toNatClampNeg).1 else v)) := by
  have hb := br_arrive hR x y
  refine CtW.of (by decide) hst (Nat.le_of_ble_eq_true rfl) ?_
  intro pp ee ss mm args below meth kc A hF htb hnc
  refine V.aload_n hF dL_arrive_0 rfl ?_
  refine V.iconst (v := nI 0) hF dL_arrive_1 (by decide) ?_
  refine V.aload_n hF dL_arrive_2 rfl ?_
  refine V.iload_n hF dL_arrive_3 rfl ?_
  refine V.iload_n hF dL_arrive_4 rfl ?_
  refine V.callV hF dL_arrive_5 (ct_X4_arrive hst _ _ _ _ _ hO hG _ hR.1.wc x y) lk_L_39 sl_X4_arrive ⟨_, _, rfl, hO.1.1, hO.1.2, (Nat.le_of_ble_eq_true rfl), _, _, rfl⟩ (fit_of rfl) (Nat.le_of_ble_eq_true rfl) (fun E s2 I2 X2 hx => ?_) (fun r s2 I2 X2 hx => ?_) rfl
  · obtain ⟨⟨j, hj, hT⟩, e1, e2, e3⟩ := hx
    rw [e1, e2, e3]
    match j, hj, hT with
    | 0, hj, hT =>
      have hE := Option.some.inj hj
      rw [← hE]
      refine VX.catch hF [] (0, 10, 13, 18) [(0, 10, 17, 26)] htb (fun z hz => absurd hz List.not_mem_nil) (by decide) (by decide) lc_18 cc_IOB (fun q => ?_)
      refine V.astore hF dL_arrive_13 (by decide) ?_
      refine V.iconst (v := nI 1) hF dL_arrive_15 (by decide) ?_
      refine V.iret hF dL_arrive_16 (Nat.le_of_ble_eq_true rfl) (Nat.le_of_ble_eq_true rfl) ?_
      exact ⟨congrArg (fun t => some (Value.int t)) (hT.symm.trans hb.1), C, shJ σ out, by rw [hb.2.2 (by rw [← hb.1, hT]; decide)]; exact hR, (shSetJ_eta _ _).symm, rfl, rfl, fun q => absurd (hT.symm.trans (hb.1.trans q)) (by decide)⟩
    | 1, hj, hT =>
      have hE := Option.some.inj hj
      rw [← hE]
      refine VX.catch hF [(0, 10, 13, 18)] (0, 10, 17, 26) [] htb (fun z hz => by rw [List.mem_singleton.mp hz]; exact ⟨by decide, _, lc_18, hnc.1⟩) (by decide) (by decide) lc_26 cc_ISE (fun q => ?_)
      refine V.astore hF dL_arrive_17 (by decide) ?_
      refine V.iconst (v := nI 2) hF dL_arrive_19 (by decide) ?_
      refine V.iret hF dL_arrive_20 (Nat.le_of_ble_eq_true rfl) (Nat.le_of_ble_eq_true rfl) ?_
      exact ⟨congrArg (fun t => some (Value.int t)) (hT.symm.trans hb.1), C, shJ σ out, by rw [hb.2.2 (by rw [← hb.1, hT]; decide)]; exact hR, (shSetJ_eta _ _).symm, rfl, rfl, fun q => absurd (hT.symm.trans (hb.1.trans q)) (by decide)⟩
    | j + 2, hj, hT => exact absurd hj (by simp)
  · obtain ⟨hT, e0, e1, e2, e3⟩ := hx
    rw [e0, e1, e2, e3]
    obtain ⟨ha, hR2⟩ := hb.2.1 (hb.1.symm.trans hT)
    refine V.i2l hF dL_arrive_8 ?_
    refine V.lastore (j := 0) hF dL_arrive_9 hm hk rfl (by rw [hn]; exact lt_of rfl) (by rw [hn]; exact lt_of rfl) ?_
    refine V.goto (tgt := 21) hF dL_arrive_10 (by decide) ?_
    refine V.iconst (v := nI 0) hF dL_arrive_21 (by decide) ?_
    refine V.iret hF dL_arrive_22 (Nat.le_of_ble_eq_true rfl) (Nat.le_of_ble_eq_true rfl) ?_
    exact ⟨congrArg (fun t => some (Value.int t)) (hT.symm.trans hb.1), _, _, hR2, rfl, rfl, rfl, fun _ => by rw [upl0, ← ha]⟩
theorem lw_L_arriveAll : LkW RL 179 yL_arriveAll cL_arriveAll 4 (some .int) [(0, 9, 12, 18), (0, 9, 15, 26)] 3 := ⟨gw 661 (by decide +kernel) (by decide +kernel), gw 662 (by decide +kernel) (by decide +kernel), gw 52 (by decide +kernel) (by decide +kernel), gw 663 (by decide +kernel) (by decide +kernel), by decide +kernel⟩
set_option maxRecDepth 20000 in
theorem ct_L_arriveAll (hst : l.stackTraces = false) (σ : SH) (I X : IX) (o : Nat) (ad : Nat → Nat) (hO : FS σ o ad) (hG : GS σ ad) (C : IX) (v : Rw) (hR : RG C v) (out : Nat) (hm : out ∈ shL σ) (hk : shK σ out = 13) (hn : shN σ out = 1) (x : Int32) : CtW l D cy sa sv yL_arriveAll cL_arriveAll 4 (some .int) [(0, 9, 12, 18), (0, 9, 15, 26)] 8 2 12 [.ref o, .int x, .ref out] σ (put idI I ad C) (put idX X ad C) (WP σ I X ad out (if zPr x then (if zisM v x then nI 0 else nI 2) else nI 1) (if zPr x && zisM v x then (zalL x.toNatClampNeg v (vN v 44)).2 else nI 0) (if zPr x && zisM v x then (zalL x.toNatClampNeg v (vN v 44)).1 else v)) := by
  have hb := br_arriveAll hR x
  refine CtW.of (by decide) hst (Nat.le_of_ble_eq_true rfl) ?_
  intro pp ee ss mm args below meth kc A hF htb hnc
  refine V.aload_n hF dL_arriveAll_0 rfl ?_
  refine V.iconst (v := nI 0) hF dL_arriveAll_1 (by decide) ?_
  refine V.aload_n hF dL_arriveAll_2 rfl ?_
  refine V.iload_n hF dL_arriveAll_3 rfl ?_
  refine V.callV hF dL_arriveAll_4 (ct_X4_arriveAll hst _ _ _ _ _ hO hG _ hR.1.wc x) lk_L_42 sl_X4_arriveAll ⟨_, _, rfl, hO.1.1, hO.1.2, (Nat.le_of_ble_eq_true rfl), _, _, rfl⟩ (fit_of rfl) (Nat.le_of_ble_eq_true rfl) (fun E s2 I2 X2 hx => ?_) (fun r s2 I2 X2 hx => ?_) rfl
  · obtain ⟨⟨j, hj, hT⟩, e1, e2, e3⟩ := hx
    rw [e1, e2, e3]
    match j, hj, hT with
    | 0, hj, hT =>
      have hE := Option.some.inj hj
      rw [← hE]
      refine VX.catch hF [] (0, 9, 12, 18) [(0, 9, 15, 26)] htb (fun z hz => absurd hz List.not_mem_nil) (by decide) (by decide) lc_18 cc_IOB (fun q => ?_)
      refine V.astore_n hF dL_arriveAll_12 (by decide) ?_
      refine V.iconst (v := nI 1) hF dL_arriveAll_13 (by decide) ?_
      refine V.iret hF dL_arriveAll_14 (Nat.le_of_ble_eq_true rfl) (Nat.le_of_ble_eq_true rfl) ?_
      exact ⟨congrArg (fun t => some (Value.int t)) (hT.symm.trans hb.1), C, shJ σ out, by rw [hb.2.2 (by rw [← hb.1, hT]; decide)]; exact hR, (shSetJ_eta _ _).symm, rfl, rfl, fun q => absurd (hT.symm.trans (hb.1.trans q)) (by decide)⟩
    | 1, hj, hT =>
      have hE := Option.some.inj hj
      rw [← hE]
      refine VX.catch hF [(0, 9, 12, 18)] (0, 9, 15, 26) [] htb (fun z hz => by rw [List.mem_singleton.mp hz]; exact ⟨by decide, _, lc_18, hnc.1⟩) (by decide) (by decide) lc_26 cc_ISE (fun q => ?_)
      refine V.astore_n hF dL_arriveAll_15 (by decide) ?_
      refine V.iconst (v := nI 2) hF dL_arriveAll_16 (by decide) ?_
      refine V.iret hF dL_arriveAll_17 (Nat.le_of_ble_eq_true rfl) (Nat.le_of_ble_eq_true rfl) ?_
      exact ⟨congrArg (fun t => some (Value.int t)) (hT.symm.trans hb.1), C, shJ σ out, by rw [hb.2.2 (by rw [← hb.1, hT]; decide)]; exact hR, (shSetJ_eta _ _).symm, rfl, rfl, fun q => absurd (hT.symm.trans (hb.1.trans q)) (by decide)⟩
    | j + 2, hj, hT => exact absurd hj (by simp)
  · obtain ⟨hT, e0, e1, e2, e3⟩ := hx
    rw [e0, e1, e2, e3]
    obtain ⟨ha, hR2⟩ := hb.2.1 (hb.1.symm.trans hT)
    refine V.i2l hF dL_arriveAll_7 ?_
    refine V.lastore (j := 0) hF dL_arriveAll_8 hm hk rfl (by rw [hn]; exact lt_of rfl) (by rw [hn]; exact lt_of rfl) ?_
    refine V.goto (tgt := 18) hF dL_arriveAll_9 (by decide) ?_
    refine V.iconst (v := nI 0) hF dL_arriveAll_18 (by decide) ?_
    refine V.iret hF dL_arriveAll_19 (Nat.le_of_ble_eq_true rfl) (Nat.le_of_ble_eq_true rfl) ?_
    exact ⟨congrArg (fun t => some (Value.int t)) (hT.symm.trans hb.1), _, _, hR2, rfl, rfl, rfl, fun _ => by rw [upl0, ← ha]⟩
theorem lw_L_gossip : LkW RL 182 yL_gossip cL_gossip 5 (some .int) [(0, 10, 13, 18), (0, 10, 17, 26)] 4 := ⟨gw 679 (by decide +kernel) (by decide +kernel), gw 680 (by decide +kernel) (by decide +kernel), gw 52 (by decide +kernel) (by decide +kernel), gw 681 (by decide +kernel) (by decide +kernel), by decide +kernel⟩
set_option maxRecDepth 20000 in
theorem ct_L_gossip (hst : l.stackTraces = false) (σ : SH) (I X : IX) (o : Nat) (ad : Nat → Nat) (hO : FS σ o ad) (hG : GS σ ad) (C : IX) (v : Rw) (hR : RG C v) (out : Nat) (hm : out ∈ shL σ) (hk : shK σ out = 13) (hn : shN σ out = 1) (x y : Int32) : CtW l D cy sa sv yL_gossip cL_gossip 5 (some .int) [(0, 10, 13, 18), (0, 10, 17, 26)] 8 3 18 [.ref o, .int x, .int y, .ref out] σ (put idI I ad C) (put idX X ad C) (WP σ I X ad out (zgT v x y) (if zgT v x y = nI 0 then (zgO x.toNatClampNeg y.toNatClampNeg v 6).2 else nI 0) (if zgT v x y = nI 0 then (zgO x.toNatClampNeg y.toNatClampNeg v 6).1 else v)) := by
  have hb := br_gossip hR x y
  refine CtW.of (by decide) hst (Nat.le_of_ble_eq_true rfl) ?_
  intro pp ee ss mm args below meth kc A hF htb hnc
  refine V.aload_n hF dL_gossip_0 rfl ?_
  refine V.iconst (v := nI 0) hF dL_gossip_1 (by decide) ?_
  refine V.aload_n hF dL_gossip_2 rfl ?_
  refine V.iload_n hF dL_gossip_3 rfl ?_
  refine V.iload_n hF dL_gossip_4 rfl ?_
  refine V.callV hF dL_gossip_5 (ct_X4_gossip hst _ _ _ _ _ hO hG _ hR.1.wc x y) lk_L_45 sl_X4_gossip ⟨_, _, rfl, hO.1.1, hO.1.2, (Nat.le_of_ble_eq_true rfl), _, _, rfl⟩ (fit_of rfl) (Nat.le_of_ble_eq_true rfl) (fun E s2 I2 X2 hx => ?_) (fun r s2 I2 X2 hx => ?_) rfl
  · obtain ⟨⟨j, hj, hT⟩, e1, e2, e3⟩ := hx
    rw [e1, e2, e3]
    match j, hj, hT with
    | 0, hj, hT =>
      have hE := Option.some.inj hj
      rw [← hE]
      refine VX.catch hF [] (0, 10, 13, 18) [(0, 10, 17, 26)] htb (fun z hz => absurd hz List.not_mem_nil) (by decide) (by decide) lc_18 cc_IOB (fun q => ?_)
      refine V.astore hF dL_gossip_13 (by decide) ?_
      refine V.iconst (v := nI 1) hF dL_gossip_15 (by decide) ?_
      refine V.iret hF dL_gossip_16 (Nat.le_of_ble_eq_true rfl) (Nat.le_of_ble_eq_true rfl) ?_
      exact ⟨congrArg (fun t => some (Value.int t)) (hT.symm.trans hb.1), C, shJ σ out, by rw [hb.2.2 (by rw [← hb.1, hT]; decide)]; exact hR, (shSetJ_eta _ _).symm, rfl, rfl, fun q => absurd (hT.symm.trans (hb.1.trans q)) (by decide)⟩
    | 1, hj, hT =>
      have hE := Option.some.inj hj
      rw [← hE]
      refine VX.catch hF [(0, 10, 13, 18)] (0, 10, 17, 26) [] htb (fun z hz => by rw [List.mem_singleton.mp hz]; exact ⟨by decide, _, lc_18, hnc.1⟩) (by decide) (by decide) lc_26 cc_ISE (fun q => ?_)
      refine V.astore hF dL_gossip_17 (by decide) ?_
      refine V.iconst (v := nI 2) hF dL_gossip_19 (by decide) ?_
      refine V.iret hF dL_gossip_20 (Nat.le_of_ble_eq_true rfl) (Nat.le_of_ble_eq_true rfl) ?_
      exact ⟨congrArg (fun t => some (Value.int t)) (hT.symm.trans hb.1), C, shJ σ out, by rw [hb.2.2 (by rw [← hb.1, hT]; decide)]; exact hR, (shSetJ_eta _ _).symm, rfl, rfl, fun q => absurd (hT.symm.trans (hb.1.trans q)) (by decide)⟩
    | j + 2, hj, hT => exact absurd hj (by simp)
  · obtain ⟨hT, e0, e1, e2, e3⟩ := hx
    rw [e0, e1, e2, e3]
    obtain ⟨ha, hR2⟩ := hb.2.1 (hb.1.symm.trans hT)
    refine V.i2l hF dL_gossip_8 ?_
    refine V.lastore (j := 0) hF dL_gossip_9 hm hk rfl (by rw [hn]; exact lt_of rfl) (by rw [hn]; exact lt_of rfl) ?_
    refine V.goto (tgt := 21) hF dL_gossip_10 (by decide) ?_
    refine V.iconst (v := nI 0) hF dL_gossip_21 (by decide) ?_
    refine V.iret hF dL_gossip_22 (Nat.le_of_ble_eq_true rfl) (Nat.le_of_ble_eq_true rfl) ?_
    exact ⟨congrArg (fun t => some (Value.int t)) (hT.symm.trans hb.1), _, _, hR2, rfl, rfl, rfl, fun _ => by rw [upl0, ← ha]⟩
theorem lw_L_messageClock : LkW RL 192 yL_messageClock cL_messageClock 5 (some .int) [(0, 10, 13, 18)] 4 := ⟨gw 707 (by decide +kernel) (by decide +kernel), gw 708 (by decide +kernel) (by decide +kernel), gw 52 (by decide +kernel) (by decide +kernel), gw 709 (by decide +kernel) (by decide +kernel), by decide +kernel⟩
set_option maxRecDepth 20000 in
theorem ct_L_messageClock (hst : l.stackTraces = false) (σ : SH) (I X : IX) (o : Nat) (ad : Nat → Nat) (hO : FS σ o ad) (hG : GS σ ad) (C : IX) (v : Rw) (hR : RG C v) (out : Nat) (hm : out ∈ shL σ) (hk : shK σ out = 13) (hn : shN σ out = 1) (x y : Int32) : CtW l D cy sa sv yL_messageClock cL_messageClock 5 (some .int) [(0, 10, 13, 18)] 8 2 12 [.ref o, .int x, .int y, .ref out] σ (put idI I ad C) (put idX X ad C) (WP σ I X ad out (if zMs v x && zPr y then nI 0 else nI 1) (if zMs v x && zPr y then v (650 + 6 * x.toNatClampNeg + y.toNatClampNeg) else nI 0) (v)) := by
  have hb := br_messageClock hR x y
  refine CtW.of (by decide) hst (Nat.le_of_ble_eq_true rfl) ?_
  intro pp ee ss mm args below meth kc A hF htb hnc
  refine V.aload_n hF dL_messageClock_0 rfl ?_
  refine V.iconst (v := nI 0) hF dL_messageClock_1 (by decide) ?_
  refine V.aload_n hF dL_messageClock_2 rfl ?_
  refine V.iload_n hF dL_messageClock_3 rfl ?_
  refine V.iload_n hF dL_messageClock_4 rfl ?_
  refine V.callV hF dL_messageClock_5 (ct_X4_messageClock hst _ _ _ _ _ hO hG _ hR.1.wc x y) lk_L_51 sl_X4_messageClock ⟨_, _, rfl, hO.1.1, hO.1.2, (Nat.le_of_ble_eq_true rfl), _, _, rfl⟩ (fit_of rfl) (Nat.le_of_ble_eq_true rfl) (fun E s2 I2 X2 hx => ?_) (fun r s2 I2 X2 hx => ?_) rfl
  · obtain ⟨⟨j, hj, hT⟩, e1, e2, e3⟩ := hx
    rw [e1, e2, e3]
    match j, hj, hT with
    | 0, hj, hT =>
      have hE := Option.some.inj hj
      rw [← hE]
      refine VX.catch hF [] (0, 10, 13, 18) [] htb (fun z hz => absurd hz List.not_mem_nil) (by decide) (by decide) lc_18 cc_IOB (fun q => ?_)
      refine V.astore hF dL_messageClock_13 (by decide) ?_
      refine V.iconst (v := nI 1) hF dL_messageClock_15 (by decide) ?_
      refine V.iret hF dL_messageClock_16 (Nat.le_of_ble_eq_true rfl) (Nat.le_of_ble_eq_true rfl) ?_
      exact ⟨congrArg (fun t => some (Value.int t)) (hT.symm.trans hb.1), C, shJ σ out, by rw [hb.2.2 (by rw [← hb.1, hT]; decide)]; exact hR, (shSetJ_eta _ _).symm, rfl, rfl, fun q => absurd (hT.symm.trans (hb.1.trans q)) (by decide)⟩
    | j + 1, hj, hT => exact absurd hj (by simp)
  · obtain ⟨hT, e0, e1, e2, e3⟩ := hx
    rw [e0, e1, e2, e3]
    obtain ⟨ha, hR2⟩ := hb.2.1 (hb.1.symm.trans hT)
    refine V.i2l hF dL_messageClock_8 ?_
    refine V.lastore (j := 0) hF dL_messageClock_9 hm hk rfl (by rw [hn]; exact lt_of rfl) (by rw [hn]; exact lt_of rfl) ?_
    refine V.goto (tgt := 17) hF dL_messageClock_10 (by decide) ?_
    refine V.iconst (v := nI 0) hF dL_messageClock_17 (by decide) ?_
    refine V.iret hF dL_messageClock_18 (Nat.le_of_ble_eq_true rfl) (Nat.le_of_ble_eq_true rfl) ?_
    exact ⟨congrArg (fun t => some (Value.int t)) (hT.symm.trans hb.1), _, _, hR2, rfl, rfl, rfl, fun _ => by rw [upl0, ← ha]⟩
theorem lw_L_isCause : LkW RL 195 yL_isCause cL_isCause 5 (some .int) [(0, 17, 20, 18)] 4 := ⟨gw 715 (by decide +kernel) (by decide +kernel), gw 716 (by decide +kernel) (by decide +kernel), gw 52 (by decide +kernel) (by decide +kernel), gw 717 (by decide +kernel) (by decide +kernel), by decide +kernel⟩
set_option maxRecDepth 20000 in
theorem ct_L_isCause (hst : l.stackTraces = false) (σ : SH) (I X : IX) (o : Nat) (ad : Nat → Nat) (hO : FS σ o ad) (hG : GS σ ad) (C : IX) (v : Rw) (hR : RG C v) (out : Nat) (hm : out ∈ shL σ) (hk : shK σ out = 13) (hn : shN σ out = 1) (x y : Int32) : CtW l D cy sa sv yL_isCause cL_isCause 5 (some .int) [(0, 17, 20, 18)] 8 2 12 [.ref o, .int x, .int y, .ref out] σ (put idI I ad C) (put idX X ad C) (WP σ I X ad out (if zMs v x && zMs v y then nI 0 else nI 1) (bI (zMs v x && zMs v y && zcau v x.toNatClampNeg y.toNatClampNeg)) (v)) := by
  have hb := br_isCause hR x y
  refine CtW.of (by decide) hst (Nat.le_of_ble_eq_true rfl) ?_
  intro pp ee ss mm args below meth kc A hF htb hnc
  refine V.aload_n hF dL_isCause_0 rfl ?_
  refine V.iconst (v := nI 0) hF dL_isCause_1 (by decide) ?_
  refine V.aload_n hF dL_isCause_2 rfl ?_
  refine V.iload_n hF dL_isCause_3 rfl ?_
  refine V.iload_n hF dL_isCause_4 rfl ?_
  refine V.callV hF dL_isCause_5 (ct_X4_isCause hst _ _ _ _ _ hO hG _ hR.1.wc x y) lk_L_54 sl_X4_isCause ⟨_, _, rfl, hO.1.1, hO.1.2, (Nat.le_of_ble_eq_true rfl), _, _, rfl⟩ (fit_of rfl) (Nat.le_of_ble_eq_true rfl) (fun E s2 I2 X2 hx => ?_) (fun r s2 I2 X2 hx => ?_) rfl
  · obtain ⟨⟨j, hj, hT⟩, e1, e2, e3⟩ := hx
    rw [e1, e2, e3]
    match j, hj, hT with
    | 0, hj, hT =>
      have hE := Option.some.inj hj
      rw [← hE]
      refine VX.catch hF [] (0, 17, 20, 18) [] htb (fun z hz => absurd hz List.not_mem_nil) (by decide) (by decide) lc_18 cc_IOB (fun q => ?_)
      refine V.astore hF dL_isCause_20 (by decide) ?_
      refine V.iconst (v := nI 1) hF dL_isCause_22 (by decide) ?_
      refine V.iret hF dL_isCause_23 (Nat.le_of_ble_eq_true rfl) (Nat.le_of_ble_eq_true rfl) ?_
      exact ⟨congrArg (fun t => some (Value.int t)) (hT.symm.trans hb.1), C, shJ σ out, by rw [hb.2.2 (by rw [← hb.1, hT]; decide)]; exact hR, (shSetJ_eta _ _).symm, rfl, rfl, fun q => absurd (hT.symm.trans (hb.1.trans q)) (by decide)⟩
    | j + 1, hj, hT => exact absurd hj (by simp)
  · obtain ⟨hT, e0, e1, e2, e3⟩ := hx
    rw [e0, e1, e2, e3]
    obtain ⟨ha, hR2⟩ := hb.2.1 (hb.1.symm.trans hT)
    refine V.if_eqB (tgt := 15) hF dL_isCause_8 (by decide) (fun hbb => ?_) (fun hbb => ?_)
    · refine V.lconst (v := 0) hF dL_isCause_15 rfl ?_
      refine V.lastore (j := 0) hF dL_isCause_16 hm hk rfl (by rw [hn]; exact lt_of rfl) (by rw [hn]; exact lt_of rfl) ?_
      refine V.goto (tgt := 24) hF dL_isCause_17 (by decide) ?_
      refine V.iconst (v := nI 0) hF dL_isCause_24 (by decide) ?_
      refine V.iret hF dL_isCause_25 (Nat.le_of_ble_eq_true rfl) (Nat.le_of_ble_eq_true rfl) ?_
      exact ⟨congrArg (fun t => some (Value.int t)) (hT.symm.trans hb.1), _, _, hR2, rfl, rfl, rfl, fun _ => by rw [upl0, ← ha, hbb]; rfl⟩
    · refine V.lconst (v := 1) hF dL_isCause_11 rfl ?_
      refine V.goto (tgt := 16) hF dL_isCause_12 (by decide) ?_
      refine V.lastore (j := 0) hF dL_isCause_16 hm hk rfl (by rw [hn]; exact lt_of rfl) (by rw [hn]; exact lt_of rfl) ?_
      refine V.goto (tgt := 24) hF dL_isCause_17 (by decide) ?_
      refine V.iconst (v := nI 0) hF dL_isCause_24 (by decide) ?_
      refine V.iret hF dL_isCause_25 (Nat.le_of_ble_eq_true rfl) (Nat.le_of_ble_eq_true rfl) ?_
      exact ⟨congrArg (fun t => some (Value.int t)) (hT.symm.trans hb.1), _, _, hR2, rfl, rfl, rfl, fun _ => by rw [upl0, ← ha, hbb]; rfl⟩
theorem lw_L_causes : LkW RL 198 yL_causes cL_causes 4 (some .int) [(0, 9, 12, 18)] 3 := ⟨gw 723 (by decide +kernel) (by decide +kernel), gw 724 (by decide +kernel) (by decide +kernel), gw 52 (by decide +kernel) (by decide +kernel), gw 725 (by decide +kernel) (by decide +kernel), by decide +kernel⟩
set_option maxRecDepth 20000 in
theorem ct_L_causes (hst : l.stackTraces = false) (σ : SH) (I X : IX) (o : Nat) (ad : Nat → Nat) (hO : FS σ o ad) (hG : GS σ ad) (C : IX) (v : Rw) (hR : RG C v) (out : Nat) (hm : out ∈ shL σ) (hk : shK σ out = 13) (hn : shN σ out = 1) (x : Int32) : CtW l D cy sa sv yL_causes cL_causes 4 (some .int) [(0, 9, 12, 18)] 8 1 6 [.ref o, .int x, .ref out] σ (put idI I ad C) (put idX X ad C) (WP σ I X ad out (if zMs v x then nI 0 else nI 1) (if zMs v x then nI (zcB (fun k => zcau v k x.toNatClampNeg) (vN v 44)) else nI 0) (v)) := by
  have hb := br_causes hR x
  refine CtW.of (by decide) hst (Nat.le_of_ble_eq_true rfl) ?_
  intro pp ee ss mm args below meth kc A hF htb hnc
  refine V.aload_n hF dL_causes_0 rfl ?_
  refine V.iconst (v := nI 0) hF dL_causes_1 (by decide) ?_
  refine V.aload_n hF dL_causes_2 rfl ?_
  refine V.iload_n hF dL_causes_3 rfl ?_
  refine V.callV hF dL_causes_4 (ct_X4_causes hst _ _ _ _ _ hO hG _ hR.1.wc x) lk_L_58 sl_X4_causes ⟨_, _, rfl, hO.1.1, hO.1.2, (Nat.le_of_ble_eq_true rfl), _, _, rfl⟩ (fit_of rfl) (Nat.le_of_ble_eq_true rfl) (fun E s2 I2 X2 hx => ?_) (fun r s2 I2 X2 hx => ?_) rfl
  · obtain ⟨⟨j, hj, hT⟩, e1, e2, e3⟩ := hx
    rw [e1, e2, e3]
    match j, hj, hT with
    | 0, hj, hT =>
      have hE := Option.some.inj hj
      rw [← hE]
      refine VX.catch hF [] (0, 9, 12, 18) [] htb (fun z hz => absurd hz List.not_mem_nil) (by decide) (by decide) lc_18 cc_IOB (fun q => ?_)
      refine V.astore_n hF dL_causes_12 (by decide) ?_
      refine V.iconst (v := nI 1) hF dL_causes_13 (by decide) ?_
      refine V.iret hF dL_causes_14 (Nat.le_of_ble_eq_true rfl) (Nat.le_of_ble_eq_true rfl) ?_
      exact ⟨congrArg (fun t => some (Value.int t)) (hT.symm.trans hb.1), C, shJ σ out, by rw [hb.2.2 (by rw [← hb.1, hT]; decide)]; exact hR, (shSetJ_eta _ _).symm, rfl, rfl, fun q => absurd (hT.symm.trans (hb.1.trans q)) (by decide)⟩
    | j + 1, hj, hT => exact absurd hj (by simp)
  · obtain ⟨hT, e0, e1, e2, e3⟩ := hx
    rw [e0, e1, e2, e3]
    obtain ⟨ha, hR2⟩ := hb.2.1 (hb.1.symm.trans hT)
    refine V.i2l hF dL_causes_7 ?_
    refine V.lastore (j := 0) hF dL_causes_8 hm hk rfl (by rw [hn]; exact lt_of rfl) (by rw [hn]; exact lt_of rfl) ?_
    refine V.goto (tgt := 15) hF dL_causes_9 (by decide) ?_
    refine V.iconst (v := nI 0) hF dL_causes_15 (by decide) ?_
    refine V.iret hF dL_causes_16 (Nat.le_of_ble_eq_true rfl) (Nat.le_of_ble_eq_true rfl) ?_
    exact ⟨congrArg (fun t => some (Value.int t)) (hT.symm.trans hb.1), _, _, hR2, rfl, rfl, rfl, fun _ => by rw [upl0, ← ha]⟩
theorem lw_L_concurrent : LkW RL 201 yL_concurrent cL_concurrent 4 (some .int) [(0, 9, 12, 18)] 3 := ⟨gw 734 (by decide +kernel) (by decide +kernel), gw 735 (by decide +kernel) (by decide +kernel), gw 52 (by decide +kernel) (by decide +kernel), gw 736 (by decide +kernel) (by decide +kernel), by decide +kernel⟩
set_option maxRecDepth 20000 in
theorem ct_L_concurrent (hst : l.stackTraces = false) (σ : SH) (I X : IX) (o : Nat) (ad : Nat → Nat) (hO : FS σ o ad) (hG : GS σ ad) (C : IX) (v : Rw) (hR : RG C v) (out : Nat) (hm : out ∈ shL σ) (hk : shK σ out = 13) (hn : shN σ out = 1) (x : Int32) : CtW l D cy sa sv yL_concurrent cL_concurrent 4 (some .int) [(0, 9, 12, 18)] 8 1 6 [.ref o, .int x, .ref out] σ (put idI I ad C) (put idX X ad C) (WP σ I X ad out (if zMs v x then nI 0 else nI 1) (if zMs v x then nI (zcB (zcon v x.toNatClampNeg) (vN v 44)) else nI 0) (v)) := by
  have hb := br_concurrent hR x
  refine CtW.of (by decide) hst (Nat.le_of_ble_eq_true rfl) ?_
  intro pp ee ss mm args below meth kc A hF htb hnc
  refine V.aload_n hF dL_concurrent_0 rfl ?_
  refine V.iconst (v := nI 0) hF dL_concurrent_1 (by decide) ?_
  refine V.aload_n hF dL_concurrent_2 rfl ?_
  refine V.iload_n hF dL_concurrent_3 rfl ?_
  refine V.callV hF dL_concurrent_4 (ct_X4_concurrent hst _ _ _ _ _ hO hG _ hR.1.wc x) lk_L_61 sl_X4_concurrent ⟨_, _, rfl, hO.1.1, hO.1.2, (Nat.le_of_ble_eq_true rfl), _, _, rfl⟩ (fit_of rfl) (Nat.le_of_ble_eq_true rfl) (fun E s2 I2 X2 hx => ?_) (fun r s2 I2 X2 hx => ?_) rfl
  · obtain ⟨⟨j, hj, hT⟩, e1, e2, e3⟩ := hx
    rw [e1, e2, e3]
    match j, hj, hT with
    | 0, hj, hT =>
      have hE := Option.some.inj hj
      rw [← hE]
      refine VX.catch hF [] (0, 9, 12, 18) [] htb (fun z hz => absurd hz List.not_mem_nil) (by decide) (by decide) lc_18 cc_IOB (fun q => ?_)
      refine V.astore_n hF dL_concurrent_12 (by decide) ?_
      refine V.iconst (v := nI 1) hF dL_concurrent_13 (by decide) ?_
      refine V.iret hF dL_concurrent_14 (Nat.le_of_ble_eq_true rfl) (Nat.le_of_ble_eq_true rfl) ?_
      exact ⟨congrArg (fun t => some (Value.int t)) (hT.symm.trans hb.1), C, shJ σ out, by rw [hb.2.2 (by rw [← hb.1, hT]; decide)]; exact hR, (shSetJ_eta _ _).symm, rfl, rfl, fun q => absurd (hT.symm.trans (hb.1.trans q)) (by decide)⟩
    | j + 1, hj, hT => exact absurd hj (by simp)
  · obtain ⟨hT, e0, e1, e2, e3⟩ := hx
    rw [e0, e1, e2, e3]
    obtain ⟨ha, hR2⟩ := hb.2.1 (hb.1.symm.trans hT)
    refine V.i2l hF dL_concurrent_7 ?_
    refine V.lastore (j := 0) hF dL_concurrent_8 hm hk rfl (by rw [hn]; exact lt_of rfl) (by rw [hn]; exact lt_of rfl) ?_
    refine V.goto (tgt := 15) hF dL_concurrent_9 (by decide) ?_
    refine V.iconst (v := nI 0) hF dL_concurrent_15 (by decide) ?_
    refine V.iret hF dL_concurrent_16 (Nat.le_of_ble_eq_true rfl) (Nat.le_of_ble_eq_true rfl) ?_
    exact ⟨congrArg (fun t => some (Value.int t)) (hT.symm.trans hb.1), _, _, hR2, rfl, rfl, rfl, fun _ => by rw [upl0, ← ha]⟩
theorem lw_L_longestChain : LkW RL 204 yL_longestChain cL_longestChain 4 (some .int) [(0, 9, 12, 18)] 3 := ⟨gw 745 (by decide +kernel) (by decide +kernel), gw 746 (by decide +kernel) (by decide +kernel), gw 52 (by decide +kernel) (by decide +kernel), gw 747 (by decide +kernel) (by decide +kernel), by decide +kernel⟩
set_option maxRecDepth 20000 in
theorem ct_L_longestChain (hst : l.stackTraces = false) (σ : SH) (I X : IX) (o : Nat) (ad : Nat → Nat) (hO : FS σ o ad) (hG : GS σ ad) (C : IX) (v : Rw) (hR : RG C v) (out : Nat) (hm : out ∈ shL σ) (hk : shK σ out = 13) (hn : shN σ out = 1) (g0 : Rw) (x : Int32) : CtW l D cy sa sv yL_longestChain cL_longestChain 4 (some .int) [(0, 9, 12, 18)] 8 1 6 [.ref o, .int x, .ref out] σ (put idI I ad C) (put idX X ad C) (WP σ I X ad out (if zisIn x (nI 0) (v 42) then nI 0 else nI 1) (if zisIn x (nI 0) (v 42) then (zchO v x g0 (vN v 44)).2 else nI 0) (v)) := by
  have hb := br_longestChain hR g0 x
  refine CtW.of (by decide) hst (Nat.le_of_ble_eq_true rfl) ?_
  intro pp ee ss mm args below meth kc A hF htb hnc
  refine V.aload_n hF dL_longestChain_0 rfl ?_
  refine V.iconst (v := nI 0) hF dL_longestChain_1 (by decide) ?_
  refine V.aload_n hF dL_longestChain_2 rfl ?_
  refine V.iload_n hF dL_longestChain_3 rfl ?_
  refine V.callV hF dL_longestChain_4 (ct_X4_longestChain hst _ _ _ _ _ hO hG _ hR.1.wc x) lk_L_64 sl_X4_longestChain ⟨_, _, rfl, hO.1.1, hO.1.2, (Nat.le_of_ble_eq_true rfl), _, _, rfl⟩ (fit_of rfl) (Nat.le_of_ble_eq_true rfl) (fun E s2 I2 X2 hx => ?_) (fun r s2 I2 X2 hx => ?_) rfl
  · obtain ⟨⟨j, hj, hT⟩, e1, e2, e3⟩ := hx
    rw [e1, e2, e3]
    match j, hj, hT with
    | 0, hj, hT =>
      have hE := Option.some.inj hj
      rw [← hE]
      refine VX.catch hF [] (0, 9, 12, 18) [] htb (fun z hz => absurd hz List.not_mem_nil) (by decide) (by decide) lc_18 cc_IOB (fun q => ?_)
      refine V.astore_n hF dL_longestChain_12 (by decide) ?_
      refine V.iconst (v := nI 1) hF dL_longestChain_13 (by decide) ?_
      refine V.iret hF dL_longestChain_14 (Nat.le_of_ble_eq_true rfl) (Nat.le_of_ble_eq_true rfl) ?_
      exact ⟨congrArg (fun t => some (Value.int t)) (hT.symm.trans hb.1), C, shJ σ out, by rw [hb.2.2 (by rw [← hb.1, hT]; decide)]; exact hR, (shSetJ_eta _ _).symm, rfl, rfl, fun q => absurd (hT.symm.trans (hb.1.trans q)) (by decide)⟩
    | j + 1, hj, hT => exact absurd hj (by simp)
  · obtain ⟨hT, e0, e1, e2, e3⟩ := hx
    rw [e0, e1, e2, e3]
    obtain ⟨ha, hR2⟩ := hb.2.1 (hb.1.symm.trans hT)
    refine V.i2l hF dL_longestChain_7 ?_
    refine V.lastore (j := 0) hF dL_longestChain_8 hm hk rfl (by rw [hn]; exact lt_of rfl) (by rw [hn]; exact lt_of rfl) ?_
    refine V.goto (tgt := 15) hF dL_longestChain_9 (by decide) ?_
    refine V.iconst (v := nI 0) hF dL_longestChain_15 (by decide) ?_
    refine V.iret hF dL_longestChain_16 (Nat.le_of_ble_eq_true rfl) (Nat.le_of_ble_eq_true rfl) ?_
    exact ⟨congrArg (fun t => some (Value.int t)) (hT.symm.trans hb.1), _, _, hR2, rfl, rfl, rfl, fun _ => by rw [upl0, ← ha]⟩
theorem lw_L_logLength : LkW RL 211 yL_logLength cL_logLength 4 (some .int) [(0, 9, 12, 18)] 3 := ⟨gw 756 (by decide +kernel) (by decide +kernel), gw 757 (by decide +kernel) (by decide +kernel), gw 52 (by decide +kernel) (by decide +kernel), gw 758 (by decide +kernel) (by decide +kernel), by decide +kernel⟩
set_option maxRecDepth 20000 in
theorem ct_L_logLength (hst : l.stackTraces = false) (σ : SH) (I X : IX) (o : Nat) (ad : Nat → Nat) (hO : FS σ o ad) (hG : GS σ ad) (C : IX) (v : Rw) (hR : RG C v) (out : Nat) (hm : out ∈ shL σ) (hk : shK σ out = 13) (hn : shN σ out = 1) (x : Int32) : CtW l D cy sa sv yL_logLength cL_logLength 4 (some .int) [(0, 9, 12, 18)] 8 1 6 [.ref o, .int x, .ref out] σ (put idI I ad C) (put idX X ad C) (WP σ I X ad out (if zPr x then nI 0 else nI 1) (if zPr x then v (1550 + x.toNatClampNeg) else nI 0) (v)) := by
  have hb := br_logLength hR x
  refine CtW.of (by decide) hst (Nat.le_of_ble_eq_true rfl) ?_
  intro pp ee ss mm args below meth kc A hF htb hnc
  refine V.aload_n hF dL_logLength_0 rfl ?_
  refine V.iconst (v := nI 0) hF dL_logLength_1 (by decide) ?_
  refine V.aload_n hF dL_logLength_2 rfl ?_
  refine V.iload_n hF dL_logLength_3 rfl ?_
  refine V.callV hF dL_logLength_4 (ct_X4_logLength hst _ _ _ _ _ hO hG _ hR.1.wc x) lk_L_67 sl_X4_logLength ⟨_, _, rfl, hO.1.1, hO.1.2, (Nat.le_of_ble_eq_true rfl), _, _, rfl⟩ (fit_of rfl) (Nat.le_of_ble_eq_true rfl) (fun E s2 I2 X2 hx => ?_) (fun r s2 I2 X2 hx => ?_) rfl
  · obtain ⟨⟨j, hj, hT⟩, e1, e2, e3⟩ := hx
    rw [e1, e2, e3]
    match j, hj, hT with
    | 0, hj, hT =>
      have hE := Option.some.inj hj
      rw [← hE]
      refine VX.catch hF [] (0, 9, 12, 18) [] htb (fun z hz => absurd hz List.not_mem_nil) (by decide) (by decide) lc_18 cc_IOB (fun q => ?_)
      refine V.astore_n hF dL_logLength_12 (by decide) ?_
      refine V.iconst (v := nI 1) hF dL_logLength_13 (by decide) ?_
      refine V.iret hF dL_logLength_14 (Nat.le_of_ble_eq_true rfl) (Nat.le_of_ble_eq_true rfl) ?_
      exact ⟨congrArg (fun t => some (Value.int t)) (hT.symm.trans hb.1), C, shJ σ out, by rw [hb.2.2 (by rw [← hb.1, hT]; decide)]; exact hR, (shSetJ_eta _ _).symm, rfl, rfl, fun q => absurd (hT.symm.trans (hb.1.trans q)) (by decide)⟩
    | j + 1, hj, hT => exact absurd hj (by simp)
  · obtain ⟨hT, e0, e1, e2, e3⟩ := hx
    rw [e0, e1, e2, e3]
    obtain ⟨ha, hR2⟩ := hb.2.1 (hb.1.symm.trans hT)
    refine V.i2l hF dL_logLength_7 ?_
    refine V.lastore (j := 0) hF dL_logLength_8 hm hk rfl (by rw [hn]; exact lt_of rfl) (by rw [hn]; exact lt_of rfl) ?_
    refine V.goto (tgt := 15) hF dL_logLength_9 (by decide) ?_
    refine V.iconst (v := nI 0) hF dL_logLength_15 (by decide) ?_
    refine V.iret hF dL_logLength_16 (Nat.le_of_ble_eq_true rfl) (Nat.le_of_ble_eq_true rfl) ?_
    exact ⟨congrArg (fun t => some (Value.int t)) (hT.symm.trans hb.1), _, _, hR2, rfl, rfl, rfl, fun _ => by rw [upl0, ← ha]⟩
theorem lw_L_logged : LkW RL 214 yL_logged cL_logged 5 (some .int) [(0, 10, 13, 18)] 4 := ⟨gw 763 (by decide +kernel) (by decide +kernel), gw 764 (by decide +kernel) (by decide +kernel), gw 52 (by decide +kernel) (by decide +kernel), gw 765 (by decide +kernel) (by decide +kernel), by decide +kernel⟩
set_option maxRecDepth 20000 in
theorem ct_L_logged (hst : l.stackTraces = false) (σ : SH) (I X : IX) (o : Nat) (ad : Nat → Nat) (hO : FS σ o ad) (hG : GS σ ad) (C : IX) (v : Rw) (hR : RG C v) (out : Nat) (hm : out ∈ shL σ) (hk : shK σ out = 13) (hn : shN σ out = 1) (x y : Int32) : CtW l D cy sa sv yL_logged cL_logged 5 (some .int) [(0, 10, 13, 18)] 8 2 12 [.ref o, .int x, .int y, .ref out] σ (put idI I ad C) (put idX X ad C) (WP σ I X ad out (if zPr x && zisIn y (nI 0) (v (1550 + x.toNatClampNeg) - nI 1) then nI 0 else nI 1) (if zPr x && zisIn y (nI 0) (v (1550 + x.toNatClampNeg) - nI 1) then v (1560 + 150 * x.toNatClampNeg + y.toNatClampNeg) else nI 0) (v)) := by
  have hb := br_logged hR x y
  refine CtW.of (by decide) hst (Nat.le_of_ble_eq_true rfl) ?_
  intro pp ee ss mm args below meth kc A hF htb hnc
  refine V.aload_n hF dL_logged_0 rfl ?_
  refine V.iconst (v := nI 0) hF dL_logged_1 (by decide) ?_
  refine V.aload_n hF dL_logged_2 rfl ?_
  refine V.iload_n hF dL_logged_3 rfl ?_
  refine V.iload_n hF dL_logged_4 rfl ?_
  refine V.callV hF dL_logged_5 (ct_X4_logged hst _ _ _ _ _ hO hG _ hR.1.wc x y) lk_L_70 sl_X4_logged ⟨_, _, rfl, hO.1.1, hO.1.2, (Nat.le_of_ble_eq_true rfl), _, _, rfl⟩ (fit_of rfl) (Nat.le_of_ble_eq_true rfl) (fun E s2 I2 X2 hx => ?_) (fun r s2 I2 X2 hx => ?_) rfl
  · obtain ⟨⟨j, hj, hT⟩, e1, e2, e3⟩ := hx
    rw [e1, e2, e3]
    match j, hj, hT with
    | 0, hj, hT =>
      have hE := Option.some.inj hj
      rw [← hE]
      refine VX.catch hF [] (0, 10, 13, 18) [] htb (fun z hz => absurd hz List.not_mem_nil) (by decide) (by decide) lc_18 cc_IOB (fun q => ?_)
      refine V.astore hF dL_logged_13 (by decide) ?_
      refine V.iconst (v := nI 1) hF dL_logged_15 (by decide) ?_
      refine V.iret hF dL_logged_16 (Nat.le_of_ble_eq_true rfl) (Nat.le_of_ble_eq_true rfl) ?_
      exact ⟨congrArg (fun t => some (Value.int t)) (hT.symm.trans hb.1), C, shJ σ out, by rw [hb.2.2 (by rw [← hb.1, hT]; decide)]; exact hR, (shSetJ_eta _ _).symm, rfl, rfl, fun q => absurd (hT.symm.trans (hb.1.trans q)) (by decide)⟩
    | j + 1, hj, hT => exact absurd hj (by simp)
  · obtain ⟨hT, e0, e1, e2, e3⟩ := hx
    rw [e0, e1, e2, e3]
    obtain ⟨ha, hR2⟩ := hb.2.1 (hb.1.symm.trans hT)
    refine V.i2l hF dL_logged_8 ?_
    refine V.lastore (j := 0) hF dL_logged_9 hm hk rfl (by rw [hn]; exact lt_of rfl) (by rw [hn]; exact lt_of rfl) ?_
    refine V.goto (tgt := 17) hF dL_logged_10 (by decide) ?_
    refine V.iconst (v := nI 0) hF dL_logged_17 (by decide) ?_
    refine V.iret hF dL_logged_18 (Nat.le_of_ble_eq_true rfl) (Nat.le_of_ble_eq_true rfl) ?_
    exact ⟨congrArg (fun t => some (Value.int t)) (hT.symm.trans hb.1), _, _, hR2, rfl, rfl, rfl, fun _ => by rw [upl0, ← ha]⟩
theorem lw_L_position : LkW RL 217 yL_position cL_position 5 (some .int) [(0, 10, 13, 18), (0, 10, 17, 76)] 4 := ⟨gw 771 (by decide +kernel) (by decide +kernel), gw 772 (by decide +kernel) (by decide +kernel), gw 52 (by decide +kernel) (by decide +kernel), gw 773 (by decide +kernel) (by decide +kernel), by decide +kernel⟩
set_option maxRecDepth 20000 in
theorem ct_L_position (hst : l.stackTraces = false) (σ : SH) (I X : IX) (o : Nat) (ad : Nat → Nat) (hO : FS σ o ad) (hG : GS σ ad) (C : IX) (v : Rw) (hR : RG C v) (out : Nat) (hm : out ∈ shL σ) (hk : shK σ out = 13) (hn : shN σ out = 1) (x y : Int32) : CtW l D cy sa sv yL_position cL_position 5 (some .int) [(0, 10, 13, 18), (0, 10, 17, 76)] 8 3 18 [.ref o, .int x, .int y, .ref out] σ (put idI I ad C) (put idX X ad C) (WP σ I X ad out (if zPr x && zMs v y then (if zpl v x.toNatClampNeg y < 0 then nI 2 else nI 0) else nI 1) (if zPr x && zMs v y then (if zpl v x.toNatClampNeg y < 0 then nI 0 else zpl v x.toNatClampNeg y) else nI 0) (v)) := by
  have hb := br_position hR x y
  refine CtW.of (by decide) hst (Nat.le_of_ble_eq_true rfl) ?_
  intro pp ee ss mm args below meth kc A hF htb hnc
  refine V.aload_n hF dL_position_0 rfl ?_
  refine V.iconst (v := nI 0) hF dL_position_1 (by decide) ?_
  refine V.aload_n hF dL_position_2 rfl ?_
  refine V.iload_n hF dL_position_3 rfl ?_
  refine V.iload_n hF dL_position_4 rfl ?_
  refine V.callV hF dL_position_5 (ct_X4_position hst _ _ _ _ _ hO hG _ hR.1.wc x y) lk_L_73 sl_X4_position ⟨_, _, rfl, hO.1.1, hO.1.2, (Nat.le_of_ble_eq_true rfl), _, _, rfl⟩ (fit_of rfl) (Nat.le_of_ble_eq_true rfl) (fun E s2 I2 X2 hx => ?_) (fun r s2 I2 X2 hx => ?_) rfl
  · obtain ⟨⟨j, hj, hT⟩, e1, e2, e3⟩ := hx
    rw [e1, e2, e3]
    match j, hj, hT with
    | 0, hj, hT =>
      have hE := Option.some.inj hj
      rw [← hE]
      refine VX.catch hF [] (0, 10, 13, 18) [(0, 10, 17, 76)] htb (fun z hz => absurd hz List.not_mem_nil) (by decide) (by decide) lc_18 cc_IOB (fun q => ?_)
      refine V.astore hF dL_position_13 (by decide) ?_
      refine V.iconst (v := nI 1) hF dL_position_15 (by decide) ?_
      refine V.iret hF dL_position_16 (Nat.le_of_ble_eq_true rfl) (Nat.le_of_ble_eq_true rfl) ?_
      exact ⟨congrArg (fun t => some (Value.int t)) (hT.symm.trans hb.1), C, shJ σ out, by rw [hb.2.2 (by rw [← hb.1, hT]; decide)]; exact hR, (shSetJ_eta _ _).symm, rfl, rfl, fun q => absurd (hT.symm.trans (hb.1.trans q)) (by decide)⟩
    | 1, hj, hT =>
      have hE := Option.some.inj hj
      rw [← hE]
      refine VX.catch hF [(0, 10, 13, 18)] (0, 10, 17, 76) [] htb (fun z hz => by rw [List.mem_singleton.mp hz]; exact ⟨by decide, _, lc_18, hnc.2.1⟩) (by decide) (by decide) lc_76 cc_NSE (fun q => ?_)
      refine V.astore hF dL_position_17 (by decide) ?_
      refine V.iconst (v := nI 2) hF dL_position_19 (by decide) ?_
      refine V.iret hF dL_position_20 (Nat.le_of_ble_eq_true rfl) (Nat.le_of_ble_eq_true rfl) ?_
      exact ⟨congrArg (fun t => some (Value.int t)) (hT.symm.trans hb.1), C, shJ σ out, by rw [hb.2.2 (by rw [← hb.1, hT]; decide)]; exact hR, (shSetJ_eta _ _).symm, rfl, rfl, fun q => absurd (hT.symm.trans (hb.1.trans q)) (by decide)⟩
    | j + 2, hj, hT => exact absurd hj (by simp)
  · obtain ⟨hT, e0, e1, e2, e3⟩ := hx
    rw [e0, e1, e2, e3]
    obtain ⟨ha, hR2⟩ := hb.2.1 (hb.1.symm.trans hT)
    refine V.i2l hF dL_position_8 ?_
    refine V.lastore (j := 0) hF dL_position_9 hm hk rfl (by rw [hn]; exact lt_of rfl) (by rw [hn]; exact lt_of rfl) ?_
    refine V.goto (tgt := 21) hF dL_position_10 (by decide) ?_
    refine V.iconst (v := nI 0) hF dL_position_21 (by decide) ?_
    refine V.iret hF dL_position_22 (Nat.le_of_ble_eq_true rfl) (Nat.le_of_ble_eq_true rfl) ?_
    exact ⟨congrArg (fun t => some (Value.int t)) (hT.symm.trans hb.1), _, _, hR2, rfl, rfl, rfl, fun _ => by rw [upl0, ← ha]⟩
theorem lw_L_state : LkW RL 220 yL_state cL_state 4 (some .int) [(0, 9, 12, 18)] 3 := ⟨gw 800 (by decide +kernel) (by decide +kernel), gw 801 (by decide +kernel) (by decide +kernel), gw 52 (by decide +kernel) (by decide +kernel), gw 802 (by decide +kernel) (by decide +kernel), by decide +kernel⟩
set_option maxRecDepth 20000 in
theorem ct_L_state (hst : l.stackTraces = false) (σ : SH) (I X : IX) (o : Nat) (ad : Nat → Nat) (hO : FS σ o ad) (hG : GS σ ad) (C : IX) (v : Rw) (hR : RG C v) (out : Nat) (hm : out ∈ shL σ) (hk : shK σ out = 13) (hn : shN σ out = 1) (x : Int32) : CtW l D cy sa sv yL_state cL_state 4 (some .int) [(0, 9, 12, 18)] 8 1 6 [.ref o, .int x, .ref out] σ (put idI I ad C) (put idX X ad C) (WP σ I X ad out (if zPr x then nI 0 else nI 1) (if zPr x then v (4260 + x.toNatClampNeg) else nI 0) (v)) := by
  have hb := br_state hR x
  refine CtW.of (by decide) hst (Nat.le_of_ble_eq_true rfl) ?_
  intro pp ee ss mm args below meth kc A hF htb hnc
  refine V.aload_n hF dL_state_0 rfl ?_
  refine V.iconst (v := nI 0) hF dL_state_1 (by decide) ?_
  refine V.aload_n hF dL_state_2 rfl ?_
  refine V.iload_n hF dL_state_3 rfl ?_
  refine V.callV hF dL_state_4 (ct_X4_state hst _ _ _ _ _ hO hG _ hR.1.wc x) lk_L_78 sl_X4_state ⟨_, _, rfl, hO.1.1, hO.1.2, (Nat.le_of_ble_eq_true rfl), _, _, rfl⟩ (fit_of rfl) (Nat.le_of_ble_eq_true rfl) (fun E s2 I2 X2 hx => ?_) (fun r s2 I2 X2 hx => ?_) rfl
  · obtain ⟨⟨j, hj, hT⟩, e1, e2, e3⟩ := hx
    rw [e1, e2, e3]
    match j, hj, hT with
    | 0, hj, hT =>
      have hE := Option.some.inj hj
      rw [← hE]
      refine VX.catch hF [] (0, 9, 12, 18) [] htb (fun z hz => absurd hz List.not_mem_nil) (by decide) (by decide) lc_18 cc_IOB (fun q => ?_)
      refine V.astore_n hF dL_state_12 (by decide) ?_
      refine V.iconst (v := nI 1) hF dL_state_13 (by decide) ?_
      refine V.iret hF dL_state_14 (Nat.le_of_ble_eq_true rfl) (Nat.le_of_ble_eq_true rfl) ?_
      exact ⟨congrArg (fun t => some (Value.int t)) (hT.symm.trans hb.1), C, shJ σ out, by rw [hb.2.2 (by rw [← hb.1, hT]; decide)]; exact hR, (shSetJ_eta _ _).symm, rfl, rfl, fun q => absurd (hT.symm.trans (hb.1.trans q)) (by decide)⟩
    | j + 1, hj, hT => exact absurd hj (by simp)
  · obtain ⟨hT, e0, e1, e2, e3⟩ := hx
    rw [e0, e1, e2, e3]
    obtain ⟨ha, hR2⟩ := hb.2.1 (hb.1.symm.trans hT)
    refine V.i2l hF dL_state_7 ?_
    refine V.lastore (j := 0) hF dL_state_8 hm hk rfl (by rw [hn]; exact lt_of rfl) (by rw [hn]; exact lt_of rfl) ?_
    refine V.goto (tgt := 15) hF dL_state_9 (by decide) ?_
    refine V.iconst (v := nI 0) hF dL_state_15 (by decide) ?_
    refine V.iret hF dL_state_16 (Nat.le_of_ble_eq_true rfl) (Nat.le_of_ble_eq_true rfl) ?_
    exact ⟨congrArg (fun t => some (Value.int t)) (hT.symm.trans hb.1), _, _, hR2, rfl, rfl, rfl, fun _ => by rw [upl0, ← ha]⟩
theorem lw_L_clock : LkW RL 223 yL_clock cL_clock 5 (some .int) [(0, 10, 13, 18), (0, 10, 17, 26)] 4 := ⟨gw 807 (by decide +kernel) (by decide +kernel), gw 808 (by decide +kernel) (by decide +kernel), gw 52 (by decide +kernel) (by decide +kernel), gw 809 (by decide +kernel) (by decide +kernel), by decide +kernel⟩
set_option maxRecDepth 20000 in
theorem ct_L_clock (hst : l.stackTraces = false) (σ : SH) (I X : IX) (o : Nat) (ad : Nat → Nat) (hO : FS σ o ad) (hG : GS σ ad) (C : IX) (v : Rw) (hR : RG C v) (out : Nat) (hm : out ∈ shL σ) (hk : shK σ out = 13) (hn : shN σ out = 1) (x y : Int32) : CtW l D cy sa sv yL_clock cL_clock 5 (some .int) [(0, 10, 13, 18), (0, 10, 17, 26)] 8 3 18 [.ref o, .int x, .int y, .ref out] σ (put idI I ad C) (put idX X ad C) (WP σ I X ad out (if zPr x && zPr y then (if zisM v x then nI 0 else nI 2) else nI 1) (if zPr x && zPr y && zisM v x then zclk v x.toNatClampNeg y.toNatClampNeg else nI 0) (v)) := by
  have hb := br_clock hR x y
  refine CtW.of (by decide) hst (Nat.le_of_ble_eq_true rfl) ?_
  intro pp ee ss mm args below meth kc A hF htb hnc
  refine V.aload_n hF dL_clock_0 rfl ?_
  refine V.iconst (v := nI 0) hF dL_clock_1 (by decide) ?_
  refine V.aload_n hF dL_clock_2 rfl ?_
  refine V.iload_n hF dL_clock_3 rfl ?_
  refine V.iload_n hF dL_clock_4 rfl ?_
  refine V.callV hF dL_clock_5 (ct_X4_clock hst _ _ _ _ _ hO hG _ hR.1.wc x y) lk_L_81 sl_X4_clock ⟨_, _, rfl, hO.1.1, hO.1.2, (Nat.le_of_ble_eq_true rfl), _, _, rfl⟩ (fit_of rfl) (Nat.le_of_ble_eq_true rfl) (fun E s2 I2 X2 hx => ?_) (fun r s2 I2 X2 hx => ?_) rfl
  · obtain ⟨⟨j, hj, hT⟩, e1, e2, e3⟩ := hx
    rw [e1, e2, e3]
    match j, hj, hT with
    | 0, hj, hT =>
      have hE := Option.some.inj hj
      rw [← hE]
      refine VX.catch hF [] (0, 10, 13, 18) [(0, 10, 17, 26)] htb (fun z hz => absurd hz List.not_mem_nil) (by decide) (by decide) lc_18 cc_IOB (fun q => ?_)
      refine V.astore hF dL_clock_13 (by decide) ?_
      refine V.iconst (v := nI 1) hF dL_clock_15 (by decide) ?_
      refine V.iret hF dL_clock_16 (Nat.le_of_ble_eq_true rfl) (Nat.le_of_ble_eq_true rfl) ?_
      exact ⟨congrArg (fun t => some (Value.int t)) (hT.symm.trans hb.1), C, shJ σ out, by rw [hb.2.2 (by rw [← hb.1, hT]; decide)]; exact hR, (shSetJ_eta _ _).symm, rfl, rfl, fun q => absurd (hT.symm.trans (hb.1.trans q)) (by decide)⟩
    | 1, hj, hT =>
      have hE := Option.some.inj hj
      rw [← hE]
      refine VX.catch hF [(0, 10, 13, 18)] (0, 10, 17, 26) [] htb (fun z hz => by rw [List.mem_singleton.mp hz]; exact ⟨by decide, _, lc_18, hnc.1⟩) (by decide) (by decide) lc_26 cc_ISE (fun q => ?_)
      refine V.astore hF dL_clock_17 (by decide) ?_
      refine V.iconst (v := nI 2) hF dL_clock_19 (by decide) ?_
      refine V.iret hF dL_clock_20 (Nat.le_of_ble_eq_true rfl) (Nat.le_of_ble_eq_true rfl) ?_
      exact ⟨congrArg (fun t => some (Value.int t)) (hT.symm.trans hb.1), C, shJ σ out, by rw [hb.2.2 (by rw [← hb.1, hT]; decide)]; exact hR, (shSetJ_eta _ _).symm, rfl, rfl, fun q => absurd (hT.symm.trans (hb.1.trans q)) (by decide)⟩
    | j + 2, hj, hT => exact absurd hj (by simp)
  · obtain ⟨hT, e0, e1, e2, e3⟩ := hx
    rw [e0, e1, e2, e3]
    obtain ⟨ha, hR2⟩ := hb.2.1 (hb.1.symm.trans hT)
    refine V.i2l hF dL_clock_8 ?_
    refine V.lastore (j := 0) hF dL_clock_9 hm hk rfl (by rw [hn]; exact lt_of rfl) (by rw [hn]; exact lt_of rfl) ?_
    refine V.goto (tgt := 21) hF dL_clock_10 (by decide) ?_
    refine V.iconst (v := nI 0) hF dL_clock_21 (by decide) ?_
    refine V.iret hF dL_clock_22 (Nat.le_of_ble_eq_true rfl) (Nat.le_of_ble_eq_true rfl) ?_
    exact ⟨congrArg (fun t => some (Value.int t)) (hT.symm.trans hb.1), _, _, hR2, rfl, rfl, rfl, fun _ => by rw [upl0, ← ha]⟩
theorem lw_L_buffered : LkW RL 226 yL_buffered cL_buffered 4 (some .int) [(0, 9, 12, 18), (0, 9, 15, 26)] 3 := ⟨gw 815 (by decide +kernel) (by decide +kernel), gw 816 (by decide +kernel) (by decide +kernel), gw 52 (by decide +kernel) (by decide +kernel), gw 817 (by decide +kernel) (by decide +kernel), by decide +kernel⟩
set_option maxRecDepth 20000 in
theorem ct_L_buffered (hst : l.stackTraces = false) (σ : SH) (I X : IX) (o : Nat) (ad : Nat → Nat) (hO : FS σ o ad) (hG : GS σ ad) (C : IX) (v : Rw) (hR : RG C v) (out : Nat) (hm : out ∈ shL σ) (hk : shK σ out = 13) (hn : shN σ out = 1) (x : Int32) : CtW l D cy sa sv yL_buffered cL_buffered 4 (some .int) [(0, 9, 12, 18), (0, 9, 15, 26)] 8 2 12 [.ref o, .int x, .ref out] σ (put idI I ad C) (put idX X ad C) (WP σ I X ad out (if zPr x then (if zisM v x then nI 0 else nI 2) else nI 1) (if zPr x && zisM v x then nI (zcB (zbuf v x.toNatClampNeg) (vN v 44)) else nI 0) (v)) := by
  have hb := br_buffered hR x
  refine CtW.of (by decide) hst (Nat.le_of_ble_eq_true rfl) ?_
  intro pp ee ss mm args below meth kc A hF htb hnc
  refine V.aload_n hF dL_buffered_0 rfl ?_
  refine V.iconst (v := nI 0) hF dL_buffered_1 (by decide) ?_
  refine V.aload_n hF dL_buffered_2 rfl ?_
  refine V.iload_n hF dL_buffered_3 rfl ?_
  refine V.callV hF dL_buffered_4 (ct_X4_buffered hst _ _ _ _ _ hO hG _ hR.1.wc x) lk_L_84 sl_X4_buffered ⟨_, _, rfl, hO.1.1, hO.1.2, (Nat.le_of_ble_eq_true rfl), _, _, rfl⟩ (fit_of rfl) (Nat.le_of_ble_eq_true rfl) (fun E s2 I2 X2 hx => ?_) (fun r s2 I2 X2 hx => ?_) rfl
  · obtain ⟨⟨j, hj, hT⟩, e1, e2, e3⟩ := hx
    rw [e1, e2, e3]
    match j, hj, hT with
    | 0, hj, hT =>
      have hE := Option.some.inj hj
      rw [← hE]
      refine VX.catch hF [] (0, 9, 12, 18) [(0, 9, 15, 26)] htb (fun z hz => absurd hz List.not_mem_nil) (by decide) (by decide) lc_18 cc_IOB (fun q => ?_)
      refine V.astore_n hF dL_buffered_12 (by decide) ?_
      refine V.iconst (v := nI 1) hF dL_buffered_13 (by decide) ?_
      refine V.iret hF dL_buffered_14 (Nat.le_of_ble_eq_true rfl) (Nat.le_of_ble_eq_true rfl) ?_
      exact ⟨congrArg (fun t => some (Value.int t)) (hT.symm.trans hb.1), C, shJ σ out, by rw [hb.2.2 (by rw [← hb.1, hT]; decide)]; exact hR, (shSetJ_eta _ _).symm, rfl, rfl, fun q => absurd (hT.symm.trans (hb.1.trans q)) (by decide)⟩
    | 1, hj, hT =>
      have hE := Option.some.inj hj
      rw [← hE]
      refine VX.catch hF [(0, 9, 12, 18)] (0, 9, 15, 26) [] htb (fun z hz => by rw [List.mem_singleton.mp hz]; exact ⟨by decide, _, lc_18, hnc.1⟩) (by decide) (by decide) lc_26 cc_ISE (fun q => ?_)
      refine V.astore_n hF dL_buffered_15 (by decide) ?_
      refine V.iconst (v := nI 2) hF dL_buffered_16 (by decide) ?_
      refine V.iret hF dL_buffered_17 (Nat.le_of_ble_eq_true rfl) (Nat.le_of_ble_eq_true rfl) ?_
      exact ⟨congrArg (fun t => some (Value.int t)) (hT.symm.trans hb.1), C, shJ σ out, by rw [hb.2.2 (by rw [← hb.1, hT]; decide)]; exact hR, (shSetJ_eta _ _).symm, rfl, rfl, fun q => absurd (hT.symm.trans (hb.1.trans q)) (by decide)⟩
    | j + 2, hj, hT => exact absurd hj (by simp)
  · obtain ⟨hT, e0, e1, e2, e3⟩ := hx
    rw [e0, e1, e2, e3]
    obtain ⟨ha, hR2⟩ := hb.2.1 (hb.1.symm.trans hT)
    refine V.i2l hF dL_buffered_7 ?_
    refine V.lastore (j := 0) hF dL_buffered_8 hm hk rfl (by rw [hn]; exact lt_of rfl) (by rw [hn]; exact lt_of rfl) ?_
    refine V.goto (tgt := 18) hF dL_buffered_9 (by decide) ?_
    refine V.iconst (v := nI 0) hF dL_buffered_18 (by decide) ?_
    refine V.iret hF dL_buffered_19 (Nat.le_of_ble_eq_true rfl) (Nat.le_of_ble_eq_true rfl) ?_
    exact ⟨congrArg (fun t => some (Value.int t)) (hT.symm.trans hb.1), _, _, hR2, rfl, rfl, rfl, fun _ => by rw [upl0, ← ha]⟩
theorem lw_L_bufferedMessage : LkW RL 229 yL_bufferedMessage cL_bufferedMessage 5 (some .int) [(0, 10, 13, 18), (0, 10, 17, 26), (0, 10, 21, 76)] 4 := ⟨gw 826 (by decide +kernel) (by decide +kernel), gw 827 (by decide +kernel) (by decide +kernel), gw 52 (by decide +kernel) (by decide +kernel), gw 828 (by decide +kernel) (by decide +kernel), by decide +kernel⟩
set_option maxRecDepth 20000 in
theorem ct_L_bufferedMessage (hst : l.stackTraces = false) (σ : SH) (I X : IX) (o : Nat) (ad : Nat → Nat) (hO : FS σ o ad) (hG : GS σ ad) (C : IX) (v : Rw) (hR : RG C v) (out : Nat) (hm : out ∈ shL σ) (hk : shK σ out = 13) (hn : shN σ out = 1) (x y : Int32) : CtW l D cy sa sv yL_bufferedMessage cL_bufferedMessage 5 (some .int) [(0, 10, 13, 18), (0, 10, 17, 26), (0, 10, 21, 76)] 8 3 18 [.ref o, .int x, .int y, .ref out] σ (put idI I ad C) (put idX X ad C) (WP σ I X ad out (if zPr x then (if zisM v x then (if zfst (zbmF v x.toNatClampNeg y) (vN v 44) < vN v 44 then nI 0 else nI 3) else nI 2) else nI 1) (if zPr x && zisM v x then (if zfst (zbmF v x.toNatClampNeg y) (vN v 44) < vN v 44 then nI (zfst (zbmF v x.toNatClampNeg y) (vN v 44)) else nI 0) else nI 0) (v)) := by
  have hb := br_bufferedMessage hR x y
  refine CtW.of (by decide) hst (Nat.le_of_ble_eq_true rfl) ?_
  intro pp ee ss mm args below meth kc A hF htb hnc
  refine V.aload_n hF dL_bufferedMessage_0 rfl ?_
  refine V.iconst (v := nI 0) hF dL_bufferedMessage_1 (by decide) ?_
  refine V.aload_n hF dL_bufferedMessage_2 rfl ?_
  refine V.iload_n hF dL_bufferedMessage_3 rfl ?_
  refine V.iload_n hF dL_bufferedMessage_4 rfl ?_
  refine V.callV hF dL_bufferedMessage_5 (ct_X4_bufferedMessage hst _ _ _ _ _ hO hG _ hR.1.wc x y) lk_L_87 sl_X4_bufferedMessage ⟨_, _, rfl, hO.1.1, hO.1.2, (Nat.le_of_ble_eq_true rfl), _, _, rfl⟩ (fit_of rfl) (Nat.le_of_ble_eq_true rfl) (fun E s2 I2 X2 hx => ?_) (fun r s2 I2 X2 hx => ?_) rfl
  · obtain ⟨⟨j, hj, hT⟩, e1, e2, e3⟩ := hx
    rw [e1, e2, e3]
    match j, hj, hT with
    | 0, hj, hT =>
      have hE := Option.some.inj hj
      rw [← hE]
      refine VX.catch hF [] (0, 10, 13, 18) [(0, 10, 17, 26), (0, 10, 21, 76)] htb (fun z hz => absurd hz List.not_mem_nil) (by decide) (by decide) lc_18 cc_IOB (fun q => ?_)
      refine V.astore hF dL_bufferedMessage_13 (by decide) ?_
      refine V.iconst (v := nI 1) hF dL_bufferedMessage_15 (by decide) ?_
      refine V.iret hF dL_bufferedMessage_16 (Nat.le_of_ble_eq_true rfl) (Nat.le_of_ble_eq_true rfl) ?_
      exact ⟨congrArg (fun t => some (Value.int t)) (hT.symm.trans hb.1), C, shJ σ out, by rw [hb.2.2 (by rw [← hb.1, hT]; decide)]; exact hR, (shSetJ_eta _ _).symm, rfl, rfl, fun q => absurd (hT.symm.trans (hb.1.trans q)) (by decide)⟩
    | 1, hj, hT =>
      have hE := Option.some.inj hj
      rw [← hE]
      refine VX.catch hF [(0, 10, 13, 18)] (0, 10, 17, 26) [(0, 10, 21, 76)] htb (fun z hz => by rw [List.mem_singleton.mp hz]; exact ⟨by decide, _, lc_18, hnc.1⟩) (by decide) (by decide) lc_26 cc_ISE (fun q => ?_)
      refine V.astore hF dL_bufferedMessage_17 (by decide) ?_
      refine V.iconst (v := nI 2) hF dL_bufferedMessage_19 (by decide) ?_
      refine V.iret hF dL_bufferedMessage_20 (Nat.le_of_ble_eq_true rfl) (Nat.le_of_ble_eq_true rfl) ?_
      exact ⟨congrArg (fun t => some (Value.int t)) (hT.symm.trans hb.1), C, shJ σ out, by rw [hb.2.2 (by rw [← hb.1, hT]; decide)]; exact hR, (shSetJ_eta _ _).symm, rfl, rfl, fun q => absurd (hT.symm.trans (hb.1.trans q)) (by decide)⟩
    | 2, hj, hT =>
      have hE := Option.some.inj hj
      rw [← hE]
      refine VX.catch hF [(0, 10, 13, 18), (0, 10, 17, 26)] (0, 10, 21, 76) [] htb (fun z hz => by rcases List.mem_cons.mp hz with rfl | hz; exact ⟨by decide, _, lc_18, hnc.2.1⟩; rw [List.mem_singleton.mp hz]; exact ⟨by decide, _, lc_26, hnc.2.2.2.2.1⟩) (by decide) (by decide) lc_76 cc_NSE (fun q => ?_)
      refine V.astore hF dL_bufferedMessage_21 (by decide) ?_
      refine V.iconst (v := nI 3) hF dL_bufferedMessage_23 (by decide) ?_
      refine V.iret hF dL_bufferedMessage_24 (Nat.le_of_ble_eq_true rfl) (Nat.le_of_ble_eq_true rfl) ?_
      exact ⟨congrArg (fun t => some (Value.int t)) (hT.symm.trans hb.1), C, shJ σ out, by rw [hb.2.2 (by rw [← hb.1, hT]; decide)]; exact hR, (shSetJ_eta _ _).symm, rfl, rfl, fun q => absurd (hT.symm.trans (hb.1.trans q)) (by decide)⟩
    | j + 3, hj, hT => exact absurd hj (by simp)
  · obtain ⟨hT, e0, e1, e2, e3⟩ := hx
    rw [e0, e1, e2, e3]
    obtain ⟨ha, hR2⟩ := hb.2.1 (hb.1.symm.trans hT)
    refine V.i2l hF dL_bufferedMessage_8 ?_
    refine V.lastore (j := 0) hF dL_bufferedMessage_9 hm hk rfl (by rw [hn]; exact lt_of rfl) (by rw [hn]; exact lt_of rfl) ?_
    refine V.goto (tgt := 25) hF dL_bufferedMessage_10 (by decide) ?_
    refine V.iconst (v := nI 0) hF dL_bufferedMessage_25 (by decide) ?_
    refine V.iret hF dL_bufferedMessage_26 (Nat.le_of_ble_eq_true rfl) (Nat.le_of_ble_eq_true rfl) ?_
    exact ⟨congrArg (fun t => some (Value.int t)) (hT.symm.trans hb.1), _, _, hR2, rfl, rfl, rfl, fun _ => by rw [upl0, ← ha]⟩
theorem lw_L_missing : LkW RL 232 yL_missing cL_missing 5 (some .int) [(0, 10, 13, 18), (0, 10, 17, 26)] 4 := ⟨gw 838 (by decide +kernel) (by decide +kernel), gw 839 (by decide +kernel) (by decide +kernel), gw 52 (by decide +kernel) (by decide +kernel), gw 840 (by decide +kernel) (by decide +kernel), by decide +kernel⟩
set_option maxRecDepth 20000 in
theorem ct_L_missing (hst : l.stackTraces = false) (σ : SH) (I X : IX) (o : Nat) (ad : Nat → Nat) (hO : FS σ o ad) (hG : GS σ ad) (C : IX) (v : Rw) (hR : RG C v) (out : Nat) (hm : out ∈ shL σ) (hk : shK σ out = 13) (hn : shN σ out = 1) (x y : Int32) : CtW l D cy sa sv yL_missing cL_missing 5 (some .int) [(0, 10, 13, 18), (0, 10, 17, 26)] 8 3 18 [.ref o, .int x, .int y, .ref out] σ (put idI I ad C) (put idX X ad C) (WP σ I X ad out (zaT v x y) (if zaT v x y = nI 0 then nI (zcB (zmis v x.toNatClampNeg y.toNatClampNeg) (vN v 44)) else nI 0) (v)) := by
  have hb := br_missing hR x y
  refine CtW.of (by decide) hst (Nat.le_of_ble_eq_true rfl) ?_
  intro pp ee ss mm args below meth kc A hF htb hnc
  refine V.aload_n hF dL_missing_0 rfl ?_
  refine V.iconst (v := nI 0) hF dL_missing_1 (by decide) ?_
  refine V.aload_n hF dL_missing_2 rfl ?_
  refine V.iload_n hF dL_missing_3 rfl ?_
  refine V.iload_n hF dL_missing_4 rfl ?_
  refine V.callV hF dL_missing_5 (ct_X4_missing hst _ _ _ _ _ hO hG _ hR.1.wc x y) lk_L_90 sl_X4_missing ⟨_, _, rfl, hO.1.1, hO.1.2, (Nat.le_of_ble_eq_true rfl), _, _, rfl⟩ (fit_of rfl) (Nat.le_of_ble_eq_true rfl) (fun E s2 I2 X2 hx => ?_) (fun r s2 I2 X2 hx => ?_) rfl
  · obtain ⟨⟨j, hj, hT⟩, e1, e2, e3⟩ := hx
    rw [e1, e2, e3]
    match j, hj, hT with
    | 0, hj, hT =>
      have hE := Option.some.inj hj
      rw [← hE]
      refine VX.catch hF [] (0, 10, 13, 18) [(0, 10, 17, 26)] htb (fun z hz => absurd hz List.not_mem_nil) (by decide) (by decide) lc_18 cc_IOB (fun q => ?_)
      refine V.astore hF dL_missing_13 (by decide) ?_
      refine V.iconst (v := nI 1) hF dL_missing_15 (by decide) ?_
      refine V.iret hF dL_missing_16 (Nat.le_of_ble_eq_true rfl) (Nat.le_of_ble_eq_true rfl) ?_
      exact ⟨congrArg (fun t => some (Value.int t)) (hT.symm.trans hb.1), C, shJ σ out, by rw [hb.2.2 (by rw [← hb.1, hT]; decide)]; exact hR, (shSetJ_eta _ _).symm, rfl, rfl, fun q => absurd (hT.symm.trans (hb.1.trans q)) (by decide)⟩
    | 1, hj, hT =>
      have hE := Option.some.inj hj
      rw [← hE]
      refine VX.catch hF [(0, 10, 13, 18)] (0, 10, 17, 26) [] htb (fun z hz => by rw [List.mem_singleton.mp hz]; exact ⟨by decide, _, lc_18, hnc.1⟩) (by decide) (by decide) lc_26 cc_ISE (fun q => ?_)
      refine V.astore hF dL_missing_17 (by decide) ?_
      refine V.iconst (v := nI 2) hF dL_missing_19 (by decide) ?_
      refine V.iret hF dL_missing_20 (Nat.le_of_ble_eq_true rfl) (Nat.le_of_ble_eq_true rfl) ?_
      exact ⟨congrArg (fun t => some (Value.int t)) (hT.symm.trans hb.1), C, shJ σ out, by rw [hb.2.2 (by rw [← hb.1, hT]; decide)]; exact hR, (shSetJ_eta _ _).symm, rfl, rfl, fun q => absurd (hT.symm.trans (hb.1.trans q)) (by decide)⟩
    | j + 2, hj, hT => exact absurd hj (by simp)
  · obtain ⟨hT, e0, e1, e2, e3⟩ := hx
    rw [e0, e1, e2, e3]
    obtain ⟨ha, hR2⟩ := hb.2.1 (hb.1.symm.trans hT)
    refine V.i2l hF dL_missing_8 ?_
    refine V.lastore (j := 0) hF dL_missing_9 hm hk rfl (by rw [hn]; exact lt_of rfl) (by rw [hn]; exact lt_of rfl) ?_
    refine V.goto (tgt := 21) hF dL_missing_10 (by decide) ?_
    refine V.iconst (v := nI 0) hF dL_missing_21 (by decide) ?_
    refine V.iret hF dL_missing_22 (Nat.le_of_ble_eq_true rfl) (Nat.le_of_ble_eq_true rfl) ?_
    exact ⟨congrArg (fun t => some (Value.int t)) (hT.symm.trans hb.1), _, _, hR2, rfl, rfl, rfl, fun _ => by rw [upl0, ← ha]⟩
theorem lw_L_inTransit : LkW RL 235 yL_inTransit cL_inTransit 4 (some .int) [(0, 9, 12, 18), (0, 9, 15, 26)] 3 := ⟨gw 850 (by decide +kernel) (by decide +kernel), gw 851 (by decide +kernel) (by decide +kernel), gw 52 (by decide +kernel) (by decide +kernel), gw 852 (by decide +kernel) (by decide +kernel), by decide +kernel⟩
set_option maxRecDepth 20000 in
theorem ct_L_inTransit (hst : l.stackTraces = false) (σ : SH) (I X : IX) (o : Nat) (ad : Nat → Nat) (hO : FS σ o ad) (hG : GS σ ad) (C : IX) (v : Rw) (hR : RG C v) (out : Nat) (hm : out ∈ shL σ) (hk : shK σ out = 13) (hn : shN σ out = 1) (x : Int32) : CtW l D cy sa sv yL_inTransit cL_inTransit 4 (some .int) [(0, 9, 12, 18), (0, 9, 15, 26)] 8 2 12 [.ref o, .int x, .ref out] σ (put idI I ad C) (put idX X ad C) (WP σ I X ad out (if zPr x then (if zisM v x then nI 0 else nI 2) else nI 1) (if zPr x && zisM v x then nI (zcB (zotw v x.toNatClampNeg) (vN v 44)) else nI 0) (v)) := by
  have hb := br_inTransit hR x
  refine CtW.of (by decide) hst (Nat.le_of_ble_eq_true rfl) ?_
  intro pp ee ss mm args below meth kc A hF htb hnc
  refine V.aload_n hF dL_inTransit_0 rfl ?_
  refine V.iconst (v := nI 0) hF dL_inTransit_1 (by decide) ?_
  refine V.aload_n hF dL_inTransit_2 rfl ?_
  refine V.iload_n hF dL_inTransit_3 rfl ?_
  refine V.callV hF dL_inTransit_4 (ct_X4_inTransit hst _ _ _ _ _ hO hG _ hR.1.wc x) lk_L_93 sl_X4_inTransit ⟨_, _, rfl, hO.1.1, hO.1.2, (Nat.le_of_ble_eq_true rfl), _, _, rfl⟩ (fit_of rfl) (Nat.le_of_ble_eq_true rfl) (fun E s2 I2 X2 hx => ?_) (fun r s2 I2 X2 hx => ?_) rfl
  · obtain ⟨⟨j, hj, hT⟩, e1, e2, e3⟩ := hx
    rw [e1, e2, e3]
    match j, hj, hT with
    | 0, hj, hT =>
      have hE := Option.some.inj hj
      rw [← hE]
      refine VX.catch hF [] (0, 9, 12, 18) [(0, 9, 15, 26)] htb (fun z hz => absurd hz List.not_mem_nil) (by decide) (by decide) lc_18 cc_IOB (fun q => ?_)
      refine V.astore_n hF dL_inTransit_12 (by decide) ?_
      refine V.iconst (v := nI 1) hF dL_inTransit_13 (by decide) ?_
      refine V.iret hF dL_inTransit_14 (Nat.le_of_ble_eq_true rfl) (Nat.le_of_ble_eq_true rfl) ?_
      exact ⟨congrArg (fun t => some (Value.int t)) (hT.symm.trans hb.1), C, shJ σ out, by rw [hb.2.2 (by rw [← hb.1, hT]; decide)]; exact hR, (shSetJ_eta _ _).symm, rfl, rfl, fun q => absurd (hT.symm.trans (hb.1.trans q)) (by decide)⟩
    | 1, hj, hT =>
      have hE := Option.some.inj hj
      rw [← hE]
      refine VX.catch hF [(0, 9, 12, 18)] (0, 9, 15, 26) [] htb (fun z hz => by rw [List.mem_singleton.mp hz]; exact ⟨by decide, _, lc_18, hnc.1⟩) (by decide) (by decide) lc_26 cc_ISE (fun q => ?_)
      refine V.astore_n hF dL_inTransit_15 (by decide) ?_
      refine V.iconst (v := nI 2) hF dL_inTransit_16 (by decide) ?_
      refine V.iret hF dL_inTransit_17 (Nat.le_of_ble_eq_true rfl) (Nat.le_of_ble_eq_true rfl) ?_
      exact ⟨congrArg (fun t => some (Value.int t)) (hT.symm.trans hb.1), C, shJ σ out, by rw [hb.2.2 (by rw [← hb.1, hT]; decide)]; exact hR, (shSetJ_eta _ _).symm, rfl, rfl, fun q => absurd (hT.symm.trans (hb.1.trans q)) (by decide)⟩
    | j + 2, hj, hT => exact absurd hj (by simp)
  · obtain ⟨hT, e0, e1, e2, e3⟩ := hx
    rw [e0, e1, e2, e3]
    obtain ⟨ha, hR2⟩ := hb.2.1 (hb.1.symm.trans hT)
    refine V.i2l hF dL_inTransit_7 ?_
    refine V.lastore (j := 0) hF dL_inTransit_8 hm hk rfl (by rw [hn]; exact lt_of rfl) (by rw [hn]; exact lt_of rfl) ?_
    refine V.goto (tgt := 18) hF dL_inTransit_9 (by decide) ?_
    refine V.iconst (v := nI 0) hF dL_inTransit_18 (by decide) ?_
    refine V.iret hF dL_inTransit_19 (Nat.le_of_ble_eq_true rfl) (Nat.le_of_ble_eq_true rfl) ?_
    exact ⟨congrArg (fun t => some (Value.int t)) (hT.symm.trans hb.1), _, _, hR2, rfl, rfl, rfl, fun _ => by rw [upl0, ← ha]⟩
theorem lw_L_disagreements : LkW RL 238 yL_disagreements cL_disagreements 5 (some .int) [(0, 10, 13, 18)] 4 := ⟨gw 857 (by decide +kernel) (by decide +kernel), gw 858 (by decide +kernel) (by decide +kernel), gw 52 (by decide +kernel) (by decide +kernel), gw 859 (by decide +kernel) (by decide +kernel), by decide +kernel⟩
set_option maxRecDepth 20000 in
theorem ct_L_disagreements (hst : l.stackTraces = false) (σ : SH) (I X : IX) (o : Nat) (ad : Nat → Nat) (hO : FS σ o ad) (hG : GS σ ad) (C : IX) (v : Rw) (hR : RG C v) (out : Nat) (hm : out ∈ shL σ) (hk : shK σ out = 13) (hn : shN σ out = 1) (x y : Int32) : CtW l D cy sa sv yL_disagreements cL_disagreements 5 (some .int) [(0, 10, 13, 18)] 8 2 12 [.ref o, .int x, .int y, .ref out] σ (put idI I ad C) (put idX X ad C) (WP σ I X ad out (if zPr x && zPr y then nI 0 else nI 1) (if zPr x && zPr y then nI (zdgO v x.toNatClampNeg y.toNatClampNeg (vN v (1550 + x.toNatClampNeg))) else nI 0) (v)) := by
  have hb := br_disagreements hR x y
  refine CtW.of (by decide) hst (Nat.le_of_ble_eq_true rfl) ?_
  intro pp ee ss mm args below meth kc A hF htb hnc
  refine V.aload_n hF dL_disagreements_0 rfl ?_
  refine V.iconst (v := nI 0) hF dL_disagreements_1 (by decide) ?_
  refine V.aload_n hF dL_disagreements_2 rfl ?_
  refine V.iload_n hF dL_disagreements_3 rfl ?_
  refine V.iload_n hF dL_disagreements_4 rfl ?_
  refine V.callV hF dL_disagreements_5 (ct_X4_disagreements hst _ _ _ _ _ hO hG _ hR.1.wc x y) lk_L_96 sl_X4_disagreements ⟨_, _, rfl, hO.1.1, hO.1.2, (Nat.le_of_ble_eq_true rfl), _, _, rfl⟩ (fit_of rfl) (Nat.le_of_ble_eq_true rfl) (fun E s2 I2 X2 hx => ?_) (fun r s2 I2 X2 hx => ?_) rfl
  · obtain ⟨⟨j, hj, hT⟩, e1, e2, e3⟩ := hx
    rw [e1, e2, e3]
    match j, hj, hT with
    | 0, hj, hT =>
      have hE := Option.some.inj hj
      rw [← hE]
      refine VX.catch hF [] (0, 10, 13, 18) [] htb (fun z hz => absurd hz List.not_mem_nil) (by decide) (by decide) lc_18 cc_IOB (fun q => ?_)
      refine V.astore hF dL_disagreements_13 (by decide) ?_
      refine V.iconst (v := nI 1) hF dL_disagreements_15 (by decide) ?_
      refine V.iret hF dL_disagreements_16 (Nat.le_of_ble_eq_true rfl) (Nat.le_of_ble_eq_true rfl) ?_
      exact ⟨congrArg (fun t => some (Value.int t)) (hT.symm.trans hb.1), C, shJ σ out, by rw [hb.2.2 (by rw [← hb.1, hT]; decide)]; exact hR, (shSetJ_eta _ _).symm, rfl, rfl, fun q => absurd (hT.symm.trans (hb.1.trans q)) (by decide)⟩
    | j + 1, hj, hT => exact absurd hj (by simp)
  · obtain ⟨hT, e0, e1, e2, e3⟩ := hx
    rw [e0, e1, e2, e3]
    obtain ⟨ha, hR2⟩ := hb.2.1 (hb.1.symm.trans hT)
    refine V.i2l hF dL_disagreements_8 ?_
    refine V.lastore (j := 0) hF dL_disagreements_9 hm hk rfl (by rw [hn]; exact lt_of rfl) (by rw [hn]; exact lt_of rfl) ?_
    refine V.goto (tgt := 17) hF dL_disagreements_10 (by decide) ?_
    refine V.iconst (v := nI 0) hF dL_disagreements_17 (by decide) ?_
    refine V.iret hF dL_disagreements_18 (Nat.le_of_ble_eq_true rfl) (Nat.le_of_ble_eq_true rfl) ?_
    exact ⟨congrArg (fun t => some (Value.int t)) (hT.symm.trans hb.1), _, _, hR2, rfl, rfl, rfl, fun _ => by rw [upl0, ← ha]⟩
theorem lw_L_known : LkW RL 245 yL_known cL_known 6 (some .int) [(0, 12, 15, 18), (0, 12, 19, 26)] 5 := ⟨gw 900 (by decide +kernel) (by decide +kernel), gw 901 (by decide +kernel) (by decide +kernel), gw 52 (by decide +kernel) (by decide +kernel), gw 902 (by decide +kernel) (by decide +kernel), by decide +kernel⟩
set_option maxRecDepth 20000 in
theorem ct_L_known (hst : l.stackTraces = false) (σ : SH) (I X : IX) (o : Nat) (ad : Nat → Nat) (hO : FS σ o ad) (hG : GS σ ad) (C : IX) (v : Rw) (hR : RG C v) (out : Nat) (hm : out ∈ shL σ) (hk : shK σ out = 13) (hn : shN σ out = 1) (x y z : Int32) : CtW l D cy sa sv yL_known cL_known 6 (some .int) [(0, 12, 15, 18), (0, 12, 19, 26)] 8 4 24 [.ref o, .int x, .int y, .int z, .ref out] σ (put idI I ad C) (put idX X ad C) (WP σ I X ad out (if zPr x && zPr y && zPr z then (if zisM v x then nI 0 else nI 2) else nI 1) (if zPr x && zPr y && zPr z && zisM v x then v (4270 + 36 * x.toNatClampNeg + 6 * y.toNatClampNeg + z.toNatClampNeg) else nI 0) (v)) := by
  have hb := br_known hR x y z
  refine CtW.of (by decide) hst (Nat.le_of_ble_eq_true rfl) ?_
  intro pp ee ss mm args below meth kc A hF htb hnc
  refine V.aload hF dL_known_0 rfl ?_
  refine V.iconst (v := nI 0) hF dL_known_2 (by decide) ?_
  refine V.aload_n hF dL_known_3 rfl ?_
  refine V.iload_n hF dL_known_4 rfl ?_
  refine V.iload_n hF dL_known_5 rfl ?_
  refine V.iload_n hF dL_known_6 rfl ?_
  refine V.callV hF dL_known_7 (ct_X4_known hst _ _ _ _ _ hO hG _ hR.1.wc x y z) lk_L_105 sl_X4_known ⟨_, _, rfl, hO.1.1, hO.1.2, (Nat.le_of_ble_eq_true rfl), _, _, rfl⟩ (fit_of rfl) (Nat.le_of_ble_eq_true rfl) (fun E s2 I2 X2 hx => ?_) (fun r s2 I2 X2 hx => ?_) rfl
  · obtain ⟨⟨j, hj, hT⟩, e1, e2, e3⟩ := hx
    rw [e1, e2, e3]
    match j, hj, hT with
    | 0, hj, hT =>
      have hE := Option.some.inj hj
      rw [← hE]
      refine VX.catch hF [] (0, 12, 15, 18) [(0, 12, 19, 26)] htb (fun z hz => absurd hz List.not_mem_nil) (by decide) (by decide) lc_18 cc_IOB (fun q => ?_)
      refine V.astore hF dL_known_15 (by decide) ?_
      refine V.iconst (v := nI 1) hF dL_known_17 (by decide) ?_
      refine V.iret hF dL_known_18 (Nat.le_of_ble_eq_true rfl) (Nat.le_of_ble_eq_true rfl) ?_
      exact ⟨congrArg (fun t => some (Value.int t)) (hT.symm.trans hb.1), C, shJ σ out, by rw [hb.2.2 (by rw [← hb.1, hT]; decide)]; exact hR, (shSetJ_eta _ _).symm, rfl, rfl, fun q => absurd (hT.symm.trans (hb.1.trans q)) (by decide)⟩
    | 1, hj, hT =>
      have hE := Option.some.inj hj
      rw [← hE]
      refine VX.catch hF [(0, 12, 15, 18)] (0, 12, 19, 26) [] htb (fun z hz => by rw [List.mem_singleton.mp hz]; exact ⟨by decide, _, lc_18, hnc.1⟩) (by decide) (by decide) lc_26 cc_ISE (fun q => ?_)
      refine V.astore hF dL_known_19 (by decide) ?_
      refine V.iconst (v := nI 2) hF dL_known_21 (by decide) ?_
      refine V.iret hF dL_known_22 (Nat.le_of_ble_eq_true rfl) (Nat.le_of_ble_eq_true rfl) ?_
      exact ⟨congrArg (fun t => some (Value.int t)) (hT.symm.trans hb.1), C, shJ σ out, by rw [hb.2.2 (by rw [← hb.1, hT]; decide)]; exact hR, (shSetJ_eta _ _).symm, rfl, rfl, fun q => absurd (hT.symm.trans (hb.1.trans q)) (by decide)⟩
    | j + 2, hj, hT => exact absurd hj (by simp)
  · obtain ⟨hT, e0, e1, e2, e3⟩ := hx
    rw [e0, e1, e2, e3]
    obtain ⟨ha, hR2⟩ := hb.2.1 (hb.1.symm.trans hT)
    refine V.i2l hF dL_known_10 ?_
    refine V.lastore (j := 0) hF dL_known_11 hm hk rfl (by rw [hn]; exact lt_of rfl) (by rw [hn]; exact lt_of rfl) ?_
    refine V.goto (tgt := 23) hF dL_known_12 (by decide) ?_
    refine V.iconst (v := nI 0) hF dL_known_23 (by decide) ?_
    refine V.iret hF dL_known_24 (Nat.le_of_ble_eq_true rfl) (Nat.le_of_ble_eq_true rfl) ?_
    exact ⟨congrArg (fun t => some (Value.int t)) (hT.symm.trans hb.1), _, _, hR2, rfl, rfl, rfl, fun _ => by rw [upl0, ← ha]⟩
theorem lw_L_isStable : LkW RL 249 yL_isStable cL_isStable 5 (some .int) [(0, 17, 20, 18), (0, 17, 24, 26), (0, 17, 28, 76)] 4 := ⟨gw 908 (by decide +kernel) (by decide +kernel), gw 909 (by decide +kernel) (by decide +kernel), gw 52 (by decide +kernel) (by decide +kernel), gw 910 (by decide +kernel) (by decide +kernel), by decide +kernel⟩
set_option maxRecDepth 20000 in
theorem ct_L_isStable (hst : l.stackTraces = false) (σ : SH) (I X : IX) (o : Nat) (ad : Nat → Nat) (hO : FS σ o ad) (hG : GS σ ad) (C : IX) (v : Rw) (hR : RG C v) (out : Nat) (hm : out ∈ shL σ) (hk : shK σ out = 13) (hn : shN σ out = 1) (x y : Int32) : CtW l D cy sa sv yL_isStable cL_isStable 5 (some .int) [(0, 17, 20, 18), (0, 17, 24, 26), (0, 17, 28, 76)] 8 4 24 [.ref o, .int x, .int y, .ref out] σ (put idI I ad C) (put idX X ad C) (WP σ I X ad out (if zPr x && zMs v y then (if zisM v x then (if zlog v x.toNatClampNeg y.toNatClampNeg then nI 0 else nI 3) else nI 2) else nI 1) (bI (decide ((if zPr x && zMs v y then (if zisM v x then (if zlog v x.toNatClampNeg y.toNatClampNeg then nI 0 else nI 3) else nI 2) else nI 1) = nI 0) && zsafe v x.toNatClampNeg y.toNatClampNeg)) (v)) := by
  have hb := br_isStable hR x y
  refine CtW.of (by decide) hst (Nat.le_of_ble_eq_true rfl) ?_
  intro pp ee ss mm args below meth kc A hF htb hnc
  refine V.aload_n hF dL_isStable_0 rfl ?_
  refine V.iconst (v := nI 0) hF dL_isStable_1 (by decide) ?_
  refine V.aload_n hF dL_isStable_2 rfl ?_
  refine V.iload_n hF dL_isStable_3 rfl ?_
  refine V.iload_n hF dL_isStable_4 rfl ?_
  refine V.callV hF dL_isStable_5 (ct_X4_isStable hst _ _ _ _ _ hO hG _ hR.1.wc x y) lk_L_109 sl_X4_isStable ⟨_, _, rfl, hO.1.1, hO.1.2, (Nat.le_of_ble_eq_true rfl), _, _, rfl⟩ (fit_of rfl) (Nat.le_of_ble_eq_true rfl) (fun E s2 I2 X2 hx => ?_) (fun r s2 I2 X2 hx => ?_) rfl
  · obtain ⟨⟨j, hj, hT⟩, e1, e2, e3⟩ := hx
    rw [e1, e2, e3]
    match j, hj, hT with
    | 0, hj, hT =>
      have hE := Option.some.inj hj
      rw [← hE]
      refine VX.catch hF [] (0, 17, 20, 18) [(0, 17, 24, 26), (0, 17, 28, 76)] htb (fun z hz => absurd hz List.not_mem_nil) (by decide) (by decide) lc_18 cc_IOB (fun q => ?_)
      refine V.astore hF dL_isStable_20 (by decide) ?_
      refine V.iconst (v := nI 1) hF dL_isStable_22 (by decide) ?_
      refine V.iret hF dL_isStable_23 (Nat.le_of_ble_eq_true rfl) (Nat.le_of_ble_eq_true rfl) ?_
      exact ⟨congrArg (fun t => some (Value.int t)) (hT.symm.trans hb.1), C, shJ σ out, by rw [hb.2.2 (by rw [← hb.1, hT]; decide)]; exact hR, (shSetJ_eta _ _).symm, rfl, rfl, fun q => absurd (hT.symm.trans (hb.1.trans q)) (by decide)⟩
    | 1, hj, hT =>
      have hE := Option.some.inj hj
      rw [← hE]
      refine VX.catch hF [(0, 17, 20, 18)] (0, 17, 24, 26) [(0, 17, 28, 76)] htb (fun z hz => by rw [List.mem_singleton.mp hz]; exact ⟨by decide, _, lc_18, hnc.1⟩) (by decide) (by decide) lc_26 cc_ISE (fun q => ?_)
      refine V.astore hF dL_isStable_24 (by decide) ?_
      refine V.iconst (v := nI 2) hF dL_isStable_26 (by decide) ?_
      refine V.iret hF dL_isStable_27 (Nat.le_of_ble_eq_true rfl) (Nat.le_of_ble_eq_true rfl) ?_
      exact ⟨congrArg (fun t => some (Value.int t)) (hT.symm.trans hb.1), C, shJ σ out, by rw [hb.2.2 (by rw [← hb.1, hT]; decide)]; exact hR, (shSetJ_eta _ _).symm, rfl, rfl, fun q => absurd (hT.symm.trans (hb.1.trans q)) (by decide)⟩
    | 2, hj, hT =>
      have hE := Option.some.inj hj
      rw [← hE]
      refine VX.catch hF [(0, 17, 20, 18), (0, 17, 24, 26)] (0, 17, 28, 76) [] htb (fun z hz => by rcases List.mem_cons.mp hz with rfl | hz; exact ⟨by decide, _, lc_18, hnc.2.1⟩; rw [List.mem_singleton.mp hz]; exact ⟨by decide, _, lc_26, hnc.2.2.2.2.1⟩) (by decide) (by decide) lc_76 cc_NSE (fun q => ?_)
      refine V.astore hF dL_isStable_28 (by decide) ?_
      refine V.iconst (v := nI 3) hF dL_isStable_30 (by decide) ?_
      refine V.iret hF dL_isStable_31 (Nat.le_of_ble_eq_true rfl) (Nat.le_of_ble_eq_true rfl) ?_
      exact ⟨congrArg (fun t => some (Value.int t)) (hT.symm.trans hb.1), C, shJ σ out, by rw [hb.2.2 (by rw [← hb.1, hT]; decide)]; exact hR, (shSetJ_eta _ _).symm, rfl, rfl, fun q => absurd (hT.symm.trans (hb.1.trans q)) (by decide)⟩
    | j + 3, hj, hT => exact absurd hj (by simp)
  · obtain ⟨hT, e0, e1, e2, e3⟩ := hx
    rw [e0, e1, e2, e3]
    obtain ⟨ha, hR2⟩ := hb.2.1 (hb.1.symm.trans hT)
    refine V.if_eqB (tgt := 15) hF dL_isStable_8 (by decide) (fun hbb => ?_) (fun hbb => ?_)
    · refine V.lconst (v := 0) hF dL_isStable_15 rfl ?_
      refine V.lastore (j := 0) hF dL_isStable_16 hm hk rfl (by rw [hn]; exact lt_of rfl) (by rw [hn]; exact lt_of rfl) ?_
      refine V.goto (tgt := 32) hF dL_isStable_17 (by decide) ?_
      refine V.iconst (v := nI 0) hF dL_isStable_32 (by decide) ?_
      refine V.iret hF dL_isStable_33 (Nat.le_of_ble_eq_true rfl) (Nat.le_of_ble_eq_true rfl) ?_
      exact ⟨congrArg (fun t => some (Value.int t)) (hT.symm.trans hb.1), _, _, hR2, rfl, rfl, rfl, fun _ => by rw [upl0, ← ha, hbb]; rfl⟩
    · refine V.lconst (v := 1) hF dL_isStable_11 rfl ?_
      refine V.goto (tgt := 16) hF dL_isStable_12 (by decide) ?_
      refine V.lastore (j := 0) hF dL_isStable_16 hm hk rfl (by rw [hn]; exact lt_of rfl) (by rw [hn]; exact lt_of rfl) ?_
      refine V.goto (tgt := 32) hF dL_isStable_17 (by decide) ?_
      refine V.iconst (v := nI 0) hF dL_isStable_32 (by decide) ?_
      refine V.iret hF dL_isStable_33 (Nat.le_of_ble_eq_true rfl) (Nat.le_of_ble_eq_true rfl) ?_
      exact ⟨congrArg (fun t => some (Value.int t)) (hT.symm.trans hb.1), _, _, hR2, rfl, rfl, rfl, fun _ => by rw [upl0, ← ha, hbb]; rfl⟩
theorem lw_L_unstable : LkW RL 252 yL_unstable cL_unstable 4 (some .int) [(0, 9, 12, 18), (0, 9, 15, 26)] 3 := ⟨gw 920 (by decide +kernel) (by decide +kernel), gw 921 (by decide +kernel) (by decide +kernel), gw 52 (by decide +kernel) (by decide +kernel), gw 922 (by decide +kernel) (by decide +kernel), by decide +kernel⟩
set_option maxRecDepth 20000 in
theorem ct_L_unstable (hst : l.stackTraces = false) (σ : SH) (I X : IX) (o : Nat) (ad : Nat → Nat) (hO : FS σ o ad) (hG : GS σ ad) (C : IX) (v : Rw) (hR : RG C v) (out : Nat) (hm : out ∈ shL σ) (hk : shK σ out = 13) (hn : shN σ out = 1) (x : Int32) : CtW l D cy sa sv yL_unstable cL_unstable 4 (some .int) [(0, 9, 12, 18), (0, 9, 15, 26)] 8 2 12 [.ref o, .int x, .ref out] σ (put idI I ad C) (put idX X ad C) (WP σ I X ad out (if zPr x then (if zisM v x then nI 0 else nI 2) else nI 1) (if zPr x && zisM v x then nI (zcB (zuns v x.toNatClampNeg) (vN v 44)) else nI 0) (v)) := by
  have hb := br_unstable hR x
  refine CtW.of (by decide) hst (Nat.le_of_ble_eq_true rfl) ?_
  intro pp ee ss mm args below meth kc A hF htb hnc
  refine V.aload_n hF dL_unstable_0 rfl ?_
  refine V.iconst (v := nI 0) hF dL_unstable_1 (by decide) ?_
  refine V.aload_n hF dL_unstable_2 rfl ?_
  refine V.iload_n hF dL_unstable_3 rfl ?_
  refine V.callV hF dL_unstable_4 (ct_X4_unstable hst _ _ _ _ _ hO hG _ hR.1.wc x) lk_L_112 sl_X4_unstable ⟨_, _, rfl, hO.1.1, hO.1.2, (Nat.le_of_ble_eq_true rfl), _, _, rfl⟩ (fit_of rfl) (Nat.le_of_ble_eq_true rfl) (fun E s2 I2 X2 hx => ?_) (fun r s2 I2 X2 hx => ?_) rfl
  · obtain ⟨⟨j, hj, hT⟩, e1, e2, e3⟩ := hx
    rw [e1, e2, e3]
    match j, hj, hT with
    | 0, hj, hT =>
      have hE := Option.some.inj hj
      rw [← hE]
      refine VX.catch hF [] (0, 9, 12, 18) [(0, 9, 15, 26)] htb (fun z hz => absurd hz List.not_mem_nil) (by decide) (by decide) lc_18 cc_IOB (fun q => ?_)
      refine V.astore_n hF dL_unstable_12 (by decide) ?_
      refine V.iconst (v := nI 1) hF dL_unstable_13 (by decide) ?_
      refine V.iret hF dL_unstable_14 (Nat.le_of_ble_eq_true rfl) (Nat.le_of_ble_eq_true rfl) ?_
      exact ⟨congrArg (fun t => some (Value.int t)) (hT.symm.trans hb.1), C, shJ σ out, by rw [hb.2.2 (by rw [← hb.1, hT]; decide)]; exact hR, (shSetJ_eta _ _).symm, rfl, rfl, fun q => absurd (hT.symm.trans (hb.1.trans q)) (by decide)⟩
    | 1, hj, hT =>
      have hE := Option.some.inj hj
      rw [← hE]
      refine VX.catch hF [(0, 9, 12, 18)] (0, 9, 15, 26) [] htb (fun z hz => by rw [List.mem_singleton.mp hz]; exact ⟨by decide, _, lc_18, hnc.1⟩) (by decide) (by decide) lc_26 cc_ISE (fun q => ?_)
      refine V.astore_n hF dL_unstable_15 (by decide) ?_
      refine V.iconst (v := nI 2) hF dL_unstable_16 (by decide) ?_
      refine V.iret hF dL_unstable_17 (Nat.le_of_ble_eq_true rfl) (Nat.le_of_ble_eq_true rfl) ?_
      exact ⟨congrArg (fun t => some (Value.int t)) (hT.symm.trans hb.1), C, shJ σ out, by rw [hb.2.2 (by rw [← hb.1, hT]; decide)]; exact hR, (shSetJ_eta _ _).symm, rfl, rfl, fun q => absurd (hT.symm.trans (hb.1.trans q)) (by decide)⟩
    | j + 2, hj, hT => exact absurd hj (by simp)
  · obtain ⟨hT, e0, e1, e2, e3⟩ := hx
    rw [e0, e1, e2, e3]
    obtain ⟨ha, hR2⟩ := hb.2.1 (hb.1.symm.trans hT)
    refine V.i2l hF dL_unstable_7 ?_
    refine V.lastore (j := 0) hF dL_unstable_8 hm hk rfl (by rw [hn]; exact lt_of rfl) (by rw [hn]; exact lt_of rfl) ?_
    refine V.goto (tgt := 18) hF dL_unstable_9 (by decide) ?_
    refine V.iconst (v := nI 0) hF dL_unstable_18 (by decide) ?_
    refine V.iret hF dL_unstable_19 (Nat.le_of_ble_eq_true rfl) (Nat.le_of_ble_eq_true rfl) ?_
    exact ⟨congrArg (fun t => some (Value.int t)) (hT.symm.trans hb.1), _, _, hR2, rfl, rfl, rfl, fun _ => by rw [upl0, ← ha]⟩
theorem lw_L_isEverywhere : LkW RL 255 yL_isEverywhere cL_isEverywhere 4 (some .int) [(0, 16, 19, 18)] 3 := ⟨gw 932 (by decide +kernel) (by decide +kernel), gw 933 (by decide +kernel) (by decide +kernel), gw 52 (by decide +kernel) (by decide +kernel), gw 934 (by decide +kernel) (by decide +kernel), by decide +kernel⟩
set_option maxRecDepth 20000 in
theorem ct_L_isEverywhere (hst : l.stackTraces = false) (σ : SH) (I X : IX) (o : Nat) (ad : Nat → Nat) (hO : FS σ o ad) (hG : GS σ ad) (C : IX) (v : Rw) (hR : RG C v) (out : Nat) (hm : out ∈ shL σ) (hk : shK σ out = 13) (hn : shN σ out = 1) (x : Int32) : CtW l D cy sa sv yL_isEverywhere cL_isEverywhere 4 (some .int) [(0, 16, 19, 18)] 8 1 6 [.ref o, .int x, .ref out] σ (put idI I ad C) (put idX X ad C) (WP σ I X ad out (if zMs v x then nI 0 else nI 1) (bI (zMs v x && zwith v x.toNatClampNeg)) (v)) := by
  have hb := br_isEverywhere hR x
  refine CtW.of (by decide) hst (Nat.le_of_ble_eq_true rfl) ?_
  intro pp ee ss mm args below meth kc A hF htb hnc
  refine V.aload_n hF dL_isEverywhere_0 rfl ?_
  refine V.iconst (v := nI 0) hF dL_isEverywhere_1 (by decide) ?_
  refine V.aload_n hF dL_isEverywhere_2 rfl ?_
  refine V.iload_n hF dL_isEverywhere_3 rfl ?_
  refine V.callV hF dL_isEverywhere_4 (ct_X4_isEverywhere hst _ _ _ _ _ hO hG _ hR.1.wc x) lk_L_115 sl_X4_isEverywhere ⟨_, _, rfl, hO.1.1, hO.1.2, (Nat.le_of_ble_eq_true rfl), _, _, rfl⟩ (fit_of rfl) (Nat.le_of_ble_eq_true rfl) (fun E s2 I2 X2 hx => ?_) (fun r s2 I2 X2 hx => ?_) rfl
  · obtain ⟨⟨j, hj, hT⟩, e1, e2, e3⟩ := hx
    rw [e1, e2, e3]
    match j, hj, hT with
    | 0, hj, hT =>
      have hE := Option.some.inj hj
      rw [← hE]
      refine VX.catch hF [] (0, 16, 19, 18) [] htb (fun z hz => absurd hz List.not_mem_nil) (by decide) (by decide) lc_18 cc_IOB (fun q => ?_)
      refine V.astore_n hF dL_isEverywhere_19 (by decide) ?_
      refine V.iconst (v := nI 1) hF dL_isEverywhere_20 (by decide) ?_
      refine V.iret hF dL_isEverywhere_21 (Nat.le_of_ble_eq_true rfl) (Nat.le_of_ble_eq_true rfl) ?_
      exact ⟨congrArg (fun t => some (Value.int t)) (hT.symm.trans hb.1), C, shJ σ out, by rw [hb.2.2 (by rw [← hb.1, hT]; decide)]; exact hR, (shSetJ_eta _ _).symm, rfl, rfl, fun q => absurd (hT.symm.trans (hb.1.trans q)) (by decide)⟩
    | j + 1, hj, hT => exact absurd hj (by simp)
  · obtain ⟨hT, e0, e1, e2, e3⟩ := hx
    rw [e0, e1, e2, e3]
    obtain ⟨ha, hR2⟩ := hb.2.1 (hb.1.symm.trans hT)
    refine V.if_eqB (tgt := 14) hF dL_isEverywhere_7 (by decide) (fun hbb => ?_) (fun hbb => ?_)
    · refine V.lconst (v := 0) hF dL_isEverywhere_14 rfl ?_
      refine V.lastore (j := 0) hF dL_isEverywhere_15 hm hk rfl (by rw [hn]; exact lt_of rfl) (by rw [hn]; exact lt_of rfl) ?_
      refine V.goto (tgt := 22) hF dL_isEverywhere_16 (by decide) ?_
      refine V.iconst (v := nI 0) hF dL_isEverywhere_22 (by decide) ?_
      refine V.iret hF dL_isEverywhere_23 (Nat.le_of_ble_eq_true rfl) (Nat.le_of_ble_eq_true rfl) ?_
      exact ⟨congrArg (fun t => some (Value.int t)) (hT.symm.trans hb.1), _, _, hR2, rfl, rfl, rfl, fun _ => by rw [upl0, ← ha, hbb]; rfl⟩
    · refine V.lconst (v := 1) hF dL_isEverywhere_10 rfl ?_
      refine V.goto (tgt := 15) hF dL_isEverywhere_11 (by decide) ?_
      refine V.lastore (j := 0) hF dL_isEverywhere_15 hm hk rfl (by rw [hn]; exact lt_of rfl) (by rw [hn]; exact lt_of rfl) ?_
      refine V.goto (tgt := 22) hF dL_isEverywhere_16 (by decide) ?_
      refine V.iconst (v := nI 0) hF dL_isEverywhere_22 (by decide) ?_
      refine V.iret hF dL_isEverywhere_23 (Nat.le_of_ble_eq_true rfl) (Nat.le_of_ble_eq_true rfl) ?_
      exact ⟨congrArg (fun t => some (Value.int t)) (hT.symm.trans hb.1), _, _, hR2, rfl, rfl, rfl, fun _ => by rw [upl0, ← ha, hbb]; rfl⟩
theorem lw_L_firstUnaware : LkW RL 258 yL_firstUnaware cL_firstUnaware 4 (some .int) [(0, 9, 12, 18), (0, 9, 15, 76)] 3 := ⟨gw 943 (by decide +kernel) (by decide +kernel), gw 944 (by decide +kernel) (by decide +kernel), gw 52 (by decide +kernel) (by decide +kernel), gw 945 (by decide +kernel) (by decide +kernel), by decide +kernel⟩
set_option maxRecDepth 20000 in
theorem ct_L_firstUnaware (hst : l.stackTraces = false) (σ : SH) (I X : IX) (o : Nat) (ad : Nat → Nat) (hO : FS σ o ad) (hG : GS σ ad) (C : IX) (v : Rw) (hR : RG C v) (out : Nat) (hm : out ∈ shL σ) (hk : shK σ out = 13) (hn : shN σ out = 1) (x : Int32) : CtW l D cy sa sv yL_firstUnaware cL_firstUnaware 4 (some .int) [(0, 9, 12, 18), (0, 9, 15, 76)] 8 2 12 [.ref o, .int x, .ref out] σ (put idI I ad C) (put idX X ad C) (WP σ I X ad out (if zMs v x then (if zwith v x.toNatClampNeg && decide (zfst (zfuF v x.toNatClampNeg) 6 < 6) then nI 0 else nI 2) else nI 1) (if zMs v x && zwith v x.toNatClampNeg then (if zfst (zfuF v x.toNatClampNeg) 6 < 6 then nI (zfst (zfuF v x.toNatClampNeg) 6) else nI 0) else nI 0) (v)) := by
  have hb := br_firstUnaware hR x
  refine CtW.of (by decide) hst (Nat.le_of_ble_eq_true rfl) ?_
  intro pp ee ss mm args below meth kc A hF htb hnc
  refine V.aload_n hF dL_firstUnaware_0 rfl ?_
  refine V.iconst (v := nI 0) hF dL_firstUnaware_1 (by decide) ?_
  refine V.aload_n hF dL_firstUnaware_2 rfl ?_
  refine V.iload_n hF dL_firstUnaware_3 rfl ?_
  refine V.callV hF dL_firstUnaware_4 (ct_X4_firstUnaware hst _ _ _ _ _ hO hG _ hR.1.wc x) lk_L_119 sl_X4_firstUnaware ⟨_, _, rfl, hO.1.1, hO.1.2, (Nat.le_of_ble_eq_true rfl), _, _, rfl⟩ (fit_of rfl) (Nat.le_of_ble_eq_true rfl) (fun E s2 I2 X2 hx => ?_) (fun r s2 I2 X2 hx => ?_) rfl
  · obtain ⟨⟨j, hj, hT⟩, e1, e2, e3⟩ := hx
    rw [e1, e2, e3]
    match j, hj, hT with
    | 0, hj, hT =>
      have hE := Option.some.inj hj
      rw [← hE]
      refine VX.catch hF [] (0, 9, 12, 18) [(0, 9, 15, 76)] htb (fun z hz => absurd hz List.not_mem_nil) (by decide) (by decide) lc_18 cc_IOB (fun q => ?_)
      refine V.astore_n hF dL_firstUnaware_12 (by decide) ?_
      refine V.iconst (v := nI 1) hF dL_firstUnaware_13 (by decide) ?_
      refine V.iret hF dL_firstUnaware_14 (Nat.le_of_ble_eq_true rfl) (Nat.le_of_ble_eq_true rfl) ?_
      exact ⟨congrArg (fun t => some (Value.int t)) (hT.symm.trans hb.1), C, shJ σ out, by rw [hb.2.2 (by rw [← hb.1, hT]; decide)]; exact hR, (shSetJ_eta _ _).symm, rfl, rfl, fun q => absurd (hT.symm.trans (hb.1.trans q)) (by decide)⟩
    | 1, hj, hT =>
      have hE := Option.some.inj hj
      rw [← hE]
      refine VX.catch hF [(0, 9, 12, 18)] (0, 9, 15, 76) [] htb (fun z hz => by rw [List.mem_singleton.mp hz]; exact ⟨by decide, _, lc_18, hnc.2.1⟩) (by decide) (by decide) lc_76 cc_NSE (fun q => ?_)
      refine V.astore_n hF dL_firstUnaware_15 (by decide) ?_
      refine V.iconst (v := nI 2) hF dL_firstUnaware_16 (by decide) ?_
      refine V.iret hF dL_firstUnaware_17 (Nat.le_of_ble_eq_true rfl) (Nat.le_of_ble_eq_true rfl) ?_
      exact ⟨congrArg (fun t => some (Value.int t)) (hT.symm.trans hb.1), C, shJ σ out, by rw [hb.2.2 (by rw [← hb.1, hT]; decide)]; exact hR, (shSetJ_eta _ _).symm, rfl, rfl, fun q => absurd (hT.symm.trans (hb.1.trans q)) (by decide)⟩
    | j + 2, hj, hT => exact absurd hj (by simp)
  · obtain ⟨hT, e0, e1, e2, e3⟩ := hx
    rw [e0, e1, e2, e3]
    obtain ⟨ha, hR2⟩ := hb.2.1 (hb.1.symm.trans hT)
    refine V.i2l hF dL_firstUnaware_7 ?_
    refine V.lastore (j := 0) hF dL_firstUnaware_8 hm hk rfl (by rw [hn]; exact lt_of rfl) (by rw [hn]; exact lt_of rfl) ?_
    refine V.goto (tgt := 18) hF dL_firstUnaware_9 (by decide) ?_
    refine V.iconst (v := nI 0) hF dL_firstUnaware_18 (by decide) ?_
    refine V.iret hF dL_firstUnaware_19 (Nat.le_of_ble_eq_true rfl) (Nat.le_of_ble_eq_true rfl) ?_
    exact ⟨congrArg (fun t => some (Value.int t)) (hT.symm.trans hb.1), _, _, hR2, rfl, rfl, rfl, fun _ => by rw [upl0, ← ha]⟩
theorem lw_L_message : LkW RL 189 yL_message cL_message 5 (some .int) [(0, 10, 13, 18), (0, 10, 17, 13)] 4 := ⟨gw 699 (by decide +kernel) (by decide +kernel), gw 700 (by decide +kernel) (by decide +kernel), gw 52 (by decide +kernel) (by decide +kernel), gw 701 (by decide +kernel) (by decide +kernel), by decide +kernel⟩
set_option maxRecDepth 20000 in
theorem ct_L_message (hst : l.stackTraces = false) (σ : SH) (I X : IX) (o : Nat) (ad : Nat → Nat) (hO : FS σ o ad) (hG : GS σ ad) (C : IX) (v : Rw) (hR : RG C v) (out : Nat) (hm : out ∈ shL σ) (hk : shK σ out = 13) (hn : shN σ out = 1) (x y : Int32) : CtW l D cy sa sv yL_message cL_message 5 (some .int) [(0, 10, 13, 18), (0, 10, 17, 13)] 8 2 12 [.ref o, .int x, .int y, .ref out] σ (put idI I ad C) (put idX X ad C) (WP σ I X ad out (if zMs v x then (if zisIn y (nI 0) (nI 3) then nI 0 else nI 2) else nI 1) (if zMs v x && zisIn y (nI 0) (nI 3) then zmsg v x.toNatClampNeg y else nI 0) (v)) := by
  have hb := br_message hR x y
  refine CtW.of (by decide) hst (Nat.le_of_ble_eq_true rfl) ?_
  intro pp ee ss mm args below meth kc A hF htb hnc
  refine V.aload_n hF dL_message_0 rfl ?_
  refine V.iconst (v := nI 0) hF dL_message_1 (by decide) ?_
  refine V.aload_n hF dL_message_2 rfl ?_
  refine V.iload_n hF dL_message_3 rfl ?_
  refine V.iload_n hF dL_message_4 rfl ?_
  refine V.callV hF dL_message_5 (ct_X4_message hst _ _ _ _ _ hO hG _ hR.1.wc x y) lk_L_48 sl_X4_message ⟨_, _, rfl, hO.1.1, hO.1.2, (Nat.le_of_ble_eq_true rfl), _, _, rfl⟩ (fit_of rfl) (Nat.le_of_ble_eq_true rfl) (fun E s2 I2 X2 hx => ?_) (fun r s2 I2 X2 hx => ?_) rfl
  · obtain ⟨⟨j, hj, hT⟩, e1, e2, e3⟩ := hx
    rw [e1, e2, e3]
    match j, hj, hT with
    | 0, hj, hT =>
      have hE := Option.some.inj hj
      rw [← hE]
      refine VX.catch hF [] (0, 10, 13, 18) [(0, 10, 17, 13)] htb (fun z hz => absurd hz List.not_mem_nil) (by decide) (by decide) lc_18 cc_IOB (fun q => ?_)
      refine V.astore hF dL_message_13 (by decide) ?_
      refine V.iconst (v := nI 1) hF dL_message_15 (by decide) ?_
      refine V.iret hF dL_message_16 (Nat.le_of_ble_eq_true rfl) (Nat.le_of_ble_eq_true rfl) ?_
      exact ⟨congrArg (fun t => some (Value.int t)) (hT.symm.trans hb.1), C, shJ σ out, by rw [hb.2.2 (by rw [← hb.1, hT]; decide)]; exact hR, (shSetJ_eta _ _).symm, rfl, rfl, fun q => absurd (hT.symm.trans (hb.1.trans q)) (by decide)⟩
    | 1, hj, hT =>
      have hE := Option.some.inj hj
      rw [← hE]
      refine VX.catch hF [(0, 10, 13, 18)] (0, 10, 17, 13) [] htb (fun z hz => by rw [List.mem_singleton.mp hz]; exact ⟨by decide, _, lc_18, hnc.2.2.1⟩) (by decide) (by decide) lc_13 cc_IAE (fun q => ?_)
      refine V.astore hF dL_message_17 (by decide) ?_
      refine V.iconst (v := nI 2) hF dL_message_19 (by decide) ?_
      refine V.iret hF dL_message_20 (Nat.le_of_ble_eq_true rfl) (Nat.le_of_ble_eq_true rfl) ?_
      exact ⟨congrArg (fun t => some (Value.int t)) (hT.symm.trans hb.1), C, shJ σ out, by rw [hb.2.2 (by rw [← hb.1, hT]; decide)]; exact hR, (shSetJ_eta _ _).symm, rfl, rfl, fun q => absurd (hT.symm.trans (hb.1.trans q)) (by decide)⟩
    | j + 2, hj, hT => exact absurd hj (by simp)
  · obtain ⟨hT, e0, e1, e2, e3⟩ := hx
    rw [e0, e1, e2, e3]
    obtain ⟨ha, hR2⟩ := hb.2.1 (hb.1.symm.trans hT)
    refine V.i2l hF dL_message_8 ?_
    refine V.lastore (j := 0) hF dL_message_9 hm hk rfl (by rw [hn]; exact lt_of rfl) (by rw [hn]; exact lt_of rfl) ?_
    refine V.goto (tgt := 21) hF dL_message_10 (by decide) ?_
    refine V.iconst (v := nI 0) hF dL_message_21 (by decide) ?_
    refine V.iret hF dL_message_22 (Nat.le_of_ble_eq_true rfl) (Nat.le_of_ble_eq_true rfl) ?_
    exact ⟨congrArg (fun t => some (Value.int t)) (hT.symm.trans hb.1), _, _, hR2, rfl, rfl, rfl, fun _ => by rw [upl0, ← ha]⟩
end Wr
