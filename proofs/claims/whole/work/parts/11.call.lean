def VX (p : Program) (l : Launch) (e : Env) (R : Room) (s : State) (m : MethodId) (args : Array Value) (below : List Frame) (meth : Method) (c : Code) (D : va_G) (cy : Nat → ClassId) (A : Nat → Prop) (Q : State → Prop) (nL cells slots : Nat) (σ : SH) (I X : IX) (E : String) (pc : Nat) (lv : List (Nat × Value)) (st : List Value) : Prop :=
  ∀ (H : Heap) (locs : List Loc) (ls : Array Slot) (q : Addr) (ce : Cell), va_P D vcl (pw cy σ I X) H → va_D A (pw cy σ I X) → va_S A s.heap H locs → lv_has ls nL lv → H[q]? = some ce → ce.vm = .none → s.vm.findClass E = some ce.cls → vx_W p l e R s m args below meth c H locs cells slots Q (F0 m pc ls st) q
abbrev PO : Type := Option Value → SH → IX → IX → Prop
abbrev PX : Type := String → SH → IX → IX → Prop
def CtQ (D : va_G) (cy : Nat → ClassId) (A : Nat → Prop) (post : PO) : Array Value → State → Outcome → State → Prop := fun _ st oc t =>
  (∃ (v : Option Value) (σ' : SH) (I' X' : IX), oc = .returned v ∧ post v σ' I' X' ∧ va_P D vcl (pw cy σ' I' X') t.heap ∧ va_D A (pw cy σ' I' X')) ∧ va_F A st t
def CtX (D : va_G) (cy : Nat → ClassId) (A : Nat → Prop) (xp : PX) : String → State → State → Prop := fun E st t =>
  ∃ (σ' : SH) (I' X' : IX), xp E σ' I' X' ∧ va_P D vcl (pw cy σ' I' X') t.heap ∧ va_D A (pw cy σ' I' X') ∧ va_F A st t
def QM (below : List Frame) (args : Array Value) (s : State) (D : va_G) (cy : Nat → ClassId) (A : Nat → Prop) (post : PO) (xp : PX) (mc ms : Nat) : State → Prop := vx_MQ below (CtQ D cy A post) (CtX D cy A xp) args s mc ms A
def Rm (d mc ms : Nat) : Room := { frames := d, cells := mc, slots := ms, locals := 64 * d }
def CtP (D : va_G) (cy sa sv : Nat → Nat) (σ : SH) (I X : IX) (av : List Value) (sz : Nat) : Array Value → State → Prop := va_Pc av (fun U => U.heap.size = sz ∧ va_P D vcl (pw cy σ I X) U.heap ∧ va_K D vcl (tys cy) U ∧ va_D (fun _ => True) (pw cy σ I X) ∧ Ev sa sv (va_A (pw cy σ I X) sz) U U.heap)
/-- a contract: called with av where the planes are σ I X, the method returns with post, or throws with xp; it takes d frames, makes at most mc cells of ms slots -/
def Ct (l : Launch) (D : va_G) (cy sa sv : Nat → Nat) (y : MethodName) (cc : ByteArray) (n : Nat) (ret : Option FieldType) (d mc ms : Nat) (av : List Value) (σ : SH) (I X : IX) (post : PO) (xp : PX) : Prop :=
  ∀ sz : Nat, vx_Met l y (Cond.code y cc n ret :: GT) (Rm d mc ms) (CtP D cy sa sv σ I X av sz) (CtQ D cy (va_A (pw cy σ I X) sz) post) (CtX D cy (va_A (pw cy σ I X) sz) xp) mc ms (va_A (pw cy σ I X) sz)
abbrev noX : PX := fun _ _ _ _ => False
theorem Ct.of {l : Launch} {D : va_G} {cy sa sv : Nat → Nat} {y : MethodName} {cc : ByteArray} {n : Nat} {ret : Option FieldType} {d mc ms : Nat} {av : List Value} {σ : SH} {I X : IX} {post : PO} {xp : PX} (hy : plainName y.cls = true) (hst : l.stackTraces = false) (hlen : (lg_sl av).length ≤ n)
    (body : ∀ (p : Program) (e : Env) (s : State) (m : MethodId) (args : Array Value) (below : List Frame) (meth : Method) (c : Code) (A : Nat → Prop), Fx p l s m args meth c D cy sa sv A n y.cls cc ret → meth.name = y.name → (∀ x ∈ c.exceptionTable.toList, False) →
      V p l e (Rm d mc ms) s m args below meth c D cy A (QM below args s D cy A post xp mc ms) n 0 0 σ I X 0 (lv_args 0 av) []) : Ct l D cy sa sv y cc n ret d mc ms av σ I X post xp := by
  intro sz
  refine vx_ofW (cc := cc) (maxL := n) (ret := ret) hy rfl ?_
  intro p e s m args below meth c s₁ B hml hout hv
  obtain ⟨rfl, hsz, hP, hK, hD0, hE⟩ := hv
  have hts0 := atoms_spec (ws := Cond.code y cc n ret :: GT) B.pre
  subst hsz
  have hF : Fx p l s m av.toArray meth c D cy sa sv (va_A (pw cy σ I X) s.heap.size) n y.cls cc ret :=
    ⟨B.exec, B.bytes, hml, findClass_of_methodNamed B.named, fun w hw => hts0 w (List.mem_cons_of_mem _ hw), hK, B.notSynchronized, B.returns, hE, hst, fun q h => Or.inr h⟩
  have hb := body p e s m av.toArray below meth c _ hF (name_of_methodNamed B.named B.method).1 hout
  rw [lg_entry_eq]
  exact hb s.heap [] _ hP (hD0.self (sz := s.heap.size)) va_S.rf (lv_entry av hlen)
section VC
variable {p : Program} {l : Launch} {e : Env} {R : Room} {s : State} {m : MethodId} {args : Array Value} {below : List Frame} {meth : Method} {c : Code} {D : va_G} {cy sa sv : Nat → Nat} {A : Nat → Prop} {Q : State → Prop} {cc : ByteArray} {nL : Nat} {own : String} {ret : Option FieldType} {cells slots : Nat} {σ : SH} {I X : IX} {pc : Nat} {lv : List (Nat × Value)} {st : List Value}
variable {y : MethodName} {cc' : ByteArray} {n' : Nat} {ret' : Option FieldType} {d' mc ms : Nat} {av : List Value} {post : PO} {xp : PX}
theorem ct_blind {sz : Nat} : FrameBlind (CtP D cy sa sv σ I X av sz) := by
  intro a U g mk h
  obtain ⟨h1, h2, h3, h4, h5, h6⟩ := h
  exact ⟨h1, h2, h3, va_K.moved (u := U) (U := U.calling g mk a) (Vm.Alike.refl U.vm) h4, h5, Ev.same (s := U) (U := U.calling g mk a) h6 rfl⟩
theorem ct_sub (hF : Fx p l s m args meth c D cy sa sv A nL own cc ret) {H : Heap} {locs : List Loc} (hD : va_D A (pw cy σ I X)) (hS : va_S A s.heap H locs) : ∀ q, va_A (pw cy σ I X) H.size q → A q := by
  intro q h
  rcases h with ⟨k, e, h⟩ | h
  · exact hD.2 k _ h
  · exact hF.2.2.2.2.2.2.2.2.2.2 q (Nat.le_trans hS.1 h)
theorem ct_pre (hF : Fx p l s m args meth c D cy sa sv A nL own cc ret) {H : Heap} {locs : List Loc} (hP : va_P D vcl (pw cy σ I X) H) (hD : va_D A (pw cy σ I X)) (hS : va_S A s.heap H locs) : ∀ U : State, U.heap = H → s.WarmedH U.vm → CtP D cy sa sv σ I X av H.size av.toArray U := by
  intro U hU hW
  refine ⟨rfl, by rw [hU], by rw [hU]; exact hP, va_K.moved hW.alike hF.2.2.2.2.2.1, hD.weaken (fun _ _ _ _ => trivial), ?_⟩
  rw [hU]
  exact hF.2.2.2.2.2.2.2.2.1.move hW (fun a h1 h2 => hS.2.1 a h1 h2) (ct_sub hF hD hS)
/-- what a run of the callee gives -/
theorem V.ofRun (hF : Fx p l s m args meth c D cy sa sv A nL own cc ret) {st0 : List Value} {a : Array Value}
    (hr : ∀ (H : Heap) (locs : List Loc) (ls : Array Slot), va_P D vcl (pw cy σ I X) H → va_D A (pw cy σ I X) → va_S A s.heap H locs → lv_has ls nL lv → vx_Run p l e R s m args below meth c H locs cells slots mc ms (F0 m pc ls st0) st (CtQ D cy (va_A (pw cy σ I X) H.size) post a) (CtX D cy (va_A (pw cy σ I X) H.size) xp) (va_A (pw cy σ I X) H.size))
    (kx : ∀ (E : String) (σ' : SH) (I' X' : IX), xp E σ' I' X' → VX p l e R s m args below meth c D cy A Q nL (cells + mc) (slots + ms) σ' I' X' E pc lv st)
    (kk : ∀ (v : Option Value) (σ' : SH) (I' X' : IX), post v σ' I' X' → V p l e R s m args below meth c D cy A Q nL (cells + mc) (slots + ms) σ' I' X' (pc + 3) lv (v.toList ++ st)) : V p l e R s m args below meth c D cy A Q nL cells slots σ I X pc lv st0 := by
  intro H locs ls hP hD hS hl T hT Xs
  have hA := ct_sub hF hD hS
  rcases hr H locs ls hP hD hS hl T hT Xs with ⟨v, st₀, t, T', L, h0, X', hL, e1, e2, ⟨⟨v', σ', I', X1, hv, hp, hP1, hD1⟩, hFr⟩, stp⟩ | ⟨q, st₀, t, T', L, E, ce, h0, X', hL, e1, e2, ⟨σ', I', X1, hp, hP1, hD1, hFr⟩, hce, hcv, hcl, stp⟩
  · cases hv
    obtain ⟨k1, k2, k3⟩ := vx_keep h0 e1 hS (fun q _ h => hA q h) hA hL hFr
    obtain ⟨t2, a1, b1⟩ := kk v σ' I' X1 hp T'.heap (locs ++ L) ls (by rw [e1]; exact hP1) (hD1.weaken (fun _ _ _ h => hA _ h)) k3 hl T' rfl X'
    exact ⟨t2, stp t2 a1, b1⟩
  · obtain ⟨k1, k2, k3⟩ := vx_keep h0 e1 hS (fun q _ h => hA q h) hA hL hFr
    obtain ⟨t2, a1, b1⟩ := kx E σ' I' X1 hp T'.heap (locs ++ L) ls q ce (by rw [e1]; exact hP1) (hD1.weaken (fun _ _ _ h => hA _ h)) k3 hl (by rw [e1]; exact hce) hcv hcl T' rfl X'
    exact ⟨t2, stp.trans a1, b1⟩
/-- a call's link -/
def Lk (own : String) (idx : Nat) (y : MethodName) (cc : ByteArray) (n : Nat) (ret : Option FieldType) (np : Nat) (kind : Cond) : Prop :=
  (Cond.methodLink own idx y ∈ GT ∨ ∃ host, Cond.methodLinkNest own idx y host ∈ GN) ∧ kind ∈ GT ∧ Cond.initialized y.cls ∈ GT ∧ Cond.code y cc n ret ∈ GT ∧ (y.cls ≠ "java/lang/invoke/MethodHandle" ∧ y.cls ≠ "java/lang/invoke/VarHandle" ∧ (parseMethodDescriptor y.desc).map (fun d => d.parameters.length) = some np)
def Fit (R : Room) (d n mc ms cells slots : Nat) : Prop := d + 1 ≤ R.frames ∧ 8 + (n + 11) + 64 * d ≤ R.locals ∧ cells + mc ≤ R.cells ∧ slots + ms ≤ R.slots
theorem lk_B (hF : Fx p l s m args meth c D cy sa sv A nL own cc ret) {idx np : Nat} {kind : Cond} (hl : Lk own idx y cc' n' ret' np kind) (hm : Cond.methodLink own idx y ∈ GT) (hR : Fit R d' n' mc ms cells slots) : CallB R s args own idx y cc' n' ret' (Cond.code y cc' n' ret' :: GT) (Rm d' mc ms) mc ms np :=
  callB_of np hF.2.2.2.2.1 (GT_in hl.2.2.2.1) rfl rfl rfl (hF.2.2.2.2.1 _ hl.2.2.1) (hF.2.2.2.2.1 _ hm) hl.2.2.2.2 ⟨hR.1, hR.2.1⟩
theorem lk_N (hF : Fx p l s m args meth c D cy sa sv A nL own cc ret) {idx np : Nat} {kind : Cond} {host : String} (hl : Lk own idx y cc' n' ret' np kind) (hm : Cond.methodLinkNest own idx y host ∈ GN) (hR : Fit R d' n' mc ms cells slots) : va_CN R s args own idx y host cc' n' ret' (Cond.code y cc' n' ret' :: GT) (Rm d' mc ms) mc ms np :=
  va_cnB np hF.2.2.2.2.1 (GT_in hl.2.2.2.1) rfl rfl rfl (hF.2.2.2.2.2.2.2.2.1.1 _ hm) (hF.2.2.2.2.1 _ hl.2.2.1) hl.2.2.2.2 ⟨hR.1, hR.2.1⟩
theorem fx_fix (hF : Fx p l s m args meth c D cy sa sv A nL own cc ret) : CallFix p m c cc nL s args GT own := ⟨hF.1, hF.2.1, hF.2.2.1, hF.2.2.2.1, hF.2.2.2.2.1⟩

theorem V.callS (hF : Fx p l s m args meth c D cy sa sv A nL own cc ret) {idx : Nat} (d : decode cc pc = .ok (.invokestatic idx, 3)) (hc : Ct l D cy sa sv y cc' n' ret' d' mc ms av σ I X post xp) (hl : Lk own idx y cc' n' ret' av.length (Cond.static y))  (hR : Fit R d' n' mc ms cells slots) (hw : (st.map fun v => v.category).sum ≤ 8)
    (kx : ∀ (E : String) (σ' : SH) (I' X' : IX), xp E σ' I' X' → VX p l e R s m args below meth c D cy A Q nL (cells + mc) (slots + ms) σ' I' X' E pc lv st)
    (kk : ∀ (v : Option Value) (σ' : SH) (I' X' : IX), post v σ' I' X' → V p l e R s m args below meth c D cy A Q nL (cells + mc) (slots + ms) σ' I' X' (pc + 3) lv (v.toList ++ st)) {st0 : List Value} (hst : st0 = av.reverse ++ st) : V p l e R s m args below meth c D cy A Q nL cells slots σ I X pc lv st0 := by
  refine V.ofRun hF (a := av.toArray) (fun H locs ls hP hD hS hls => ?_) kx kk
  have hpre := ct_pre (av := av) hF hP hD hS
  rcases hl.1 with h | ⟨host, h⟩
  · exact vx_runS (fx_fix hF) (hc H.size) ⟨lk_B hF hl h hR, hF.2.2.2.2.1 _ hl.2.1⟩ ⟨ct_blind, hpre⟩ rfl rfl hls.1 hst (lv_room hw) d ⟨hR.2.2.1, hR.2.2.2⟩
  · exact vx_runSN (fx_fix hF) (hc H.size) ⟨lk_N hF hl h hR, hF.2.2.2.2.1 _ hl.2.1, trivial⟩ ⟨ct_blind, hpre⟩ rfl rfl hls.1 hst (lv_room hw) d ⟨hR.2.2.1, hR.2.2.2⟩
theorem V.callV (hF : Fx p l s m args meth c D cy sa sv A nL own cc ret) {idx : Nat} (d : decode cc pc = .ok (.invokevirtual idx, 3)) (hc : Ct l D cy sa sv y cc' n' ret' d' mc ms av σ I X post xp) (hl : Lk own idx y cc' n' ret' av.tail.length (Cond.instanceMethod y)) {C : String} {ci : Nat} (hsel : Cond.selects C y y ∈ GT) (hrec : ∃ (b : Nat) (As : List Value), av = .ref b :: As ∧ b ∈ shL σ ∧ shK σ b = ci ∧ ci < 6 ∧ ∃ (T : u_T) (N : Nat), vcl[ci]? = some (C, T, N)) (hR : Fit R d' n' mc ms cells slots) (hw : (st.map fun v => v.category).sum ≤ 8)
    (kx : ∀ (E : String) (σ' : SH) (I' X' : IX), xp E σ' I' X' → VX p l e R s m args below meth c D cy A Q nL (cells + mc) (slots + ms) σ' I' X' E pc lv st)
    (kk : ∀ (v : Option Value) (σ' : SH) (I' X' : IX), post v σ' I' X' → V p l e R s m args below meth c D cy A Q nL (cells + mc) (slots + ms) σ' I' X' (pc + 3) lv (v.toList ++ st)) {st0 : List Value} (hst : st0 = av.reverse ++ st) : V p l e R s m args below meth c D cy A Q nL cells slots σ I X pc lv st0 := by
  refine V.ofRun hF (a := av.toArray) (fun H locs ls hP hD hS hls => ?_) kx kk
  have hpre := ct_pre (av := av) hF hP hD hS
  obtain ⟨b, As, rfl, hm, hK, hci, hC⟩ := hrec
  obtain ⟨q0, he⟩ := pw_get (cy := cy) (I := I) (X := X) hm
  rw [cell_o hK hci] at he
  obtain ⟨T, N, hC⟩ := hC
  have hrv := va_recv hF.2.2.2.2.2.1 hP hC he
  have hst' : st0 = As.reverse ++ .ref b :: st := by rw [hst]; simp
  rcases hl.1 with h | ⟨host, h⟩
  · exact vx_runV (C := C) (fx_fix hF) (hc H.size) ⟨lk_B hF hl h hR, hF.2.2.2.2.1 _ hl.2.1, hF.2.2.2.2.1 _ hsel⟩ ⟨ct_blind, hrv, hpre⟩ rfl rfl hls.1 hst' (lv_room hw) d ⟨hR.2.2.1, hR.2.2.2⟩
  · exact vx_runVN (C := C) (fx_fix hF) (hc H.size) ⟨lk_N hF hl h hR, hF.2.2.2.2.1 _ hl.2.1, hF.2.2.2.2.1 _ hsel⟩ ⟨ct_blind, hrv, hpre⟩ rfl rfl hls.1 hst' (lv_room hw) d ⟨hR.2.2.1, hR.2.2.2⟩
theorem V.callI (hF : Fx p l s m args meth c D cy sa sv A nL own cc ret) {idx : Nat} (d : decode cc pc = .ok (.invokespecial idx, 3)) (hc : Ct l D cy sa sv y cc' n' none d' mc ms av σ I X post xp) (hl : Lk own idx y cc' n' none av.tail.length (Cond.instanceMethod y)) (hyi : y.name = "<init>") (hrec : ∃ (b : Nat) (As : List Value), av = .ref b :: As) (hR : Fit R d' n' mc ms cells slots) (hw : (st.map fun v => v.category).sum ≤ 8)
    (kx : ∀ (E : String) (σ' : SH) (I' X' : IX), xp E σ' I' X' → VX p l e R s m args below meth c D cy A Q nL (cells + mc) (slots + ms) σ' I' X' E pc lv st)
    (kk : ∀ (v : Option Value) (σ' : SH) (I' X' : IX), post v σ' I' X' → V p l e R s m args below meth c D cy A Q nL (cells + mc) (slots + ms) σ' I' X' (pc + 3) lv (v.toList ++ st)) {st0 : List Value} (hst : st0 = av.reverse ++ st) : V p l e R s m args below meth c D cy A Q nL cells slots σ I X pc lv st0 := by
  refine V.ofRun hF (a := av.toArray) (fun H locs ls hP hD hS hls => ?_) kx kk
  have hpre := ct_pre (av := av) hF hP hD hS
  obtain ⟨b, As, rfl⟩ := hrec
  have hst' : st0 = As.reverse ++ .ref b :: st := by rw [hst]; simp
  rcases hl.1 with h | ⟨host, h⟩
  · exact vx_runI (fx_fix hF) (hc H.size) ⟨lk_B hF hl h hR, hyi, hF.2.2.2.2.1 _ hl.2.1⟩ ⟨ct_blind, hpre⟩ rfl rfl hls.1 hst' (lv_room hw) d ⟨hR.2.2.1, hR.2.2.2⟩
  · exact vx_runIN (fx_fix hF) (hc H.size) ⟨lk_N hF hl h hR, hyi, hF.2.2.2.2.1 _ hl.2.1⟩ ⟨ct_blind, hpre⟩ rfl rfl hls.1 hst' (lv_room hw) d ⟨hR.2.2.1, hR.2.2.2⟩
theorem V.iret (hF : Fx p l s m args meth c D cy sa sv A nL own cc (some .int)) {v : Int32} (d : decode cc pc = .ok (.ireturn, 1))  (hc : cells ≤ mc) (hs : slots ≤ ms) (h : post (some (.int v)) σ I X) : V p l e R s m args below meth c D cy A (QM below args s D cy A post xp mc ms) nL cells slots σ I X pc lv [.int v] := fun H locs ls hP hD hS hl => vx_ret (W.widen hc hs (W.iret hF.1 hF.2.1 hF.2.2.2.2.2.2.2.1  (fun t ht hW => ⟨⟨_, σ, I, X, rfl, h, by rw [ht]; exact hP, hD⟩, hS.F ht⟩) hS.2.2 d hF.2.2.2.2.2.2.1))
theorem V.zret (hF : Fx p l s m args meth c D cy sa sv A nL own cc (some .boolean)) {v : Int32} (d : decode cc pc = .ok (.ireturn, 1)) (hn : v = 0 ∨ v = 1) (hc : cells ≤ mc) (hs : slots ≤ ms) (h : post (some (.int v)) σ I X) : V p l e R s m args below meth c D cy A (QM below args s D cy A post xp mc ms) nL cells slots σ I X pc lv [.int v] := fun H locs ls hP hD hS hl => vx_ret (W.widen hc hs (W.zret hF.1 hF.2.1 hF.2.2.2.2.2.2.2.1 (by rcases hn with rfl | rfl <;> rfl) (fun t ht hW => ⟨⟨_, σ, I, X, rfl, h, by rw [ht]; exact hP, hD⟩, hS.F ht⟩) hS.2.2 d hF.2.2.2.2.2.2.1))
theorem V.vret (hF : Fx p l s m args meth c D cy sa sv A nL own cc none)  (d : decode cc pc = .ok (.return_, 1))  (hc : cells ≤ mc) (hs : slots ≤ ms) (h : post none σ I X) : V p l e R s m args below meth c D cy A (QM below args s D cy A post xp mc ms) nL cells slots σ I X pc lv [] := fun H locs ls hP hD hS hl => vx_ret (W.widen hc hs (W.vret hF.1 hF.2.1 hF.2.2.2.2.2.2.2.1  (fun t ht hW => ⟨⟨_, σ, I, X, rfl, h, by rw [ht]; exact hP, hD⟩, hS.F ht⟩) hS.2.2 d hF.2.2.2.2.2.2.1))
theorem V.dret (hF : Fx p l s m args meth c D cy sa sv A nL own cc (some .double)) {v : UInt64} (d : decode cc pc = .ok (.dreturn, 1))  (hc : cells ≤ mc) (hs : slots ≤ ms) (h : post (some (.double v)) σ I X) : V p l e R s m args below meth c D cy A (QM below args s D cy A post xp mc ms) nL cells slots σ I X pc lv [.double v] := fun H locs ls hP hD hS hl => vx_ret (W.widen hc hs (W.dret hF.1 hF.2.1 hF.2.2.2.2.2.2.2.1  (fun t ht hW => ⟨⟨_, σ, I, X, rfl, h, by rw [ht]; exact hP, hD⟩, hS.F ht⟩) hS.2.2 d hF.2.2.2.2.2.2.1))
theorem VX.out (hF : Fx p l s m args meth c D cy sa sv A nL own cc ret) {E : String} (hout : ∀ x ∈ c.exceptionTable.toList, False) (hc : cells ≤ mc) (hs : slots ≤ ms) (h : xp E σ I X) : VX p l e R s m args below meth c D cy A (QM below args s D cy A post xp mc ms) nL cells slots σ I X E pc lv st := fun H locs ls q ce hP hD hS hl h1 h2 h3 =>
  vx_out (fun x hx => (hout x hx).elim) hF.2.2.2.2.2.2.1 h1 h2 h3 (fun t ht hA => ⟨σ, I, X, h, by rw [ht]; exact hP, hD, hS.F ht⟩) hS.2.2 hc hs
end VC
