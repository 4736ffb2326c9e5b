/-! planes of the heap: a shape (which cells there are, their kinds, references, lengths) and two planes of ints -/
abbrev IX : Type := Nat → Nat → Int32
abbrev SH : Type := List Nat × (Nat → Nat) × (Nat → Nat → Option Nat) × (Nat → Nat) × (Nat → Nat → Option Nat) × (Nat → Nat → Int64) × (Nat → Nat → UInt64)
abbrev shL (σ : SH) : List Nat := σ.1
abbrev shK (σ : SH) : Nat → Nat := σ.2.1
abbrev shR (σ : SH) : Nat → Nat → Option Nat := σ.2.2.1
abbrev shN (σ : SH) : Nat → Nat := σ.2.2.2.1
abbrev shY (σ : SH) : Nat → Nat → Option Nat := σ.2.2.2.2.1
abbrev shJ (σ : SH) : Nat → Nat → Int64 := σ.2.2.2.2.2.1
abbrev shZ (σ : SH) : Nat → Nat → UInt64 := σ.2.2.2.2.2.2
abbrev vcl : List vw_C := [(RX0, TX0, 8), (RX1, TX1, 7), (RX2, TX2, 6), (RX3, TX3, 8), (RX4, TX4, 5), (RX5, TX5, 14)]
def nf (ci : Nat) : Nat := [8, 7, 6, 8, 5, 14].getD ci 0
def rtab : List (List Bool) := [[true, true, true, true, false, false, false, false], [true, true, true, true, true, true, false], [false, true, true, true, false, false], [true, false, true, true, true, false, false, false], [true, true, true, true, false], [false, true, true, true, false, true, false, false, true, false, false, true, true, true]]
def rft (ci k : Nat) : Bool := (rtab.getD ci []).getD k false
def fv (σ : SH) (I : IX) (a ci k : Nat) : Value := if rft ci k then va_rf (shR σ a k) else .int (I a k)
def fvs (σ : SH) (I : IX) (a ci : Nat) : List Value := (List.range (nf ci)).map (fv σ I a ci)
def cellOf (cy : Nat → ClassId) (σ : SH) (I X : IX) (a : Nat) : va_E :=
  if shK σ a = 10 then .inl (cy 0, shN σ a, .inl (X a)) else if shK σ a = 11 then .inl (cy 1, shN σ a, .inl (X a)) else if shK σ a = 12 then .inl (cy 2, shN σ a, .inr (.inr (.inr (.inr (shY σ a)))))
  else if shK σ a = 13 then .inl (cy 3, shN σ a, .inr (.inl (shJ σ a))) else if shK σ a = 14 then .inl (cy 4, shN σ a, .inr (.inr (.inr (.inl (shZ σ a))))) else .inr (shK σ a, fvs σ I a (shK σ a))
def pw (cy : Nat → ClassId) (σ : SH) (I X : IX) : va_W := va_pl (shL σ) (cellOf cy σ I X)
abbrev tys (cy : Nat → ClassId) : List (ClassId × FieldType) := [(cy 0, .char), (cy 1, .int), (cy 2, .object RX2), (cy 3, .long), (cy 4, .double)]
theorem cell_c {cy : Nat → ClassId} {σ : SH} {I X : IX} {a : Nat} (h : shK σ a = 10) : cellOf cy σ I X a = .inl (cy 0, shN σ a, .inl (X a)) := by simp [cellOf, h]
theorem cell_i {cy : Nat → ClassId} {σ : SH} {I X : IX} {a : Nat} (h : shK σ a = 11) : cellOf cy σ I X a = .inl (cy 1, shN σ a, .inl (X a)) := by simp [cellOf, h]
theorem cell_y {cy : Nat → ClassId} {σ : SH} {I X : IX} {a : Nat} (h : shK σ a = 12) : cellOf cy σ I X a = .inl (cy 2, shN σ a, .inr (.inr (.inr (.inr (shY σ a))))) := by simp [cellOf, h]
theorem cell_j {cy : Nat → ClassId} {σ : SH} {I X : IX} {a : Nat} (h : shK σ a = 13) : cellOf cy σ I X a = .inl (cy 3, shN σ a, .inr (.inl (shJ σ a))) := by simp [cellOf, h]
theorem cell_z {cy : Nat → ClassId} {σ : SH} {I X : IX} {a : Nat} (h : shK σ a = 14) : cellOf cy σ I X a = .inl (cy 4, shN σ a, .inr (.inr (.inr (.inl (shZ σ a))))) := by simp [cellOf, h]
theorem cell_o {cy : Nat → ClassId} {σ : SH} {I X : IX} {a ci : Nat} (h : shK σ a = ci) (hc : ci < 6) : cellOf cy σ I X a = .inr (ci, fvs σ I a ci) := by
  have h1 : ¬ ci = 10 := by omega
  have h2 : ¬ ci = 11 := by omega
  have h3 : ¬ ci = 12 := by omega
  have h4 : ¬ ci = 13 := by omega
  have h5 : ¬ ci = 14 := by omega
  simp [cellOf, h, h1, h2, h3, h4, h5]
theorem pw_get {cy : Nat → ClassId} {σ : SH} {I X : IX} {a : Nat} (h : a ∈ shL σ) : ∃ k : Nat, (pw cy σ I X)[k]? = some (a, cellOf cy σ I X a) := va_pl_get (X := []) h
theorem pw_set {A : Nat → Prop} {cy : Nat → ClassId} {σ : SH} {I X : IX} {a k : Nat} {e : va_E} (hD : va_D A (pw cy σ I X)) (h : a ∈ shL σ) (hk : (pw cy σ I X)[k]? = some (a, cellOf cy σ I X a)) : (pw cy σ I X).set k (a, e) = va_pl (shL σ) (va_up (cellOf cy σ I X) a e) := va_pl_set (X := []) hD h hk
theorem fvs_set {σ σ' : SH} {I I' : IX} {a ci j : Nat} {v : Value} (hj : j < nf ci) (h1 : fv σ' I' a ci j = v) (h2 : ∀ i, i ≠ j → fv σ' I' a ci i = fv σ I a ci i) : (fvs σ I a ci).set j v = fvs σ' I' a ci := by
  apply List.ext_getElem?
  intro i
  by_cases hi : i = j
  · subst hi
    rw [List.getElem?_set_self (by simp [fvs, hj])]
    simp [fvs, hj, h1]
  · rw [List.getElem?_set_ne (Ne.symm hi)]
    simp only [fvs, List.getElem?_map]
    by_cases hn : i < nf ci
    · simp [hn, h2 i hi]
    · simp [hn]
/-- an int field -/
theorem pw_setI {A : Nat → Prop} {cy : Nat → ClassId} {σ : SH} {I X : IX} {a k ci j : Nat} {x : Int32} (hD : va_D A (pw cy σ I X)) (h : a ∈ shL σ) (hK : shK σ a = ci) (hc : ci < 6) (hr : rft ci j = false) (hj : j < nf ci) (hk : (pw cy σ I X)[k]? = some (a, cellOf cy σ I X a)) :
    (pw cy σ I X).set k (a, .inr (ci, (fvs σ I a ci).set j (.int x))) = pw cy σ (va_up I a (upd (I a) j x)) X := by
  rw [pw_set hD h hk]
  refine va_pl_congr fun b => ?_
  by_cases hb : b = a
  · subst hb
    rw [va_up_self, cell_o hK hc]
    congr 2
    refine fvs_set hj ?_ (fun i hi => ?_)
    · simp [fv, hr, va_up, upd]
    · simp [fv, va_up, upd, hi]
  · rw [va_up_ne _ _ hb]
    have e : fvs σ (va_up I a (upd (I a) j x)) b = fvs σ I b := by
      funext c'
      simp only [fvs]
      congr 1
      funext k'
      simp [fv, va_up, hb]
    simp only [cellOf, e]
def shSetR (σ : SH) (a j : Nat) (r : Option Nat) : SH := (σ.1, σ.2.1, va_up (shR σ) a (va_up (shR σ a) j r), σ.2.2.2)
theorem pw_setR {A : Nat → Prop} {cy : Nat → ClassId} {σ : SH} {I X : IX} {a k ci j : Nat} {r : Option Nat} (hD : va_D A (pw cy σ I X)) (h : a ∈ shL σ) (hK : shK σ a = ci) (hc : ci < 6) (hr : rft ci j = true) (hj : j < nf ci) (hk : (pw cy σ I X)[k]? = some (a, cellOf cy σ I X a)) :
    (pw cy σ I X).set k (a, .inr (ci, (fvs σ I a ci).set j (va_rf r))) = pw cy (shSetR σ a j r) I X := by
  rw [pw_set hD h hk]
  show va_pl (shL σ) _ = va_pl (shL σ) _
  refine va_pl_congr fun b => ?_
  by_cases hb : b = a
  · subst hb
    rw [va_up_self, cell_o (σ := shSetR σ b j r) (ci := ci) hK hc]
    congr 2
    refine fvs_set hj ?_ (fun i hi => ?_)
    · simp [fv, hr, va_up, shSetR, shR]
    · simp [fv, va_up, shSetR, shR, hi]
  · rw [va_up_ne _ _ hb]
    have e : fvs (shSetR σ a j r) I b = fvs σ I b := by
      funext c'
      simp only [fvs]
      congr 1
      funext k'
      simp [fv, va_up, shSetR, shR, hb]
    have e1 : shK (shSetR σ a j r) = shK σ := rfl
    have e2 : shN (shSetR σ a j r) = shN σ := rfl
    have e3 : shY (shSetR σ a j r) = shY σ := rfl
    have e4 : shJ (shSetR σ a j r) = shJ σ := rfl
    have e5 : shZ (shSetR σ a j r) = shZ σ := rfl
    simp only [cellOf, e, e1, e2, e3, e4, e5]
/-- a row of an int array or a char array -/
theorem pw_setX {A : Nat → Prop} {cy : Nat → ClassId} {σ : SH} {I X : IX} {a k : Nat} {f : Nat → Int32} (hD : va_D A (pw cy σ I X)) (h : a ∈ shL σ) (hK : shK σ a = 11) (hk : (pw cy σ I X)[k]? = some (a, cellOf cy σ I X a)) :
    (pw cy σ I X).set k (a, .inl (cy 1, shN σ a, .inl f)) = pw cy σ I (va_up X a f) := by
  rw [pw_set hD h hk]
  refine va_pl_congr fun b => ?_
  by_cases hb : b = a
  · subst hb
    rw [va_up_self, cell_i hK, va_up_self]
  · rw [va_up_ne _ _ hb]
    simp only [cellOf, va_up_ne _ _ hb]
theorem pw_setC {A : Nat → Prop} {cy : Nat → ClassId} {σ : SH} {I X : IX} {a k : Nat} {f : Nat → Int32} (hD : va_D A (pw cy σ I X)) (h : a ∈ shL σ) (hK : shK σ a = 10) (hk : (pw cy σ I X)[k]? = some (a, cellOf cy σ I X a)) :
    (pw cy σ I X).set k (a, .inl (cy 0, shN σ a, .inl f)) = pw cy σ I (va_up X a f) := by
  rw [pw_set hD h hk]
  refine va_pl_congr fun b => ?_
  by_cases hb : b = a
  · subst hb
    rw [va_up_self, cell_c hK, va_up_self]
  · rw [va_up_ne _ _ hb]
    simp only [cellOf, va_up_ne _ _ hb]
/-! the words -/
def isNest : Cond → Bool
  | .fieldLinkNest _ _ _ _ _ _ => true
  | .methodLinkNest _ _ _ _ => true
  | .castable _ _ => true
  | .declares _ => true
  | .arrayOver (.object _) => true
  | _ => false
def GT : List Cond := lw_tbl.filter goodWord
def GN : List Cond := lw_tbl.filter isNest
theorem GT_good : ∀ w ∈ GT, goodWord w = true := fun _ h => (List.mem_filter.mp h).2
theorem gw {w : Cond} (i : Nat) (h : lw_tbl[i]? = some w) (g : goodWord w = true) : w ∈ GT := List.mem_filter.mpr ⟨List.mem_of_getElem? h, g⟩
theorem gn {w : Cond} (i : Nat) (h : lw_tbl[i]? = some w) (g : isNest w = true) : w ∈ GN := List.mem_filter.mpr ⟨List.mem_of_getElem? h, g⟩
theorem GT_in {w : Cond} (h : w ∈ GT) : GoodIn GT (w :: GT) := fun x hx => by
  have : x ∈ GT := (List.mem_cons.mp hx).elim (fun e => by rw [e]; exact h) id
  exact ⟨this, good_of_word (GT_good x this)⟩
theorem GN_warm {w : Cond} (h : w ∈ GN) {s U : State} (hW : s.WarmedH U.vm) (hZ : va_Nw w s) : va_Nw w U := by
  have h2 := (List.mem_filter.mp h).2
  cases w <;> first | exact va_Nw.warmF hW hZ | exact va_Nw.warmM hW hZ | exact va_Nw.warmC hW hZ | exact va_Nw.warmD hW hZ | (rename_i t; cases t <;> first | exact va_AO.moved hW.alike hZ | (simp [isNest] at h2; done)) | (simp [isNest] at h2)
theorem GN_same {w : Cond} (h : w ∈ GN) {s U : State} (hv : s.vm = U.vm) (hZ : va_Nw w s) : va_Nw w U := by
  have h2 := (List.mem_filter.mp h).2
  cases w <;> first | exact va_Nw.same rfl hv hZ | (rename_i t; cases t <;> first | exact va_AO.moved (hv ▸ Vm.Alike.refl _) hZ | (simp [isNest] at h2; done)) | (simp [isNest] at h2)

def strs : List (String × Nat × String) := [("CausalBroadcast", 35, "members is not from 1 to 63"), ("CausalBroadcast", 78, "the process is in the proposed set"), ("CausalBroadcast", 88, "not in the proposed set, or no survivor would remain"), ("CausalBroadcast", 97, "the current view is the last one"), ("CausalBroadcast", 106, "not a member, or all messages have been sent"), ("CausalBroadcast", 132, "one of both is not a member, or both are the same"), ("CausalBroadcast", 149, "what is not 0 to 3"), ("CausalBroadcast", 180, "no such index"), ("CausalBroadcast", 205, "no such message in the buffer"), ("CausalBroadcast", 217, "the log of the first process is empty"), ("CausalBroadcast", 238, "not in the logs of all members, or stable for all members"), ("CausalBroadcast", 240, "the character code is out of range"), ("CausalBroadcast", 245, "the input has 60 characters"), ("CausalBroadcast", 260, "the input is not a script"), ("CausalBroadcast", 283, "one of the events would throw an exception"), ("CausalBroadcast", 285, "no error position was kept"), ("CausalBroadcast", 291, "no snapshot was saved"), ("CausalBroadcast", 296, "no such process"), ("CausalBroadcast", 301, "no such message"), ("CausalBroadcast", 303, "no such view"), ("CausalBroadcast", 308, "the process is not a member"), ("CausalBroadcast", 313, "not a member, or not a message of the current view"), ("CausalBroadcast", 318, "the message is not in the log"), ("CausalBroadcast$Script", 53, "bagjl")]
/-- what holds of the surroundings: nest links, text constants, two statics of Throwable, a static of String, the text bagjl -/
def Ev (sa sv : Nat → Nat) (A : Nat → Prop) (U : State) (H : Heap) : Prop :=
  (∀ w ∈ GN, va_Nw w U) ∧ (∀ (k : Nat) (q : String × Nat × String), strs[k]? = some q → vk_R q.1 q.2.1 q.2.2 (sa k) U) ∧ vx_Zq Bundle.tN "UNASSIGNED_STACK" Bundle.steD A U H ∧ vx_Zq Bundle.tN "SUPPRESSED_SENTINEL" Bundle.listD A U H ∧
  va_Z "java/lang/String" "COMPACT_STRINGS" "Z" (.int 1) A U H ∧ vk_S 1 [5] [[98, 97, 103, 106, 108]] (fun _ => sa 23) sv A U H
theorem Ev.move {sa sv : Nat → Nat} {A B : Nat → Prop} {s U : State} {H H1 : Heap} (h : Ev sa sv A s H) (hW : s.WarmedH U.vm) (hq : ∀ a : Nat, a < H.size → ¬ A a → H1[a]? = H[a]?) (hAB : ∀ q, B q → A q) : Ev sa sv B U H1 :=
  ⟨fun w hw => GN_warm hw hW (h.1 w hw), fun k q hk => vk_R.warm hW (h.2.1 k q hk), ((h.2.2.1.kept hq).moved hW.alike).narrow hAB, ((h.2.2.2.1.kept hq).moved hW.alike).narrow hAB, ((h.2.2.2.2.1.kept hq).moved hW.alike).narrow hAB, ((h.2.2.2.2.2.kept hq).moved hW.alike).narrow hAB⟩
theorem Ev.same {sa sv : Nat → Nat} {A : Nat → Prop} {s U : State} {H : Heap} (h : Ev sa sv A s H) (hv : s.vm = U.vm) : Ev sa sv A U H :=
  ⟨fun w hw => GN_same hw hv (h.1 w hw), fun k q hk => vk_R.same hv.symm (h.2.1 k q hk), h.2.2.1.moved (hv ▸ Vm.Alike.refl _), h.2.2.2.1.moved (hv ▸ Vm.Alike.refl _), h.2.2.2.2.1.moved (hv ▸ Vm.Alike.refl _), h.2.2.2.2.2.moved (hv ▸ Vm.Alike.refl _)⟩
/-! locals by their numbers -/
def lvg (l : List (Nat × Value)) (i : Nat) : Option Value := match l with
  | [] => none
  | q :: t => if q.1 = i then some q.2 else lvg t i
def lvs (l : List (Nat × Value)) (i : Nat) (v : Value) : List (Nat × Value) := (i, v) :: l.filter (fun q => !(q.1 == i) && !(q.1 + 1 == i && q.2.category == 2))
def lvs2 (l : List (Nat × Value)) (i : Nat) (v : Value) : List (Nat × Value) := (i, v) :: l.filter (fun q => !(q.1 == i) && (!(q.1 == i + 1) && !(q.1 + 1 == i && q.2.category == 2)))
theorem lvg_mem : ∀ {l : List (Nat × Value)} {i : Nat} {v : Value}, lvg l i = some v → (i, v) ∈ l
  | [], _, _, h => by cases h
  | q :: t, i, v, h => by
    unfold lvg at h
    by_cases hq : q.1 = i
    · rw [if_pos hq] at h
      cases h
      subst hq
      exact List.mem_cons_self
    · rw [if_neg hq] at h
      exact List.mem_cons_of_mem _ (lvg_mem h)
theorem lvg_has {ls : Array Slot} {nL : Nat} {l : List (Nat × Value)} (h : lv_has ls nL l) {i : Nat} {v : Value} (hv : lvg l i = some v) : ls[i]? = some (.val v) := h.2.2 (i, v) (lvg_mem hv)
theorem lvg_place {l : List (Nat × Value)} {i : Nat} {v : Value} (hv : lvg l i = some v) : ∃ k : Nat, l[k]? = some (i, v) := List.getElem?_of_mem (lvg_mem hv)
/-! the judgement -/
def V (p : Program) (l : Launch) (e : Env) (R : Room) (s : State) (m : MethodId) (args : Array Value) (below : List Frame) (meth : Method) (c : Code) (D : va_G) (cy : Nat → ClassId) (A : Nat → Prop) (Q : State → Prop) (nL cells slots : Nat) (σ : SH) (I X : IX) (pc : Nat) (lv : List (Nat × Value)) (st : List Value) : Prop :=
  ∀ (H : Heap) (locs : List Loc) (ls : Array Slot), va_P D vcl (pw cy σ I X) H → va_D A (pw cy σ I X) → va_S A s.heap H locs → lv_has ls nL lv → W p l e R s m args below meth c H locs cells slots Q (F0 m pc ls st)
def Fx (p : Program) (l : Launch) (s : State) (m : MethodId) (args : Array Value) (meth : Method) (c : Code) (D : va_G) (cy sa sv : Nat → Nat) (A : Nat → Prop) (nL : Nat) (own : String) (cc : ByteArray) (ret : Option FieldType) : Prop :=
  p.tables.exec = Jvm.exec ∧ c.code = cc ∧ c.maxLocals = nL ∧ s.vm.findClass own = some m.cls ∧ (∀ w ∈ GT, w.before args s = true) ∧ va_K D vcl (tys cy) s ∧ meth.locks = false ∧ meth.sig.returnType = ret ∧ Ev sa sv A s s.heap ∧ l.stackTraces = false ∧ ∀ q : Nat, s.heap.size ≤ q → A q

section VL
variable {p : Program} {l : Launch} {e : Env} {R : Room} {s : State} {m : MethodId} {args : Array Value} {below : List Frame} {meth : Method} {c : Code} {D : va_G} {cy sa sv : Nat → Nat} {A : Nat → Prop} {Q : State → Prop} {cc : ByteArray} {nL : Nat} {own : String} {ret : Option FieldType} {cells slots : Nat} {σ : SH} {I X : IX} {pc : Nat} {lv : List (Nat × Value)} {st : List Value}
theorem V.relv {lv' : List (Nat × Value)} (ks : List Nat) (h : ks.filterMap (fun i => (lvg lv i).map (fun v => (i, v))) = lv') (k : V p l e R s m args below meth c D cy A Q nL cells slots σ I X pc lv' st) : V p l e R s m args below meth c D cy A Q nL cells slots σ I X pc lv st := fun H locs ls hP hD hS hl => k H locs ls hP hD hS ⟨hl.1, hl.2.1, fun q hq => by
  rw [← h] at hq
  obtain ⟨i, -, hi⟩ := List.mem_filterMap.mp hq
  cases hv : lvg lv i with
  | none => rw [hv] at hi; cases hi
  | some v =>
    rw [hv] at hi
    cases hi
    exact lvg_has hl hv⟩
theorem V.widen {k n : Nat} (h1 : cells ≤ k) (h2 : slots ≤ n) (kk : V p l e R s m args below meth c D cy A Q nL k n σ I X pc lv st) : V p l e R s m args below meth c D cy A Q nL cells slots σ I X pc lv st := fun H locs ls hP hD hS hl => W.widen h1 h2 (kk H locs ls hP hD hS hl)
theorem V.topi {x y : Int32} (h : x = y) (k : V p l e R s m args below meth c D cy A Q nL cells slots σ I X pc lv (.int y :: st)) : V p l e R s m args below meth c D cy A Q nL cells slots σ I X pc lv (.int x :: st) := h ▸ k

theorem V.iconst (hF : Fx p l s m args meth c D cy sa sv A nL own cc ret) {n : Int} {v : Int32} (d : decode cc pc = .ok (.iconst n, 1)) (hv : Int32.ofInt n = v) (k : V p l e R s m args below meth c D cy A Q nL cells slots σ I X (pc + 1) lv (.int v :: st)) : V p l e R s m args below meth c D cy A Q nL cells slots σ I X pc lv st := fun H locs ls hP hD hS hl => lv_iconst hF.1 hF.2.1 d hv (k H locs ls hP hD hS hl)
theorem V.bipush (hF : Fx p l s m args meth c D cy sa sv A nL own cc ret) {n : Int} {v : Int32} (d : decode cc pc = .ok (.bipush n, 2)) (hv : (Int8.ofInt n).toInt32 = v) (k : V p l e R s m args below meth c D cy A Q nL cells slots σ I X (pc + 2) lv (.int v :: st)) : V p l e R s m args below meth c D cy A Q nL cells slots σ I X pc lv st := fun H locs ls hP hD hS hl => lv_bipush hF.1 hF.2.1 d hv (k H locs ls hP hD hS hl)
theorem V.sipush (hF : Fx p l s m args meth c D cy sa sv A nL own cc ret) {n : Int} {v : Int32} (d : decode cc pc = .ok (.sipush n, 3)) (hv : (Int16.ofInt n).toInt32 = v) (k : V p l e R s m args below meth c D cy A Q nL cells slots σ I X (pc + 3) lv (.int v :: st)) : V p l e R s m args below meth c D cy A Q nL cells slots σ I X pc lv st := fun H locs ls hP hD hS hl => lv_sipush hF.1 hF.2.1 d hv (k H locs ls hP hD hS hl)
theorem V.lconst (hF : Fx p l s m args meth c D cy sa sv A nL own cc ret) {n : Fin 2} {v : Int64} (d : decode cc pc = .ok (.lconst n, 1)) (hv : Int64.ofNat (n : Nat) = v) (k : V p l e R s m args below meth c D cy A Q nL cells slots σ I X (pc + 1) lv (.long v :: st)) : V p l e R s m args below meth c D cy A Q nL cells slots σ I X pc lv st := fun H locs ls hP hD hS hl => lv_lconst hF.1 hF.2.1 d hv (k H locs ls hP hD hS hl)
theorem V.dconst0 (hF : Fx p l s m args meth c D cy sa sv A nL own cc ret)  (d : decode cc pc = .ok (.dconst 0, 1))  (k : V p l e R s m args below meth c D cy A Q nL cells slots σ I X (pc + 1) lv (.double FP.dconst0 :: st)) : V p l e R s m args below meth c D cy A Q nL cells slots σ I X pc lv st := fun H locs ls hP hD hS hl => lv_dconst0 hF.1 hF.2.1 d (k H locs ls hP hD hS hl)
theorem V.null (hF : Fx p l s m args meth c D cy sa sv A nL own cc ret)  (d : decode cc pc = .ok (.aconst_null, 1))  (k : V p l e R s m args below meth c D cy A Q nL cells slots σ I X (pc + 1) lv (.null :: st)) : V p l e R s m args below meth c D cy A Q nL cells slots σ I X pc lv st := fun H locs ls hP hD hS hl => lv_null hF.1 hF.2.1 d (k H locs ls hP hD hS hl)
theorem V.iload_n (hF : Fx p l s m args meth c D cy sa sv A nL own cc ret) {i : Fin 4} {x : Int32} (d : decode cc pc = .ok (.iload_n i, 1)) (h : lvg lv i = some (.int x)) (k : V p l e R s m args below meth c D cy A Q nL cells slots σ I X (pc + 1) lv (.int x :: st)) : V p l e R s m args below meth c D cy A Q nL cells slots σ I X pc lv st := fun H locs ls hP hD hS hl => lv_iload_n hF.1 hF.2.1 d rfl (lvg_has hl h) (k H locs ls hP hD hS hl)
theorem V.iload (hF : Fx p l s m args meth c D cy sa sv A nL own cc ret) {i : Nat} {x : Int32} (d : decode cc pc = .ok (.iload i, 2)) (h : lvg lv i = some (.int x)) (k : V p l e R s m args below meth c D cy A Q nL cells slots σ I X (pc + 2) lv (.int x :: st)) : V p l e R s m args below meth c D cy A Q nL cells slots σ I X pc lv st := fun H locs ls hP hD hS hl => lv_iload hF.1 hF.2.1 d (lvg_has hl h) (k H locs ls hP hD hS hl)
theorem V.aload_n (hF : Fx p l s m args meth c D cy sa sv A nL own cc ret) {i : Fin 4} {x : Nat} (d : decode cc pc = .ok (.aload_n i, 1)) (h : lvg lv i = some (.ref x)) (k : V p l e R s m args below meth c D cy A Q nL cells slots σ I X (pc + 1) lv (.ref x :: st)) : V p l e R s m args below meth c D cy A Q nL cells slots σ I X pc lv st := fun H locs ls hP hD hS hl => lv_aload_n hF.1 hF.2.1 d rfl (lvg_has hl h) (k H locs ls hP hD hS hl)
theorem V.aload (hF : Fx p l s m args meth c D cy sa sv A nL own cc ret) {i : Nat} {x : Nat} (d : decode cc pc = .ok (.aload i, 2)) (h : lvg lv i = some (.ref x)) (k : V p l e R s m args below meth c D cy A Q nL cells slots σ I X (pc + 2) lv (.ref x :: st)) : V p l e R s m args below meth c D cy A Q nL cells slots σ I X pc lv st := fun H locs ls hP hD hS hl => lv_aload hF.1 hF.2.1 d (lvg_has hl h) (k H locs ls hP hD hS hl)
theorem V.dload_n (hF : Fx p l s m args meth c D cy sa sv A nL own cc ret) {i : Fin 4} {x : UInt64} (d : decode cc pc = .ok (.dload_n i, 1)) (h : lvg lv i = some (.double x)) (k : V p l e R s m args below meth c D cy A Q nL cells slots σ I X (pc + 1) lv (.double x :: st)) : V p l e R s m args below meth c D cy A Q nL cells slots σ I X pc lv st := fun H locs ls hP hD hS hl => lv_dload_n hF.1 hF.2.1 d rfl (lvg_has hl h) (k H locs ls hP hD hS hl)
theorem V.dload (hF : Fx p l s m args meth c D cy sa sv A nL own cc ret) {i : Nat} {x : UInt64} (d : decode cc pc = .ok (.dload i, 2)) (h : lvg lv i = some (.double x)) (k : V p l e R s m args below meth c D cy A Q nL cells slots σ I X (pc + 2) lv (.double x :: st)) : V p l e R s m args below meth c D cy A Q nL cells slots σ I X pc lv st := fun H locs ls hP hD hS hl => lv_dload hF.1 hF.2.1 d (lvg_has hl h) (k H locs ls hP hD hS hl)
theorem V.istore_n (hF : Fx p l s m args meth c D cy sa sv A nL own cc ret) {i : Fin 4} {x : Int32} (d : decode cc pc = .ok (.istore_n i, 1)) (hn : (i : Nat) < nL) (k : V p l e R s m args below meth c D cy A Q nL cells slots σ I X (pc + 1) (lvs lv i (.int x)) st) : V p l e R s m args below meth c D cy A Q nL cells slots σ I X pc lv (.int x :: st) := fun H locs ls hP hD hS hl => lv_istore_n hF.1 hF.2.1 d rfl hl hn rfl (fun ls' hl' => k H locs ls' hP hD hS hl')
theorem V.istore (hF : Fx p l s m args meth c D cy sa sv A nL own cc ret) {i : Nat} {x : Int32} (d : decode cc pc = .ok (.istore i, 2)) (hn : i < nL) (k : V p l e R s m args below meth c D cy A Q nL cells slots σ I X (pc + 2) (lvs lv i (.int x)) st) : V p l e R s m args below meth c D cy A Q nL cells slots σ I X pc lv (.int x :: st) := fun H locs ls hP hD hS hl => lv_istore hF.1 hF.2.1 d hl hn rfl (fun ls' hl' => k H locs ls' hP hD hS hl')
theorem V.astore_n (hF : Fx p l s m args meth c D cy sa sv A nL own cc ret) {i : Fin 4} {x : Nat} (d : decode cc pc = .ok (.astore_n i, 1)) (hn : (i : Nat) < nL) (k : V p l e R s m args below meth c D cy A Q nL cells slots σ I X (pc + 1) (lvs lv i (.ref x)) st) : V p l e R s m args below meth c D cy A Q nL cells slots σ I X pc lv (.ref x :: st) := fun H locs ls hP hD hS hl => lv_astore_n hF.1 hF.2.1 d rfl hl hn rfl (fun ls' hl' => k H locs ls' hP hD hS hl')
theorem V.astore (hF : Fx p l s m args meth c D cy sa sv A nL own cc ret) {i : Nat} {x : Nat} (d : decode cc pc = .ok (.astore i, 2)) (hn : i < nL) (k : V p l e R s m args below meth c D cy A Q nL cells slots σ I X (pc + 2) (lvs lv i (.ref x)) st) : V p l e R s m args below meth c D cy A Q nL cells slots σ I X pc lv (.ref x :: st) := fun H locs ls hP hD hS hl => lv_astore hF.1 hF.2.1 d hl hn rfl (fun ls' hl' => k H locs ls' hP hD hS hl')
theorem V.dstore (hF : Fx p l s m args meth c D cy sa sv A nL own cc ret) {i : Nat} {x : UInt64} (d : decode cc pc = .ok (.dstore i, 2)) (hn : i + 1 < nL) (k : V p l e R s m args below meth c D cy A Q nL cells slots σ I X (pc + 2) (lvs2 lv i (.double x)) st) : V p l e R s m args below meth c D cy A Q nL cells slots σ I X pc lv (.double x :: st) := fun H locs ls hP hD hS hl => lv_dstore hF.1 hF.2.1 d hl hn rfl (fun ls' hl' => k H locs ls' hP hD hS hl')
theorem V.iinc (hF : Fx p l s m args meth c D cy sa sv A nL own cc ret) {i : Nat} {n : Int} {x v : Int32} (d : decode cc pc = .ok (.iinc i n, 3)) (h : lvg lv i = some (.int x)) (hv : x + Int32.ofInt n = v) (hn : i < nL) (k : V p l e R s m args below meth c D cy A Q nL cells slots σ I X (pc + 3) (lvs lv i (.int v)) st) : V p l e R s m args below meth c D cy A Q nL cells slots σ I X pc lv st := fun H locs ls hP hD hS hl => (lvg_place h).elim (fun j hj => lv_iinc hF.1 hF.2.1 d hl (k := j) hj hv hn rfl (fun ls' hl' => k H locs ls' hP hD hS hl'))
theorem V.iadd (hF : Fx p l s m args meth c D cy sa sv A nL own cc ret) {x y : Int32} (d : decode cc pc = .ok (.iadd, 1))  (k : V p l e R s m args below meth c D cy A Q nL cells slots σ I X (pc + 1) lv (.int (x + y) :: st)) : V p l e R s m args below meth c D cy A Q nL cells slots σ I X pc lv (.int y :: .int x :: st) := fun H locs ls hP hD hS hl => lv_iadd hF.1 hF.2.1 d (k H locs ls hP hD hS hl)
theorem V.isub (hF : Fx p l s m args meth c D cy sa sv A nL own cc ret) {x y : Int32} (d : decode cc pc = .ok (.isub, 1))  (k : V p l e R s m args below meth c D cy A Q nL cells slots σ I X (pc + 1) lv (.int (x - y) :: st)) : V p l e R s m args below meth c D cy A Q nL cells slots σ I X pc lv (.int y :: .int x :: st) := fun H locs ls hP hD hS hl => lv_isub hF.1 hF.2.1 d (k H locs ls hP hD hS hl)
theorem V.imul (hF : Fx p l s m args meth c D cy sa sv A nL own cc ret) {x y : Int32} (d : decode cc pc = .ok (.imul, 1))  (k : V p l e R s m args below meth c D cy A Q nL cells slots σ I X (pc + 1) lv (.int (x * y) :: st)) : V p l e R s m args below meth c D cy A Q nL cells slots σ I X pc lv (.int y :: .int x :: st) := fun H locs ls hP hD hS hl => lv_imul hF.1 hF.2.1 d (k H locs ls hP hD hS hl)
theorem V.iand (hF : Fx p l s m args meth c D cy sa sv A nL own cc ret) {x y : Int32} (d : decode cc pc = .ok (.iand, 1))  (k : V p l e R s m args below meth c D cy A Q nL cells slots σ I X (pc + 1) lv (.int (x &&& y) :: st)) : V p l e R s m args below meth c D cy A Q nL cells slots σ I X pc lv (.int y :: .int x :: st) := fun H locs ls hP hD hS hl => lv_iand hF.1 hF.2.1 d (k H locs ls hP hD hS hl)
theorem V.ior (hF : Fx p l s m args meth c D cy sa sv A nL own cc ret) {x y : Int32} (d : decode cc pc = .ok (.ior, 1))  (k : V p l e R s m args below meth c D cy A Q nL cells slots σ I X (pc + 1) lv (.int (x ||| y) :: st)) : V p l e R s m args below meth c D cy A Q nL cells slots σ I X pc lv (.int y :: .int x :: st) := fun H locs ls hP hD hS hl => lv_ior hF.1 hF.2.1 d (k H locs ls hP hD hS hl)
theorem V.ixor (hF : Fx p l s m args meth c D cy sa sv A nL own cc ret) {x y : Int32} (d : decode cc pc = .ok (.ixor, 1))  (k : V p l e R s m args below meth c D cy A Q nL cells slots σ I X (pc + 1) lv (.int (x ^^^ y) :: st)) : V p l e R s m args below meth c D cy A Q nL cells slots σ I X pc lv (.int y :: .int x :: st) := fun H locs ls hP hD hS hl => lv_ixor hF.1 hF.2.1 d (k H locs ls hP hD hS hl)
theorem V.ishl (hF : Fx p l s m args meth c D cy sa sv A nL own cc ret) {x y : Int32} (d : decode cc pc = .ok (.ishl, 1))  (k : V p l e R s m args below meth c D cy A Q nL cells slots σ I X (pc + 1) lv (.int (x <<< (y &&& 31)) :: st)) : V p l e R s m args below meth c D cy A Q nL cells slots σ I X pc lv (.int y :: .int x :: st) := fun H locs ls hP hD hS hl => lv_ishl hF.1 hF.2.1 d (k H locs ls hP hD hS hl)
theorem V.ishr (hF : Fx p l s m args meth c D cy sa sv A nL own cc ret) {x y : Int32} (d : decode cc pc = .ok (.ishr, 1))  (k : V p l e R s m args below meth c D cy A Q nL cells slots σ I X (pc + 1) lv (.int (x >>> (y &&& 31)) :: st)) : V p l e R s m args below meth c D cy A Q nL cells slots σ I X pc lv (.int y :: .int x :: st) := fun H locs ls hP hD hS hl => lv_ishr hF.1 hF.2.1 d (k H locs ls hP hD hS hl)
theorem V.idiv (hF : Fx p l s m args meth c D cy sa sv A nL own cc ret) {x y : Int32} (d : decode cc pc = .ok (.idiv, 1)) (hne : ¬ y = 0) (k : V p l e R s m args below meth c D cy A Q nL cells slots σ I X (pc + 1) lv (.int (x / y) :: st)) : V p l e R s m args below meth c D cy A Q nL cells slots σ I X pc lv (.int y :: .int x :: st) := fun H locs ls hP hD hS hl => lv_idiv hF.1 hF.2.1 d hne (k H locs ls hP hD hS hl)
theorem V.ineg (hF : Fx p l s m args meth c D cy sa sv A nL own cc ret) {x : Int32} (d : decode cc pc = .ok (.ineg, 1))  (k : V p l e R s m args below meth c D cy A Q nL cells slots σ I X (pc + 1) lv (.int (-x) :: st)) : V p l e R s m args below meth c D cy A Q nL cells slots σ I X pc lv (.int x :: st) := fun H locs ls hP hD hS hl => lv_ineg hF.1 hF.2.1 d (k H locs ls hP hD hS hl)
theorem V.i2l (hF : Fx p l s m args meth c D cy sa sv A nL own cc ret) {x : Int32} (d : decode cc pc = .ok (.i2l, 1))  (k : V p l e R s m args below meth c D cy A Q nL cells slots σ I X (pc + 1) lv (.long x.toInt64 :: st)) : V p l e R s m args below meth c D cy A Q nL cells slots σ I X pc lv (.int x :: st) := fun H locs ls hP hD hS hl => lv_i2l hF.1 hF.2.1 d rfl (k H locs ls hP hD hS hl)
theorem V.i2c (hF : Fx p l s m args meth c D cy sa sv A nL own cc ret) {x : Int32} (d : decode cc pc = .ok (.i2c, 1))  (k : V p l e R s m args below meth c D cy A Q nL cells slots σ I X (pc + 1) lv (.int (x.toUInt32 % 65536).toInt32 :: st)) : V p l e R s m args below meth c D cy A Q nL cells slots σ I X pc lv (.int x :: st) := fun H locs ls hP hD hS hl => lv_i2c hF.1 hF.2.1 d rfl (k H locs ls hP hD hS hl)
theorem V.i2d (hF : Fx p l s m args meth c D cy sa sv A nL own cc ret) {x : Int32} (d : decode cc pc = .ok (.i2d, 1))  (k : V p l e R s m args below meth c D cy A Q nL cells slots σ I X (pc + 1) lv (.double (FP.i2d x) :: st)) : V p l e R s m args below meth c D cy A Q nL cells slots σ I X pc lv (.int x :: st) := fun H locs ls hP hD hS hl => lv_i2d hF.1 hF.2.1 d (k H locs ls hP hD hS hl)
theorem V.ddiv (hF : Fx p l s m args meth c D cy sa sv A nL own cc ret) {x y : UInt64} (d : decode cc pc = .ok (.ddiv, 1)) (hne : vf_n64 (FP.ddiv x y)) (k : V p l e R s m args below meth c D cy A Q nL cells slots σ I X (pc + 1) lv (.double (FP.ddiv x y) :: st)) : V p l e R s m args below meth c D cy A Q nL cells slots σ I X pc lv (.double y :: .double x :: st) := fun H locs ls hP hD hS hl => lv_ddiv hF.1 hF.2.1 d hne (k H locs ls hP hD hS hl)
theorem V.dcmp (hF : Fx p l s m args meth c D cy sa sv A nL own cc ret) {x y : UInt64} {op : CmpOp} (d : decode cc pc = .ok (.dcmp op, 1))  (k : V p l e R s m args below meth c D cy A Q nL cells slots σ I X (pc + 1) lv (.int (Op.cmpValue (FP.dcmp x y) op) :: st)) : V p l e R s m args below meth c D cy A Q nL cells slots σ I X pc lv (.double y :: .double x :: st) := fun H locs ls hP hD hS hl => lv_dcmp hF.1 hF.2.1 d (k H locs ls hP hD hS hl)
theorem V.lcmp (hF : Fx p l s m args meth c D cy sa sv A nL own cc ret) {x y : Int64} (d : decode cc pc = .ok (.lcmp, 1))  (k : V p l e R s m args below meth c D cy A Q nL cells slots σ I X (pc + 1) lv (.int (lg_cmp x y) :: st)) : V p l e R s m args below meth c D cy A Q nL cells slots σ I X pc lv (.long y :: .long x :: st) := fun H locs ls hP hD hS hl => W.lcmp hF.1 hF.2.1 d (k H locs ls hP hD hS hl)
theorem V.dup (hF : Fx p l s m args meth c D cy sa sv A nL own cc ret) {v : Value} (d : decode cc pc = .ok (.dup, 1)) (hc : v.category = 1) (k : V p l e R s m args below meth c D cy A Q nL cells slots σ I X (pc + 1) lv (v :: v :: st)) : V p l e R s m args below meth c D cy A Q nL cells slots σ I X pc lv (v :: st) := fun H locs ls hP hD hS hl => lv_dup hF.1 hF.2.1 d hc (k H locs ls hP hD hS hl)
theorem V.pop (hF : Fx p l s m args meth c D cy sa sv A nL own cc ret) {v : Value} (d : decode cc pc = .ok (.pop, 1)) (hc : v.category = 1) (k : V p l e R s m args below meth c D cy A Q nL cells slots σ I X (pc + 1) lv st) : V p l e R s m args below meth c D cy A Q nL cells slots σ I X pc lv (v :: st) := fun H locs ls hP hD hS hl => lv_pop hF.1 hF.2.1 d hc (k H locs ls hP hD hS hl)
theorem V.dup2 (hF : Fx p l s m args meth c D cy sa sv A nL own cc ret) {v u : Value} (d : decode cc pc = .ok (.dup2, 1)) (hc : v.category = 1) (hc2 : u.category = 1) (k : V p l e R s m args below meth c D cy A Q nL cells slots σ I X (pc + 1) lv (v :: u :: v :: u :: st)) : V p l e R s m args below meth c D cy A Q nL cells slots σ I X pc lv (v :: u :: st) := fun H locs ls hP hD hS hl => lv_dup2_11 hF.1 hF.2.1 d hc hc2 (k H locs ls hP hD hS hl)
theorem V.goto (hF : Fx p l s m args meth c D cy sa sv A nL own cc ret) {off : Int} {tgt : Nat} (d : decode cc pc = .ok (.goto off, 3)) (ht : (pc : Int) + off = (tgt : Int)) (k : V p l e R s m args below meth c D cy A Q nL cells slots σ I X tgt lv st) : V p l e R s m args below meth c D cy A Q nL cells slots σ I X pc lv st := fun H locs ls hP hD hS hl => lv_goto hF.1 hF.2.1 d ht (k H locs ls hP hD hS hl)
-- BRANCHES
theorem V.if_eq (hF : Fx p l s m args meth c D cy sa sv A nL own cc ret) {x : Int32} {off : Int} {tgt : Nat} (d : decode cc pc = .ok (.ifCond .eq off, 3)) (ht : (pc : Int) + off = (tgt : Int)) (kt : x = 0 → V p l e R s m args below meth c D cy A Q nL cells slots σ I X tgt lv st) (kf : ¬ x = 0 → V p l e R s m args below meth c D cy A Q nL cells slots σ I X (pc + 3) lv st) : V p l e R s m args below meth c D cy A Q nL cells slots σ I X pc lv (.int x :: st) := fun H locs ls hP hD hS hl => lv_if_eq hF.1 hF.2.1 d ht (fun h => kt h H locs ls hP hD hS hl) (fun h => kf h H locs ls hP hD hS hl)
theorem V.icmp_eq (hF : Fx p l s m args meth c D cy sa sv A nL own cc ret) {x y : Int32} {off : Int} {tgt : Nat} (d : decode cc pc = .ok (.if_icmp .eq off, 3)) (ht : (pc : Int) + off = (tgt : Int)) (kt : x = y → V p l e R s m args below meth c D cy A Q nL cells slots σ I X tgt lv st) (kf : ¬ x = y → V p l e R s m args below meth c D cy A Q nL cells slots σ I X (pc + 3) lv st) : V p l e R s m args below meth c D cy A Q nL cells slots σ I X pc lv (.int y :: .int x :: st) := fun H locs ls hP hD hS hl => lv_icmp_eq hF.1 hF.2.1 d ht (fun h => kt h H locs ls hP hD hS hl) (fun h => kf h H locs ls hP hD hS hl)
theorem V.if_ne (hF : Fx p l s m args meth c D cy sa sv A nL own cc ret) {x : Int32} {off : Int} {tgt : Nat} (d : decode cc pc = .ok (.ifCond .ne off, 3)) (ht : (pc : Int) + off = (tgt : Int)) (kt : ¬ x = 0 → V p l e R s m args below meth c D cy A Q nL cells slots σ I X tgt lv st) (kf : x = 0 → V p l e R s m args below meth c D cy A Q nL cells slots σ I X (pc + 3) lv st) : V p l e R s m args below meth c D cy A Q nL cells slots σ I X pc lv (.int x :: st) := fun H locs ls hP hD hS hl => lv_if_ne hF.1 hF.2.1 d ht (fun h => kt h H locs ls hP hD hS hl) (fun h => kf h H locs ls hP hD hS hl)
theorem V.icmp_ne (hF : Fx p l s m args meth c D cy sa sv A nL own cc ret) {x y : Int32} {off : Int} {tgt : Nat} (d : decode cc pc = .ok (.if_icmp .ne off, 3)) (ht : (pc : Int) + off = (tgt : Int)) (kt : ¬ x = y → V p l e R s m args below meth c D cy A Q nL cells slots σ I X tgt lv st) (kf : x = y → V p l e R s m args below meth c D cy A Q nL cells slots σ I X (pc + 3) lv st) : V p l e R s m args below meth c D cy A Q nL cells slots σ I X pc lv (.int y :: .int x :: st) := fun H locs ls hP hD hS hl => lv_icmp_ne hF.1 hF.2.1 d ht (fun h => kt h H locs ls hP hD hS hl) (fun h => kf h H locs ls hP hD hS hl)
theorem V.if_lt (hF : Fx p l s m args meth c D cy sa sv A nL own cc ret) {x : Int32} {off : Int} {tgt : Nat} (d : decode cc pc = .ok (.ifCond .lt off, 3)) (ht : (pc : Int) + off = (tgt : Int)) (kt : x < 0 → V p l e R s m args below meth c D cy A Q nL cells slots σ I X tgt lv st) (kf : ¬ x < 0 → V p l e R s m args below meth c D cy A Q nL cells slots σ I X (pc + 3) lv st) : V p l e R s m args below meth c D cy A Q nL cells slots σ I X pc lv (.int x :: st) := fun H locs ls hP hD hS hl => lv_if_lt hF.1 hF.2.1 d ht (fun h => kt h H locs ls hP hD hS hl) (fun h => kf h H locs ls hP hD hS hl)
theorem V.icmp_lt (hF : Fx p l s m args meth c D cy sa sv A nL own cc ret) {x y : Int32} {off : Int} {tgt : Nat} (d : decode cc pc = .ok (.if_icmp .lt off, 3)) (ht : (pc : Int) + off = (tgt : Int)) (kt : x < y → V p l e R s m args below meth c D cy A Q nL cells slots σ I X tgt lv st) (kf : ¬ x < y → V p l e R s m args below meth c D cy A Q nL cells slots σ I X (pc + 3) lv st) : V p l e R s m args below meth c D cy A Q nL cells slots σ I X pc lv (.int y :: .int x :: st) := fun H locs ls hP hD hS hl => lv_icmp_lt hF.1 hF.2.1 d ht (fun h => kt h H locs ls hP hD hS hl) (fun h => kf h H locs ls hP hD hS hl)
theorem V.if_ge (hF : Fx p l s m args meth c D cy sa sv A nL own cc ret) {x : Int32} {off : Int} {tgt : Nat} (d : decode cc pc = .ok (.ifCond .ge off, 3)) (ht : (pc : Int) + off = (tgt : Int)) (kt : 0 ≤ x → V p l e R s m args below meth c D cy A Q nL cells slots σ I X tgt lv st) (kf : ¬ 0 ≤ x → V p l e R s m args below meth c D cy A Q nL cells slots σ I X (pc + 3) lv st) : V p l e R s m args below meth c D cy A Q nL cells slots σ I X pc lv (.int x :: st) := fun H locs ls hP hD hS hl => lv_if_ge hF.1 hF.2.1 d ht (fun h => kt h H locs ls hP hD hS hl) (fun h => kf h H locs ls hP hD hS hl)
theorem V.icmp_ge (hF : Fx p l s m args meth c D cy sa sv A nL own cc ret) {x y : Int32} {off : Int} {tgt : Nat} (d : decode cc pc = .ok (.if_icmp .ge off, 3)) (ht : (pc : Int) + off = (tgt : Int)) (kt : y ≤ x → V p l e R s m args below meth c D cy A Q nL cells slots σ I X tgt lv st) (kf : ¬ y ≤ x → V p l e R s m args below meth c D cy A Q nL cells slots σ I X (pc + 3) lv st) : V p l e R s m args below meth c D cy A Q nL cells slots σ I X pc lv (.int y :: .int x :: st) := fun H locs ls hP hD hS hl => lv_icmp_ge hF.1 hF.2.1 d ht (fun h => kt h H locs ls hP hD hS hl) (fun h => kf h H locs ls hP hD hS hl)
theorem V.if_gt (hF : Fx p l s m args meth c D cy sa sv A nL own cc ret) {x : Int32} {off : Int} {tgt : Nat} (d : decode cc pc = .ok (.ifCond .gt off, 3)) (ht : (pc : Int) + off = (tgt : Int)) (kt : 0 < x → V p l e R s m args below meth c D cy A Q nL cells slots σ I X tgt lv st) (kf : ¬ 0 < x → V p l e R s m args below meth c D cy A Q nL cells slots σ I X (pc + 3) lv st) : V p l e R s m args below meth c D cy A Q nL cells slots σ I X pc lv (.int x :: st) := fun H locs ls hP hD hS hl => lv_if_gt hF.1 hF.2.1 d ht (fun h => kt h H locs ls hP hD hS hl) (fun h => kf h H locs ls hP hD hS hl)
theorem V.icmp_gt (hF : Fx p l s m args meth c D cy sa sv A nL own cc ret) {x y : Int32} {off : Int} {tgt : Nat} (d : decode cc pc = .ok (.if_icmp .gt off, 3)) (ht : (pc : Int) + off = (tgt : Int)) (kt : y < x → V p l e R s m args below meth c D cy A Q nL cells slots σ I X tgt lv st) (kf : ¬ y < x → V p l e R s m args below meth c D cy A Q nL cells slots σ I X (pc + 3) lv st) : V p l e R s m args below meth c D cy A Q nL cells slots σ I X pc lv (.int y :: .int x :: st) := fun H locs ls hP hD hS hl => lv_icmp_gt hF.1 hF.2.1 d ht (fun h => kt h H locs ls hP hD hS hl) (fun h => kf h H locs ls hP hD hS hl)
theorem V.if_le (hF : Fx p l s m args meth c D cy sa sv A nL own cc ret) {x : Int32} {off : Int} {tgt : Nat} (d : decode cc pc = .ok (.ifCond .le off, 3)) (ht : (pc : Int) + off = (tgt : Int)) (kt : x ≤ 0 → V p l e R s m args below meth c D cy A Q nL cells slots σ I X tgt lv st) (kf : ¬ x ≤ 0 → V p l e R s m args below meth c D cy A Q nL cells slots σ I X (pc + 3) lv st) : V p l e R s m args below meth c D cy A Q nL cells slots σ I X pc lv (.int x :: st) := fun H locs ls hP hD hS hl => lv_if_le hF.1 hF.2.1 d ht (fun h => kt h H locs ls hP hD hS hl) (fun h => kf h H locs ls hP hD hS hl)
theorem V.icmp_le (hF : Fx p l s m args meth c D cy sa sv A nL own cc ret) {x y : Int32} {off : Int} {tgt : Nat} (d : decode cc pc = .ok (.if_icmp .le off, 3)) (ht : (pc : Int) + off = (tgt : Int)) (kt : x ≤ y → V p l e R s m args below meth c D cy A Q nL cells slots σ I X tgt lv st) (kf : ¬ x ≤ y → V p l e R s m args below meth c D cy A Q nL cells slots σ I X (pc + 3) lv st) : V p l e R s m args below meth c D cy A Q nL cells slots σ I X pc lv (.int y :: .int x :: st) := fun H locs ls hP hD hS hl => lv_icmp_le hF.1 hF.2.1 d ht (fun h => kt h H locs ls hP hD hS hl) (fun h => kf h H locs ls hP hD hS hl)
theorem V.ifnonnull (hF : Fx p l s m args meth c D cy sa sv A nL own cc ret) {x : Nat} {off : Int} {tgt : Nat} (d : decode cc pc = .ok (.ifnonnull off, 3)) (ht : (pc : Int) + off = (tgt : Int)) (k : V p l e R s m args below meth c D cy A Q nL cells slots σ I X tgt lv st) : V p l e R s m args below meth c D cy A Q nL cells slots σ I X pc lv (.ref x :: st) := fun H locs ls hP hD hS hl => lv_ifnonnull hF.1 hF.2.1 d ht (k H locs ls hP hD hS hl)
theorem V.ifnonnullN (hF : Fx p l s m args meth c D cy sa sv A nL own cc ret) {off : Int} (d : decode cc pc = .ok (.ifnonnull off, 3)) (k : V p l e R s m args below meth c D cy A Q nL cells slots σ I X (pc + 3) lv st) : V p l e R s m args below meth c D cy A Q nL cells slots σ I X pc lv (.null :: st) := fun H locs ls hP hD hS hl => lv_ifnonnullN hF.1 hF.2.1 d (k H locs ls hP hD hS hl)
theorem V.tableIn (hF : Fx p l s m args meth c D cy sa sv A nL own cc ret) {dflt lo hi : Int} {offs : Array Int} {len : Nat} {x : Int32} {off : Int} {tgt : Nat} (d : decode cc pc = .ok (.tableswitch dflt lo hi offs, len)) (h1 : ¬ x.toInt < lo) (h2 : ¬ hi < x.toInt) (ho : offs[(x.toInt - lo).toNat]? = some off) (ht : (pc : Int) + off = (tgt : Int)) (k : V p l e R s m args below meth c D cy A Q nL cells slots σ I X tgt lv st) : V p l e R s m args below meth c D cy A Q nL cells slots σ I X pc lv (.int x :: st) := fun H locs ls hP hD hS hl => lv_tableIn hF.1 hF.2.1 d h1 h2 ho ht (k H locs ls hP hD hS hl)
theorem V.tableOut (hF : Fx p l s m args meth c D cy sa sv A nL own cc ret) {dflt lo hi : Int} {offs : Array Int} {len : Nat} {x : Int32} {tgt : Nat} (d : decode cc pc = .ok (.tableswitch dflt lo hi offs, len)) (h : x.toInt < lo ∨ hi < x.toInt) (ht : (pc : Int) + dflt = (tgt : Int)) (k : V p l e R s m args below meth c D cy A Q nL cells slots σ I X tgt lv st) : V p l e R s m args below meth c D cy A Q nL cells slots σ I X pc lv (.int x :: st) := fun H locs ls hP hD hS hl => lv_tableOut hF.1 hF.2.1 d h ht (k H locs ls hP hD hS hl)
theorem V.lookup (hF : Fx p l s m args meth c D cy sa sv A nL own cc ret) {dflt : Int} {ps : Array (Int × Int)} {len : Nat} {x : Int32} {off : Int} {tgt : Nat} (d : decode cc pc = .ok (.lookupswitch dflt ps, len)) (hp : (ps.toList.zip (ps.toList.drop 1)).all (fun (a, next) => a.1 < next.1) = true) (ho : Op.lookupswitch.offset ps.toList dflt x.toInt = off) (ht : (pc : Int) + off = (tgt : Int)) (k : V p l e R s m args below meth c D cy A Q nL cells slots σ I X tgt lv st) : V p l e R s m args below meth c D cy A Q nL cells slots σ I X pc lv (.int x :: st) := fun H locs ls hP hD hS hl => lv_lookup hF.1 hF.2.1 d hp ho ht (k H locs ls hP hD hS hl)


/-! fields, arrays -/
def Fl (own : String) (idx ci k : Nat) (b : Bool) (t : FieldType) : Prop := ∃ (C : String) (T : u_T) (N : Nat) (ty : Nat → FieldType), ci < 6 ∧ vcl[ci]? = some (C, T, N) ∧ (∀ w ∈ u_ws C T N, w ∈ GT) ∧ (∀ k, k < N → parseFieldDescriptor (T k).2.2.1 = some (ty k)) ∧ (∀ a, a < N → ∀ b, b < N → a ≠ b → (T a).2.1 ≠ (T b).2.1) ∧ nf ci = N ∧ k < N ∧
  (Cond.fieldLink own idx (T k).1 (T k).2.1 (T k).2.2.1 ∈ GT ∨ ∃ host, Cond.fieldLinkNest own idx (T k).1 (T k).2.1 (T k).2.2.1 host ∈ GN) ∧ (T k).2.2.2 = b ∧ ty k = t ∧ (T k).1 = C
theorem fvs_at {σ : SH} {I : IX} {a ci k : Nat} (hk : k < nf ci) : (fvs σ I a ci)[k]? = some (fv σ I a ci k) := by simp [fvs, hk]
theorem fvs_len {σ : SH} {I : IX} {a ci : Nat} : (fvs σ I a ci).length = nf ci := by simp [fvs]

theorem V.getf (hF : Fx p l s m args meth c D cy sa sv A nL own cc ret) {idx ci k a : Nat} {b : Bool} {t : FieldType} {v : Value} (d : decode cc pc = .ok (.getfield idx, 3)) (hf : Fl own idx ci k b t) (hm : a ∈ shL σ) (hK : shK σ a = ci) (hv : fv σ I a ci k = v) (kk : V p l e R s m args below meth c D cy A Q nL cells slots σ I X (pc + 3) lv (v :: st)) : V p l e R s m args below meth c D cy A Q nL cells slots σ I X pc lv (.ref a :: st) := by
  intro H locs ls hP hD hS hl
  obtain ⟨C, T, N, ty, hci, hc, hin, hty, hnm, hN, hk, hlk, -, -, -⟩ := hf
  obtain ⟨hx, hb, -, hown, hts, hKK, -, -, hE, -, -⟩ := hF
  obtain ⟨q0, he⟩ := pw_get (cy := cy) (I := I) (X := X) hm
  rw [cell_o hK hci] at he
  have hv' : (fvs σ I a ci)[k]? = some v := by rw [fvs_at (by omega), hv]
  rcases hlk with h | ⟨host, h⟩
  · exact va_get hx hb hts hin hown hKK hP q0 he hc k hk (hts _ h) (fun _ h => h) hv' d (kk H locs ls hP hD hS hl)
  · exact va_getN hx hb hts hin hown hKK hP q0 he hc k hk (va_Nw.use rfl (hE.1 _ h)) (fun _ h => h) hv' d (kk H locs ls hP hD hS hl)
theorem V.getI (hF : Fx p l s m args meth c D cy sa sv A nL own cc ret) {idx ci k a : Nat} {b : Bool} {t : FieldType} (d : decode cc pc = .ok (.getfield idx, 3)) (hf : Fl own idx ci k b t) (hm : a ∈ shL σ) (hK : shK σ a = ci) (hr : rft ci k = false) (kk : V p l e R s m args below meth c D cy A Q nL cells slots σ I X (pc + 3) lv (.int (I a k) :: st)) : V p l e R s m args below meth c D cy A Q nL cells slots σ I X pc lv (.ref a :: st) := V.getf hF d hf hm hK (by simp [fv, hr]) kk
theorem V.getR (hF : Fx p l s m args meth c D cy sa sv A nL own cc ret) {idx ci k a q : Nat} {b : Bool} {t : FieldType} (d : decode cc pc = .ok (.getfield idx, 3)) (hf : Fl own idx ci k b t) (hm : a ∈ shL σ) (hK : shK σ a = ci) (hr : rft ci k = true) (hq : shR σ a k = some q) (kk : V p l e R s m args below meth c D cy A Q nL cells slots σ I X (pc + 3) lv (.ref q :: st)) : V p l e R s m args below meth c D cy A Q nL cells slots σ I X pc lv (.ref a :: st) := V.getf hF d hf hm hK (by simp [fv, hr, hq, va_rf]) kk
theorem V.getRN (hF : Fx p l s m args meth c D cy sa sv A nL own cc ret) {idx ci k a : Nat} {b : Bool} {t : FieldType} (d : decode cc pc = .ok (.getfield idx, 3)) (hf : Fl own idx ci k b t) (hm : a ∈ shL σ) (hK : shK σ a = ci) (hr : rft ci k = true) (hq : shR σ a k = none) (kk : V p l e R s m args below meth c D cy A Q nL cells slots σ I X (pc + 3) lv (.null :: st)) : V p l e R s m args below meth c D cy A Q nL cells slots σ I X pc lv (.ref a :: st) := V.getf hF d hf hm hK (by simp [fv, hr, hq, va_rf]) kk
theorem V.putI (hF : Fx p l s m args meth c D cy sa sv A nL own cc ret) {idx ci k a : Nat} {t : FieldType} {x : Int32} (d : decode cc pc = .ok (.putfield idx, 3)) (hf : Fl own idx ci k false t) (hm : a ∈ shL σ) (hK : shK σ a = ci) (hr : rft ci k = false) (hn : narrow t (.int x) = .int x) (hfit : fits t (.int x) = true) (kk : V p l e R s m args below meth c D cy A Q nL cells slots σ (va_up I a (upd (I a) k x)) X (pc + 3) lv st) : V p l e R s m args below meth c D cy A Q nL cells slots σ I X pc lv (.int x :: .ref a :: st) := by
  intro H locs ls hP hD hS hl
  obtain ⟨C, T, N, ty, hci, hc, hin, hty, hnm, hN, hk, hlk, hfin, ht, -⟩ := hf
  obtain ⟨hx, hb, -, hown, hts, hKK, -, -, hE, -, -⟩ := hF
  obtain ⟨q0, he0⟩ := pw_get (cy := cy) (I := I) (X := X) hm
  have he := he0
  rw [cell_o hK hci] at he
  have hlen : k < (fvs σ I a ci).length := by rw [fvs_len]; omega
  have hset := pw_setI (x := x) (j := k) hD hm hK hci hr (by omega) he0
  have hkk : ∀ (H1 : Heap) (locs1 : List Loc), va_P D vcl ((pw cy σ I X).set q0 (a, .inr (ci, (fvs σ I a ci).set k (.int x)))) H1 → va_D A ((pw cy σ I X).set q0 (a, .inr (ci, (fvs σ I a ci).set k (.int x)))) → va_S A s.heap H1 locs1 → W p l e R s m args below meth c H1 locs1 cells slots Q (F0 m (pc + 3) ls st) := by
    rw [hset]
    exact fun H1 locs1 hP hD hS => kk H1 locs1 ls hP hD hS hl
  have hd : parseFieldDescriptor (T k).2.2.1 = some t := by rw [← ht]; exact hty k hk
  rcases hlk with h | ⟨host, h⟩
  · exact va_put hx hb hts hin ty hty hnm hown hKK hP hD hS q0 he hc k hk (hts _ h) (fun _ h => h) hfin hd hn hfit hlen d hkk
  · exact va_putN hx hb hts hin ty hty hnm hown hKK hP hD hS q0 he hc k hk (va_Nw.use rfl (hE.1 _ h)) (fun _ h => h) hfin hd hn hfit hlen d hkk
theorem rf_fit {t : FieldType} {r : Option Nat} (ht : (∃ C, t = .object C) ∨ ∃ u, t = .array u) : narrow t (va_rf r) = va_rf r ∧ fits t (va_rf r) = true := by
  rcases ht with ⟨C, rfl⟩ | ⟨u, rfl⟩ <;> cases r <;> exact ⟨rfl, rfl⟩
theorem V.putRv (hF : Fx p l s m args meth c D cy sa sv A nL own cc ret) {idx ci k a : Nat} {b : Bool} {t : FieldType} {r : Option Nat} {v : Value} (d : decode cc pc = .ok (.putfield idx, 3)) (hf : Fl own idx ci k b t) (hv : v = va_rf r) (hb2 : b = false ∨ (meth.name = "<init>" ∧ ∃ (T : u_T) (N : Nat), vcl[ci]? = some (own, T, N) ∧ Cond.fieldLink own idx (T k).1 (T k).2.1 (T k).2.2.1 ∈ GT)) (ht2 : (∃ C, t = .object C) ∨ ∃ u, t = .array u) (hm : a ∈ shL σ) (hK : shK σ a = ci) (hr : rft ci k = true) (kk : V p l e R s m args below meth c D cy A Q nL cells slots (shSetR σ a k r) I X (pc + 3) lv st) : V p l e R s m args below meth c D cy A Q nL cells slots σ I X pc lv (v :: .ref a :: st) := by
  intro H locs ls hP hD hS hl
  subst hv
  obtain ⟨C, T, N, ty, hci, hc, hin, hty, hnm, hN, hk, hlk, hfin, ht, hdec⟩ := hf
  obtain ⟨hx, hb, -, hown, hts, hKK, -, -, hE, -, -⟩ := hF
  obtain ⟨q0, he0⟩ := pw_get (cy := cy) (I := I) (X := X) hm
  have he := he0
  rw [cell_o hK hci] at he
  have hlen : k < (fvs σ I a ci).length := by rw [fvs_len]; omega
  have hset := pw_setR (r := r) (j := k) hD hm hK hci hr (by omega) he0
  have hkk : ∀ (H1 : Heap) (locs1 : List Loc), va_P D vcl ((pw cy σ I X).set q0 (a, .inr (ci, (fvs σ I a ci).set k (va_rf r)))) H1 → va_D A ((pw cy σ I X).set q0 (a, .inr (ci, (fvs σ I a ci).set k (va_rf r)))) → va_S A s.heap H1 locs1 → W p l e R s m args below meth c H1 locs1 cells slots Q (F0 m (pc + 3) ls st) := by
    rw [hset]
    exact fun H1 locs1 hP hD hS => kk H1 locs1 ls hP hD hS hl
  have hd : parseFieldDescriptor (T k).2.2.1 = some t := by rw [← ht]; exact hty k hk
  obtain ⟨hn, hfit⟩ := rf_fit (r := r) ht2
  cases b with
  | false =>
    rcases hlk with h | ⟨host, h⟩
    · exact va_put hx hb hts hin ty hty hnm hown hKK hP hD hS q0 he hc k hk (hts _ h) (fun _ h => h) hfin hd hn hfit hlen d hkk
    · exact va_putN hx hb hts hin ty hty hnm hown hKK hP hD hS q0 he hc k hk (va_Nw.use rfl (hE.1 _ h)) (fun _ h => h) hfin hd hn hfit hlen d hkk
  | true =>
    rcases hb2 with h | ⟨hini, T', N', hc', hlk'⟩
    · cases h
    · have e := Option.some.inj (hc.symm.trans hc')
      cases e
      exact va_putF hx hb hts hin ty hty hnm hown hKK hP hD hS q0 he hc k hk (hts _ hlk') (fun _ h => h) hfin hini hdec hd hn hfit hlen d hkk

theorem V.iaload (hF : Fx p l s m args meth c D cy sa sv A nL own cc ret) {a j : Nat} {i : Int32}  (d : decode cc pc = .ok (.iaload, 1)) (hm : a ∈ shL σ) (hK : shK σ a = 11) (hi : i = nI j) (hj : j < shN σ a) (hN : shN σ a < 2147483648) (kk : V p l e R s m args below meth c D cy A Q nL cells slots σ I X (pc + 1) lv (.int (X a j) :: st)) : V p l e R s m args below meth c D cy A Q nL cells slots σ I X pc lv (.int i :: .ref a :: st) := by
  intro H locs ls hP hD hS hl
  obtain ⟨hx, hb, -, hown, hts, hKK, -, -, hE, -, -⟩ := hF
  obtain ⟨q0, he⟩ := pw_get (cy := cy) (I := I) (X := X) hm
  rw [cell_i hK] at he
  subst hi
  have e := nI_clamp (n := j) (by omega)
  refine va_iald hx hb hKK hP q0 1 he rfl (vp_in_nI hj (by omega)) d ?_
  rw [e]
  exact kk H locs ls hP hD hS hl
theorem V.caload (hF : Fx p l s m args meth c D cy sa sv A nL own cc ret) {a j : Nat} {i : Int32}  (d : decode cc pc = .ok (.caload, 1)) (hm : a ∈ shL σ) (hK : shK σ a = 10) (hi : i = nI j) (hj : j < shN σ a) (hN : shN σ a < 2147483648) (kk : V p l e R s m args below meth c D cy A Q nL cells slots σ I X (pc + 1) lv (.int (X a j) :: st)) : V p l e R s m args below meth c D cy A Q nL cells slots σ I X pc lv (.int i :: .ref a :: st) := by
  intro H locs ls hP hD hS hl
  obtain ⟨hx, hb, -, hown, hts, hKK, -, -, hE, -, -⟩ := hF
  obtain ⟨q0, he⟩ := pw_get (cy := cy) (I := I) (X := X) hm
  rw [cell_c hK] at he
  subst hi
  have e := nI_clamp (n := j) (by omega)
  refine va_cald hx hb hKK hP q0 0 he rfl (vp_in_nI hj (by omega)) d ?_
  rw [e]
  exact kk H locs ls hP hD hS hl
theorem V.laload (hF : Fx p l s m args meth c D cy sa sv A nL own cc ret) {a j : Nat} {i : Int32}  (d : decode cc pc = .ok (.laload, 1)) (hm : a ∈ shL σ) (hK : shK σ a = 13) (hi : i = nI j) (hj : j < shN σ a) (hN : shN σ a < 2147483648) (kk : V p l e R s m args below meth c D cy A Q nL cells slots σ I X (pc + 1) lv (.long (shJ σ a j) :: st)) : V p l e R s m args below meth c D cy A Q nL cells slots σ I X pc lv (.int i :: .ref a :: st) := by
  intro H locs ls hP hD hS hl
  obtain ⟨hx, hb, -, hown, hts, hKK, -, -, hE, -, -⟩ := hF
  obtain ⟨q0, he⟩ := pw_get (cy := cy) (I := I) (X := X) hm
  rw [cell_j hK] at he
  subst hi
  have e := nI_clamp (n := j) (by omega)
  refine va_lald hx hb hKK hP q0 3 he rfl (vp_in_nI hj (by omega)) d ?_
  rw [e]
  exact kk H locs ls hP hD hS hl
theorem V.daload (hF : Fx p l s m args meth c D cy sa sv A nL own cc ret) {a j : Nat} {i : Int32}  (d : decode cc pc = .ok (.daload, 1)) (hm : a ∈ shL σ) (hK : shK σ a = 14) (hi : i = nI j) (hj : j < shN σ a) (hN : shN σ a < 2147483648) (kk : V p l e R s m args below meth c D cy A Q nL cells slots σ I X (pc + 1) lv (.double (shZ σ a j) :: st)) : V p l e R s m args below meth c D cy A Q nL cells slots σ I X pc lv (.int i :: .ref a :: st) := by
  intro H locs ls hP hD hS hl
  obtain ⟨hx, hb, -, hown, hts, hKK, -, -, hE, -, -⟩ := hF
  obtain ⟨q0, he⟩ := pw_get (cy := cy) (I := I) (X := X) hm
  rw [cell_z hK] at he
  subst hi
  have e := nI_clamp (n := j) (by omega)
  refine va_dald hx hb hKK hP q0 4 he rfl (vp_in_nI hj (by omega)) d ?_
  rw [e]
  exact kk H locs ls hP hD hS hl
theorem V.aaload (hF : Fx p l s m args meth c D cy sa sv A nL own cc ret) {a j q : Nat} {i : Int32} (d : decode cc pc = .ok (.aaload, 1)) (hm : a ∈ shL σ) (hK : shK σ a = 12) (hi : i = nI j) (hj : j < shN σ a) (hN : shN σ a < 2147483648) (hq : shY σ a j = some q) (kk : V p l e R s m args below meth c D cy A Q nL cells slots σ I X (pc + 1) lv (.ref q :: st)) : V p l e R s m args below meth c D cy A Q nL cells slots σ I X pc lv (.int i :: .ref a :: st) := by
  intro H locs ls hP hD hS hl
  obtain ⟨hx, hb, -, hown, hts, hKK, -, -, hE, -, -⟩ := hF
  obtain ⟨q0, he⟩ := pw_get (cy := cy) (I := I) (X := X) hm
  rw [cell_y hK] at he
  subst hi
  have e := nI_clamp (n := j) (by omega)
  refine va_aldq hx hb hKK hP q0 2 he rfl (vp_in_nI hj (by omega)) d ?_
  rw [e, hq]
  exact kk H locs ls hP hD hS hl
theorem V.iastore (hF : Fx p l s m args meth c D cy sa sv A nL own cc ret) {a j : Nat} {i x : Int32} (d : decode cc pc = .ok (.iastore, 1)) (hm : a ∈ shL σ) (hK : shK σ a = 11) (hi : i = nI j) (hj : j < shN σ a) (hN : shN σ a < 2147483648) (kk : V p l e R s m args below meth c D cy A Q nL cells slots σ I (va_up X a (upd (X a) j x)) (pc + 1) lv st) : V p l e R s m args below meth c D cy A Q nL cells slots σ I X pc lv (.int x :: .int i :: .ref a :: st) := by
  intro H locs ls hP hD hS hl
  obtain ⟨hx, hb, -, hown, hts, hKK, -, -, hE, -, -⟩ := hF
  obtain ⟨q0, he0⟩ := pw_get (cy := cy) (I := I) (X := X) hm
  have he := he0
  rw [cell_i hK] at he
  subst hi
  have e := nI_clamp (n := j) (by omega)
  refine va_iast hx hb hKK hP hD hS q0 1 he rfl (vp_in_nI hj (by omega)) d ?_
  rw [e, pw_setX hD hm hK he0]
  exact fun H1 locs1 hP hD hS => kk H1 locs1 ls hP hD hS hl
theorem V.castore (hF : Fx p l s m args meth c D cy sa sv A nL own cc ret) {a j : Nat} {i x : Int32} (d : decode cc pc = .ok (.castore, 1)) (hm : a ∈ shL σ) (hK : shK σ a = 10) (hi : i = nI j) (hj : j < shN σ a) (hN : shN σ a < 2147483648) (hc : vp_nar .char x = x) (kk : V p l e R s m args below meth c D cy A Q nL cells slots σ I (va_up X a (upd (X a) j x)) (pc + 1) lv st) : V p l e R s m args below meth c D cy A Q nL cells slots σ I X pc lv (.int x :: .int i :: .ref a :: st) := by
  intro H locs ls hP hD hS hl
  obtain ⟨hx, hb, -, hown, hts, hKK, -, -, hE, -, -⟩ := hF
  obtain ⟨q0, he0⟩ := pw_get (cy := cy) (I := I) (X := X) hm
  have he := he0
  rw [cell_c hK] at he
  subst hi
  have e := nI_clamp (n := j) (by omega)
  refine va_cast hx hb hKK hP hD hS q0 0 he rfl (vp_in_nI hj (by omega)) d ?_
  rw [e, hc, pw_setC hD hm hK he0]
  exact fun H1 locs1 hP hD hS => kk H1 locs1 ls hP hD hS hl
theorem V.arraylength (hF : Fx p l s m args meth c D cy sa sv A nL own cc ret) {a n : Nat} (d : decode cc pc = .ok (.arraylength, 1)) (hm : a ∈ shL σ) (hK : shK σ a = 11) (hn : shN σ a = n) (kk : V p l e R s m args below meth c D cy A Q nL cells slots σ I X (pc + 1) lv (.int (nI n) :: st)) : V p l e R s m args below meth c D cy A Q nL cells slots σ I X pc lv (.ref a :: st) := by
  intro H locs ls hP hD hS hl
  obtain ⟨hx, hb, -, hown, hts, hKK, -, -, hE, -, -⟩ := hF
  obtain ⟨q0, he⟩ := pw_get (cy := cy) (I := I) (X := X) hm
  rw [cell_i hK] at he
  subst hn
  exact va_alen hx hb hKK hP q0 1 he rfl (v := nI (shN σ a)) rfl d (kk H locs ls hP hD hS hl)

end VL
