theorem wo_i : Cond.instanceMethod Lib.objectInit ∈ GT := gw 83 (by decide +kernel) (by decide +kernel)
theorem wo_c : Cond.code Lib.objectInit ⟨#[0xb1]⟩ 1 none ∈ GT := gw 84 (by decide +kernel) (by decide +kernel)
theorem ol_X4 : Cond.methodLink RX4 1 Lib.objectInit ∈ GT := gw 82 (by decide +kernel) (by decide +kernel)
theorem ol_X3 : Cond.methodLink RX3 3 Lib.objectInit ∈ GT := gw 90 (by decide +kernel) (by decide +kernel)
theorem ol_X0 : Cond.methodLink RX0 3 Lib.objectInit ∈ GT := gw 128 (by decide +kernel) (by decide +kernel)
theorem ol_X1 : Cond.methodLink RX1 3 Lib.objectInit ∈ GT := gw 134 (by decide +kernel) (by decide +kernel)
theorem ol_X2 : Cond.methodLink RX2 3 Lib.objectInit ∈ GT := gw 174 (by decide +kernel) (by decide +kernel)
theorem ol_X5 : Cond.methodLink RX5 1 Lib.objectInit ∈ GT := gw 1151 (by decide +kernel) (by decide +kernel)
theorem wm_maxs : Cond.static Lib.Math.max.name ∈ GT := gw 625 (by decide +kernel) (by decide +kernel)
theorem wm_maxc : Cond.code Lib.Math.max.name Lib.Math.max.code 2 (some .int) ∈ GT := gw 626 (by decide +kernel) (by decide +kernel)
theorem wm_mins : Cond.static Lib.Math.min.name ∈ GT := gw 291 (by decide +kernel) (by decide +kernel)
theorem wm_minc : Cond.code Lib.Math.min.name Lib.Math.min.code 2 (some .int) ∈ GT := gw 292 (by decide +kernel) (by decide +kernel)
theorem wm_i : Cond.initialized "java/lang/Math" ∈ GT := gw 69 (by decide +kernel) (by decide +kernel)
theorem wm_57 : Cond.methodLink RX1 57 Lib.Math.max.name ∈ GT := gw 624 (by decide +kernel) (by decide +kernel)
theorem wm_323 : Cond.methodLink RX4 323 Lib.Math.min.name ∈ GT := gw 290 (by decide +kernel) (by decide +kernel)
theorem wa_328 : Cond.methodLink RX4 328 arraycopyName ∈ GT := gw 293 (by decide +kernel) (by decide +kernel)
theorem wa_s : Cond.static arraycopyName ∈ GT := gw 294 (by decide +kernel) (by decide +kernel)
theorem wa_n : Cond.native arraycopyName ∈ GT := gw 295 (by decide +kernel) (by decide +kernel)
theorem wa_i : Cond.initialized "java/lang/System" ∈ GT := gw 70 (by decide +kernel) (by decide +kernel)
theorem wn_char : Cond.arrayClass .char ∈ GT := gw 121 (by decide +kernel) (by decide +kernel)
theorem wn_int : Cond.arrayClass .int ∈ GT := gw 122 (by decide +kernel) (by decide +kernel)
theorem wn_long : Cond.arrayClass .long ∈ GT := gw 1493 (by decide +kernel) (by decide +kernel)
theorem wn_double : Cond.arrayClass .double ∈ GT := gw 1494 (by decide +kernel) (by decide +kernel)
theorem wn_over : Cond.arrayOver (.object RX2) ∈ GN := gn 169 (by decide +kernel) (by decide +kernel)
/-- a new cell at q -/
def shAdd (σ : SH) (q kd n : Nat) : SH := (shL σ ++ [q], va_up (shK σ) q kd, va_up (shR σ) q (fun _ => none), va_up (shN σ) q n, va_up (shY σ) q (fun _ => none), va_up (shJ σ) q (fun _ => 0), va_up (shZ σ) q (fun _ => 0))
theorem pw_app {cy : Nat → ClassId} {σ : SH} {I X I' X' : IX} {q kd n : Nat} {e : va_E} (hI : ∀ a, a ≠ q → I' a = I a) (hX : ∀ a, a ≠ q → X' a = X a) (he : cellOf cy (shAdd σ q kd n) I' X' q = e) (hq : q ∉ shL σ) : pw cy σ I X ++ [(q, e)] = pw cy (shAdd σ q kd n) I' X' := by
  unfold pw
  rw [va_pl_push hq]
  show va_pl (shL σ ++ [q]) _ = va_pl (shL σ ++ [q]) _
  refine va_pl_congr fun a => ?_
  by_cases h : a = q
  · subst h
    rw [va_up_self, he]
  · rw [va_up_ne _ _ h]
    have eK : shK (shAdd σ q kd n) a = shK σ a := va_up_ne _ _ h
    have eR : shR (shAdd σ q kd n) a = shR σ a := va_up_ne _ _ h
    have eN : shN (shAdd σ q kd n) a = shN σ a := va_up_ne _ _ h
    have eY : shY (shAdd σ q kd n) a = shY σ a := va_up_ne _ _ h
    have eJ : shJ (shAdd σ q kd n) a = shJ σ a := va_up_ne _ _ h
    have eZ : shZ (shAdd σ q kd n) a = shZ σ a := va_up_ne _ _ h
    have ef : ∀ ci, fvs (shAdd σ q kd n) I' a ci = fvs σ I a ci := by
      intro ci
      simp only [fvs]
      congr 1
      funext k'
      simp only [fv, eR, hI a h]
    simp only [cellOf, eK, eN, eY, eJ, eZ, hX a h, ef]
def shSetY (σ : SH) (a : Nat) (f : Nat → Option Nat) : SH := (shL σ, shK σ, shR σ, shN σ, va_up (shY σ) a f, shJ σ, shZ σ)
def shSetJ (σ : SH) (a : Nat) (f : Nat → Int64) : SH := (shL σ, shK σ, shR σ, shN σ, shY σ, va_up (shJ σ) a f, shZ σ)
def shSetZ (σ : SH) (a : Nat) (f : Nat → UInt64) : SH := (shL σ, shK σ, shR σ, shN σ, shY σ, shJ σ, va_up (shZ σ) a f)
theorem pw_setY {A : Nat → Prop} {cy : Nat → ClassId} {σ : SH} {I X : IX} {a k : Nat} {f : Nat → Option Nat} (hD : va_D A (pw cy σ I X)) (h : a ∈ shL σ) (hK : shK σ a = 12) (hk : (pw cy σ I X)[k]? = some (a, cellOf cy σ I X a)) :
    (pw cy σ I X).set k (a, .inl (cy 2, shN σ a, .inr (.inr (.inr (.inr f))))) = pw cy (shSetY σ a f) I X := by
  rw [pw_set hD h hk]
  show va_pl (shL σ) _ = va_pl (shL σ) _
  refine va_pl_congr fun b => ?_
  have ef : ∀ c', fvs (shSetY σ a f) I b c' = fvs σ I b c' := fun _ => rfl
  by_cases hb : b = a
  · subst hb
    rw [va_up_self, cell_y (σ := shSetY σ b f) hK]
    have e0 : shY (shSetY σ b f) b = f := va_up_self _ _ _
    rw [e0]
    rfl
  · rw [va_up_ne _ _ hb]
    have e1 : shY (shSetY σ a f) b = shY σ b := va_up_ne _ _ hb
    have e2 : ∀ c', shK (shSetY σ a f) c' = shK σ c' := fun _ => rfl
    have e3 : ∀ c', shN (shSetY σ a f) c' = shN σ c' := fun _ => rfl
    have gJ : ∀ c', shJ (shSetY σ a f) c' = shJ σ c' := fun _ => rfl
    have gZ : ∀ c', shZ (shSetY σ a f) c' = shZ σ c' := fun _ => rfl
    simp only [cellOf, ef, e1, e2, e3, gJ, gZ]
theorem pw_setJ {A : Nat → Prop} {cy : Nat → ClassId} {σ : SH} {I X : IX} {a k : Nat} {f : Nat → Int64} (hD : va_D A (pw cy σ I X)) (h : a ∈ shL σ) (hK : shK σ a = 13) (hk : (pw cy σ I X)[k]? = some (a, cellOf cy σ I X a)) :
    (pw cy σ I X).set k (a, .inl (cy 3, shN σ a, .inr (.inl f))) = pw cy (shSetJ σ a f) I X := by
  rw [pw_set hD h hk]
  show va_pl (shL σ) _ = va_pl (shL σ) _
  refine va_pl_congr fun b => ?_
  have ef : ∀ c', fvs (shSetJ σ a f) I b c' = fvs σ I b c' := fun _ => rfl
  by_cases hb : b = a
  · subst hb
    rw [va_up_self, cell_j (σ := shSetJ σ b f) hK]
    have e0 : shJ (shSetJ σ b f) b = f := va_up_self _ _ _
    rw [e0]
    rfl
  · rw [va_up_ne _ _ hb]
    have e1 : shJ (shSetJ σ a f) b = shJ σ b := va_up_ne _ _ hb
    have e2 : ∀ c', shK (shSetJ σ a f) c' = shK σ c' := fun _ => rfl
    have e3 : ∀ c', shN (shSetJ σ a f) c' = shN σ c' := fun _ => rfl
    have gY : ∀ c', shY (shSetJ σ a f) c' = shY σ c' := fun _ => rfl
    have gZ : ∀ c', shZ (shSetJ σ a f) c' = shZ σ c' := fun _ => rfl
    simp only [cellOf, ef, e1, e2, e3, gY, gZ]
theorem pw_setZ {A : Nat → Prop} {cy : Nat → ClassId} {σ : SH} {I X : IX} {a k : Nat} {f : Nat → UInt64} (hD : va_D A (pw cy σ I X)) (h : a ∈ shL σ) (hK : shK σ a = 14) (hk : (pw cy σ I X)[k]? = some (a, cellOf cy σ I X a)) :
    (pw cy σ I X).set k (a, .inl (cy 4, shN σ a, .inr (.inr (.inr (.inl f))))) = pw cy (shSetZ σ a f) I X := by
  rw [pw_set hD h hk]
  show va_pl (shL σ) _ = va_pl (shL σ) _
  refine va_pl_congr fun b => ?_
  have ef : ∀ c', fvs (shSetZ σ a f) I b c' = fvs σ I b c' := fun _ => rfl
  by_cases hb : b = a
  · subst hb
    rw [va_up_self, cell_z (σ := shSetZ σ b f) hK]
    have e0 : shZ (shSetZ σ b f) b = f := va_up_self _ _ _
    rw [e0]
    rfl
  · rw [va_up_ne _ _ hb]
    have e1 : shZ (shSetZ σ a f) b = shZ σ b := va_up_ne _ _ hb
    have e2 : ∀ c', shK (shSetZ σ a f) c' = shK σ c' := fun _ => rfl
    have e3 : ∀ c', shN (shSetZ σ a f) c' = shN σ c' := fun _ => rfl
    have gY : ∀ c', shY (shSetZ σ a f) c' = shY σ c' := fun _ => rfl
    have gJ : ∀ c', shJ (shSetZ σ a f) c' = shJ σ c' := fun _ => rfl
    simp only [cellOf, ef, e1, e2, e3, gY, gJ]
section V3
variable {p : Program} {l : Launch} {e : Env} {R : Room} {s : State} {m : MethodId} {args : Array Value} {below : List Frame} {meth : Method} {c : Code} {D : va_G} {cy sa sv : Nat → Nat} {A : Nat → Prop} {Q : State → Prop} {cc : ByteArray} {nL : Nat} {own : String} {ret : Option FieldType} {cells slots : Nat} {σ : SH} {I X : IX} {pc : Nat} {lv : List (Nat × Value)} {st : List Value}
theorem V.objInit (hF : Fx p l s m args meth c D cy sa sv A nL own cc ret) {idx a : Nat} (d : decode cc pc = .ok (.invokespecial idx, 3)) (hk : Cond.methodLink own idx Lib.objectInit ∈ GT) (h1 : 1 ≤ R.frames) (h2 : (st.map fun v => v.category).sum + 12 ≤ R.locals) (kk : V p l e R s m args below meth c D cy A Q nL cells slots σ I X (pc + 3) lv st) : V p l e R s m args below meth c D cy A Q nL cells slots σ I X pc lv (.ref a :: st) := fun H locs ls hP hD hS hl => W.objInit hF.1 hF.2.1 hF.2.2.2.1 (hF.2.2.2.2.1 _ hk) (hF.2.2.2.2.1 _ wo_i) (hF.2.2.2.2.1 _ wo_c) rfl (hl.1.trans hF.2.2.1.symm) rfl d h1 (by show 2 * 0 + _ + 12 ≤ _; omega) (kk H locs ls hP hD hS hl)
theorem V.mmax (hF : Fx p l s m args meth c D cy sa sv A nL own cc ret) {idx : Nat} {x y : Int32} (d : decode cc pc = .ok (.invokestatic idx, 3)) (hk : Cond.methodLink own idx Lib.Math.max.name ∈ GT) (h1 : 1 ≤ R.frames) (h2 : (st.map fun v => v.category).sum + 13 ≤ R.locals) (hc : cells ≤ R.cells) (hs : slots ≤ R.slots) (kk : V p l e R s m args below meth c D cy A Q nL cells slots σ I X (pc + 3) lv (.int (if x < y then y else x) :: st)) : V p l e R s m args below meth c D cy A Q nL cells slots σ I X pc lv (.int y :: .int x :: st) := fun H locs ls hP hD hS hl => va_mmax hF.1 hF.2.1 (hF.2.2.1.trans hl.1.symm) hF.2.2.2.1 (hF.2.2.2.2.1 _ hk) (hF.2.2.2.2.1 _ wm_maxs) (hF.2.2.2.2.1 _ wm_i) (hF.2.2.2.2.1 _ wm_maxc) h1 h2 hc hs d (kk H locs ls hP hD hS hl)
theorem V.mmin (hF : Fx p l s m args meth c D cy sa sv A nL own cc ret) {idx : Nat} {x y : Int32} (d : decode cc pc = .ok (.invokestatic idx, 3)) (hk : Cond.methodLink own idx Lib.Math.min.name ∈ GT) (h1 : 1 ≤ R.frames) (h2 : (st.map fun v => v.category).sum + 13 ≤ R.locals) (hc : cells ≤ R.cells) (hs : slots ≤ R.slots) (kk : V p l e R s m args below meth c D cy A Q nL cells slots σ I X (pc + 3) lv (.int (if y < x then y else x) :: st)) : V p l e R s m args below meth c D cy A Q nL cells slots σ I X pc lv (.int y :: .int x :: st) := fun H locs ls hP hD hS hl => va_mmin hF.1 hF.2.1 (hF.2.2.1.trans hl.1.symm) hF.2.2.2.1 (hF.2.2.2.2.1 _ hk) (hF.2.2.2.2.1 _ wm_mins) (hF.2.2.2.2.1 _ wm_i) (hF.2.2.2.2.1 _ wm_minc) h1 h2 hc hs d (kk H locs ls hP hD hS hl)
theorem V.copyi (hF : Fx p l s m args meth c D cy sa sv A nL own cc ret) {idx a b n na nb : Nat} {f g : Nat → Int32} (d : decode cc pc = .ok (.invokestatic idx, 3)) (hk : Cond.methodLink own idx arraycopyName ∈ GT) (hma : a ∈ shL σ) (hKa : shK σ a = 11) (hNa : shN σ a = na) (hmb : b ∈ shL σ) (hKb : shK σ b = 11) (hNb : shN σ b = nb) (ha : n ≤ na) (hb2 : n ≤ nb) (hn : n ≤ 4486) (hf : X a = f) (hg : X b = g) (h1 : 1 ≤ R.frames) (h2 : (st.map fun v => v.category).sum + (nativeFrameWords "java/lang/System" "arraycopy" 5 + 11) ≤ R.locals) (kk : V p l e R s m args below meth c D cy A Q nL cells slots σ I (va_up X b (va_cpy f g 0 0 n)) (pc + 3) lv st) : V p l e R s m args below meth c D cy A Q nL cells slots σ I X pc lv (.int (nI n) :: .int (nI 0) :: .ref b :: .int (nI 0) :: .ref a :: st) := by
  intro H locs ls hP hD hS hl
  obtain ⟨hx, hb, hml, hown, hts, hKK, -, -, hE, -, -⟩ := hF
  obtain ⟨q0, he0⟩ := pw_get (cy := cy) (I := I) (X := X) hma
  obtain ⟨q1, he1⟩ := pw_get (cy := cy) (I := I) (X := X) hmb
  have he0' := he0
  have he1' := he1
  rw [cell_i hKa, hf, hNa] at he0'
  rw [cell_i hKb, hg, hNb] at he1'
  have en := nI_clamp (n := n) (by omega)
  have e0 : (nI 0).toNatClampNeg = 0 := nI_clamp (by omega)
  refine va_copyi hx hb (hml.trans hl.1.symm) hown (hts _ hk) (hts _ wa_n) (hts _ wa_s) (hts _ wa_i) hKK hP hD hS q0 q1 1 1 he0' he1' rfl rfl rfl (by decide) (by decide) (nI_pos (by omega)) (by omega) (by omega) (fun _ _ => rfl) h1 h2 d ?_
  rw [en, e0]
  intro H1 locs1 hP1 hD1 hS1
  have es := pw_setX (f := va_cpy f g 0 0 n) hD hmb hKb he1
  rw [hNb] at es
  rw [es] at hP1 hD1
  exact kk H1 locs1 ls hP1 hD1 hS1 hl
/-- a class whose objects are made -/
def Kl (own : String) (idx ci N : Nat) : Prop := ∃ (C : String) (T : u_T) (ty : Nat → FieldType), ci < 6 ∧ vcl[ci]? = some (C, T, N) ∧ (∀ w ∈ u_ws C T N, w ∈ GT) ∧ (∀ k, k < N → parseFieldDescriptor (T k).2.2.1 = some (ty k)) ∧ nf ci = N ∧ Cond.classLink own idx C ∈ GT ∧ Cond.instantiable C N ∈ GT ∧ Cond.initialized C ∈ GT ∧ ∀ k, k < N → defaultValue (ty k) = if rft ci k then .null else .int 0
theorem V.new (hF : Fx p l s m args meth c D cy sa sv A nL own cc ret) {idx ci N : Nat} (d : decode cc pc = .ok (.new idx, 3)) (hk : Kl own idx ci N) (hc : cells + 1 ≤ R.cells) (hs : slots + N ≤ R.slots) (kk : ∀ q, q ∉ shL σ → V p l e R s m args below meth c D cy A Q nL (cells + 1) (slots + N) (shAdd σ q ci 0) (va_up I q (fun _ => 0)) X (pc + 3) lv (.ref q :: st)) : V p l e R s m args below meth c D cy A Q nL cells slots σ I X pc lv st := by
  intro H locs ls hP hD hS hl
  obtain ⟨C, T, ty, hci, hcl, hin, hty, hN, hlk, hinst, hini, hdef⟩ := hk
  obtain ⟨hx, hb, -, hown, hts, hKK, -, -, hE, -, hA⟩ := hF
  refine va_new (fs := (List.range N).map (fun k => if rft ci k then Value.null else Value.int 0)) hx hb hts hin ty hty hown (hts _ hlk) (hts _ hinst) (hts _ hini) hKK hP hD hS hA hcl (fun j hj => ?_) hc hs d ?_
  · rw [hdef j hj]
    simp [vp_V, hj]
  · intro q H1 hP1 hD1 hS1
    have hq : q ∉ shL σ := va_pl_fresh2 (X := []) hD1
    have he : cellOf cy (shAdd σ q ci 0) (va_up I q (fun _ => 0)) X q = .inr (ci, (List.range N).map (fun k => if rft ci k then Value.null else Value.int 0)) := by
      rw [cell_o (va_up_self _ _ _) hci]
      congr 2
      simp only [fvs, hN]
      congr 1
      funext k
      have e1 : shR (shAdd σ q ci 0) q k = none := congrFun (va_up_self (shR σ) q (fun _ => none)) k
      simp only [fv, e1, va_up_self]
      rfl
    have es := pw_app (I := I) (X := X) (fun a h => va_up_ne _ _ h) (fun a h => rfl) he hq
    rw [es] at hP1 hD1
    exact kk q hq H1 locs ls hP1 hD1 hS1 hl

theorem V.newi (hF : Fx p l s m args meth c D cy sa sv A nL own cc ret) {n : Int32} {N : Nat} (d : decode cc pc = .ok (.newarray .int, 2)) (hn : n = nI N) (hN : N ≤ 4486) (hc : cells + 1 ≤ R.cells) (hs : slots + N ≤ R.slots) (kk : ∀ q, q ∉ shL σ → V p l e R s m args below meth c D cy A Q nL (cells + 1) (slots + N) (shAdd σ q 11 N) I (va_up X q (fun _ => 0)) (pc + 2) lv (.ref q :: st)) : V p l e R s m args below meth c D cy A Q nL cells slots σ I X pc lv (.int n :: st) := by
  intro H locs ls hP hD hS hl
  obtain ⟨hx, hb, -, hown, hts, hKK, -, -, hE, -, hA⟩ := hF
  subst hn
  refine va_newa (atype := .int) (ty := .int) (N' := N) (a0 := (N, .inl (fun _ => 0))) hx hb (hts _ wn_int) rfl hKK hP hD hS hA (fun _ => rfl) (nI_pos (by omega)) (nI_clamp (by omega)) (by show N * 4 ≤ _; omega) hc hs d ?_
  intro q cA H1 hK1 hP1 hD1 hS1
  have hq : q ∉ shL σ := va_pl_fresh2 (X := []) hD1
  have hcA : cA = cy 1 := by
    have f1 : s.vm.findClass _ = some cA := (hK1.2 5 _ rfl).2
    have f2 : s.vm.findClass _ = some (cy 1) := (hKK.2 1 _ rfl).2
    exact Option.some.inj (f1.symm.trans f2)
  subst hcA
  have he : cellOf cy (shAdd σ q 11 N) I (va_up X q (fun _ => 0)) q = .inl (cy 1, N, .inl (fun _ => 0)) := by
    rw [cell_i (va_up_self _ _ _)]
    have e1 : shN (shAdd σ q 11 N) q = N := va_up_self _ _ _
    rw [e1]
    rw [va_up_self]
  have es := pw_app (I := I) (X := X) (fun a h => rfl) (fun a h => va_up_ne _ _ h) he hq
  rw [es] at hP1 hD1
  exact kk q hq H1 locs ls hP1 hD1 hS1 hl
theorem V.newc (hF : Fx p l s m args meth c D cy sa sv A nL own cc ret) {n : Int32} {N : Nat} (d : decode cc pc = .ok (.newarray .char, 2)) (hn : n = nI N) (hN : N ≤ 4486) (hc : cells + 1 ≤ R.cells) (hs : slots + N ≤ R.slots) (kk : ∀ q, q ∉ shL σ → V p l e R s m args below meth c D cy A Q nL (cells + 1) (slots + N) (shAdd σ q 10 N) I (va_up X q (fun _ => 0)) (pc + 2) lv (.ref q :: st)) : V p l e R s m args below meth c D cy A Q nL cells slots σ I X pc lv (.int n :: st) := by
  intro H locs ls hP hD hS hl
  obtain ⟨hx, hb, -, hown, hts, hKK, -, -, hE, -, hA⟩ := hF
  subst hn
  refine va_newa (atype := .char) (ty := .char) (N' := N) (a0 := (N, .inl (fun _ => 0))) hx hb (hts _ wn_char) rfl hKK hP hD hS hA (fun _ => rfl) (nI_pos (by omega)) (nI_clamp (by omega)) (by show N * 2 ≤ _; omega) hc hs d ?_
  intro q cA H1 hK1 hP1 hD1 hS1
  have hq : q ∉ shL σ := va_pl_fresh2 (X := []) hD1
  have hcA : cA = cy 0 := by
    have f1 : s.vm.findClass _ = some cA := (hK1.2 5 _ rfl).2
    have f2 : s.vm.findClass _ = some (cy 0) := (hKK.2 0 _ rfl).2
    exact Option.some.inj (f1.symm.trans f2)
  subst hcA
  have he : cellOf cy (shAdd σ q 10 N) I (va_up X q (fun _ => 0)) q = .inl (cy 0, N, .inl (fun _ => 0)) := by
    rw [cell_c (va_up_self _ _ _)]
    have e1 : shN (shAdd σ q 10 N) q = N := va_up_self _ _ _
    rw [e1]
    rw [va_up_self]
  have es := pw_app (I := I) (X := X) (fun a h => rfl) (fun a h => va_up_ne _ _ h) he hq
  rw [es] at hP1 hD1
  exact kk q hq H1 locs ls hP1 hD1 hS1 hl
theorem V.newl (hF : Fx p l s m args meth c D cy sa sv A nL own cc ret) {n : Int32} {N : Nat} (d : decode cc pc = .ok (.newarray .long, 2)) (hn : n = nI N) (hN : N ≤ 4486) (hc : cells + 1 ≤ R.cells) (hs : slots + N ≤ R.slots) (kk : ∀ q, q ∉ shL σ → V p l e R s m args below meth c D cy A Q nL (cells + 1) (slots + N) (shAdd σ q 13 N) I X (pc + 2) lv (.ref q :: st)) : V p l e R s m args below meth c D cy A Q nL cells slots σ I X pc lv (.int n :: st) := by
  intro H locs ls hP hD hS hl
  obtain ⟨hx, hb, -, hown, hts, hKK, -, -, hE, -, hA⟩ := hF
  subst hn
  refine va_newa (atype := .long) (ty := .long) (N' := N) (a0 := (N, .inr (.inl (fun _ => 0)))) hx hb (hts _ wn_long) rfl hKK hP hD hS hA (fun _ => rfl) (nI_pos (by omega)) (nI_clamp (by omega)) (by show N * 8 ≤ _; omega) hc hs d ?_
  intro q cA H1 hK1 hP1 hD1 hS1
  have hq : q ∉ shL σ := va_pl_fresh2 (X := []) hD1
  have hcA : cA = cy 3 := by
    have f1 : s.vm.findClass _ = some cA := (hK1.2 5 _ rfl).2
    have f2 : s.vm.findClass _ = some (cy 3) := (hKK.2 3 _ rfl).2
    exact Option.some.inj (f1.symm.trans f2)
  subst hcA
  have he : cellOf cy (shAdd σ q 13 N) I X q = .inl (cy 3, N, .inr (.inl (fun _ => 0))) := by
    rw [cell_j (va_up_self _ _ _)]
    have e1 : shN (shAdd σ q 13 N) q = N := va_up_self _ _ _
    rw [e1]
    have e2 : (shJ (shAdd σ q 13 N)) q = fun _ => 0 := va_up_self _ _ _; rw [e2]
  have es := pw_app (I := I) (X := X) (fun a h => rfl) (fun a h => rfl) he hq
  rw [es] at hP1 hD1
  exact kk q hq H1 locs ls hP1 hD1 hS1 hl
theorem V.newd (hF : Fx p l s m args meth c D cy sa sv A nL own cc ret) {n : Int32} {N : Nat} (d : decode cc pc = .ok (.newarray .double, 2)) (hn : n = nI N) (hN : N ≤ 4486) (hc : cells + 1 ≤ R.cells) (hs : slots + N ≤ R.slots) (kk : ∀ q, q ∉ shL σ → V p l e R s m args below meth c D cy A Q nL (cells + 1) (slots + N) (shAdd σ q 14 N) I X (pc + 2) lv (.ref q :: st)) : V p l e R s m args below meth c D cy A Q nL cells slots σ I X pc lv (.int n :: st) := by
  intro H locs ls hP hD hS hl
  obtain ⟨hx, hb, -, hown, hts, hKK, -, -, hE, -, hA⟩ := hF
  subst hn
  refine va_newa (atype := .double) (ty := .double) (N' := N) (a0 := (N, .inr (.inr (.inr (.inl (fun _ => 0)))))) hx hb (hts _ wn_double) rfl hKK hP hD hS hA (fun _ => rfl) (nI_pos (by omega)) (nI_clamp (by omega)) (by show N * 8 ≤ _; omega) hc hs d ?_
  intro q cA H1 hK1 hP1 hD1 hS1
  have hq : q ∉ shL σ := va_pl_fresh2 (X := []) hD1
  have hcA : cA = cy 4 := by
    have f1 : s.vm.findClass _ = some cA := (hK1.2 5 _ rfl).2
    have f2 : s.vm.findClass _ = some (cy 4) := (hKK.2 4 _ rfl).2
    exact Option.some.inj (f1.symm.trans f2)
  subst hcA
  have he : cellOf cy (shAdd σ q 14 N) I X q = .inl (cy 4, N, .inr (.inr (.inr (.inl (fun _ => 0))))) := by
    rw [cell_z (va_up_self _ _ _)]
    have e1 : shN (shAdd σ q 14 N) q = N := va_up_self _ _ _
    rw [e1]
    have e2 : (shZ (shAdd σ q 14 N)) q = fun _ => 0 := va_up_self _ _ _; rw [e2]
  have es := pw_app (I := I) (X := X) (fun a h => rfl) (fun a h => rfl) he hq
  rw [es] at hP1 hD1
  exact kk q hq H1 locs ls hP1 hD1 hS1 hl
theorem V.anew (hF : Fx p l s m args meth c D cy sa sv A nL own cc ret) {idx : Nat} {n : Int32} {N : Nat} (d : decode cc pc = .ok (.anewarray idx, 3)) (hk : Cond.classLink own idx RX2 ∈ GT) (hn : n = nI N) (hN : N ≤ 4486) (hc : cells + 1 ≤ R.cells) (hs : slots + N ≤ R.slots) (kk : ∀ q, q ∉ shL σ → V p l e R s m args below meth c D cy A Q nL (cells + 1) (slots + N) (shAdd σ q 12 N) I X (pc + 3) lv (.ref q :: st)) : V p l e R s m args below meth c D cy A Q nL cells slots σ I X pc lv (.int n :: st) := by
  intro H locs ls hP hD hS hl
  obtain ⟨hx, hb, -, hown, hts, hKK, -, -, hE, -, hA⟩ := hF
  subst hn
  refine va_newq (C := RX2) (N' := N) hx hb hown (hts _ hk) (hE.1 _ wn_over : va_Nw (Cond.arrayOver (.object RX2)) s) hKK hP hD hS hA (nI_pos (by omega)) (nI_clamp (by omega)) (by omega) hc hs d ?_
  intro q cA H1 hK1 hP1 hD1 hS1
  have hq : q ∉ shL σ := va_pl_fresh2 (X := []) hD1
  have hcA : cA = cy 2 := by
    obtain ⟨-, -, -, -, -, f1⟩ := (hK1.2 5 _ rfl).2
    obtain ⟨-, -, -, -, -, f2⟩ := (hKK.2 2 _ rfl).2
    exact Option.some.inj (f1.symm.trans f2)
  subst hcA
  have he : cellOf cy (shAdd σ q 12 N) I X q = .inl (cy 2, N, .inr (.inr (.inr (.inr (fun _ => none))))) := by
    rw [cell_y (va_up_self _ _ _)]
    have e1 : shN (shAdd σ q 12 N) q = N := va_up_self _ _ _
    have e2 : shY (shAdd σ q 12 N) q = fun _ => none := va_up_self _ _ _
    rw [e1, e2]
  have es := pw_app (I := I) (X := X) (fun a h => rfl) (fun a h => rfl) he hq
  rw [es] at hP1 hD1
  exact kk q hq H1 locs ls hP1 hD1 hS1 hl
theorem V.aastore (hF : Fx p l s m args meth c D cy sa sv A nL own cc ret) {a j v : Nat} {i : Int32} (d : decode cc pc = .ok (.aastore, 1)) (hm : a ∈ shL σ) (hK : shK σ a = 12) (hi : i = nI j) (hj : j < shN σ a) (hN : shN σ a < 2147483648) (hv : v ∈ shL σ) (hKv : shK σ v = 2) (kk : V p l e R s m args below meth c D cy A Q nL cells slots (shSetY σ a (va_up (shY σ a) j (some v))) I X (pc + 1) lv st) : V p l e R s m args below meth c D cy A Q nL cells slots σ I X pc lv (.ref v :: .int i :: .ref a :: st) := by
  intro H locs ls hP hD hS hl
  obtain ⟨hx, hb, -, hown, hts, hKK, -, -, hE, -, hA⟩ := hF
  obtain ⟨q0, he0⟩ := pw_get (cy := cy) (I := I) (X := X) hm
  obtain ⟨q1, he1⟩ := pw_get (cy := cy) (I := I) (X := X) hv
  have he := he0
  rw [cell_y hK] at he
  rw [cell_o hKv (by omega)] at he1
  subst hi
  have e := nI_clamp (n := j) (by omega)
  refine va_astq (r := (RX2, TX2, 6)) hx hb hKK hP hD hS q0 2 q1 2 he rfl he1 rfl (vp_in_nI hj (by omega)) d ?_
  rw [e, pw_setY hD hm hK he0]
  exact fun H1 locs1 hP hD hS => kk H1 locs1 ls hP hD hS hl
theorem V.lastore (hF : Fx p l s m args meth c D cy sa sv A nL own cc ret) {a j : Nat} {i : Int32} {x : Int64} (d : decode cc pc = .ok (.lastore, 1)) (hm : a ∈ shL σ) (hK : shK σ a = 13) (hi : i = nI j) (hj : j < shN σ a) (hN : shN σ a < 2147483648) (kk : V p l e R s m args below meth c D cy A Q nL cells slots (shSetJ σ a (vp_updL (shJ σ a) j x)) I X (pc + 1) lv st) : V p l e R s m args below meth c D cy A Q nL cells slots σ I X pc lv (.long x :: .int i :: .ref a :: st) := by
  intro H locs ls hP hD hS hl
  obtain ⟨hx, hb, -, hown, hts, hKK, -, -, hE, -, hA⟩ := hF
  obtain ⟨q0, he0⟩ := pw_get (cy := cy) (I := I) (X := X) hm
  have he := he0
  rw [cell_j hK] at he
  subst hi
  have e := nI_clamp (n := j) (by omega)
  refine va_last hx hb hKK hP hD hS q0 3 he rfl (vp_in_nI hj (by omega)) d ?_
  rw [e, pw_setJ hD hm hK he0]
  exact fun H1 locs1 hP hD hS => kk H1 locs1 ls hP hD hS hl
theorem V.dastore (hF : Fx p l s m args meth c D cy sa sv A nL own cc ret) {a j : Nat} {i : Int32} {x : UInt64} (d : decode cc pc = .ok (.dastore, 1)) (hm : a ∈ shL σ) (hK : shK σ a = 14) (hi : i = nI j) (hj : j < shN σ a) (hN : shN σ a < 2147483648) (kk : V p l e R s m args below meth c D cy A Q nL cells slots (shSetZ σ a (vf_upd (shZ σ a) j x)) I X (pc + 1) lv st) : V p l e R s m args below meth c D cy A Q nL cells slots σ I X pc lv (.double x :: .int i :: .ref a :: st) := by
  intro H locs ls hP hD hS hl
  obtain ⟨hx, hb, -, hown, hts, hKK, -, -, hE, -, hA⟩ := hF
  obtain ⟨q0, he0⟩ := pw_get (cy := cy) (I := I) (X := X) hm
  have he := he0
  rw [cell_z hK] at he
  subst hi
  have e := nI_clamp (n := j) (by omega)
  refine va_dast hx hb hKK hP hD hS q0 4 he rfl (vp_in_nI hj (by omega)) d ?_
  rw [e, pw_setZ hD hm hK he0]
  exact fun H1 locs1 hP hD hS => kk H1 locs1 ls hP hD hS hl
/-- a final int field, in a constructor -/
theorem V.putIi (hF : Fx p l s m args meth c D cy sa sv A nL own cc ret) {idx ci k a : Nat} {b : Bool} {t : FieldType} {x : Int32} {T : u_T} {N : Nat} (d : decode cc pc = .ok (.putfield idx, 3)) (hf : Fl own idx ci k b t) (hini : meth.name = "<init>") (hc' : vcl[ci]? = some (own, T, N)) (hlk' : Cond.fieldLink own idx (T k).1 (T k).2.1 (T k).2.2.1 ∈ GT) (hm : a ∈ shL σ) (hK : shK σ a = ci) (hr : rft ci k = false) (hn : narrow t (.int x) = .int x) (hfit : fits t (.int x) = true) (kk : V p l e R s m args below meth c D cy A Q nL cells slots σ (va_up I a (upd (I a) k x)) X (pc + 3) lv st) : V p l e R s m args below meth c D cy A Q nL cells slots σ I X pc lv (.int x :: .ref a :: st) := by
  intro H locs ls hP hD hS hl
  obtain ⟨C, T', N', ty, hci, hc, hin, hty, hnm, hN, hk, hlk, hfin, ht, hdec⟩ := hf
  obtain ⟨hx, hb, -, hown, hts, hKK, -, -, hE, -, -⟩ := hF
  obtain ⟨q0, he0⟩ := pw_get (cy := cy) (I := I) (X := X) hm
  have he := he0
  rw [cell_o hK hci] at he
  have hlen : k < (fvs σ I a ci).length := by rw [fvs_len]; omega
  have hset := pw_setI (x := x) (j := k) hD hm hK hci hr (by omega) he0
  have hkk : ∀ (H1 : Heap) (locs1 : List Loc), va_P D vcl ((pw cy σ I X).set q0 (a, .inr (ci, (fvs σ I a ci).set k (.int x)))) H1 → va_D A ((pw cy σ I X).set q0 (a, .inr (ci, (fvs σ I a ci).set k (.int x)))) → va_S A s.heap H1 locs1 → W p l e R s m args below meth c H1 locs1 cells slots Q (F0 m (pc + 3) ls st) := by
    rw [hset]
    exact fun H1 locs1 hP hD hS => kk H1 locs1 ls hP hD hS hl
  have hd : parseFieldDescriptor (T' k).2.2.1 = some t := by rw [← ht]; exact hty k hk
  have e := Option.some.inj (hc.symm.trans hc')
  cases e
  cases b with
  | false => exact va_put hx hb hts hin ty hty hnm hown hKK hP hD hS q0 he hc k hk (hts _ hlk') (fun _ h => h) hfin hd hn hfit hlen d hkk
  | true => exact va_putF hx hb hts hin ty hty hnm hown hKK hP hD hS q0 he hc k hk (hts _ hlk') (fun _ h => h) hfin hini hdec hd hn hfit hlen d hkk
end V3
theorem kl_L_8 : Kl RL 8 4 5 := ⟨RX4, TX4, tyX4, by decide, rfl, inX4, tyX4_ok, rfl, gw 77 (by decide +kernel) (by decide +kernel), gw 78 (by decide +kernel) (by decide +kernel), gw 53 (by decide +kernel) (by decide +kernel), by decide⟩
theorem kl_X4_7 : Kl RX4 7 3 8 := ⟨RX3, TX3, tyX3, by decide, rfl, inX3, tyX3_ok, rfl, gw 85 (by decide +kernel) (by decide +kernel), gw 86 (by decide +kernel) (by decide +kernel), gw 54 (by decide +kernel) (by decide +kernel), by decide⟩
theorem kl_X4_16 : Kl RX4 16 0 8 := ⟨RX0, TX0, tyX0, by decide, rfl, inX0, tyX0_ok, rfl, gw 123 (by decide +kernel) (by decide +kernel), gw 124 (by decide +kernel) (by decide +kernel), gw 55 (by decide +kernel) (by decide +kernel), by decide⟩
theorem kl_X0_18 : Kl RX0 18 1 7 := ⟨RX1, TX1, tyX1, by decide, rfl, inX1, tyX1_ok, rfl, gw 129 (by decide +kernel) (by decide +kernel), gw 130 (by decide +kernel) (by decide +kernel), gw 56 (by decide +kernel) (by decide +kernel), by decide⟩
theorem kl_X0_25 : Kl RX0 25 2 6 := ⟨RX2, TX2, tyX2, by decide, rfl, inX2, tyX2_ok, rfl, gw 168 (by decide +kernel) (by decide +kernel), gw 170 (by decide +kernel) (by decide +kernel), gw 57 (by decide +kernel) (by decide +kernel), by decide⟩
theorem kl_L_136 : Kl RL 136 5 14 := ⟨RX5, TX5, tyX5, by decide, rfl, inX5, tyX5_ok, rfl, gw 1146 (by decide +kernel) (by decide +kernel), gw 1147 (by decide +kernel) (by decide +kernel), gw 59 (by decide +kernel) (by decide +kernel), by decide⟩
theorem kl_rep : Cond.classLink RX0 25 RX2 ∈ GT := gw 168 (by decide +kernel) (by decide +kernel)
