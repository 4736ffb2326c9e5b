/-! a group of cells: ad k is the address of the cell k, C k its row of ints -/
def idI : List Nat := [100, 2, 10, 11, 12, 13, 14, 15]
def idX : List Nat := [0, 1, 4, 5, 6, 7, 8, 9, 20, 21, 22, 23, 24, 25, 30, 31, 32, 33, 34, 35, 40, 41, 42, 43, 44, 45]
def put (ids : List Nat) (I : IX) (ad : Nat → Nat) (C : IX) : IX := fun a => match ids.find? (fun k => ad k == a) with
  | some k => C k
  | none => I a
def Inj (ids : List Nat) (ad : Nat → Nat) : Prop := ∀ i j, i ∈ ids → j ∈ ids → ad i = ad j → i = j
theorem put_at {ids : List Nat} {ad : Nat → Nat} (h : Inj ids ad) {I C : IX} {k : Nat} (hk : k ∈ ids) : put ids I ad C (ad k) = C k := by
  unfold put
  cases hf : ids.find? (fun j => ad j == ad k) with
  | none =>
    have := List.find?_eq_none.mp hf k hk
    simp at this
  | some j =>
    have h1 := List.find?_some hf
    have h2 := List.mem_of_find?_eq_some hf
    simp only [beq_iff_eq] at h1
    rw [h j k h2 hk h1]
theorem put_off {ids : List Nat} {ad : Nat → Nat} {I C : IX} {a : Nat} (h : ∀ k ∈ ids, ad k ≠ a) : put ids I ad C a = I a := by
  unfold put
  have : ids.find? (fun j => ad j == a) = none := List.find?_eq_none.mpr (fun k hk => by simp [h k hk])
  rw [this]
theorem put_up {ids : List Nat} {ad : Nat → Nat} (h : Inj ids ad) {I C : IX} {k : Nat} (hk : k ∈ ids) (f : Nat → Int32) : va_up (put ids I ad C) (ad k) f = put ids I ad (va_up C k f) := by
  funext a
  by_cases ha : a = ad k
  · subst ha
    rw [va_up_self, put_at h hk, va_up_self]
  · rw [va_up_ne _ _ ha]
    unfold put
    cases hf : ids.find? (fun j => ad j == a) with
    | none => rfl
    | some j =>
      have h1 := List.find?_some hf
      simp only [beq_iff_eq] at h1
      have : j ≠ k := fun q => ha (by rw [← h1, q])
      show C j = va_up C k f j
      rw [va_up_ne _ _ this]
theorem put_skip {ids : List Nat} {ad : Nat → Nat} {I C : IX} {k : Nat} (hk : k ∉ ids) (f : Nat → Int32) : put ids I ad (va_up C k f) = put ids I ad C := by
  funext a
  unfold put
  cases hf : ids.find? (fun j => ad j == a) with
  | none => rfl
  | some j =>
    have h2 := List.mem_of_find?_eq_some hf
    have : j ≠ k := fun q => hk (q ▸ h2)
    show va_up C k f j = C j
    rw [va_up_ne _ _ this]
theorem put_put {ids : List Nat} {ad : Nat → Nat} {I C C' : IX} : put ids (put ids I ad C) ad C' = put ids I ad C' := by
  funext a
  unfold put
  cases ids.find? (fun j => ad j == a) with
  | none => rfl
  | some j => rfl
theorem put_eta {ids : List Nat} {ad : Nat → Nat} {I C : IX} (h : ∀ k ∈ ids, I (ad k) = C k) : put ids I ad C = I := by
  funext a
  unfold put
  cases hf : ids.find? (fun j => ad j == a) with
  | none => rfl
  | some j =>
    have h1 := List.find?_some hf
    have h2 := List.mem_of_find?_eq_some hf
    simp only [beq_iff_eq] at h1
    show C j = I a
    rw [← h1]
    exact (h j h2).symm
/-- an object of the class ci at ad k -/
def Ob (σ : SH) (ad : Nat → Nat) (k ci : Nat) : Prop := ad k ∈ shL σ ∧ shK σ (ad k) = ci
/-- an int array of n places at ad k -/
def Ar (σ : SH) (ad : Nat → Nat) (k n : Nat) : Prop := ad k ∈ shL σ ∧ shK σ (ad k) = 11 ∧ shN σ (ad k) = n
theorem Ar.lt {σ : SH} {ad : Nat → Nat} {k n j : Nat} (h : Ar σ ad k n) (hj : j < n) : j < shN σ (ad k) := by rw [h.2.2]; exact hj
theorem Ar.sm {σ : SH} {ad : Nat → Nat} {k n : Nat} (h : Ar σ ad k n) (hn : n ≤ 4486) : shN σ (ad k) < 2147483648 := by rw [h.2.2]; omega
def Rf (σ : SH) (ad : Nat → Nat) (k j i : Nat) : Prop := shR σ (ad k) j = some (ad i)
/-- the shape of a group -/
def GS (σ : SH) (ad : Nat → Nat) : Prop := Inj (idI ++ idX) ad ∧ (Ob σ ad 100 0 ∧ Rf σ ad 100 0 0 ∧ Rf σ ad 100 1 1 ∧ Rf σ ad 100 2 2 ∧ Rf σ ad 100 3 3 ∧ Ar σ ad 0 21 ∧ Ar σ ad 1 21) ∧
  (Ob σ ad 2 1 ∧ (∀ j, j < 6 → Rf σ ad 2 j (4 + j)) ∧ Ar σ ad 4 150 ∧ Ar σ ad 5 150 ∧ Ar σ ad 6 150 ∧ Ar σ ad 7 150 ∧ Ar σ ad 8 150 ∧ Ar σ ad 9 900) ∧
  (ad 3 ∈ shL σ ∧ shK σ (ad 3) = 12 ∧ shN σ (ad 3) = 6 ∧ ∀ p, p < 6 → shY σ (ad 3) p = some (ad (10 + p))) ∧
  ∀ p, p < 6 → Ob σ ad (10 + p) 2 ∧ Rf σ ad (10 + p) 1 (20 + p) ∧ Rf σ ad (10 + p) 2 (30 + p) ∧ Rf σ ad (10 + p) 3 (40 + p) ∧ Ar σ ad (20 + p) 150 ∧ Ar σ ad (30 + p) 150 ∧ Ar σ ad (40 + p) 36
section GSx
variable {σ : SH} {ad : Nat → Nat}
theorem GS.jI (h : GS σ ad) : Inj idI ad := fun i j hi hj => h.1 i j (List.mem_append_left _ hi) (List.mem_append_left _ hj)
theorem GS.jX (h : GS σ ad) : Inj idX ad := fun i j hi hj => h.1 i j (List.mem_append_right _ hi) (List.mem_append_right _ hj)
theorem GS.g (h : GS σ ad) : Ob σ ad 100 0 := h.2.1.1
theorem GS.r0 (h : GS σ ad) : Rf σ ad 100 0 0 := h.2.1.2.1
theorem GS.r1 (h : GS σ ad) : Rf σ ad 100 1 1 := h.2.1.2.2.1
theorem GS.r2 (h : GS σ ad) : Rf σ ad 100 2 2 := h.2.1.2.2.2.1
theorem GS.r3 (h : GS σ ad) : Rf σ ad 100 3 3 := h.2.1.2.2.2.2.1
theorem GS.a0 (h : GS σ ad) : Ar σ ad 0 21 := h.2.1.2.2.2.2.2.1
theorem GS.a1 (h : GS σ ad) : Ar σ ad 1 21 := h.2.1.2.2.2.2.2.2
theorem GS.m (h : GS σ ad) : Ob σ ad 2 1 := h.2.2.1.1
theorem GS.mr (h : GS σ ad) (j : Nat) (hj : j < 6) : Rf σ ad 2 j (4 + j) := h.2.2.1.2.1 j hj
theorem GS.a4 (h : GS σ ad) : Ar σ ad 4 150 := h.2.2.1.2.2.1
theorem GS.a5 (h : GS σ ad) : Ar σ ad 5 150 := h.2.2.1.2.2.2.1
theorem GS.a6 (h : GS σ ad) : Ar σ ad 6 150 := h.2.2.1.2.2.2.2.1
theorem GS.a7 (h : GS σ ad) : Ar σ ad 7 150 := h.2.2.1.2.2.2.2.2.1
theorem GS.a8 (h : GS σ ad) : Ar σ ad 8 150 := h.2.2.1.2.2.2.2.2.2.1
theorem GS.a9 (h : GS σ ad) : Ar σ ad 9 900 := h.2.2.1.2.2.2.2.2.2.2
theorem GS.ym (h : GS σ ad) : ad 3 ∈ shL σ := h.2.2.2.1.1
theorem GS.yk (h : GS σ ad) : shK σ (ad 3) = 12 := h.2.2.2.1.2.1
theorem GS.yl (h : GS σ ad) {j : Nat} (hj : j < 6) : j < shN σ (ad 3) := by rw [h.2.2.2.1.2.2.1]; exact hj
theorem GS.ys (h : GS σ ad) : shN σ (ad 3) < 2147483648 := by rw [h.2.2.2.1.2.2.1]; omega
theorem GS.y (h : GS σ ad) {p : Nat} (hp : p < 6) : shY σ (ad 3) p = some (ad (10 + p)) := h.2.2.2.1.2.2.2 p hp
theorem GS.rp (h : GS σ ad) {p : Nat} (hp : p < 6) : Ob σ ad (10 + p) 2 := (h.2.2.2.2 p hp).1
theorem GS.p1 (h : GS σ ad) {p : Nat} (hp : p < 6) : Rf σ ad (10 + p) 1 (20 + p) := (h.2.2.2.2 p hp).2.1
theorem GS.p2 (h : GS σ ad) {p : Nat} (hp : p < 6) : Rf σ ad (10 + p) 2 (30 + p) := (h.2.2.2.2 p hp).2.2.1
theorem GS.p3 (h : GS σ ad) {p : Nat} (hp : p < 6) : Rf σ ad (10 + p) 3 (40 + p) := (h.2.2.2.2 p hp).2.2.2.1
theorem GS.al (h : GS σ ad) {p : Nat} (hp : p < 6) : Ar σ ad (20 + p) 150 := (h.2.2.2.2 p hp).2.2.2.2.1
theorem GS.ap (h : GS σ ad) {p : Nat} (hp : p < 6) : Ar σ ad (30 + p) 150 := (h.2.2.2.2 p hp).2.2.2.2.2.1
theorem GS.at (h : GS σ ad) {p : Nat} (hp : p < 6) : Ar σ ad (40 + p) 36 := (h.2.2.2.2 p hp).2.2.2.2.2.2
end GSx
theorem mem_rp {p : Nat} (hp : p < 6) : 10 + p ∈ idI := (by decide : ∀ p, p < 6 → 10 + p ∈ idI) p hp
theorem mem_lg {p : Nat} (hp : p < 6) : 20 + p ∈ idX := (by decide : ∀ p, p < 6 → 20 + p ∈ idX) p hp
theorem mem_pl {p : Nat} (hp : p < 6) : 30 + p ∈ idX := (by decide : ∀ p, p < 6 → 30 + p ∈ idX) p hp
theorem mem_tb {p : Nat} (hp : p < 6) : 40 + p ∈ idX := (by decide : ∀ p, p < 6 → 40 + p ∈ idX) p hp
theorem nX_of : ∀ k, k ∈ idI → k ∉ idX := by decide
theorem nI_of' : ∀ k, k ∈ idX → k ∉ idI := by decide
section VG
variable {p : Program} {l : Launch} {e : Env} {R : Room} {s : State} {m : MethodId} {args : Array Value} {below : List Frame} {meth : Method} {c : Code} {D : va_G} {cy sa sv : Nat → Nat} {A : Nat → Prop} {Q : State → Prop} {cc : ByteArray} {nL : Nat} {own : String} {ret : Option FieldType} {cells slots : Nat} {σ : SH} {I X C : IX} {ad : Nat → Nat} {pc : Nat} {lv : List (Nat × Value)} {st : List Value}
theorem V.getIP (hF : Fx p l s m args meth c D cy sa sv A nL own cc ret) {idx ci k j : Nat} {b : Bool} {t : FieldType} (d : decode cc pc = .ok (.getfield idx, 3)) (hf : Fl own idx ci j b t) (ho : Ob σ ad k ci) (hr : rft ci j = false) (hG : GS σ ad) (hk : k ∈ idI) (kk : V p l e R s m args below meth c D cy A Q nL cells slots σ (put idI I ad C) (put idX X ad C) (pc + 3) lv (.int (C k j) :: st)) : V p l e R s m args below meth c D cy A Q nL cells slots σ (put idI I ad C) (put idX X ad C) pc lv (.ref (ad k) :: st) := V.getIF hF d hf ho.1 ho.2 hr (put_at hG.jI hk) kk
theorem V.putIP (hF : Fx p l s m args meth c D cy sa sv A nL own cc ret) {idx ci k j : Nat} {t : FieldType} {x : Int32} (d : decode cc pc = .ok (.putfield idx, 3)) (hf : Fl own idx ci j false t) (ho : Ob σ ad k ci) (hr : rft ci j = false) (hn : narrow t (.int x) = .int x) (hfit : fits t (.int x) = true) (hG : GS σ ad) (hk : k ∈ idI) (kk : V p l e R s m args below meth c D cy A Q nL cells slots σ (put idI I ad (va_up C k (upd (C k) j x))) (put idX X ad (va_up C k (upd (C k) j x))) (pc + 3) lv st) : V p l e R s m args below meth c D cy A Q nL cells slots σ (put idI I ad C) (put idX X ad C) pc lv (.int x :: .ref (ad k) :: st) := V.putI hF d hf ho.1 ho.2 hr hn hfit (by
  rw [put_up hG.jI hk, put_at hG.jI hk]
  rw [put_skip (nX_of k hk)] at kk
  exact kk)
theorem V.ialoadP (hF : Fx p l s m args meth c D cy sa sv A nL own cc ret) {k j n : Nat} {i : Int32} (d : decode cc pc = .ok (.iaload, 1)) (ha : Ar σ ad k n) (hi : i = nI j) (hj : j < n) (hn : n ≤ 4486) (hG : GS σ ad) (hk : k ∈ idX) (kk : V p l e R s m args below meth c D cy A Q nL cells slots σ (put idI I ad C) (put idX X ad C) (pc + 1) lv (.int (C k j) :: st)) : V p l e R s m args below meth c D cy A Q nL cells slots σ (put idI I ad C) (put idX X ad C) pc lv (.int i :: .ref (ad k) :: st) := V.ialoadF hF d ha.1 ha.2.1 hi (ha.lt hj) (ha.sm hn) (put_at hG.jX hk) kk
theorem V.iastoreP (hF : Fx p l s m args meth c D cy sa sv A nL own cc ret) {k j n : Nat} {i x : Int32} (d : decode cc pc = .ok (.iastore, 1)) (ha : Ar σ ad k n) (hi : i = nI j) (hj : j < n) (hn : n ≤ 4486) (hG : GS σ ad) (hk : k ∈ idX) (kk : V p l e R s m args below meth c D cy A Q nL cells slots σ (put idI I ad (va_up C k (upd (C k) j x))) (put idX X ad (va_up C k (upd (C k) j x))) (pc + 1) lv st) : V p l e R s m args below meth c D cy A Q nL cells slots σ (put idI I ad C) (put idX X ad C) pc lv (.int x :: .int i :: .ref (ad k) :: st) := V.iastore hF d ha.1 ha.2.1 hi (ha.lt hj) (ha.sm hn) (by
  rw [put_up hG.jX hk, put_at hG.jX hk]
  rw [put_skip (nI_of' k hk)] at kk
  exact kk)
theorem V.getRP (hF : Fx p l s m args meth c D cy sa sv A nL own cc ret) {idx ci k j i : Nat} {b : Bool} {t : FieldType} (d : decode cc pc = .ok (.getfield idx, 3)) (hf : Fl own idx ci j b t) (ho : Ob σ ad k ci) (hr : rft ci j = true) (hq : Rf σ ad k j i) (kk : V p l e R s m args below meth c D cy A Q nL cells slots σ I X (pc + 3) lv (.ref (ad i) :: st)) : V p l e R s m args below meth c D cy A Q nL cells slots σ I X pc lv (.ref (ad k) :: st) := V.getR hF d hf ho.1 ho.2 hr hq kk
theorem V.eqC {C' : IX} (h : C = C') (k : V p l e R s m args below meth c D cy A Q nL cells slots σ (put idI I ad C') (put idX X ad C') pc lv st) : V p l e R s m args below meth c D cy A Q nL cells slots σ (put idI I ad C) (put idX X ad C) pc lv st := h ▸ k
end VG
