/-! CONSTRUCTORS -/
def mkS (a : Nat) : SH → List (Nat × Nat × Nat × Nat) → SH
  | σ, [] => σ
  | σ, x :: t => mkS a (shSetR (shAdd σ x.1 x.2.1 x.2.2.1) a x.2.2.2 (some x.1)) t
def mkX : IX → List (Nat × Nat × Nat × Nat) → IX
  | X, [] => X
  | X, x :: t => mkX (va_up X x.1 (fun _ => 0)) t
def Fr (a : Nat) : SH → List (Nat × Nat × Nat × Nat) → Prop
  | _, [] => True
  | σ, x :: t => x.1 ∉ shL σ ∧ Fr a (shSetR (shAdd σ x.1 x.2.1 x.2.2.1) a x.2.2.2 (some x.1)) t
theorem Fr_n {a : Nat} {σ : SH} : Fr a σ [] := trivial
theorem Fr_c {a : Nat} {σ : SH} {x : Nat × Nat × Nat × Nat} {t : List (Nat × Nat × Nat × Nat)} (h : x.1 ∉ shL σ) (g : Fr a (shSetR (shAdd σ x.1 x.2.1 x.2.2.1) a x.2.2.2 (some x.1)) t) : Fr a σ (x :: t) := ⟨h, g⟩
/-- old cells stay, but for what ex names -/
def Gw (σ σ' : SH) (I I' X X' : IX) (ex : Nat → Prop) : Prop :=
  (∀ a, a ∈ shL σ → a ∈ shL σ' ∧ shK σ' a = shK σ a ∧ shN σ' a = shN σ a ∧ shJ σ' a = shJ σ a ∧ shZ σ' a = shZ σ a) ∧ ∀ a, a ∈ shL σ → ¬ ex a → shR σ' a = shR σ a ∧ shY σ' a = shY σ a ∧ I' a = I a ∧ X' a = X a
theorem Gw.refl {σ : SH} {I X : IX} {ex : Nat → Prop} : Gw σ σ I I X X ex := ⟨fun _ h => ⟨h, rfl, rfl, rfl, rfl⟩, fun _ _ _ => ⟨rfl, rfl, rfl, rfl⟩⟩
theorem Gw.trans {σ σ1 σ2 : SH} {I I1 I2 X X1 X2 : IX} {ex ex' : Nat → Prop} (h : Gw σ σ1 I I1 X X1 ex) (g : Gw σ1 σ2 I1 I2 X1 X2 ex') (he : ∀ a, a ∈ shL σ → ex' a → ex a) : Gw σ σ2 I I2 X X2 ex := by
  refine ⟨fun a ha => ?_, fun a ha hn => ?_⟩
  · obtain ⟨h1, h2, h3, h4, h5⟩ := h.1 a ha
    obtain ⟨g1, g2, g3, g4, g5⟩ := g.1 a h1
    exact ⟨g1, g2.trans h2, g3.trans h3, g4.trans h4, g5.trans h5⟩
  · obtain ⟨h1, h2, h3, h4⟩ := h.2 a ha hn
    obtain ⟨g1, g2, g3, g4⟩ := g.2 a (h.1 a ha).1 (fun q => hn (he a ha q))
    exact ⟨g1.trans h1, g2.trans h2, g3.trans h3, g4.trans h4⟩
theorem Gw.nil {σ σ' : SH} {I I' X X' : IX} {ex : Nat → Prop} (g : Gw σ σ' I I' X X' ex) (he : ∀ a, a ∈ shL σ → ¬ ex a) : Gw σ σ' I I' X X' (fun _ => False) := ⟨g.1, fun a ha _ => g.2 a ha (he a ha)⟩
theorem Gw.wide {σ σ' : SH} {I I' X X' : IX} {ex ex' : Nat → Prop} (g : Gw σ σ' I I' X X' ex) (he : ∀ a, a ∈ shL σ → ex a → ex' a) : Gw σ σ' I I' X X' ex' := ⟨g.1, fun a ha hn => g.2 a ha (fun q => hn (he a ha q))⟩
theorem Gw.add {σ : SH} {I X : IX} {q kd n : Nat} {f g : Nat → Int32} (hq : q ∉ shL σ) : Gw σ (shAdd σ q kd n) I (va_up I q f) X (va_up X q g) (fun _ => False) := by
  have ne : ∀ a, a ∈ shL σ → a ≠ q := fun a ha e => hq (e ▸ ha)
  exact ⟨fun a ha => ⟨List.mem_append_left _ ha, va_up_ne _ _ (ne a ha), va_up_ne _ _ (ne a ha), va_up_ne _ _ (ne a ha), va_up_ne _ _ (ne a ha)⟩, fun a ha _ => ⟨va_up_ne _ _ (ne a ha), va_up_ne _ _ (ne a ha), va_up_ne _ _ (ne a ha), va_up_ne _ _ (ne a ha)⟩⟩
theorem Gw.add0 {σ : SH} {I X : IX} {q kd n : Nat} (hq : q ∉ shL σ) : Gw σ (shAdd σ q kd n) I I X X (fun _ => False) := by
  have ne : ∀ a, a ∈ shL σ → a ≠ q := fun a ha e => hq (e ▸ ha)
  exact ⟨fun a ha => ⟨List.mem_append_left _ ha, va_up_ne _ _ (ne a ha), va_up_ne _ _ (ne a ha), va_up_ne _ _ (ne a ha), va_up_ne _ _ (ne a ha)⟩, fun a ha _ => ⟨va_up_ne _ _ (ne a ha), va_up_ne _ _ (ne a ha), rfl, rfl⟩⟩
theorem Gw.addI {σ : SH} {I X : IX} {q kd n : Nat} {f : Nat → Int32} (hq : q ∉ shL σ) : Gw σ (shAdd σ q kd n) I (va_up I q f) X X (fun _ => False) := by
  have ne : ∀ a, a ∈ shL σ → a ≠ q := fun a ha e => hq (e ▸ ha)
  exact ⟨fun a ha => ⟨List.mem_append_left _ ha, va_up_ne _ _ (ne a ha), va_up_ne _ _ (ne a ha), va_up_ne _ _ (ne a ha), va_up_ne _ _ (ne a ha)⟩, fun a ha _ => ⟨va_up_ne _ _ (ne a ha), va_up_ne _ _ (ne a ha), va_up_ne _ _ (ne a ha), rfl⟩⟩
theorem Gw.addX {σ : SH} {I X : IX} {q kd n : Nat} {g : Nat → Int32} (hq : q ∉ shL σ) : Gw σ (shAdd σ q kd n) I I X (va_up X q g) (fun _ => False) := by
  have ne : ∀ a, a ∈ shL σ → a ≠ q := fun a ha e => hq (e ▸ ha)
  exact ⟨fun a ha => ⟨List.mem_append_left _ ha, va_up_ne _ _ (ne a ha), va_up_ne _ _ (ne a ha), va_up_ne _ _ (ne a ha), va_up_ne _ _ (ne a ha)⟩, fun a ha _ => ⟨va_up_ne _ _ (ne a ha), va_up_ne _ _ (ne a ha), rfl, va_up_ne _ _ (ne a ha)⟩⟩
theorem Gw.setR {σ : SH} {I X : IX} {a k : Nat} {r : Option Nat} : Gw σ (shSetR σ a k r) I I X X (fun b => b = a) := ⟨fun _ h => ⟨h, rfl, rfl, rfl, rfl⟩, fun _ _ hn => ⟨va_up_ne _ _ hn, rfl, rfl, rfl⟩⟩
theorem Gw.setY {σ : SH} {I X : IX} {a : Nat} {f : Nat → Option Nat} : Gw σ (shSetY σ a f) I I X X (fun b => b = a) := ⟨fun _ h => ⟨h, rfl, rfl, rfl, rfl⟩, fun _ _ hn => ⟨rfl, va_up_ne _ _ hn, rfl, rfl⟩⟩
theorem Gw.putI {σ : SH} {I X : IX} {a : Nat} {f : Nat → Int32} : Gw σ σ I (va_up I a f) X X (fun b => b = a) := ⟨fun _ h => ⟨h, rfl, rfl, rfl, rfl⟩, fun _ _ hn => ⟨rfl, rfl, va_up_ne _ _ hn, rfl⟩⟩
theorem Gw.putX {σ : SH} {I X : IX} {a : Nat} {f : Nat → Int32} : Gw σ σ I I X (va_up X a f) (fun b => b = a) := ⟨fun _ h => ⟨h, rfl, rfl, rfl, rfl⟩, fun _ _ hn => ⟨rfl, rfl, rfl, va_up_ne _ _ hn⟩⟩
theorem mem_add {σ : SH} {a q kd n : Nat} (h : a ∈ shL σ) : a ∈ shL (shAdd σ q kd n) := List.mem_append_left _ h
theorem kind_add {σ : SH} {a q kd n ci : Nat} (hq : q ∉ shL σ) (h : a ∈ shL σ) (hK : shK σ a = ci) : shK (shAdd σ q kd n) a = ci := by
  have hne : a ≠ q := fun e => hq (e ▸ h)
  exact (va_up_ne _ _ hne).trans hK
theorem mem_new {σ : SH} {q kd n : Nat} : q ∈ shL (shAdd σ q kd n) := List.mem_append_right _ (List.mem_singleton.mpr rfl)
theorem kind_new {σ : SH} {q kd n : Nat} : shK (shAdd σ q kd n) q = kd := va_up_self _ _ _
theorem len_new {σ : SH} {q kd n : Nat} : shN (shAdd σ q kd n) q = n := va_up_self _ _ _
/-- the cells that a constructor makes and puts into the object a -/
theorem mkS_spec {a : Nat} : ∀ {Q : List (Nat × Nat × Nat × Nat)} {σ : SH}, Fr a σ Q → a ∈ shL σ →
    Gw σ (mkS a σ Q) (fun _ _ => 0) (fun _ _ => 0) (fun _ _ => 0) (fun _ _ => 0) (fun b => b = a) ∧ shY (mkS a σ Q) a = shY σ a ∧ (∀ k, k ∉ Q.map (fun x => x.2.2.2) → shR (mkS a σ Q) a k = shR σ a k) ∧
    ((Q.map (fun x => x.2.2.2)).Nodup → (∀ x ∈ Q, x.1 ∉ shL σ ∧ x.1 ∈ shL (mkS a σ Q) ∧ shK (mkS a σ Q) x.1 = x.2.1 ∧ shN (mkS a σ Q) x.1 = x.2.2.1 ∧ shR (mkS a σ Q) a x.2.2.2 = some x.1)) ∧ (Q.map (fun x => x.1)).Nodup ∧ ∀ x ∈ Q, x.1 ∉ shL σ
  | [], σ, _, _ => ⟨Gw.refl, rfl, fun _ _ => rfl, fun _ _ h => absurd h List.not_mem_nil, List.nodup_nil, fun _ h => absurd h List.not_mem_nil⟩
  | x :: t, σ, ⟨hx, hF⟩, ha => by
    have hne : a ≠ x.1 := fun e => hx (e ▸ ha)
    obtain ⟨i1, i2, i3, i4, i5, i6⟩ := mkS_spec hF (mem_add (kd := x.2.1) (n := x.2.2.1) ha)
    have g1 : Gw σ (shSetR (shAdd σ x.1 x.2.1 x.2.2.1) a x.2.2.2 (some x.1)) (fun _ _ => 0) (fun _ _ => 0) (fun _ _ => 0) (fun _ _ => 0) (fun b => b = a) := ((Gw.add0 hx).wide (fun _ _ q => q.elim)).trans Gw.setR (fun _ _ h => h)
    refine ⟨g1.trans i1 (fun _ _ h => h), ?_, fun k hk => ?_, fun hn y hy => ?_, ?_, fun y hy => ?_⟩
    · rw [mkS, i2]; exact va_up_ne _ _ hne
    · simp only [List.map_cons, List.mem_cons, not_or] at hk
      rw [mkS, i3 k hk.2]
      show va_up (shR (shAdd σ x.1 x.2.1 x.2.2.1)) a (va_up (shR (shAdd σ x.1 x.2.1 x.2.2.1) a) x.2.2.2 (some x.1)) a k = _
      rw [va_up_self, va_up_ne _ _ hk.1]
      exact congrFun (va_up_ne _ _ hne) k
    · simp only [List.map_cons, List.nodup_cons] at hn
      rcases List.mem_cons.mp hy with rfl | hy
      · have m1 : y.1 ∈ shL (shSetR (shAdd σ y.1 y.2.1 y.2.2.1) a y.2.2.2 (some y.1)) := mem_new (kd := y.2.1) (n := y.2.2.1)
        obtain ⟨k1, k2, k3, -, -⟩ := i1.1 y.1 m1
        refine ⟨hx, k1, k2.trans (kind_new (n := y.2.2.1)), k3.trans (len_new (kd := y.2.1)), ?_⟩
        rw [mkS, i3 _ hn.1]
        show va_up (shR (shAdd σ y.1 y.2.1 y.2.2.1)) a (va_up (shR (shAdd σ y.1 y.2.1 y.2.2.1) a) y.2.2.2 (some y.1)) a y.2.2.2 = _
        rw [va_up_self, va_up_self]
      · obtain ⟨j1, j2, j3, j4, j5⟩ := i4 hn.2 y hy
        exact ⟨fun q => j1 (mem_add (kd := x.2.1) (n := x.2.2.1) q), j2, j3, j4, j5⟩
    · simp only [List.map_cons, List.nodup_cons]
      refine ⟨fun q => ?_, i5⟩
      obtain ⟨y, hy, e⟩ := List.mem_map.mp q
      have e' : y.1 = x.1 := e
      exact i6 y hy (e'.symm ▸ (show x.1 ∈ shL (shSetR (shAdd σ x.1 x.2.1 x.2.2.1) a x.2.2.2 (some x.1)) from mem_new (kd := x.2.1) (n := x.2.2.1)))
    · rcases List.mem_cons.mp hy with rfl | hy
      · exact hx
      · exact fun q => i6 y hy (mem_add (kd := x.2.1) (n := x.2.2.1) q)
theorem mkX_in : ∀ {Q : List (Nat × Nat × Nat × Nat)} {X : IX} {b : Nat}, (b ∈ Q.map (fun x => x.1) ∨ X b = fun _ => 0) → mkX X Q b = fun _ => 0
  | [], _, _, h => h.elim (fun q => absurd q List.not_mem_nil) id
  | x :: t, X, b, h => by
    rw [mkX]
    apply mkX_in
    by_cases e : b = x.1
    · subst e; exact Or.inr (va_up_self _ _ _)
    · rcases h with h | h
      · rcases List.mem_cons.mp h with h | h
        · exact absurd h e
        · exact Or.inl h
      · exact Or.inr ((va_up_ne _ _ e).trans h)
theorem mkX_out : ∀ {Q : List (Nat × Nat × Nat × Nat)} {X : IX} {b : Nat}, b ∉ Q.map (fun x => x.1) → mkX X Q b = X b
  | [], _, _, _ => rfl
  | x :: t, X, b, h => by
    simp only [List.map_cons, List.mem_cons, not_or] at h
    rw [mkX, mkX_out h.2, va_up_ne _ _ h.1]
/-- with the planes -/
theorem mk_gw {a : Nat} {Q : List (Nat × Nat × Nat × Nat)} {σ : SH} (h : Fr a σ Q) (ha : a ∈ shL σ) (I X : IX) (f : Nat → Int32) : Gw σ (mkS a σ Q) I (va_up I a f) X (mkX X Q) (fun b => b = a) := by
  obtain ⟨h1, -, -, -, -, h6⟩ := mkS_spec h ha
  refine ⟨h1.1, fun b hb hn => ⟨(h1.2 b hb hn).1, (h1.2 b hb hn).2.1, va_up_ne _ _ hn, mkX_out (fun q => ?_)⟩⟩
  obtain ⟨x, hx, e⟩ := List.mem_map.mp q
  exact h6 x hx (e ▸ hb)
theorem Gw.mono0 {σ σ' : SH} {ex : Nat → Prop} (h : Gw σ σ' (fun _ _ => 0) (fun _ _ => 0) (fun _ _ => 0) (fun _ _ => 0) ex) {I X : IX} : Gw σ σ' I I X X ex := ⟨h.1, fun a ha hn => ⟨(h.2 a ha hn).1, (h.2 a ha hn).2.1, rfl, rfl⟩⟩

section Kc
variable {l : Launch} {D : va_G} {cy sa sv : Nat → Nat}
theorem kf_X1_9 : Cond.fieldLink RX1 9 (TX1 0).1 (TX1 0).2.1 (TX1 0).2.2.1 ∈ GT := gw 135 (by decide +kernel) (by decide +kernel)
theorem kf_X1_15 : Cond.fieldLink RX1 15 (TX1 1).1 (TX1 1).2.1 (TX1 1).2.2.1 ∈ GT := gw 139 (by decide +kernel) (by decide +kernel)
theorem kf_X1_18 : Cond.fieldLink RX1 18 (TX1 2).1 (TX1 2).2.1 (TX1 2).2.2.1 ∈ GT := gw 142 (by decide +kernel) (by decide +kernel)
theorem kf_X1_21 : Cond.fieldLink RX1 21 (TX1 3).1 (TX1 3).2.1 (TX1 3).2.2.1 ∈ GT := gw 144 (by decide +kernel) (by decide +kernel)
theorem kf_X1_24 : Cond.fieldLink RX1 24 (TX1 4).1 (TX1 4).2.1 (TX1 4).2.2.1 ∈ GT := gw 148 (by decide +kernel) (by decide +kernel)
theorem kf_X1_27 : Cond.fieldLink RX1 27 (TX1 5).1 (TX1 5).2.1 (TX1 5).2.2.1 ∈ GT := gw 149 (by decide +kernel) (by decide +kernel)
set_option maxRecDepth 20000 in
theorem ct_X1_init (hst : l.stackTraces = false) (σ : SH) (I X : IX) (o : Nat) (hm : o ∈ shL σ) (hK : shK σ o = 1) : Ct l D cy sa sv yX1_init cX1_init 1 none 1 6 1650 [.ref o] σ I X (fun v' σ' I' X' => v' = none ∧ ∃ q0 q1 q2 q3 q4 q5 : Nat, Fr o σ [(q0, 11, 150, 0), (q1, 11, 150, 1), (q2, 11, 150, 2), (q3, 11, 150, 3), (q4, 11, 150, 4), (q5, 11, 900, 5)] ∧ σ' = mkS o σ [(q0, 11, 150, 0), (q1, 11, 150, 1), (q2, 11, 150, 2), (q3, 11, 150, 3), (q4, 11, 150, 4), (q5, 11, 900, 5)] ∧ I' = (va_up I o (upd (I o) 6 (nI 0))) ∧ X' = (mkX X [(q0, 11, 150, 0), (q1, 11, 150, 1), (q2, 11, 150, 2), (q3, 11, 150, 3), (q4, 11, 150, 4), (q5, 11, 900, 5)])) noX := by
  refine Ct.of (by decide) hst (Nat.le_of_ble_eq_true rfl) ?_
  intro pp ee ss mm args below meth kc A hF hnm hout
  refine V.aload_n hF dX1_init_0 rfl ?_
  refine V.objInit hF dX1_init_1 ol_X1 (Nat.le_of_ble_eq_true rfl) (Nat.le_of_ble_eq_true rfl) ?_
  refine V.aload_n hF dX1_init_4 rfl ?_
  refine V.sipush (v := nI 150) hF dX1_init_5 (by decide) ?_
  refine V.newi (N := 150) hF dX1_init_8 rfl (Nat.le_of_ble_eq_true rfl) (Nat.le_of_ble_eq_true rfl) (Nat.le_of_ble_eq_true rfl) (fun q0 hq0 => ?_)
  have hm0 := mem_add (q := q0) (kd := 11) (n := 150) hm
  have hK0 := kind_add (q := q0) (kd := 11) (n := 150) hq0 hm hK
  refine V.putRv (r := some q0) hF dX1_init_10 fl_X1_9 rfl (Or.inr ⟨hnm, TX1, 7, rfl, kf_X1_9⟩) (Or.inr ⟨_, rfl⟩) hm0 hK0 rfl ?_
  refine V.aload_n hF dX1_init_13 rfl ?_
  refine V.sipush (v := nI 150) hF dX1_init_14 (by decide) ?_
  refine V.newi (N := 150) hF dX1_init_17 rfl (Nat.le_of_ble_eq_true rfl) (Nat.le_of_ble_eq_true rfl) (Nat.le_of_ble_eq_true rfl) (fun q1 hq1 => ?_)
  have hm1 := mem_add (q := q1) (kd := 11) (n := 150) hm0
  have hK1 := kind_add (q := q1) (kd := 11) (n := 150) hq1 hm0 hK0
  refine V.putRv (r := some q1) hF dX1_init_19 fl_X1_15 rfl (Or.inr ⟨hnm, TX1, 7, rfl, kf_X1_15⟩) (Or.inr ⟨_, rfl⟩) hm1 hK1 rfl ?_
  refine V.aload_n hF dX1_init_22 rfl ?_
  refine V.sipush (v := nI 150) hF dX1_init_23 (by decide) ?_
  refine V.newi (N := 150) hF dX1_init_26 rfl (Nat.le_of_ble_eq_true rfl) (Nat.le_of_ble_eq_true rfl) (Nat.le_of_ble_eq_true rfl) (fun q2 hq2 => ?_)
  have hm2 := mem_add (q := q2) (kd := 11) (n := 150) hm1
  have hK2 := kind_add (q := q2) (kd := 11) (n := 150) hq2 hm1 hK1
  refine V.putRv (r := some q2) hF dX1_init_28 fl_X1_18 rfl (Or.inr ⟨hnm, TX1, 7, rfl, kf_X1_18⟩) (Or.inr ⟨_, rfl⟩) hm2 hK2 rfl ?_
  refine V.aload_n hF dX1_init_31 rfl ?_
  refine V.sipush (v := nI 150) hF dX1_init_32 (by decide) ?_
  refine V.newi (N := 150) hF dX1_init_35 rfl (Nat.le_of_ble_eq_true rfl) (Nat.le_of_ble_eq_true rfl) (Nat.le_of_ble_eq_true rfl) (fun q3 hq3 => ?_)
  have hm3 := mem_add (q := q3) (kd := 11) (n := 150) hm2
  have hK3 := kind_add (q := q3) (kd := 11) (n := 150) hq3 hm2 hK2
  refine V.putRv (r := some q3) hF dX1_init_37 fl_X1_21 rfl (Or.inr ⟨hnm, TX1, 7, rfl, kf_X1_21⟩) (Or.inr ⟨_, rfl⟩) hm3 hK3 rfl ?_
  refine V.aload_n hF dX1_init_40 rfl ?_
  refine V.sipush (v := nI 150) hF dX1_init_41 (by decide) ?_
  refine V.newi (N := 150) hF dX1_init_44 rfl (Nat.le_of_ble_eq_true rfl) (Nat.le_of_ble_eq_true rfl) (Nat.le_of_ble_eq_true rfl) (fun q4 hq4 => ?_)
  have hm4 := mem_add (q := q4) (kd := 11) (n := 150) hm3
  have hK4 := kind_add (q := q4) (kd := 11) (n := 150) hq4 hm3 hK3
  refine V.putRv (r := some q4) hF dX1_init_46 fl_X1_24 rfl (Or.inr ⟨hnm, TX1, 7, rfl, kf_X1_24⟩) (Or.inr ⟨_, rfl⟩) hm4 hK4 rfl ?_
  refine V.aload_n hF dX1_init_49 rfl ?_
  refine V.sipush (v := nI 900) hF dX1_init_50 (by decide) ?_
  refine V.newi (N := 900) hF dX1_init_53 rfl (Nat.le_of_ble_eq_true rfl) (Nat.le_of_ble_eq_true rfl) (Nat.le_of_ble_eq_true rfl) (fun q5 hq5 => ?_)
  have hm5 := mem_add (q := q5) (kd := 11) (n := 900) hm4
  have hK5 := kind_add (q := q5) (kd := 11) (n := 900) hq5 hm4 hK4
  refine V.putRv (r := some q5) hF dX1_init_55 fl_X1_27 rfl (Or.inr ⟨hnm, TX1, 7, rfl, kf_X1_27⟩) (Or.inr ⟨_, rfl⟩) hm5 hK5 rfl ?_
  refine V.aload_n hF dX1_init_58 rfl ?_
  refine V.iconst (v := nI 0) hF dX1_init_59 (by decide) ?_
  refine V.putI hF dX1_init_60 fl_X1_30 hm5 hK5 rfl rfl rfl ?_
  refine V.vret hF dX1_init_63 (Nat.le_of_ble_eq_true rfl) (Nat.le_of_ble_eq_true rfl) ?_
  exact ⟨rfl, q0, q1, q2, q3, q4, q5, (Fr_c hq0 (Fr_c hq1 (Fr_c hq2 (Fr_c hq3 (Fr_c hq4 (Fr_c hq5 Fr_n)))))), rfl, rfl, rfl⟩
theorem kf_X2_9 : Cond.fieldLink RX2 9 (TX2 1).1 (TX2 1).2.1 (TX2 1).2.2.1 ∈ GT := gw 177 (by decide +kernel) (by decide +kernel)
theorem kf_X2_15 : Cond.fieldLink RX2 15 (TX2 2).1 (TX2 2).2.1 (TX2 2).2.2.1 ∈ GT := gw 179 (by decide +kernel) (by decide +kernel)
theorem kf_X2_18 : Cond.fieldLink RX2 18 (TX2 3).1 (TX2 3).2.1 (TX2 3).2.2.1 ∈ GT := gw 182 (by decide +kernel) (by decide +kernel)
theorem kf_X2_28 : Cond.fieldLink RX2 28 (TX2 0).1 (TX2 0).2.1 (TX2 0).2.2.1 ∈ GT := gw 175 (by decide +kernel) (by decide +kernel)
set_option maxRecDepth 20000 in
theorem ct_X2_init (hst : l.stackTraces = false) (σ : SH) (I X : IX) (o : Nat) (hm : o ∈ shL σ) (hK : shK σ o = 2) (x : Int32) : Ct l D cy sa sv yX2_init cX2_init 2 none 1 3 336 [.ref o, .int x] σ I X (fun v' σ' I' X' => v' = none ∧ ∃ q0 q1 q2 : Nat, Fr o σ [(q0, 11, 150, 1), (q1, 11, 150, 2), (q2, 11, 36, 3)] ∧ σ' = mkS o σ [(q0, 11, 150, 1), (q1, 11, 150, 2), (q2, 11, 36, 3)] ∧ I' = (va_up (va_up (va_up I o (upd (I o) 4 (nI 0))) o (upd ((va_up I o (upd (I o) 4 (nI 0))) o) 5 (nI 0))) o (upd ((va_up (va_up I o (upd (I o) 4 (nI 0))) o (upd ((va_up I o (upd (I o) 4 (nI 0))) o) 5 (nI 0))) o) 0 (x))) ∧ X' = (mkX X [(q0, 11, 150, 1), (q1, 11, 150, 2), (q2, 11, 36, 3)])) noX := by
  refine Ct.of (by decide) hst (Nat.le_of_ble_eq_true rfl) ?_
  intro pp ee ss mm args below meth kc A hF hnm hout
  refine V.aload_n hF dX2_init_0 rfl ?_
  refine V.objInit hF dX2_init_1 ol_X2 (Nat.le_of_ble_eq_true rfl) (Nat.le_of_ble_eq_true rfl) ?_
  refine V.aload_n hF dX2_init_4 rfl ?_
  refine V.sipush (v := nI 150) hF dX2_init_5 (by decide) ?_
  refine V.newi (N := 150) hF dX2_init_8 rfl (Nat.le_of_ble_eq_true rfl) (Nat.le_of_ble_eq_true rfl) (Nat.le_of_ble_eq_true rfl) (fun q0 hq0 => ?_)
  have hm0 := mem_add (q := q0) (kd := 11) (n := 150) hm
  have hK0 := kind_add (q := q0) (kd := 11) (n := 150) hq0 hm hK
  refine V.putRv (r := some q0) hF dX2_init_10 fl_X2_9 rfl (Or.inr ⟨hnm, TX2, 6, rfl, kf_X2_9⟩) (Or.inr ⟨_, rfl⟩) hm0 hK0 rfl ?_
  refine V.aload_n hF dX2_init_13 rfl ?_
  refine V.sipush (v := nI 150) hF dX2_init_14 (by decide) ?_
  refine V.newi (N := 150) hF dX2_init_17 rfl (Nat.le_of_ble_eq_true rfl) (Nat.le_of_ble_eq_true rfl) (Nat.le_of_ble_eq_true rfl) (fun q1 hq1 => ?_)
  have hm1 := mem_add (q := q1) (kd := 11) (n := 150) hm0
  have hK1 := kind_add (q := q1) (kd := 11) (n := 150) hq1 hm0 hK0
  refine V.putRv (r := some q1) hF dX2_init_19 fl_X2_15 rfl (Or.inr ⟨hnm, TX2, 6, rfl, kf_X2_15⟩) (Or.inr ⟨_, rfl⟩) hm1 hK1 rfl ?_
  refine V.aload_n hF dX2_init_22 rfl ?_
  refine V.bipush (v := nI 36) hF dX2_init_23 (by decide) ?_
  refine V.newi (N := 36) hF dX2_init_25 rfl (Nat.le_of_ble_eq_true rfl) (Nat.le_of_ble_eq_true rfl) (Nat.le_of_ble_eq_true rfl) (fun q2 hq2 => ?_)
  have hm2 := mem_add (q := q2) (kd := 11) (n := 36) hm1
  have hK2 := kind_add (q := q2) (kd := 11) (n := 36) hq2 hm1 hK1
  refine V.putRv (r := some q2) hF dX2_init_27 fl_X2_18 rfl (Or.inr ⟨hnm, TX2, 6, rfl, kf_X2_18⟩) (Or.inr ⟨_, rfl⟩) hm2 hK2 rfl ?_
  refine V.aload_n hF dX2_init_30 rfl ?_
  refine V.iconst (v := nI 0) hF dX2_init_31 (by decide) ?_
  refine V.putI hF dX2_init_32 fl_X2_21 hm2 hK2 rfl rfl rfl ?_
  refine V.aload_n hF dX2_init_35 rfl ?_
  refine V.iconst (v := nI 0) hF dX2_init_36 (by decide) ?_
  refine V.putI hF dX2_init_37 fl_X2_25 hm2 hK2 rfl rfl rfl ?_
  refine V.aload_n hF dX2_init_40 rfl ?_
  refine V.iload_n hF dX2_init_41 rfl ?_
  refine V.putIi hF dX2_init_42 fl_X2_28 hnm rfl kf_X2_28 hm2 hK2 rfl rfl rfl ?_
  refine V.vret hF dX2_init_45 (Nat.le_of_ble_eq_true rfl) (Nat.le_of_ble_eq_true rfl) ?_
  exact ⟨rfl, q0, q1, q2, (Fr_c hq0 (Fr_c hq1 (Fr_c hq2 Fr_n))), rfl, rfl, rfl⟩
theorem kf_X3_9 : Cond.fieldLink RX3 9 (TX3 0).1 (TX3 0).2.1 (TX3 0).2.2.1 ∈ GT := gw 91 (by decide +kernel) (by decide +kernel)
theorem kf_X3_19 : Cond.fieldLink RX3 19 (TX3 2).1 (TX3 2).2.1 (TX3 2).2.2.1 ∈ GT := gw 93 (by decide +kernel) (by decide +kernel)
theorem kf_X3_22 : Cond.fieldLink RX3 22 (TX3 3).1 (TX3 3).2.1 (TX3 3).2.2.1 ∈ GT := gw 95 (by decide +kernel) (by decide +kernel)
theorem kf_X3_26 : Cond.fieldLink RX3 26 (TX3 4).1 (TX3 4).2.1 (TX3 4).2.2.1 ∈ GT := gw 97 (by decide +kernel) (by decide +kernel)
set_option maxRecDepth 20000 in
theorem ct_X3_init (hst : l.stackTraces = false) (σ : SH) (I X : IX) (o : Nat) (hm : o ∈ shL σ) (hK : shK σ o = 3) : Ct l D cy sa sv yX3_init cX3_init 1 none 1 4 150 [.ref o] σ I X (fun v' σ' I' X' => v' = none ∧ ∃ q0 q1 q2 q3 : Nat, Fr o σ [(q0, 10, 60, 0), (q1, 10, 30, 2), (q2, 11, 30, 3), (q3, 11, 30, 4)] ∧ σ' = mkS o σ [(q0, 10, 60, 0), (q1, 10, 30, 2), (q2, 11, 30, 3), (q3, 11, 30, 4)] ∧ I' = (va_up (va_up (va_up (va_up I o (upd (I o) 1 (nI 0))) o (upd ((va_up I o (upd (I o) 1 (nI 0))) o) 5 (nI 0))) o (upd ((va_up (va_up I o (upd (I o) 1 (nI 0))) o (upd ((va_up I o (upd (I o) 1 (nI 0))) o) 5 (nI 0))) o) 6 (nI 0))) o (upd ((va_up (va_up (va_up I o (upd (I o) 1 (nI 0))) o (upd ((va_up I o (upd (I o) 1 (nI 0))) o) 5 (nI 0))) o (upd ((va_up (va_up I o (upd (I o) 1 (nI 0))) o (upd ((va_up I o (upd (I o) 1 (nI 0))) o) 5 (nI 0))) o) 6 (nI 0))) o) 7 (nI 0))) ∧ X' = (mkX X [(q0, 10, 60, 0), (q1, 10, 30, 2), (q2, 11, 30, 3), (q3, 11, 30, 4)])) noX := by
  refine Ct.of (by decide) hst (Nat.le_of_ble_eq_true rfl) ?_
  intro pp ee ss mm args below meth kc A hF hnm hout
  refine V.aload_n hF dX3_init_0 rfl ?_
  refine V.objInit hF dX3_init_1 ol_X3 (Nat.le_of_ble_eq_true rfl) (Nat.le_of_ble_eq_true rfl) ?_
  refine V.aload_n hF dX3_init_4 rfl ?_
  refine V.bipush (v := nI 60) hF dX3_init_5 (by decide) ?_
  refine V.newc (N := 60) hF dX3_init_7 rfl (Nat.le_of_ble_eq_true rfl) (Nat.le_of_ble_eq_true rfl) (Nat.le_of_ble_eq_true rfl) (fun q0 hq0 => ?_)
  have hm0 := mem_add (q := q0) (kd := 10) (n := 60) hm
  have hK0 := kind_add (q := q0) (kd := 10) (n := 60) hq0 hm hK
  refine V.putRv (r := some q0) hF dX3_init_9 fl_X3_9 rfl (Or.inr ⟨hnm, TX3, 8, rfl, kf_X3_9⟩) (Or.inr ⟨_, rfl⟩) hm0 hK0 rfl ?_
  refine V.aload_n hF dX3_init_12 rfl ?_
  refine V.iconst (v := nI 0) hF dX3_init_13 (by decide) ?_
  refine V.putI hF dX3_init_14 fl_X3_15 hm0 hK0 rfl rfl rfl ?_
  refine V.aload_n hF dX3_init_17 rfl ?_
  refine V.bipush (v := nI 30) hF dX3_init_18 (by decide) ?_
  refine V.newc (N := 30) hF dX3_init_20 rfl (Nat.le_of_ble_eq_true rfl) (Nat.le_of_ble_eq_true rfl) (Nat.le_of_ble_eq_true rfl) (fun q1 hq1 => ?_)
  have hm1 := mem_add (q := q1) (kd := 10) (n := 30) hm0
  have hK1 := kind_add (q := q1) (kd := 10) (n := 30) hq1 hm0 hK0
  refine V.putRv (r := some q1) hF dX3_init_22 fl_X3_19 rfl (Or.inr ⟨hnm, TX3, 8, rfl, kf_X3_19⟩) (Or.inr ⟨_, rfl⟩) hm1 hK1 rfl ?_
  refine V.aload_n hF dX3_init_25 rfl ?_
  refine V.bipush (v := nI 30) hF dX3_init_26 (by decide) ?_
  refine V.newi (N := 30) hF dX3_init_28 rfl (Nat.le_of_ble_eq_true rfl) (Nat.le_of_ble_eq_true rfl) (Nat.le_of_ble_eq_true rfl) (fun q2 hq2 => ?_)
  have hm2 := mem_add (q := q2) (kd := 11) (n := 30) hm1
  have hK2 := kind_add (q := q2) (kd := 11) (n := 30) hq2 hm1 hK1
  refine V.putRv (r := some q2) hF dX3_init_30 fl_X3_22 rfl (Or.inr ⟨hnm, TX3, 8, rfl, kf_X3_22⟩) (Or.inr ⟨_, rfl⟩) hm2 hK2 rfl ?_
  refine V.aload_n hF dX3_init_33 rfl ?_
  refine V.bipush (v := nI 30) hF dX3_init_34 (by decide) ?_
  refine V.newi (N := 30) hF dX3_init_36 rfl (Nat.le_of_ble_eq_true rfl) (Nat.le_of_ble_eq_true rfl) (Nat.le_of_ble_eq_true rfl) (fun q3 hq3 => ?_)
  have hm3 := mem_add (q := q3) (kd := 11) (n := 30) hm2
  have hK3 := kind_add (q := q3) (kd := 11) (n := 30) hq3 hm2 hK2
  refine V.putRv (r := some q3) hF dX3_init_38 fl_X3_26 rfl (Or.inr ⟨hnm, TX3, 8, rfl, kf_X3_26⟩) (Or.inr ⟨_, rfl⟩) hm3 hK3 rfl ?_
  refine V.aload_n hF dX3_init_41 rfl ?_
  refine V.iconst (v := nI 0) hF dX3_init_42 (by decide) ?_
  refine V.putI hF dX3_init_43 fl_X3_29 hm3 hK3 rfl rfl rfl ?_
  refine V.aload_n hF dX3_init_46 rfl ?_
  refine V.iconst (v := nI 0) hF dX3_init_47 (by decide) ?_
  refine V.putI hF dX3_init_48 fl_X3_32 hm3 hK3 rfl rfl rfl ?_
  refine V.aload_n hF dX3_init_51 rfl ?_
  refine V.iconst (v := nI 0) hF dX3_init_52 (by decide) ?_
  refine V.putI hF dX3_init_53 fl_X3_35 hm3 hK3 rfl rfl rfl ?_
  refine V.vret hF dX3_init_56 (Nat.le_of_ble_eq_true rfl) (Nat.le_of_ble_eq_true rfl) ?_
  exact ⟨rfl, q0, q1, q2, q3, (Fr_c hq0 (Fr_c hq1 (Fr_c hq2 (Fr_c hq3 Fr_n)))), rfl, rfl, rfl⟩
theorem kf_X5_9 : Cond.fieldLink RX5 9 (TX5 1).1 (TX5 1).2.1 (TX5 1).2.2.1 ∈ GT := gw 1153 (by decide +kernel) (by decide +kernel)
theorem kf_X5_13 : Cond.fieldLink RX5 13 (TX5 2).1 (TX5 2).2.1 (TX5 2).2.2.1 ∈ GT := gw 1154 (by decide +kernel) (by decide +kernel)
theorem kf_X5_16 : Cond.fieldLink RX5 16 (TX5 3).1 (TX5 3).2.1 (TX5 3).2.2.1 ∈ GT := gw 1155 (by decide +kernel) (by decide +kernel)
theorem kf_X5_19 : Cond.fieldLink RX5 19 (TX5 5).1 (TX5 5).2.1 (TX5 5).2.2.1 ∈ GT := gw 1157 (by decide +kernel) (by decide +kernel)
theorem kf_X5_26 : Cond.fieldLink RX5 26 (TX5 8).1 (TX5 8).2.1 (TX5 8).2.2.1 ∈ GT := gw 1160 (by decide +kernel) (by decide +kernel)
theorem kf_X5_29 : Cond.fieldLink RX5 29 (TX5 11).1 (TX5 11).2.1 (TX5 11).2.2.1 ∈ GT := gw 1163 (by decide +kernel) (by decide +kernel)
theorem kf_X5_32 : Cond.fieldLink RX5 32 (TX5 12).1 (TX5 12).2.1 (TX5 12).2.2.1 ∈ GT := gw 1164 (by decide +kernel) (by decide +kernel)
theorem kf_X5_35 : Cond.fieldLink RX5 35 (TX5 13).1 (TX5 13).2.1 (TX5 13).2.2.1 ∈ GT := gw 1165 (by decide +kernel) (by decide +kernel)
set_option maxRecDepth 20000 in
theorem ct_X5_init (hst : l.stackTraces = false) (σ : SH) (I X : IX) (o : Nat) (hm : o ∈ shL σ) (hK : shK σ o = 5) : Ct l D cy sa sv yX5_init cX5_init 1 none 1 8 13848 [.ref o] σ I X (fun v' σ' I' X' => v' = none ∧ ∃ q0 q1 q2 q3 q4 q5 q6 q7 : Nat, Fr o σ [(q0, 11, 4486, 1), (q1, 11, 4486, 2), (q2, 11, 4486, 3), (q3, 11, 60, 5), (q4, 11, 150, 8), (q5, 11, 60, 11), (q6, 11, 60, 12), (q7, 11, 60, 13)] ∧ σ' = mkS o σ [(q0, 11, 4486, 1), (q1, 11, 4486, 2), (q2, 11, 4486, 3), (q3, 11, 60, 5), (q4, 11, 150, 8), (q5, 11, 60, 11), (q6, 11, 60, 12), (q7, 11, 60, 13)] ∧ I' = (va_up I o (upd (I o) 7 (-1))) ∧ X' = (va_up (va_up (mkX X [(q0, 11, 4486, 1), (q1, 11, 4486, 2), (q2, 11, 4486, 3), (q3, 11, 60, 5), (q4, 11, 150, 8), (q5, 11, 60, 11), (q6, 11, 60, 12), (q7, 11, 60, 13)]) q0 (upd ((mkX X [(q0, 11, 4486, 1), (q1, 11, 4486, 2), (q2, 11, 4486, 3), (q3, 11, 60, 5), (q4, 11, 150, 8), (q5, 11, 60, 11), (q6, 11, 60, 12), (q7, 11, 60, 13)]) q0) 0 (nI 3))) q0 (upd ((va_up (mkX X [(q0, 11, 4486, 1), (q1, 11, 4486, 2), (q2, 11, 4486, 3), (q3, 11, 60, 5), (q4, 11, 150, 8), (q5, 11, 60, 11), (q6, 11, 60, 12), (q7, 11, 60, 13)]) q0 (upd ((mkX X [(q0, 11, 4486, 1), (q1, 11, 4486, 2), (q2, 11, 4486, 3), (q3, 11, 60, 5), (q4, 11, 150, 8), (q5, 11, 60, 11), (q6, 11, 60, 12), (q7, 11, 60, 13)]) q0) 0 (nI 3))) q0) 43 (nI 3)))) noX := by
  refine Ct.of (by decide) hst (Nat.le_of_ble_eq_true rfl) ?_
  intro pp ee ss mm args below meth kc A hF hnm hout
  refine V.aload_n hF dX5_init_0 rfl ?_
  refine V.objInit hF dX5_init_1 ol_X5 (Nat.le_of_ble_eq_true rfl) (Nat.le_of_ble_eq_true rfl) ?_
  refine V.aload_n hF dX5_init_4 rfl ?_
  refine V.sipush (v := nI 4486) hF dX5_init_5 (by decide) ?_
  refine V.newi (N := 4486) hF dX5_init_8 rfl (Nat.le_of_ble_eq_true rfl) (Nat.le_of_ble_eq_true rfl) (Nat.le_of_ble_eq_true rfl) (fun q0 hq0 => ?_)
  have hm0 := mem_add (q := q0) (kd := 11) (n := 4486) hm
  have hK0 := kind_add (q := q0) (kd := 11) (n := 4486) hq0 hm hK
  refine V.putRv (r := some q0) hF dX5_init_10 fl_X5_9 rfl (Or.inr ⟨hnm, TX5, 14, rfl, kf_X5_9⟩) (Or.inr ⟨_, rfl⟩) hm0 hK0 rfl ?_
  refine V.aload_n hF dX5_init_13 rfl ?_
  refine V.sipush (v := nI 4486) hF dX5_init_14 (by decide) ?_
  refine V.newi (N := 4486) hF dX5_init_17 rfl (Nat.le_of_ble_eq_true rfl) (Nat.le_of_ble_eq_true rfl) (Nat.le_of_ble_eq_true rfl) (fun q1 hq1 => ?_)
  have hm1 := mem_add (q := q1) (kd := 11) (n := 4486) hm0
  have hK1 := kind_add (q := q1) (kd := 11) (n := 4486) hq1 hm0 hK0
  refine V.putRv (r := some q1) hF dX5_init_19 fl_X5_13 rfl (Or.inr ⟨hnm, TX5, 14, rfl, kf_X5_13⟩) (Or.inr ⟨_, rfl⟩) hm1 hK1 rfl ?_
  refine V.aload_n hF dX5_init_22 rfl ?_
  refine V.sipush (v := nI 4486) hF dX5_init_23 (by decide) ?_
  refine V.newi (N := 4486) hF dX5_init_26 rfl (Nat.le_of_ble_eq_true rfl) (Nat.le_of_ble_eq_true rfl) (Nat.le_of_ble_eq_true rfl) (fun q2 hq2 => ?_)
  have hm2 := mem_add (q := q2) (kd := 11) (n := 4486) hm1
  have hK2 := kind_add (q := q2) (kd := 11) (n := 4486) hq2 hm1 hK1
  refine V.putRv (r := some q2) hF dX5_init_28 fl_X5_16 rfl (Or.inr ⟨hnm, TX5, 14, rfl, kf_X5_16⟩) (Or.inr ⟨_, rfl⟩) hm2 hK2 rfl ?_
  refine V.aload_n hF dX5_init_31 rfl ?_
  refine V.bipush (v := nI 60) hF dX5_init_32 (by decide) ?_
  refine V.newi (N := 60) hF dX5_init_34 rfl (Nat.le_of_ble_eq_true rfl) (Nat.le_of_ble_eq_true rfl) (Nat.le_of_ble_eq_true rfl) (fun q3 hq3 => ?_)
  have hm3 := mem_add (q := q3) (kd := 11) (n := 60) hm2
  have hK3 := kind_add (q := q3) (kd := 11) (n := 60) hq3 hm2 hK2
  refine V.putRv (r := some q3) hF dX5_init_36 fl_X5_19 rfl (Or.inr ⟨hnm, TX5, 14, rfl, kf_X5_19⟩) (Or.inr ⟨_, rfl⟩) hm3 hK3 rfl ?_
  refine V.aload_n hF dX5_init_39 rfl ?_
  refine V.iconst (v := -1) hF dX5_init_40 (by decide) ?_
  refine V.putI hF dX5_init_41 fl_X5_22 hm3 hK3 rfl rfl rfl ?_
  refine V.aload_n hF dX5_init_44 rfl ?_
  refine V.sipush (v := nI 150) hF dX5_init_45 (by decide) ?_
  refine V.newi (N := 150) hF dX5_init_48 rfl (Nat.le_of_ble_eq_true rfl) (Nat.le_of_ble_eq_true rfl) (Nat.le_of_ble_eq_true rfl) (fun q4 hq4 => ?_)
  have hm4 := mem_add (q := q4) (kd := 11) (n := 150) hm3
  have hK4 := kind_add (q := q4) (kd := 11) (n := 150) hq4 hm3 hK3
  refine V.putRv (r := some q4) hF dX5_init_50 fl_X5_26 rfl (Or.inr ⟨hnm, TX5, 14, rfl, kf_X5_26⟩) (Or.inr ⟨_, rfl⟩) hm4 hK4 rfl ?_
  refine V.aload_n hF dX5_init_53 rfl ?_
  refine V.bipush (v := nI 60) hF dX5_init_54 (by decide) ?_
  refine V.newi (N := 60) hF dX5_init_56 rfl (Nat.le_of_ble_eq_true rfl) (Nat.le_of_ble_eq_true rfl) (Nat.le_of_ble_eq_true rfl) (fun q5 hq5 => ?_)
  have hm5 := mem_add (q := q5) (kd := 11) (n := 60) hm4
  have hK5 := kind_add (q := q5) (kd := 11) (n := 60) hq5 hm4 hK4
  refine V.putRv (r := some q5) hF dX5_init_58 fl_X5_29 rfl (Or.inr ⟨hnm, TX5, 14, rfl, kf_X5_29⟩) (Or.inr ⟨_, rfl⟩) hm5 hK5 rfl ?_
  refine V.aload_n hF dX5_init_61 rfl ?_
  refine V.bipush (v := nI 60) hF dX5_init_62 (by decide) ?_
  refine V.newi (N := 60) hF dX5_init_64 rfl (Nat.le_of_ble_eq_true rfl) (Nat.le_of_ble_eq_true rfl) (Nat.le_of_ble_eq_true rfl) (fun q6 hq6 => ?_)
  have hm6 := mem_add (q := q6) (kd := 11) (n := 60) hm5
  have hK6 := kind_add (q := q6) (kd := 11) (n := 60) hq6 hm5 hK5
  refine V.putRv (r := some q6) hF dX5_init_66 fl_X5_32 rfl (Or.inr ⟨hnm, TX5, 14, rfl, kf_X5_32⟩) (Or.inr ⟨_, rfl⟩) hm6 hK6 rfl ?_
  refine V.aload_n hF dX5_init_69 rfl ?_
  refine V.bipush (v := nI 60) hF dX5_init_70 (by decide) ?_
  refine V.newi (N := 60) hF dX5_init_72 rfl (Nat.le_of_ble_eq_true rfl) (Nat.le_of_ble_eq_true rfl) (Nat.le_of_ble_eq_true rfl) (fun q7 hq7 => ?_)
  have hm7 := mem_add (q := q7) (kd := 11) (n := 60) hm6
  have hK7 := kind_add (q := q7) (kd := 11) (n := 60) hq7 hm6 hK6
  refine V.putRv (r := some q7) hF dX5_init_74 fl_X5_35 rfl (Or.inr ⟨hnm, TX5, 14, rfl, kf_X5_35⟩) (Or.inr ⟨_, rfl⟩) hm7 hK7 rfl ?_
  refine V.aload_n hF dX5_init_77 rfl ?_
  have hfr : Fr o σ [(q0, 11, 4486, 1), (q1, 11, 4486, 2), (q2, 11, 4486, 3), (q3, 11, 60, 5), (q4, 11, 150, 8), (q5, 11, 60, 11), (q6, 11, 60, 12), (q7, 11, 60, 13)] := (Fr_c hq0 (Fr_c hq1 (Fr_c hq2 (Fr_c hq3 (Fr_c hq4 (Fr_c hq5 (Fr_c hq6 (Fr_c hq7 Fr_n))))))))
  have hsp := mkS_spec hfr hm
  have hq := hsp.2.2.2.1 (show ([1, 2, 3, 5, 8, 11, 12, 13] : List Nat).Nodup by decide) (q0, 11, 4486, 1) List.mem_cons_self
  refine V.getR hF dX5_init_78 fl_X5_9 hm7 hK7 rfl hq.2.2.2.2 ?_
  refine V.iconst (v := nI 0) hF dX5_init_81 (by decide) ?_
  refine V.iconst (v := nI 3) hF dX5_init_82 (by decide) ?_
  refine V.iastore (j := 0) hF dX5_init_83 hq.2.1 hq.2.2.1 rfl (Nat.lt_of_lt_of_eq (lt_of (a := 0) (b := 4486) rfl) hq.2.2.2.1.symm) (Nat.lt_of_le_of_lt (Nat.le_of_eq hq.2.2.2.1) (lt_of (a := 4486) (b := 2147483648) rfl)) ?_
  refine V.aload_n hF dX5_init_84 rfl ?_
  refine V.getR hF dX5_init_85 fl_X5_9 hm7 hK7 rfl hq.2.2.2.2 ?_
  refine V.bipush (v := nI 43) hF dX5_init_88 (by decide) ?_
  refine V.iconst (v := nI 3) hF dX5_init_90 (by decide) ?_
  refine V.iastore (j := 43) hF dX5_init_91 hq.2.1 hq.2.2.1 rfl (Nat.lt_of_lt_of_eq (lt_of (a := 43) (b := 4486) rfl) hq.2.2.2.1.symm) (Nat.lt_of_le_of_lt (Nat.le_of_eq hq.2.2.2.1) (lt_of (a := 4486) (b := 2147483648) rfl)) ?_
  refine V.vret hF dX5_init_92 (Nat.le_of_ble_eq_true rfl) (Nat.le_of_ble_eq_true rfl) ?_
  exact ⟨rfl, q0, q1, q2, q3, q4, q5, q6, q7, (Fr_c hq0 (Fr_c hq1 (Fr_c hq2 (Fr_c hq3 (Fr_c hq4 (Fr_c hq5 (Fr_c hq6 (Fr_c hq7 Fr_n)))))))), rfl, rfl, rfl⟩
theorem kf_X0_9 : Cond.fieldLink RX0 9 (TX0 0).1 (TX0 0).2.1 (TX0 0).2.2.1 ∈ GT := gw 215 (by decide +kernel) (by decide +kernel)
theorem kf_X0_15 : Cond.fieldLink RX0 15 (TX0 1).1 (TX0 1).2.1 (TX0 1).2.2.1 ∈ GT := gw 217 (by decide +kernel) (by decide +kernel)
theorem kf_X0_21 : Cond.fieldLink RX0 21 (TX0 2).1 (TX0 2).2.1 (TX0 2).2.2.1 ∈ GT := gw 219 (by decide +kernel) (by decide +kernel)
theorem kf_X0_27 : Cond.fieldLink RX0 27 (TX0 3).1 (TX0 3).2.1 (TX0 3).2.2.1 ∈ GT := gw 221 (by decide +kernel) (by decide +kernel)
/-! a group, made -/
def pos (j : Nat) : Nat := if j < 2 then j else if j = 2 then 2 else if j = 3 then 9 else if j < 10 then j - 1 else if j < 20 then 10 + 4 * (j - 10) else if j < 30 then 11 + 4 * (j - 20) else if j < 40 then 12 + 4 * (j - 30) else 13 + 4 * (j - 40)
def AD (o : Nat) (L : List Nat) : Nat → Nat := fun j => if j = 100 then o else L.getD (pos j) 0
theorem pos_a {p : Nat} (hp : p < 6) : pos (10 + p) = 10 + 4 * p := by unfold pos; rw [if_neg (by omega), if_neg (by omega), if_neg (by omega), if_neg (by omega), if_pos (by omega)]; omega
theorem pos_b {p : Nat} (hp : p < 6) : pos (20 + p) = 10 + 4 * p + 1 := by unfold pos; rw [if_neg (by omega), if_neg (by omega), if_neg (by omega), if_neg (by omega), if_neg (by omega), if_pos (by omega)]; omega
theorem pos_c {p : Nat} (hp : p < 6) : pos (30 + p) = 10 + 4 * p + 2 := by unfold pos; rw [if_neg (by omega), if_neg (by omega), if_neg (by omega), if_neg (by omega), if_neg (by omega), if_neg (by omega), if_pos (by omega)]; omega
theorem pos_d {p : Nat} (hp : p < 6) : pos (40 + p) = 10 + 4 * p + 3 := by unfold pos; rw [if_neg (by omega), if_neg (by omega), if_neg (by omega), if_neg (by omega), if_neg (by omega), if_neg (by omega), if_neg (by omega)]; omega
theorem pos_lo : ∀ j, j < 10 → pos j < 10 := by decide
theorem pos_in {j k : Nat} (hk : k ≤ 6) (h : j < 10 ∨ ∃ p, p < k ∧ (j = 10 + p ∨ j = 20 + p ∨ j = 30 + p ∨ j = 40 + p)) : j ≠ 100 ∧ pos j < 10 + 4 * k := by
  rcases h with h | ⟨p, hp, h⟩
  · have := pos_lo j h
    exact ⟨by omega, by omega⟩
  · rcases h with rfl | rfl | rfl | rfl
    · rw [pos_a (by omega)]; exact ⟨by omega, by omega⟩
    · rw [pos_b (by omega)]; exact ⟨by omega, by omega⟩
    · rw [pos_c (by omega)]; exact ⟨by omega, by omega⟩
    · rw [pos_d (by omega)]; exact ⟨by omega, by omega⟩
theorem AD_app {o : Nat} {L N : List Nat} {j : Nat} (h : j = 100 ∨ pos j < L.length) : AD o (L ++ N) j = AD o L j := by
  unfold AD
  by_cases e : j = 100
  · rw [if_pos e, if_pos e]
  · rw [if_neg e, if_neg e]
    have h2 : pos j < L.length := h.resolve_left e
    simp [List.getD_eq_getElem?_getD, List.getElem?_append_left h2]
theorem pos_ok : ∀ i ∈ idI ++ idX, ∀ j ∈ idI ++ idX, i ≠ 100 → j ≠ 100 → pos i = pos j → i = j := by decide
theorem pos_lt : ∀ i ∈ 3 :: (idI ++ idX), i ≠ 100 → pos i < 34 := by decide
theorem AD_inj {o : Nat} {L : List Nat} (hL : L.length = 34) (hn : L.Nodup) (ho : o ∉ L) : Inj (idI ++ idX) (AD o L) := by
  intro i j hi hj e
  unfold AD at e
  by_cases e1 : i = 100
  · by_cases e2 : j = 100
    · rw [e1, e2]
    · rw [if_pos e1, if_neg e2] at e
      have h2 := pos_lt j (List.mem_cons_of_mem _ hj) e2
      exact absurd (e ▸ (by simp [List.getD_eq_getElem?_getD, List.getElem?_eq_getElem (show pos j < L.length by omega)] : L.getD (pos j) 0 ∈ L)) ho
  · have h1 := pos_lt i (List.mem_cons_of_mem _ hi) e1
    by_cases e2 : j = 100
    · rw [if_neg e1, if_pos e2] at e
      exact absurd (e ▸ (by simp [List.getD_eq_getElem?_getD, List.getElem?_eq_getElem (show pos i < L.length by omega)] : L.getD (pos i) 0 ∈ L)) ho
    · have h2 := pos_lt j (List.mem_cons_of_mem _ hj) e2
      rw [if_neg e1, if_neg e2] at e
      simp only [List.getD_eq_getElem?_getD, List.getElem?_eq_getElem (show pos i < L.length by omega), List.getElem?_eq_getElem (show pos j < L.length by omega), Option.getD_some] at e
      refine pos_ok i hi j hj e1 e2 ?_
      rcases Nat.lt_trichotomy (pos i) (pos j) with q | q | q
      · exact absurd e (List.pairwise_iff_getElem.mp hn _ _ _ _ q)
      · exact q
      · exact absurd e.symm (List.pairwise_iff_getElem.mp hn _ _ _ _ q)
theorem AD_mem {o : Nat} {L : List Nat} (hL : L.length = 34) {k : Nat} (hk : k ∈ 3 :: (idI ++ idX)) (h : k ≠ 100) : AD o L k ∈ L := by
  unfold AD
  rw [if_neg h]
  have h2 := pos_lt k hk h
  simp [List.getD_eq_getElem?_getD, List.getElem?_eq_getElem (show pos k < L.length by omega)]
/-- a group whose first n replicas are made -/
def GSk (n : Nat) (σ : SH) (ad : Nat → Nat) : Prop := (Ob σ ad 100 0 ∧ Rf σ ad 100 0 0 ∧ Rf σ ad 100 1 1 ∧ Rf σ ad 100 2 2 ∧ Rf σ ad 100 3 3 ∧ Ar σ ad 0 21 ∧ Ar σ ad 1 21) ∧
  (Ob σ ad 2 1 ∧ (∀ j, j < 6 → Rf σ ad 2 j (4 + j)) ∧ Ar σ ad 4 150 ∧ Ar σ ad 5 150 ∧ Ar σ ad 6 150 ∧ Ar σ ad 7 150 ∧ Ar σ ad 8 150 ∧ Ar σ ad 9 900) ∧
  (ad 3 ∈ shL σ ∧ shK σ (ad 3) = 12 ∧ shN σ (ad 3) = 6 ∧ ∀ p, p < n → shY σ (ad 3) p = some (ad (10 + p))) ∧
  ∀ p, p < n → Ob σ ad (10 + p) 2 ∧ Rf σ ad (10 + p) 1 (20 + p) ∧ Rf σ ad (10 + p) 2 (30 + p) ∧ Rf σ ad (10 + p) 3 (40 + p) ∧ Ar σ ad (20 + p) 150 ∧ Ar σ ad (30 + p) 150 ∧ Ar σ ad (40 + p) 36
section Gwx
variable {σ σ' : SH} {I I' X X' : IX} {ex : Nat → Prop} {ad ad' : Nat → Nat}
theorem Ob.gw {k ci : Nat} (h : Ob σ ad k ci) (g : Gw σ σ' I I' X X' ex) : Ob σ' ad k ci := ⟨(g.1 _ h.1).1, (g.1 _ h.1).2.1.trans h.2⟩
theorem Ar.gw {k n : Nat} (h : Ar σ ad k n) (g : Gw σ σ' I I' X X' ex) : Ar σ' ad k n := ⟨(g.1 _ h.1).1, (g.1 _ h.1).2.1.trans h.2.1, (g.1 _ h.1).2.2.1.trans h.2.2⟩
theorem Rf.gw {k j i : Nat} (h : Rf σ ad k j i) (hm : ad k ∈ shL σ) (g : Gw σ σ' I I' X X' ex) (hn : ¬ ex (ad k)) : Rf σ' ad k j i := (congrFun (g.2 _ hm hn).1 j).trans h
theorem GSk.gw {n : Nat} (h : GSk n σ ad) (g : Gw σ σ' I I' X X' ex) (h1 : ¬ ex (ad 100)) (h2 : ¬ ex (ad 2)) (h3 : ¬ ex (ad 3)) (h4 : ∀ p, p < n → ¬ ex (ad (10 + p))) : GSk n σ' ad := by
  obtain ⟨⟨a1, a2, a3, a4, a5, a6, a7⟩, ⟨b1, b2, b3, b4, b5, b6, b7, b8⟩, ⟨c1, c2, c3, c4⟩, d⟩ := h
  refine ⟨⟨a1.gw g, a2.gw a1.1 g h1, a3.gw a1.1 g h1, a4.gw a1.1 g h1, a5.gw a1.1 g h1, a6.gw g, a7.gw g⟩, ⟨b1.gw g, fun j hj => (b2 j hj).gw b1.1 g h2, b3.gw g, b4.gw g, b5.gw g, b6.gw g, b7.gw g, b8.gw g⟩, ⟨(g.1 _ c1).1, (g.1 _ c1).2.1.trans c2, (g.1 _ c1).2.2.1.trans c3, fun p hp => (congrFun (g.2 _ c1 h3).2.1 p).trans (c4 p hp)⟩, fun p hp => ?_⟩
  obtain ⟨e1, e2, e3, e4, e5, e6, e7⟩ := d p hp
  exact ⟨e1.gw g, e2.gw e1.1 g (h4 p hp), e3.gw e1.1 g (h4 p hp), e4.gw e1.1 g (h4 p hp), e5.gw g, e6.gw g, e7.gw g⟩
theorem GS.gw (h : GS σ ad) (g : Gw σ σ' I I' X X' ex) (hn : ∀ k, (k = 100 ∨ k = 2 ∨ k = 3 ∨ ∃ p, p < 6 ∧ k = 10 + p) → ¬ ex (ad k)) : GS σ' ad :=
  ⟨h.1, GSk.gw (n := 6) h.2 g (hn 100 (Or.inl rfl)) (hn 2 (Or.inr (Or.inl rfl))) (hn 3 (Or.inr (Or.inr (Or.inl rfl)))) (fun p hp => hn _ (Or.inr (Or.inr (Or.inr ⟨p, hp, rfl⟩))))⟩
theorem GSk.cong {n : Nat} (h : GSk n σ ad) (e : ∀ j, (j < 10 ∨ j = 100 ∨ ∃ p, p < n ∧ (j = 10 + p ∨ j = 20 + p ∨ j = 30 + p ∨ j = 40 + p)) → ad' j = ad j) : GSk n σ ad' := by
  obtain ⟨a, ⟨b1, b2, b3⟩, ⟨c1, c2, c3, c4⟩, d⟩ := h
  have E : ∀ j, (j < 10 ∨ j = 100) → ad' j = ad j := fun j hj => e j (hj.elim Or.inl (fun q => Or.inr (Or.inl q)))
  unfold Ob Rf Ar at a
  unfold Ob at b1
  unfold Ar at b3
  refine ⟨?_, ⟨?_, fun j hj => ?_, ?_⟩, ⟨?_, ?_, ?_, fun p hp => ?_⟩, fun p hp => ?_⟩
  · unfold Ob Rf Ar; rw [E 100 (by omega), E 0 (by omega), E 1 (by omega), E 2 (by omega), E 3 (by omega)]; exact a
  · unfold Ob; rw [E 2 (by omega)]; exact b1
  · unfold Rf; rw [E 2 (by omega), E (4 + j) (by omega)]; exact b2 j hj
  · unfold Ar; rw [E 4 (by omega), E 5 (by omega), E 6 (by omega), E 7 (by omega), E 8 (by omega), E 9 (by omega)]; exact b3
  · rw [E 3 (by omega)]; exact c1
  · rw [E 3 (by omega)]; exact c2
  · rw [E 3 (by omega)]; exact c3
  · rw [E 3 (by omega), e (10 + p) (Or.inr (Or.inr ⟨p, hp, Or.inl rfl⟩))]; exact c4 p hp
  · have := d p hp
    unfold Ob Rf Ar at this ⊢
    rw [e (10 + p) (Or.inr (Or.inr ⟨p, hp, Or.inl rfl⟩)), e (20 + p) (Or.inr (Or.inr ⟨p, hp, Or.inr (Or.inl rfl)⟩)), e (30 + p) (Or.inr (Or.inr ⟨p, hp, Or.inr (Or.inr (Or.inl rfl))⟩)), e (40 + p) (Or.inr (Or.inr ⟨p, hp, Or.inr (Or.inr (Or.inr rfl))⟩))]
    exact this
end Gwx
/-- while a group is made -/
def PGI (k : Nat) (σ0 σ : SH) (I0 I X0 X : IX) (o : Nat) (L : List Nat) : Prop :=
  GSk k σ (AD o L) ∧ (L.length = 10 + 4 * k ∧ L.Nodup ∧ (∀ a ∈ L, a ∉ shL σ0) ∧ ∀ a ∈ L, a ∈ shL σ) ∧ Gw σ0 σ I0 I X0 X (fun b => b = o) ∧ X (AD o L 1) = (fun _ => 0) ∧ X (AD o L 4) = (fun _ => 0) ∧ ∀ p, p < k → X (AD o L (20 + p)) = (fun _ => 0) ∧ I (AD o L (10 + p)) 0 = nI p
theorem PGI_step {k : Nat} {σ0 σ : SH} {I0 I X0 X : IX} {o : Nat} {L : List Nat} (h : PGI k σ0 σ I0 I X0 X o L) (hk : k < 6) (ho : o ∈ shL σ0) {r q0 q1 q2 : Nat} (hr : r ∉ shL σ) (hF : Fr r (shAdd σ r 2 0) [(q0, 11, 150, 1), (q1, 11, 150, 2), (q2, 11, 36, 3)]) {f : Nat → Int32} (hf : f 0 = nI k) :
    PGI (k + 1) σ0 (shSetY (mkS r (shAdd σ r 2 0) [(q0, 11, 150, 1), (q1, 11, 150, 2), (q2, 11, 36, 3)]) (AD o L 3) (va_up (shY (mkS r (shAdd σ r 2 0) [(q0, 11, 150, 1), (q1, 11, 150, 2), (q2, 11, 36, 3)]) (AD o L 3)) k (some r))) I0 (va_up (va_up I r (fun _ => 0)) r f) X0 (mkX X [(q0, 11, 150, 1), (q1, 11, 150, 2), (q2, 11, 36, 3)]) o (L ++ [r, q0, q1, q2]) := by
  obtain ⟨hG, ⟨l1, l2, l3, l4⟩, hw, x1, x4, hpv⟩ := h
  obtain ⟨s1, s2, s3, s4, s5, s6⟩ := mkS_spec hF mem_new
  have s4 := s4 (show ([1, 2, 3] : List Nat).Nodup by decide)
  have hg := mk_gw hF mem_new (va_up I r (fun _ => 0)) X f
  generalize hσ2 : mkS r (shAdd σ r 2 0) [(q0, 11, 150, 1), (q1, 11, 150, 2), (q2, 11, 36, 3)] = σ2 at *
  generalize hX2 : mkX X [(q0, 11, 150, 1), (q1, 11, 150, 2), (q2, 11, 36, 3)] = X2 at *
  have g2 : Gw σ σ2 I (va_up (va_up I r (fun _ => 0)) r f) X X2 (fun _ => False) := ((Gw.addI hr).wide (fun _ _ q => q.elim) |>.trans hg (fun _ _ q => q)).nil (fun a ha e => hr (e ▸ ha))
  have hG2 : GSk k σ2 (AD o L) := hG.gw g2 id id id (fun _ _ => id)
  obtain ⟨m0, m1, m2, m3, m4⟩ := s4 _ List.mem_cons_self
  obtain ⟨n0, n1, n2, n3, n4⟩ := s4 _ (List.mem_cons_of_mem _ List.mem_cons_self)
  obtain ⟨t0, t1, t2, t3, t4⟩ := s4 _ (List.mem_cons_of_mem _ (List.mem_cons_of_mem _ List.mem_cons_self))
  dsimp only at m0 m1 m2 m3 m4 n0 n1 n2 n3 n4 t0 t1 t2 t3 t4
  have r1 : r ∈ shL σ2 := (s1.1 r mem_new).1
  have r2 : shK σ2 r = 2 := (s1.1 r mem_new).2.1.trans kind_new
  have A : ∀ j, (j < 10 ∨ j = 100 ∨ ∃ p, p < k ∧ (j = 10 + p ∨ j = 20 + p ∨ j = 30 + p ∨ j = 40 + p)) → AD o (L ++ [r, q0, q1, q2]) j = AD o L j := by
    intro j hj
    apply AD_app
    rcases hj with hj | hj | hj
    · right; rw [l1]; exact (pos_in (k := k) (by omega) (Or.inl hj)).2
    · exact Or.inl hj
    · right; rw [l1]; exact (pos_in (k := k) (by omega) (Or.inr hj)).2
  have gx : ∀ i x, i < 4 → [r, q0, q1, q2][i]? = some x → (L ++ [r, q0, q1, q2]).getD (10 + 4 * k + i) 0 = x := by
    intro i x hi hx
    rw [List.getD_eq_getElem?_getD, List.getElem?_append_right (by omega), show 10 + 4 * k + i - L.length = i by omega, hx]
    rfl
  have A0 : AD o (L ++ [r, q0, q1, q2]) (10 + k) = r := by unfold AD; rw [if_neg (by omega), pos_a hk]; exact gx 0 r (by omega) rfl
  have A1 : AD o (L ++ [r, q0, q1, q2]) (20 + k) = q0 := by unfold AD; rw [if_neg (by omega), pos_b hk]; exact gx 1 q0 (by omega) rfl
  have A2 : AD o (L ++ [r, q0, q1, q2]) (30 + k) = q1 := by unfold AD; rw [if_neg (by omega), pos_c hk]; exact gx 2 q1 (by omega) rfl
  have A3 : AD o (L ++ [r, q0, q1, q2]) (40 + k) = q2 := by unfold AD; rw [if_neg (by omega), pos_d hk]; exact gx 3 q2 (by omega) rfl
  have E3 : AD o (L ++ [r, q0, q1, q2]) 3 = AD o L 3 := A 3 (Or.inl (by omega))
  obtain ⟨B1, B2, ⟨B3, B4, B5, B6⟩, B7⟩ := hG2.cong A
  have hxo : ∀ a ∈ L, a ∉ [(q0, 11, 150, 1), (q1, 11, 150, 2), (q2, 11, 36, 3)].map (fun x : Nat × Nat × Nat × Nat => x.1) := by
    intro a ha q
    have h0 := l4 a ha
    simp only [List.map_cons, List.map_nil, List.mem_cons, List.not_mem_nil, or_false] at q
    rcases q with rfl | rfl | rfl
    · exact m0 (mem_add h0)
    · exact n0 (mem_add h0)
    · exact t0 (mem_add h0)
  have inL : ∀ j, (j < 10 ∨ ∃ p, p < k ∧ (j = 10 + p ∨ j = 20 + p ∨ j = 30 + p ∨ j = 40 + p)) → AD o L j ∈ L := by
    intro j hj
    have hpos : j ≠ 100 ∧ pos j < L.length := by rw [l1]; exact pos_in (by omega) hj
    unfold AD
    rw [if_neg hpos.1]
    simp [List.getD_eq_getElem?_getD, List.getElem?_eq_getElem hpos.2]
  refine ⟨⟨B1, B2, ⟨B3, B4, B5, fun p hp => ?_⟩, fun p hp => ?_⟩, ⟨?_, ?_, ?_, ?_⟩, ?_, ?_, ?_, fun p hp => ?_⟩
  · show va_up (shY σ2) (AD o L 3) (va_up (shY σ2 (AD o L 3)) k (some r)) (AD o (L ++ [r, q0, q1, q2]) 3) p = some (AD o (L ++ [r, q0, q1, q2]) (10 + p))
    rw [E3, va_up_self]
    by_cases e : p = k
    · subst e; rw [va_up_self, A0]
    · rw [va_up_ne _ _ e]
      have := B6 p (by omega)
      rw [E3] at this; exact this
  · by_cases e : p = k
    · subst e
      unfold Ob Rf Ar
      rw [A0, A1, A2, A3]
      exact ⟨⟨r1, r2⟩, m4, n4, t4, ⟨m1, m2, m3⟩, ⟨n1, n2, n3⟩, ⟨t1, t2, t3⟩⟩
    · exact B7 p (by omega)
  · simp only [List.length_append, l1, List.length_cons, List.length_nil]; omega
  · rw [List.nodup_append]
    refine ⟨l2, ?_, fun a ha b hb e => ?_⟩
    · have h5 := s5
      simp only [List.map_cons, List.map_nil] at h5
      refine List.nodup_cons.mpr ⟨fun q => ?_, h5⟩
      simp only [List.mem_cons, List.not_mem_nil, or_false] at q
      rcases q with rfl | rfl | rfl
      · exact m0 mem_new
      · exact n0 mem_new
      · exact t0 mem_new
    · subst e
      have h0 := l4 a ha
      rcases List.mem_cons.mp hb with rfl | hb
      · exact hr h0
      · exact hxo a ha hb
  · intro a ha q
    rcases List.mem_append.mp ha with ha | ha
    · exact l3 a ha q
    · have q2 := (hw.1 a q).1
      simp only [List.mem_cons, List.not_mem_nil, or_false] at ha
      rcases ha with rfl | rfl | rfl | rfl
      · exact hr q2
      · exact m0 (mem_add q2)
      · exact n0 (mem_add q2)
      · exact t0 (mem_add q2)
  · intro a ha
    rcases List.mem_append.mp ha with ha | ha
    · exact (g2.1 a (l4 a ha)).1
    · simp only [List.mem_cons, List.not_mem_nil, or_false] at ha
      rcases ha with rfl | rfl | rfl | rfl
      · exact r1
      · exact m1
      · exact n1
      · exact t1
  · refine (hw.trans g2 (fun _ _ q => q.elim)).trans Gw.setY (fun a ha e => ?_)
    exact absurd (e ▸ ha) (l3 _ (inL 3 (Or.inl (by omega))))
  · rw [A 1 (Or.inl (by omega)), ← hX2, mkX_out (hxo _ (inL 1 (Or.inl (by omega))))]; exact x1
  · rw [A 4 (Or.inl (by omega)), ← hX2, mkX_out (hxo _ (inL 4 (Or.inl (by omega))))]; exact x4
  · by_cases e : p = k
    · subst e
      rw [A0, A1, va_up_self, ← hX2]
      exact ⟨mkX_in (Or.inl List.mem_cons_self), hf⟩
    · have hpk : p < k := by omega
      have h1 := inL (20 + p) (Or.inr ⟨p, hpk, Or.inr (Or.inl rfl)⟩)
      have h2 := inL (10 + p) (Or.inr ⟨p, hpk, Or.inl rfl⟩)
      have hne : AD o L (10 + p) ≠ r := fun e => hr (e ▸ l4 _ h2)
      rw [A (20 + p) (Or.inr (Or.inr ⟨p, hpk, Or.inr (Or.inl rfl)⟩)), A (10 + p) (Or.inr (Or.inr ⟨p, hpk, Or.inl rfl⟩)), ← hX2, mkX_out (hxo _ h1), va_up_ne _ _ hne, va_up_ne _ _ hne]
      exact hpv p hpk
/-- a new group -/
def NG (σ σ' : SH) (I I' X X' : IX) (o : Nat) (ad : Nat → Nat) (C : IX) : Prop := (ad 100 = o ∧ GS σ' ad ∧ ∀ k, k ∈ 3 :: (idI ++ idX) → k ≠ 100 → ad k ∉ shL σ) ∧ ((∀ k, k ∈ idI → I' (ad k) = C k) ∧ ∀ k, k ∈ idX → X' (ad k) = C k) ∧ (∃ C0 : IX, PreG C0 ∧ C = ysn C0 (nI 3)) ∧ Gw σ σ' I I' X X' (fun b => b = o)
theorem cl_0 : (0 : Int32).toNatClampNeg = 0 := by decide
theorem NG_of {σ0 σ : SH} {I0 I X0 X : IX} {o : Nat} {L : List Nat} (h : PGI 6 σ0 σ I0 I X0 X o L) (ho : o ∈ shL σ0) :
    GS σ (AD o L) ∧ PreG (fun k => if k ∈ idI then I (AD o L k) else X (AD o L k)) ∧ NG σ0 σ I0 (put idI I (AD o L) (ysn (fun k => if k ∈ idI then I (AD o L k) else X (AD o L k)) (nI 3))) X0 (put idX X (AD o L) (ysn (fun k => if k ∈ idI then I (AD o L k) else X (AD o L k)) (nI 3))) o (AD o L) (ysn (fun k => if k ∈ idI then I (AD o L k) else X (AD o L k)) (nI 3)) := by
  obtain ⟨hG, ⟨l1, l2, l3, l4⟩, hw, x1, x4, hp⟩ := h
  have hG2 : GS σ (AD o L) := ⟨AD_inj (by omega) l2 (fun q => l3 o q ho), hG⟩
  have hn0 : ∀ k, k ∈ 3 :: (idI ++ idX) → k ≠ 100 → AD o L k ∉ shL σ0 := fun k hk h => l3 _ (AD_mem (by omega) hk h)
  have hpre : PreG (fun k => if k ∈ idI then I (AD o L k) else X (AD o L k)) := by
    refine ⟨fun p hp6 => ?_, fun m hm => ?_, fun p i hp6 hi => ?_, ?_⟩
    · show (if 10 + p ∈ idI then I (AD o L (10 + p)) else X (AD o L (10 + p))) 0 = nI p
      rw [if_pos (mem_rp hp6)]; exact (hp p hp6).2
    · unfold cN
      show (if 4 ∈ idI then I (AD o L 4) else X (AD o L 4)) m = nI ((if 4 ∈ idI then I (AD o L 4) else X (AD o L 4)) m).toNatClampNeg ∧ ((if 4 ∈ idI then I (AD o L 4) else X (AD o L 4)) m).toNatClampNeg < 6
      rw [if_neg (by decide), x4]
      show (0 : Int32) = nI (0 : Int32).toNatClampNeg ∧ (0 : Int32).toNatClampNeg < 6
      exact ⟨by decide, by decide⟩
    · unfold cN
      show (if 20 + p ∈ idI then I (AD o L (20 + p)) else X (AD o L (20 + p))) i = nI ((if 20 + p ∈ idI then I (AD o L (20 + p)) else X (AD o L (20 + p))) i).toNatClampNeg ∧ ((if 20 + p ∈ idI then I (AD o L (20 + p)) else X (AD o L (20 + p))) i).toNatClampNeg < 150
      rw [if_neg (nI_of' _ (mem_lg hp6)), (hp p hp6).1]
      show (0 : Int32) = nI (0 : Int32).toNatClampNeg ∧ (0 : Int32).toNatClampNeg < 150
      exact ⟨by decide, by decide⟩
    · show (if 1 ∈ idI then I (AD o L 1) else X (AD o L 1)) 0 = nI 0
      rw [if_neg (by decide), x1]; rfl
  refine ⟨hG2, hpre, ⟨by unfold AD; rw [if_pos rfl], hG2, hn0⟩, ⟨fun k hk => put_at hG2.jI hk, fun k hk => put_at hG2.jX hk⟩, ⟨_, hpre, rfl⟩, hw.1, fun a ha hne => ?_⟩
  obtain ⟨w1, w2, w3, w4⟩ := hw.2 a ha hne
  have off : ∀ k ∈ idI ++ idX, AD o L k ≠ a := by
    intro k hk e
    by_cases e1 : k = 100
    · subst e1; unfold AD at e; rw [if_pos rfl] at e; exact hne e.symm
    · exact hn0 k (List.mem_cons_of_mem _ hk) e1 (e ▸ ha)
  exact ⟨w1, w2, (put_off (fun k hk => off k (mem_a hk))).trans w3, (put_off (fun k hk => off k (mem_b hk))).trans w4⟩
theorem V.cast {pp : Program} {ee : Env} {R : Room} {ss : State} {mm : MethodId} {args : Array Value} {below : List Frame} {meth : Method} {kc : Code} {A : Nat → Prop} {Q : State → Prop} {nL cells slots cells' slots' : Nat} {σ : SH} {I X : IX} {pc : Nat} {lv : List (Nat × Value)} {st : List Value} (h1 : cells = cells') (h2 : slots = slots') (k : V pp l ee R ss mm args below meth kc D cy A Q nL cells' slots' σ I X pc lv st) : V pp l ee R ss mm args below meth kc D cy A Q nL cells slots σ I X pc lv st := by subst h1; subst h2; exact k
set_option maxRecDepth 20000 in
theorem ct_X0_init (hst : l.stackTraces = false) (σ : SH) (I X : IX) (o : Nat) (hm : o ∈ shL σ) (hK : shK σ o = 0) : Ct l D cy sa sv yX0_init cX0_init 2 none 4 34 3757 [.ref o] σ I X (fun v' σ' I' X' => v' = none ∧ ∃ (ad : Nat → Nat) (C : IX), NG σ σ' I I' X X' o ad C) noX := by
  refine Ct.of (by decide) hst (Nat.le_of_ble_eq_true rfl) ?_
  intro pp ee ss mm args below meth kc A hF hnm hout
  have L62 : ∀ (n62 k : Nat) (L : List Nat) (σ1 : SH) (I1 X1 : IX), 6 - k < n62 → k ≤ 6 → PGI k σ σ1 I I1 X X1 o L → V pp l ee (Rm 4 34 3757) ss mm args below meth kc D cy A (QM below args ss D cy A (fun v' σ' I' X' => v' = none ∧ ∃ (ad : Nat → Nat) (C : IX), NG σ σ' I I' X X' o ad C) noX 34 3757) 2 (10 + 4 * k) (1705 + 342 * k) σ1 I1 X1 62 [(0, .ref o), (1, .int (nI k))] [] := by
    intro n62
    induction n62 with
    | zero => intro k L σ1 I1 X1 hlt; exact absurd hlt (Nat.not_lt_zero _)
    | succ n62 ih62 =>
      intro k L σ1 I1 X1 hlt hk hP
      have hG := hP.1
      have eo : AD o L 100 = o := by unfold AD; rw [if_pos rfl]
      have oo : o ∈ shL σ1 ∧ shK σ1 o = 0 := by have := hG.1.1; unfold Ob at this; rw [eo] at this; exact this
      have r3 : shR σ1 o 3 = some (AD o L 3) := by have := hG.1.2.2.2.2.1; unfold Rf at this; rw [eo] at this; exact this
      refine V.iload_n hF dX0_init_62 rfl ?_
      refine V.bipush (v := nI 6) hF dX0_init_63 (by decide) ?_
      refine V.icmp_ge (tgt := 88) hF dX0_init_65 (by decide) (fun h65 => ?_) (fun h65 => ?_)
      · have hk6 : k = 6 := by have := nI_ge' h65 (by omega) (by omega); omega
        subst hk6
        obtain ⟨hGS, hpre, hng⟩ := NG_of hP hm
        generalize hC : (fun k => if k ∈ idI then I1 (AD o L k) else X1 (AD o L k)) = C0 at hpre hng
        have eI : I1 = put idI I1 (AD o L) C0 := (put_eta (fun k hk => by rw [← hC]; exact (if_pos hk).symm)).symm
        have eX : X1 = put idX X1 (AD o L) C0 := (put_eta (fun k hk => by rw [← hC]; exact (if_neg (nI_of' k hk)).symm)).symm
        refine V.eqI eI ?_
        refine V.eqX eX ?_
        refine V.aload_n hF dX0_init_88 rfl ?_
        refine V.iconst (v := nI 3) hF dX0_init_89 (by decide) ?_
        have hsa : Ct l D cy sa sv yX0_startAnew cX0_startAnew 3 none 3 0 0 [.ref o, .int (nI 3)] σ1 (put idI I1 (AD o L) C0) (put idX X1 (AD o L) C0) (pR none σ1 (put idI I1 (AD o L) (ysn C0 (nI 3))) (put idX X1 (AD o L) (ysn C0 (nI 3)))) noX := by
          have h := ct_X0_startAnew (l := l) (D := D) (cy := cy) (sa := sa) (sv := sv) hst σ1 I1 X1 (AD o L) hGS C0 (nI 3)
          rw [eo] at h
          exact h
        refine V.vV hF dX0_init_90 hsa lk_X0_47 sl_X0_startAnew oo.1 oo.2 rfl (Nat.le_of_ble_eq_true rfl) ⟨Nat.le_of_ble_eq_true rfl, Nat.le_of_ble_eq_true rfl, Nat.le_of_ble_eq_true rfl, Nat.le_of_ble_eq_true rfl⟩ (Nat.le_of_ble_eq_true rfl) rfl ?_
        refine V.vret hF dX0_init_93 (Nat.le_of_ble_eq_true rfl) (Nat.le_of_ble_eq_true rfl) ?_
        exact ⟨rfl, _, _, hng⟩
      · have hk6 : k < 6 := nI_nge h65 (by omega) (by omega)
        refine V.aload_n hF dX0_init_68 rfl ?_
        refine V.getR hF dX0_init_69 fl_X0_27 oo.1 oo.2 rfl r3 ?_
        refine V.iload_n hF dX0_init_72 rfl ?_
        refine V.new hF dX0_init_73 kl_X0_25 (by show 10 + 4 * k + 1 ≤ 34; omega) (by show 1705 + 342 * k + 6 ≤ 3757; omega) (fun r hr => ?_)
        refine V.dup hF dX0_init_76 rfl ?_
        refine V.iload_n hF dX0_init_77 rfl ?_
        refine V.callI hF dX0_init_78 (ct_X2_init hst _ _ _ r mem_new kind_new (nI k)) lk_X0_44 rfl ⟨_, _, rfl⟩ ⟨Nat.le_of_ble_eq_true rfl, Nat.le_of_ble_eq_true rfl, by show 10 + 4 * k + 1 + 3 ≤ 34; omega, by show 1705 + 342 * k + 6 + 336 ≤ 3757; omega⟩ (Nat.le_of_ble_eq_true rfl) (fun _ _ _ _ h => h.elim) (fun v2 σ2 I2 X2 h => ?_) rfl
        obtain ⟨rfl, q0, q1, q2, hfr, rfl, rfl, rfl⟩ := h
        have hst2 := PGI_step hP hk6 hm hr hfr (f := upd (upd (upd (fun _ => 0) 4 (nI 0)) 5 (nI 0)) 0 (nI k)) (by rw [upd_at, if_pos rfl])
        have y3 := hG.2.2.1
        obtain ⟨g1, g2⟩ : Gw σ1 (mkS r (shAdd σ1 r 2 0) [(q0, 11, 150, 1), (q1, 11, 150, 2), (q2, 11, 36, 3)]) I1 I1 X1 X1 (fun _ => False) ∧ True := ⟨(((Gw.add0 hr).wide (fun _ _ q => q.elim)).trans (Gw.mono0 (mkS_spec hfr mem_new).1) (fun _ _ q => q)).nil (fun a ha e => hr (e ▸ ha)), trivial⟩
        obtain ⟨z1, z2, z3, -, -⟩ := g1.1 _ y3.1
        have rk := (mkS_spec hfr mem_new).1.1 r mem_new
        refine V.aastore (j := k) hF dX0_init_81 z1 (z2.trans y3.2.1) rfl (by rw [z3, y3.2.2.1]; exact hk6) (by rw [z3, y3.2.2.1]; omega) rk.1 (rk.2.1.trans kind_new) ?_
        refine V.iinc (v := nI (k + 1)) hF dX0_init_82 rfl (by exact nI_1 _) (by decide) ?_
        refine V.goto (tgt := 62) hF dX0_init_85 (by decide) ?_
        refine V.relv [0, 1] rfl ?_
        refine V.cast (cells' := 10 + 4 * (k + 1)) (slots' := 1705 + 342 * (k + 1)) (by omega) (by omega) ?_
        refine V.eqI (I' := va_up (va_up I1 r (fun _ => 0)) r (upd (upd (upd (fun _ => 0) 4 (nI 0)) 5 (nI 0)) 0 (nI k))) (by simp only [va_up_self, bx_uu]) ?_
        exact ih62 (k + 1) _ _ _ _ (by omega) (by omega) hst2
  refine V.aload_n hF dX0_init_0 rfl ?_
  refine V.objInit hF dX0_init_1 ol_X0 (Nat.le_of_ble_eq_true rfl) (Nat.le_of_ble_eq_true rfl) ?_
  refine V.aload_n hF dX0_init_4 rfl ?_
  refine V.bipush (v := nI 21) hF dX0_init_5 (by decide) ?_
  refine V.newi (N := 21) hF dX0_init_7 rfl (Nat.le_of_ble_eq_true rfl) (Nat.le_of_ble_eq_true rfl) (Nat.le_of_ble_eq_true rfl) (fun q0 hq0 => ?_)
  have hm0 := mem_add (q := q0) (kd := 11) (n := 21) hm
  have hK0 := kind_add (q := q0) (kd := 11) (n := 21) hq0 hm hK
  refine V.putRv (r := some q0) hF dX0_init_9 fl_X0_9 rfl (Or.inr ⟨hnm, TX0, 8, rfl, kf_X0_9⟩) (Or.inr ⟨_, rfl⟩) hm0 hK0 rfl ?_
  refine V.aload_n hF dX0_init_12 rfl ?_
  refine V.bipush (v := nI 21) hF dX0_init_13 (by decide) ?_
  refine V.newi (N := 21) hF dX0_init_15 rfl (Nat.le_of_ble_eq_true rfl) (Nat.le_of_ble_eq_true rfl) (Nat.le_of_ble_eq_true rfl) (fun q1 hq1 => ?_)
  have hm1 := mem_add (q := q1) (kd := 11) (n := 21) hm0
  have hK1 := kind_add (q := q1) (kd := 11) (n := 21) hq1 hm0 hK0
  refine V.putRv (r := some q1) hF dX0_init_17 fl_X0_15 rfl (Or.inr ⟨hnm, TX0, 8, rfl, kf_X0_15⟩) (Or.inr ⟨_, rfl⟩) hm1 hK1 rfl ?_
  have hF2 : Fr o σ [(q0, 11, 21, 0), (q1, 11, 21, 1)] := Fr_c hq0 (Fr_c hq1 Fr_n)
  obtain ⟨w1, w2, w3, w4, w5, w6⟩ := mkS_spec hF2 hm
  have gA := mk_gw hF2 hm I X (I o)
  rw [up_eta] at gA
  have w4 := w4 (show ([0, 1] : List Nat).Nodup by decide)
  show V pp l ee (Rm 4 34 3757) ss mm args below meth kc D cy A _ 2 _ _ (mkS o σ [(q0, 11, 21, 0), (q1, 11, 21, 1)]) I (mkX X [(q0, 11, 21, 0), (q1, 11, 21, 1)]) 20 [(0, .ref o)] []
  have x1z : mkX X [(q0, 11, 21, 0), (q1, 11, 21, 1)] q1 = fun _ => 0 := mkX_in (Or.inl (List.mem_cons_of_mem _ List.mem_cons_self))
  generalize mkS o σ [(q0, 11, 21, 0), (q1, 11, 21, 1)] = σ2 at w1 w2 w3 w4 gA ⊢
  generalize mkX X [(q0, 11, 21, 0), (q1, 11, 21, 1)] = X2 at gA x1z ⊢
  obtain ⟨a0, a1, a2, a3, a4⟩ := w4 _ List.mem_cons_self
  obtain ⟨b0, b1, b2, b3, b4⟩ := w4 _ (List.mem_cons_of_mem _ List.mem_cons_self)
  dsimp only at a0 a1 a2 a3 a4 b0 b1 b2 b3 b4
  have o2 : o ∈ shL σ2 ∧ shK σ2 o = 0 := ⟨(w1.1 o hm).1, (w1.1 o hm).2.1.trans hK⟩
  refine V.aload_n hF dX0_init_20 rfl ?_
  refine V.new hF dX0_init_21 kl_X0_18 (Nat.le_of_ble_eq_true rfl) (Nat.le_of_ble_eq_true rfl) (fun m hqm => ?_)
  refine V.dup hF dX0_init_24 rfl ?_
  refine V.callI hF dX0_init_25 (ct_X1_init hst _ _ _ m mem_new kind_new) lk_X0_20 rfl ⟨_, _, rfl⟩ (fit_of rfl) (Nat.le_of_ble_eq_true rfl) (fun _ _ _ _ h => h.elim) (fun v4 σ4 I4 X4 h => ?_) rfl
  obtain ⟨rfl, c0, c1, c2, c3, c4, c5, hfr, rfl, rfl, rfl⟩ := h
  obtain ⟨s1, s2, s3, s4, s5, s6⟩ := mkS_spec hfr mem_new
  have s4 := s4 (show ([0, 1, 2, 3, 4, 5] : List Nat).Nodup by decide)
  have gB := mk_gw hfr mem_new (va_up I m (fun _ => 0)) X2 (upd ((va_up I m (fun _ => 0)) m) 6 (nI 0))
  have x4z : mkX X2 [(c0, 11, 150, 0), (c1, 11, 150, 1), (c2, 11, 150, 2), (c3, 11, 150, 3), (c4, 11, 150, 4), (c5, 11, 900, 5)] c0 = fun _ => 0 := mkX_in (Or.inl List.mem_cons_self)
  generalize mkS m (shAdd σ2 m 1 0) [(c0, 11, 150, 0), (c1, 11, 150, 1), (c2, 11, 150, 2), (c3, 11, 150, 3), (c4, 11, 150, 4), (c5, 11, 900, 5)] = σ4 at s1 s2 s3 s4 gB ⊢
  generalize mkX X2 [(c0, 11, 150, 0), (c1, 11, 150, 1), (c2, 11, 150, 2), (c3, 11, 150, 3), (c4, 11, 150, 4), (c5, 11, 900, 5)] = X4 at gB x4z ⊢
  generalize va_up (va_up I m (fun _ => 0)) m (upd ((va_up I m (fun _ => 0)) m) 6 (nI 0)) = I4 at gB ⊢
  have gC : Gw σ2 σ4 I I4 X2 X4 (fun _ => False) := (((Gw.addI hqm).wide (fun _ _ q => q.elim)).trans gB (fun _ _ q => q)).nil (fun a ha e => hqm (e ▸ ha))
  have o4 : o ∈ shL σ4 ∧ shK σ4 o = 0 := ⟨(gC.1 o o2.1).1, (gC.1 o o2.1).2.1.trans o2.2⟩
  refine V.putRv (r := some m) hF dX0_init_28 fl_X0_21 rfl (Or.inr ⟨hnm, TX0, 8, rfl, kf_X0_21⟩) (Or.inl ⟨_, rfl⟩) o4.1 o4.2 rfl ?_
  refine V.aload_n hF dX0_init_31 rfl ?_
  refine V.bipush (v := nI 6) hF dX0_init_32 (by decide) ?_
  refine V.anew (N := 6) hF dX0_init_34 kl_rep rfl (Nat.le_of_ble_eq_true rfl) (Nat.le_of_ble_eq_true rfl) (Nat.le_of_ble_eq_true rfl) (fun y hqy => ?_)
  have hqy : y ∉ shL σ4 := hqy
  have hm6 := mem_add (q := y) (kd := 12) (n := 6) o4.1
  have hK6 := kind_add (q := y) (kd := 12) (n := 6) hqy o4.1 o4.2
  refine V.putRv (r := some y) hF dX0_init_37 fl_X0_27 rfl (Or.inr ⟨hnm, TX0, 8, rfl, kf_X0_27⟩) (Or.inr ⟨_, rfl⟩) hm6 hK6 rfl ?_
  refine V.aload_n hF dX0_init_40 rfl ?_
  refine V.iconst (v := nI 0) hF dX0_init_41 (by decide) ?_
  refine V.putI hF dX0_init_42 fl_X0_31 hm6 hK6 rfl rfl rfl ?_
  refine V.aload_n hF dX0_init_45 rfl ?_
  refine V.iconst (v := nI 0) hF dX0_init_46 (by decide) ?_
  refine V.putI hF dX0_init_47 fl_X0_35 hm6 hK6 rfl rfl rfl ?_
  refine V.aload_n hF dX0_init_50 rfl ?_
  refine V.iconst (v := nI 0) hF dX0_init_51 (by decide) ?_
  refine V.putI hF dX0_init_52 fl_X0_38 hm6 hK6 rfl rfl rfl ?_
  refine V.aload_n hF dX0_init_55 rfl ?_
  refine V.iconst (v := nI 0) hF dX0_init_56 (by decide) ?_
  refine V.putI hF dX0_init_57 fl_X0_41 hm6 hK6 rfl rfl rfl ?_
  refine V.iconst (v := nI 0) hF dX0_init_60 (by decide) ?_
  refine V.istore_n hF dX0_init_61 (by decide) ?_
  refine V.relv [0, 1] rfl ?_
  simp only [va_up_self, bx_uu]
  refine V.cast (cells' := 10 + 4 * 0) (slots' := 1705 + 342 * 0) rfl rfl ?_
  refine L62 7 0 [q0, q1, m, c0, c1, c2, c3, c4, c5, y] _ _ _ (by omega) (by omega) ?_
  obtain ⟨e00, e01, e02, e03, e04⟩ := s4 _ List.mem_cons_self
  obtain ⟨e10, e11, e12, e13, e14⟩ := s4 _ (List.mem_cons_of_mem _ List.mem_cons_self)
  obtain ⟨e20, e21, e22, e23, e24⟩ := s4 _ (List.mem_cons_of_mem _ (List.mem_cons_of_mem _ List.mem_cons_self))
  obtain ⟨e30, e31, e32, e33, e34⟩ := s4 _ (List.mem_cons_of_mem _ (List.mem_cons_of_mem _ (List.mem_cons_of_mem _ List.mem_cons_self)))
  obtain ⟨e40, e41, e42, e43, e44⟩ := s4 _ (List.mem_cons_of_mem _ (List.mem_cons_of_mem _ (List.mem_cons_of_mem _ (List.mem_cons_of_mem _ List.mem_cons_self))))
  obtain ⟨e50, e51, e52, e53, e54⟩ := s4 _ (List.mem_cons_of_mem _ (List.mem_cons_of_mem _ (List.mem_cons_of_mem _ (List.mem_cons_of_mem _ (List.mem_cons_of_mem _ List.mem_cons_self)))))
  dsimp only at e00 e01 e02 e03 e04 e10 e11 e12 e13 e14 e20 e21 e22 e23 e24 e30 e31 e32 e33 e34 e40 e41 e42 e43 e44 e50 e51 e52 e53 e54
  have m4 := (s1.1 m mem_new).1
  have m4k : shK σ4 m = 1 := (s1.1 m mem_new).2.1.trans kind_new
  have q04 := gC.1 q0 a1
  have q14 := gC.1 q1 b1
  have nm_o : m ≠ o := fun e => hqm (e ▸ o2.1)
  have ny : ∀ z, z ∈ shL σ4 → z ≠ y := fun z hz e => hqy (e ▸ hz)
  have ro : shR σ4 o = shR σ2 o := (gC.2 o o2.1 id).1
  have ro0 : ∀ k, k ≠ 2 → k ≠ 3 → shR (shSetR (shAdd (shSetR σ4 o 2 (some m)) y 12 6) o 3 (some y)) o k = shR σ2 o k := by
    intro k h2 h3
    show va_up (va_up (va_up (shR σ4) o (va_up (shR σ4 o) 2 (some m))) y (fun _ => none)) o (va_up (va_up (va_up (shR σ4) o (va_up (shR σ4 o) 2 (some m))) y (fun _ => none) o) 3 (some y)) o k = _
    rw [va_up_self, va_up_ne _ _ h3, va_up_ne _ _ (ny o o4.1), va_up_self, va_up_ne _ _ h2, ro]
  have ro2 : shR (shSetR (shAdd (shSetR σ4 o 2 (some m)) y 12 6) o 3 (some y)) o 2 = some m := by
    show va_up (va_up (va_up (shR σ4) o (va_up (shR σ4 o) 2 (some m))) y (fun _ => none)) o (va_up (va_up (va_up (shR σ4) o (va_up (shR σ4 o) 2 (some m))) y (fun _ => none) o) 3 (some y)) o 2 = _
    rw [va_up_self, va_up_ne _ _ (by omega), va_up_ne _ _ (ny o o4.1), va_up_self, va_up_self]
  have ro3 : shR (shSetR (shAdd (shSetR σ4 o 2 (some m)) y 12 6) o 3 (some y)) o 3 = some y := by
    show va_up (va_up (va_up (shR σ4) o (va_up (shR σ4 o) 2 (some m))) y (fun _ => none)) o (va_up (va_up (va_up (shR σ4) o (va_up (shR σ4 o) 2 (some m))) y (fun _ => none) o) 3 (some y)) o 3 = _
    rw [va_up_self, va_up_self]
  have rm : ∀ k, shR (shSetR (shAdd (shSetR σ4 o 2 (some m)) y 12 6) o 3 (some y)) m k = shR σ4 m k := by
    intro k
    show va_up (va_up (va_up (shR σ4) o (va_up (shR σ4 o) 2 (some m))) y (fun _ => none)) o (va_up (va_up (va_up (shR σ4) o (va_up (shR σ4 o) 2 (some m))) y (fun _ => none) o) 3 (some y)) m k = _
    rw [va_up_ne _ _ nm_o, va_up_ne _ _ (ny m m4), va_up_ne _ _ nm_o]
  have kk : ∀ z, z ∈ shL σ4 → z ∈ shL (shSetR (shAdd (shSetR σ4 o 2 (some m)) y 12 6) o 3 (some y)) ∧ shK (shSetR (shAdd (shSetR σ4 o 2 (some m)) y 12 6) o 3 (some y)) z = shK σ4 z ∧ shN (shSetR (shAdd (shSetR σ4 o 2 (some m)) y 12 6) o 3 (some y)) z = shN σ4 z := fun z hz => ⟨List.mem_append_left _ hz, va_up_ne _ _ (ny z hz), va_up_ne _ _ (ny z hz)⟩
  have gD : Gw σ σ4 I I4 X X4 (fun b => b = o) := gA.trans gC (fun _ _ q => q.elim)
  have gE : Gw σ4 (shSetR (shAdd (shSetR σ4 o 2 (some m)) y 12 6) o 3 (some y)) I4 I4 X4 X4 (fun b => b = o) := (Gw.setR.trans ((Gw.add0 (show y ∉ shL (shSetR σ4 o 2 (some m)) from hqy)).wide (fun _ _ q => q.elim)) (fun _ _ q => q)).trans Gw.setR (fun _ _ q => q)
  have gG := gD.trans (gE.trans (Gw.putI (a := o) (f := upd (upd (upd (upd (I4 o) 4 (nI 0)) 5 (nI 0)) 6 (nI 0)) 7 (nI 0))) (fun _ _ q => q)) (fun _ _ q => q)
  have nd : ∀ z, z ∈ shL σ2 → z ≠ m ∧ z ≠ c0 ∧ z ≠ c1 ∧ z ≠ c2 ∧ z ≠ c3 ∧ z ≠ c4 ∧ z ≠ c5 ∧ z ≠ y := fun z hz => ⟨fun e => hqm (e ▸ hz), fun e => e00 (e ▸ mem_add hz), fun e => e10 (e ▸ mem_add hz), fun e => e20 (e ▸ mem_add hz), fun e => e30 (e ▸ mem_add hz), fun e => e40 (e ▸ mem_add hz), fun e => e50 (e ▸ mem_add hz), ny z (gC.1 z hz).1⟩
  have h5 := s5
  have h5b := w5
  simp only [List.map_cons, List.map_nil] at h5 h5b
  refine ⟨⟨⟨⟨hm6, hK6⟩, (ro0 0 (by omega) (by omega)).trans a4, (ro0 1 (by omega) (by omega)).trans b4, ro2, ro3, ⟨(kk q0 q04.1).1, (kk q0 q04.1).2.1.trans (q04.2.1.trans a2), (kk q0 q04.1).2.2.trans (q04.2.2.1.trans a3)⟩, ⟨(kk q1 q14.1).1, (kk q1 q14.1).2.1.trans (q14.2.1.trans b2), (kk q1 q14.1).2.2.trans (q14.2.2.1.trans b3)⟩⟩,
    ⟨⟨(kk m m4).1, (kk m m4).2.1.trans m4k⟩, fun j hj => ?_, ⟨(kk c0 e01).1, (kk c0 e01).2.1.trans e02, (kk c0 e01).2.2.trans e03⟩, ⟨(kk c1 e11).1, (kk c1 e11).2.1.trans e12, (kk c1 e11).2.2.trans e13⟩, ⟨(kk c2 e21).1, (kk c2 e21).2.1.trans e22, (kk c2 e21).2.2.trans e23⟩, ⟨(kk c3 e31).1, (kk c3 e31).2.1.trans e32, (kk c3 e31).2.2.trans e33⟩, ⟨(kk c4 e41).1, (kk c4 e41).2.1.trans e42, (kk c4 e41).2.2.trans e43⟩, ⟨(kk c5 e51).1, (kk c5 e51).2.1.trans e52, (kk c5 e51).2.2.trans e53⟩⟩,
    ⟨mem_new (kd := 12) (n := 6), kind_new (n := 6), len_new (kd := 12), fun p hp => absurd hp (Nat.not_lt_zero _)⟩, fun p hp => absurd hp (Nat.not_lt_zero _)⟩, ⟨rfl, ?_, ?_, ?_⟩, gG, ?_, ?_, fun p hp => absurd hp (Nat.not_lt_zero _)⟩
  · rcases (by omega : j = 0 ∨ j = 1 ∨ j = 2 ∨ j = 3 ∨ j = 4 ∨ j = 5) with rfl | rfl | rfl | rfl | rfl | rfl
    · exact (rm 0).trans e04
    · exact (rm 1).trans e14
    · exact (rm 2).trans e24
    · exact (rm 3).trans e34
    · exact (rm 4).trans e44
    · exact (rm 5).trans e54
  · have n0 := nd q0 a1
    have n1 := nd q1 b1
    have cm : ∀ z, z ∉ shL (shAdd σ2 m 1 0) → m ≠ z := fun z hz e => hz (e ▸ mem_new)
    have h6 : ([c0, c1, c2, c3, c4, c5] : List Nat).Nodup := h5
    have h7 : q0 ≠ q1 := fun e => by rw [e] at h5b; simp at h5b
    refine List.nodup_cons.mpr ⟨?_, List.nodup_cons.mpr ⟨?_, List.nodup_cons.mpr ⟨?_, ?_⟩⟩⟩
    · simp only [List.mem_cons, List.not_mem_nil, or_false, not_or]; exact ⟨h7, n0⟩
    · simp only [List.mem_cons, List.not_mem_nil, or_false, not_or]; exact n1
    · simp only [List.mem_cons, List.not_mem_nil, or_false, not_or]; exact ⟨cm _ e00, cm _ e10, cm _ e20, cm _ e30, cm _ e40, cm _ e50, ny m m4⟩
    · have : ([c0, c1, c2, c3, c4, c5, y] : List Nat) = [c0, c1, c2, c3, c4, c5] ++ [y] := rfl
      rw [this, List.nodup_append]
      refine ⟨h6, by simp, fun a ha b hb e => ?_⟩
      simp only [List.mem_cons, List.not_mem_nil, or_false] at ha hb
      subst e
      rcases ha with rfl | rfl | rfl | rfl | rfl | rfl
      · exact ny _ e01 hb
      · exact ny _ e11 hb
      · exact ny _ e21 hb
      · exact ny _ e31 hb
      · exact ny _ e41 hb
      · exact ny _ e51 hb
  · intro a ha q
    have q2 := (gA.1 a q).1
    have q4 := (gD.1 a q).1
    simp only [List.mem_cons, List.not_mem_nil, or_false] at ha
    rcases ha with rfl | rfl | rfl | rfl | rfl | rfl | rfl | rfl | rfl | rfl
    · exact a0 q
    · exact b0 q
    · exact hqm q2
    · exact e00 (mem_add q2)
    · exact e10 (mem_add q2)
    · exact e20 (mem_add q2)
    · exact e30 (mem_add q2)
    · exact e40 (mem_add q2)
    · exact e50 (mem_add q2)
    · exact hqy q4
  · intro a ha
    simp only [List.mem_cons, List.not_mem_nil, or_false] at ha
    rcases ha with rfl | rfl | rfl | rfl | rfl | rfl | rfl | rfl | rfl | rfl
    · exact (kk _ q04.1).1
    · exact (kk _ q14.1).1
    · exact (kk _ m4).1
    · exact (kk _ e01).1
    · exact (kk _ e11).1
    · exact (kk _ e21).1
    · exact (kk _ e31).1
    · exact (kk _ e41).1
    · exact (kk _ e51).1
    · exact mem_new (kd := 12) (n := 6)
  · exact (gC.2 q1 b1 id).2.2.2.trans x1z
  · exact x4z

end Kc
