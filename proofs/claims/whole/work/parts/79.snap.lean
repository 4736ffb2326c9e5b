/-! a group that is made when it is first wanted, and gets the rows of another -/
def Fvw (σ σ' : SH) (I I' X X' : IX) (o k0 : Nat) (ex : Nat → Prop) : Prop :=
  (∀ a, a ∈ shL σ → a ∈ shL σ' ∧ shK σ' a = shK σ a ∧ shN σ' a = shN σ a ∧ shJ σ' a = shJ σ a ∧ shZ σ' a = shZ σ a ∧ shY σ' a = shY σ a) ∧ (∀ a k, a ∈ shL σ → ¬ (a = o ∧ k = k0) → shR σ' a k = shR σ a k) ∧ ∀ a, a ∈ shL σ → ¬ ex a → I' a = I a ∧ X' a = X a
theorem Fvw.refl {σ : SH} {I X : IX} {o k0 : Nat} {ex : Nat → Prop} : Fvw σ σ I I X X o k0 ex := ⟨fun _ h => ⟨h, rfl, rfl, rfl, rfl, rfl⟩, fun _ _ _ _ => rfl, fun _ _ _ => ⟨rfl, rfl⟩⟩
def Prp (k0 : Nat) (σ σ' : SH) (I I' X X' : IX) (o : Nat) (C : IX) (P : (Nat → Nat) → Prop) : Prop := ∃ (td : Nat → Nat) (E : IX), (shR σ' o k0 = some (td 100) ∧ GS σ' td) ∧ ((∀ k, k ∈ idI → I' (td k) = E k) ∧ ∀ k, k ∈ idX → X' (td k) = E k) ∧ Agr C E ∧ ((∀ k, k ∈ idI ++ idX → td k ∉ shL σ) ∨ P td) ∧ Fvw σ σ' I I' X X' o k0 (fun a => ∃ k, k ∈ idI ++ idX ∧ a = td k)
def Prq (k0 : Nat) (σ : SH) (I X : IX) (o : Nat) (ad : Nat → Nat) (P : (Nat → Nat) → Prop) : Prop := shR σ o k0 = none ∨ ∃ (td : Nat → Nat) (E : IX), (shR σ o k0 = some (td 100) ∧ GS σ td ∧ ∀ i j, i ∈ idI ++ idX → j ∈ idI ++ idX → ad j ≠ td i) ∧ ((∀ k, k ∈ idI → I (td k) = E k) ∧ ∀ k, k ∈ idX → X (td k) = E k) ∧ (∀ p, p < 6 → E (10 + p) 0 = nI p) ∧ P td
theorem GS.n4 {σ : SH} {ad : Nat → Nat} (h : GS σ ad) {o : Nat} (ho : shK σ o = 4) : ∀ k, (k = 100 ∨ k = 2 ∨ k = 3 ∨ ∃ p, p < 6 ∧ k = 10 + p) → ¬ ad k = o := by
  intro k hk e
  rcases hk with rfl | rfl | rfl | ⟨p, hp, rfl⟩
  · have := h.g.2; rw [e, ho] at this; omega
  · have := h.m.2; rw [e, ho] at this; omega
  · have := h.yk; rw [e, ho] at this; omega
  · have := (h.rp hp).2; rw [e, ho] at this; omega
theorem GS.mem {σ : SH} {ad : Nat → Nat} (h : GS σ ad) {k : Nat} (hk : k ∈ idI ++ idX) : ad k ∈ shL σ := by
  have hp : ∀ p, p < 6 → ad (10 + p) ∈ shL σ ∧ ad (20 + p) ∈ shL σ ∧ ad (30 + p) ∈ shL σ ∧ ad (40 + p) ∈ shL σ := fun p hp => ⟨(h.rp hp).1, (h.al hp).1, (h.ap hp).1, (h.at hp).1⟩
  have all : ∀ k, k ∈ idI ++ idX → (k = 100 ∨ k = 2 ∨ k = 0 ∨ k = 1 ∨ k = 4 ∨ k = 5 ∨ k = 6 ∨ k = 7 ∨ k = 8 ∨ k = 9) ∨ k = 10 + (k - 10) ∧ k - 10 < 6 ∨ k = 20 + (k - 20) ∧ k - 20 < 6 ∨ k = 30 + (k - 30) ∧ k - 30 < 6 ∨ k = 40 + (k - 40) ∧ k - 40 < 6 := by decide
  rcases all k hk with q | ⟨q1, q2⟩ | ⟨q1, q2⟩ | ⟨q1, q2⟩ | ⟨q1, q2⟩
  · rcases q with rfl | rfl | rfl | rfl | rfl | rfl | rfl | rfl | rfl | rfl
    · exact h.g.1
    · exact h.m.1
    · exact h.a0.1
    · exact h.a1.1
    · exact h.a4.1
    · exact h.a5.1
    · exact h.a6.1
    · exact h.a7.1
    · exact h.a8.1
    · exact h.a9.1
  · rw [q1]; exact (hp _ q2).1
  · rw [q1]; exact (hp _ q2).2.1
  · rw [q1]; exact (hp _ q2).2.2.1
  · rw [q1]; exact (hp _ q2).2.2.2
theorem ysn_self {C : IX} (hC : PreG C) (x : Int32) : ∀ p, p < 6 → ysn C x (10 + p) 0 = nI p := fun p hp => by
  rw [((ysn_at (C := C) (x := x)).2.2 p hp).2.1, upd_at, if_neg (by omega), upd_at, if_neg (by omega)]; exact hC.1 p hp
/-- a new group, put into o's slot k0 -/
theorem prp_new {σ σ2 : SH} {I I2 X X2 : IX} {o k0 q : Nat} {ad td : Nat → Nat} {E : IX} (hO : o ∈ shL σ ∧ shK σ o = 4) (hG : GS σ ad) (hq : q ∉ shL σ) (hN : NG (shAdd σ q 0 0) σ2 (va_up I q (fun _ => 0)) I2 X X2 q td E) :
    (o ∈ shL σ2 ∧ shK σ2 o = 4) ∧ GS (shSetR σ2 o k0 (some q)) td ∧ GS (shSetR σ2 o k0 (some q)) ad ∧ (∀ k, k ∈ idI ++ idX → td k ∉ shL σ) ∧ (∀ i j, i ∈ idI ++ idX → j ∈ idI ++ idX → ad j ≠ td i) ∧ (∀ p, p < 6 → E (10 + p) 0 = nI p) ∧ Fvw σ (shSetR σ2 o k0 (some q)) I I2 X X2 o k0 (fun _ => False) ∧ shR (shSetR σ2 o k0 (some q)) o k0 = some (td 100) ∧ ∀ k, k ≠ k0 → shR (shSetR σ2 o k0 (some q)) o k = shR σ o k := by
  obtain ⟨⟨n1, n2, n3⟩, n4, ⟨C0, n5, n6⟩, n7⟩ := hN
  have g : Gw σ σ2 I I2 X X2 (fun _ => False) := (((Gw.addI hq).wide (fun _ _ e => e.elim)).trans n7 (fun _ _ e => e)).nil (fun a ha e => hq (e ▸ ha))
  have o2 := g.1 o hO.1
  have fr : ∀ k, k ∈ idI ++ idX → td k ∉ shL σ := fun k hk m => by
    by_cases e : k = 100
    · subst e; rw [n1] at m; exact hq m
    · exact n3 k (List.mem_cons_of_mem _ hk) e (mem_add m)
  have ro : ∀ k, shR σ2 o k = shR σ o k := fun k => congrFun (g.2 o hO.1 id).1 k
  refine ⟨⟨o2.1, o2.2.1.trans hO.2⟩, ?_, ?_, fr, fun i j hi hj e => fr i hi (e ▸ hG.mem hj), by rw [n6]; exact ysn_self n5 _, ⟨fun a ha => ?_, fun a k ha hn => ?_, fun a ha _ => (g.2 a ha id).2.2⟩, ?_, fun k hk => ?_⟩
  · refine GS.gw (I := I) (I' := I) (X := X) (X' := X) (ex := fun b => b = o) n2 Gw.setR (fun k hk e => ?_)
    rcases hk with rfl | rfl | rfl | ⟨p, hp, rfl⟩
    · rw [n1] at e; exact hq (e ▸ hO.1)
    · exact n3 2 (by decide) (by decide) (e ▸ mem_add hO.1)
    · exact n3 3 (by decide) (by decide) (e ▸ mem_add hO.1)
    · exact n3 (10 + p) (List.mem_cons_of_mem _ (mem_a (mem_rp hp))) (by omega) (e ▸ mem_add hO.1)
  · have h2 : GS σ2 ad := hG.gw g (fun _ _ e => e)
    exact GS.gw (I := I) (I' := I) (X := X) (X' := X) (ex := fun b => b = o) h2 Gw.setR (h2.n4 (o2.2.1.trans hO.2))
  · obtain ⟨a1, a2, a3, a4, a5⟩ := g.1 a ha
    exact ⟨a1, a2, a3, a4, a5, (g.2 a ha id).2.1⟩
  · show va_up (shR σ2) o (va_up (shR σ2 o) k0 (some q)) a k = shR σ a k
    by_cases e : a = o
    · subst e
      rw [va_up_self, va_up_ne _ _ (fun e => hn ⟨rfl, e⟩)]; exact ro k
    · rw [va_up_ne _ _ e]; exact congrFun (g.2 a ha id).1 k
  · show va_up (shR σ2) o (va_up (shR σ2 o) k0 (some q)) o k0 = _
    rw [va_up_self, va_up_self, n1]
  · show va_up (shR σ2) o (va_up (shR σ2 o) k0 (some q)) o k = _
    rw [va_up_self, va_up_ne _ _ hk]; exact ro k
theorem prp_end {σ σ1 : SH} {I I1 X X1 : IX} {o k0 : Nat} {td : Nat → Nat} {E C : IX} {P : (Nat → Nat) → Prop} (hF : Fvw σ σ1 I I1 X X1 o k0 (fun _ => False)) (hT : shR σ1 o k0 = some (td 100)) (hG : GS σ1 td) (hs : ∀ p, p < 6 → E (10 + p) 0 = nI p) (hP : (∀ k, k ∈ idI ++ idX → td k ∉ shL σ) ∨ P td) : Prp k0 σ σ1 I (put idI I1 td (ygc E C)) X (put idX X1 td (ygc E C)) o C P :=
  ⟨td, ygc E C, ⟨hT, hG⟩, ⟨fun k hk => put_at hG.jI hk, fun k hk => put_at hG.jX hk⟩, ygc_agr hs, hP, hF.1, hF.2.1, fun a ha hn => ⟨(put_off (fun k hk e => hn ⟨k, mem_a hk, e.symm⟩)).trans (hF.2.2 a ha id).1, (put_off (fun k hk e => hn ⟨k, mem_b hk, e.symm⟩)).trans (hF.2.2 a ha id).2⟩⟩

/-- a method's end with a reference -/
theorem V.aret {p : Program} {l : Launch} {e : Env} {R : Room} {s : State} {m : MethodId} {args : Array Value} {below : List Frame} {meth : Method} {c : Code} {D : va_G} {cy sa sv : Nat → Nat} {A : Nat → Prop} {cc : ByteArray} {nL : Nat} {own : String} {cells slots : Nat} {σ : SH} {I X : IX} {pc : Nat} {lv : List (Nat × Value)} {mc ms : Nat} {post : PO} {xp : PX} {rt : FieldType} (hF : Fx p l s m args meth c D cy sa sv A nL own cc (some rt)) (hrt : (∃ n, rt = .object n) ∨ ∃ t, rt = .array t) {x : Nat} (d : decode cc pc = .ok (.areturn, 1)) (hc : cells ≤ mc) (hs : slots ≤ ms) (h : post (some (.ref x)) σ I X) : V p l e R s m args below meth c D cy A (QM below args s D cy A post xp mc ms) nL cells slots σ I X pc lv [.ref x] := fun H locs ls hP hD hS hl => vx_ret (W.widen hc hs (W.aret hF.1 hF.2.1 hF.2.2.2.2.2.2.2.1 hrt (Or.inr ⟨_, rfl⟩) (fun t ht hW => ⟨⟨_, σ, I, X, rfl, h, by rw [ht]; exact hP, hD⟩, hS.F ht⟩) hS.2.2 d hF.2.2.2.2.2.2.1))
section Sn
variable {l : Launch} {D : va_G} {cy sa sv : Nat → Nat}
set_option maxRecDepth 20000 in
theorem ct_X4_copyToTrial (hst : l.stackTraces = false) (σ : SH) (I X : IX) (o : Nat) (ad : Nat → Nat) (hO : o ∈ shL σ ∧ shK σ o = 4) (h1 : shR σ o 1 = some (ad 100)) (hG : GS σ ad) (C : IX) (hCI : ∀ k, k ∈ idI → I (ad k) = C k) (hCX : ∀ k, k ∈ idX → X (ad k) = C k) (P : (Nat → Nat) → Prop) (ht : Prq 2 σ I X o ad P) : Ct l D cy sa sv yX4_copyToTrial cX4_copyToTrial 1 (some (.object "CausalBroadcast$Group")) 6 35 3765 [.ref o] σ I X (fun v' σ' I' X' => (∃ t, v' = some (.ref t) ∧ shR σ' o 2 = some t) ∧ Prp 2 σ σ' I I' X X' o C P) noX := by
  refine Ct.of (by decide) hst (Nat.le_of_ble_eq_true rfl) ?_
  intro pp ee ss mm args below meth kc A hF hnm hout
  have K18 : ∀ (cl sl : Nat) (σ1 : SH) (I1 X1 : IX) (td : Nat → Nat) (E : IX), cl ≤ 35 → sl ≤ 3765 → (o ∈ shL σ1 ∧ shK σ1 o = 4) → shR σ1 o 2 = some (td 100) → shR σ1 o 1 = some (ad 100) → GS σ1 td → GS σ1 ad → (∀ i j, i ∈ idI ++ idX → j ∈ idI ++ idX → ad j ≠ td i) → (∀ k, k ∈ idI → I1 (ad k) = C k) → (∀ k, k ∈ idX → X1 (ad k) = C k) → (∀ k, k ∈ idI → I1 (td k) = E k) → (∀ k, k ∈ idX → X1 (td k) = E k) → (∀ p, p < 6 → E (10 + p) 0 = nI p) → ((∀ k, k ∈ idI ++ idX → td k ∉ shL σ) ∨ P td) → Fvw σ σ1 I I1 X X1 o 2 (fun _ => False) → V pp l ee (Rm 6 35 3765) ss mm args below meth kc D cy A (QM below args ss D cy A (fun v' σ' I' X' => (∃ t, v' = some (.ref t) ∧ shR σ' o 2 = some t) ∧ Prp 2 σ σ' I I' X X' o C P) noX 35 3765) 1 cl sl σ1 I1 X1 18 [(0, .ref o)] [] := by
    intro cl sl σ1 I1 X1 td E hcl hsl o1 hT h11 hGt hGa hdj a1 a2 b1 b2 hs hP hFv
    refine V.eqI (put_eta b1).symm ?_
    refine V.eqX (put_eta b2).symm ?_
    refine V.aload_n hF dX4_copyToTrial_18 rfl ?_
    refine V.getR hF dX4_copyToTrial_19 fl_X4_23 o1.1 o1.2 rfl hT ?_
    refine V.aload_n hF dX4_copyToTrial_22 rfl ?_
    refine V.getR hF dX4_copyToTrial_23 fl_X4_19 o1.1 o1.2 rfl h11 ?_
    refine V.vV hF dX4_copyToTrial_26 (ct_X0_copyFrom hst σ1 I1 X1 td hGt E ad hGa hdj C a1 a2) lk_X4_287 sl_X0_copyFrom hGt.g.1 hGt.g.2 rfl (Nat.le_of_ble_eq_true rfl) ⟨(Nat.le_of_ble_eq_true rfl), (Nat.le_of_ble_eq_true rfl), by show cl + 0 ≤ 35; omega, by show sl + 0 ≤ 3765; omega⟩ (Nat.le_of_ble_eq_true rfl) rfl ?_
    refine V.aload_n hF dX4_copyToTrial_29 rfl ?_
    refine V.getR hF dX4_copyToTrial_30 fl_X4_23 o1.1 o1.2 rfl hT ?_
    refine V.aret hF (Or.inl ⟨_, rfl⟩) dX4_copyToTrial_33 (by omega) (by omega) ?_
    exact ⟨⟨_, rfl, hT⟩, prp_end hFv hT hGt hs hP⟩
  refine V.aload_n hF dX4_copyToTrial_0 rfl ?_
  rcases ht with ht | ⟨td, E, ⟨ht1, ht2, ht3⟩, ⟨ht4, ht5⟩, ht6, ht7⟩
  · refine V.getRN hF dX4_copyToTrial_1 fl_X4_23 hO.1 hO.2 rfl ht ?_
    refine V.ifnonnullN hF dX4_copyToTrial_4 ?_
    refine V.aload_n hF dX4_copyToTrial_7 rfl ?_
    refine V.new hF dX4_copyToTrial_8 kl_X4_16 (Nat.le_of_ble_eq_true rfl) (Nat.le_of_ble_eq_true rfl) (fun q hq => ?_)
    refine V.dup hF dX4_copyToTrial_11 rfl ?_
    refine V.callI hF dX4_copyToTrial_12 (ct_X0_init hst _ _ _ q mem_new kind_new) lk_X4_18 rfl ⟨_, _, rfl⟩ (fit_of rfl) (Nat.le_of_ble_eq_true rfl) (fun _ _ _ _ h => h.elim) (fun v2 s2 I2 X2 h => ?_) rfl
    obtain ⟨rfl, td, E, hN⟩ := h
    obtain ⟨p1, p2, p3, p4, p5, p6, p7, p8, p9⟩ := prp_new (k0 := 2) hO hG hq hN
    refine V.putRv (r := some q) hF dX4_copyToTrial_15 fl_X4_23 rfl (Or.inl rfl) (Or.inl ⟨_, rfl⟩) p1.1 p1.2 rfl ?_
    exact K18 _ _ _ _ _ td E (Nat.le_of_ble_eq_true rfl) (Nat.le_of_ble_eq_true rfl) p1 p8 ((p9 1 (by decide)).trans h1) p2 p3 p5 (fun k hk => ((p7.2.2 _ (hG.mem (mem_a hk)) id).1).trans (hCI k hk)) (fun k hk => ((p7.2.2 _ (hG.mem (mem_b hk)) id).2).trans (hCX k hk)) hN.2.1.1 hN.2.1.2 p6 (Or.inl p4) p7
  · refine V.getR hF dX4_copyToTrial_1 fl_X4_23 hO.1 hO.2 rfl ht1 ?_
    refine V.ifnonnull (tgt := 18) hF dX4_copyToTrial_4 (by decide) ?_
    exact K18 _ _ _ _ _ td E (Nat.le_of_ble_eq_true rfl) (Nat.le_of_ble_eq_true rfl) hO ht1 h1 ht2 hG ht3 hCI hCX ht4 ht5 ht6 (Or.inr ht7) Fvw.refl
set_option maxRecDepth 20000 in
theorem ct_X4_saveSnapshot (hst : l.stackTraces = false) (σ : SH) (I X : IX) (o : Nat) (ad : Nat → Nat) (hO : o ∈ shL σ ∧ shK σ o = 4) (h1 : shR σ o 1 = some (ad 100)) (hG : GS σ ad) (C : IX) (hCI : ∀ k, k ∈ idI → I (ad k) = C k) (hCX : ∀ k, k ∈ idX → X (ad k) = C k) (P : (Nat → Nat) → Prop) (ht : Prq 3 σ I X o ad P) : Ct l D cy sa sv yX4_saveSnapshot cX4_saveSnapshot 1 (some .int) 6 35 3765 [.ref o] σ I X (fun v' σ' I' X' => v' = some (.int (C 2 6)) ∧ Prp 3 σ σ' I I' X X' o C P) noX := by
  refine Ct.of (by decide) hst (Nat.le_of_ble_eq_true rfl) ?_
  intro pp ee ss mm args below meth kc A hF hnm hout
  have K18 : ∀ (cl sl : Nat) (σ1 : SH) (I1 X1 : IX) (td : Nat → Nat) (E : IX), cl ≤ 35 → sl ≤ 3765 → (o ∈ shL σ1 ∧ shK σ1 o = 4) → shR σ1 o 3 = some (td 100) → shR σ1 o 1 = some (ad 100) → GS σ1 td → GS σ1 ad → (∀ i j, i ∈ idI ++ idX → j ∈ idI ++ idX → ad j ≠ td i) → (∀ k, k ∈ idI → I1 (ad k) = C k) → (∀ k, k ∈ idX → X1 (ad k) = C k) → (∀ k, k ∈ idI → I1 (td k) = E k) → (∀ k, k ∈ idX → X1 (td k) = E k) → (∀ p, p < 6 → E (10 + p) 0 = nI p) → ((∀ k, k ∈ idI ++ idX → td k ∉ shL σ) ∨ P td) → Fvw σ σ1 I I1 X X1 o 3 (fun _ => False) → V pp l ee (Rm 6 35 3765) ss mm args below meth kc D cy A (QM below args ss D cy A (fun v' σ' I' X' => v' = some (.int (C 2 6)) ∧ Prp 3 σ σ' I I' X X' o C P) noX 35 3765) 1 cl sl σ1 I1 X1 18 [(0, .ref o)] [] := by
    intro cl sl σ1 I1 X1 td E hcl hsl o1 hT h11 hGt hGa hdj a1 a2 b1 b2 hs hP hFv
    refine V.eqI (put_eta b1).symm ?_
    refine V.eqX (put_eta b2).symm ?_
    refine V.aload_n hF dX4_saveSnapshot_18 rfl ?_
    refine V.getR hF dX4_saveSnapshot_19 fl_X4_26 o1.1 o1.2 rfl hT ?_
    refine V.aload_n hF dX4_saveSnapshot_22 rfl ?_
    refine V.getR hF dX4_saveSnapshot_23 fl_X4_19 o1.1 o1.2 rfl h11 ?_
    refine V.vV hF dX4_saveSnapshot_26 (ct_X0_copyFrom hst σ1 I1 X1 td hGt E ad hGa hdj C a1 a2) lk_X4_287 sl_X0_copyFrom hGt.g.1 hGt.g.2 rfl (Nat.le_of_ble_eq_true rfl) ⟨(Nat.le_of_ble_eq_true rfl), (Nat.le_of_ble_eq_true rfl), by show cl + 0 ≤ 35; omega, by show sl + 0 ≤ 3765; omega⟩ (Nat.le_of_ble_eq_true rfl) rfl ?_
    refine V.aload_n hF dX4_saveSnapshot_29 rfl ?_
    refine V.getR hF dX4_saveSnapshot_30 fl_X4_19 o1.1 o1.2 rfl h11 ?_
    refine V.getR hF dX4_saveSnapshot_33 fl_X4_40 hGa.g.1 hGa.g.2 rfl hGa.r2 ?_
    refine V.getIF hF dX4_saveSnapshot_36 fl_X4_44 hGa.m.1 hGa.m.2 rfl ((put_off (fun k hk e => hdj k 2 (mem_a hk) (by decide) e.symm)).trans (a1 2 (by decide))) ?_
    refine V.iret hF dX4_saveSnapshot_39 (by omega) (by omega) ?_
    exact ⟨rfl, prp_end hFv hT hGt hs hP⟩
  refine V.aload_n hF dX4_saveSnapshot_0 rfl ?_
  rcases ht with ht | ⟨td, E, ⟨ht1, ht2, ht3⟩, ⟨ht4, ht5⟩, ht6, ht7⟩
  · refine V.getRN hF dX4_saveSnapshot_1 fl_X4_26 hO.1 hO.2 rfl ht ?_
    refine V.ifnonnullN hF dX4_saveSnapshot_4 ?_
    refine V.aload_n hF dX4_saveSnapshot_7 rfl ?_
    refine V.new hF dX4_saveSnapshot_8 kl_X4_16 (Nat.le_of_ble_eq_true rfl) (Nat.le_of_ble_eq_true rfl) (fun q hq => ?_)
    refine V.dup hF dX4_saveSnapshot_11 rfl ?_
    refine V.callI hF dX4_saveSnapshot_12 (ct_X0_init hst _ _ _ q mem_new kind_new) lk_X4_18 rfl ⟨_, _, rfl⟩ (fit_of rfl) (Nat.le_of_ble_eq_true rfl) (fun _ _ _ _ h => h.elim) (fun v2 s2 I2 X2 h => ?_) rfl
    obtain ⟨rfl, td, E, hN⟩ := h
    obtain ⟨p1, p2, p3, p4, p5, p6, p7, p8, p9⟩ := prp_new (k0 := 3) hO hG hq hN
    refine V.putRv (r := some q) hF dX4_saveSnapshot_15 fl_X4_26 rfl (Or.inl rfl) (Or.inl ⟨_, rfl⟩) p1.1 p1.2 rfl ?_
    exact K18 _ _ _ _ _ td E (Nat.le_of_ble_eq_true rfl) (Nat.le_of_ble_eq_true rfl) p1 p8 ((p9 1 (by decide)).trans h1) p2 p3 p5 (fun k hk => ((p7.2.2 _ (hG.mem (mem_a hk)) id).1).trans (hCI k hk)) (fun k hk => ((p7.2.2 _ (hG.mem (mem_b hk)) id).2).trans (hCX k hk)) hN.2.1.1 hN.2.1.2 p6 (Or.inl p4) p7
  · refine V.getR hF dX4_saveSnapshot_1 fl_X4_26 hO.1 hO.2 rfl ht1 ?_
    refine V.ifnonnull (tgt := 18) hF dX4_saveSnapshot_4 (by decide) ?_
    exact K18 _ _ _ _ _ td E (Nat.le_of_ble_eq_true rfl) (Nat.le_of_ble_eq_true rfl) hO ht1 h1 ht2 hG ht3 hCI hCX ht4 ht5 ht6 (Or.inr ht7) Fvw.refl
set_option maxRecDepth 20000 in
theorem ct_X4_restoreSnapshot_0 (hst : l.stackTraces = false) (σ : SH) (I X : IX) (o : Nat) (ad : Nat → Nat) (hO : o ∈ shL σ ∧ shK σ o = 4) (h1 : shR σ o 1 = some (ad 100)) (hG : GS σ ad) (C : IX) (h3 : shR σ o 3 = none) : Ct l D cy sa sv yX4_restoreSnapshot cX4_restoreSnapshot 1 (some .int) 7 1 6 [.ref o] σ (put idI I ad C) (put idX X ad C) (pT (nI 1) (pR (some (.int (nI 0))) σ (put idI I ad C) (put idX X ad C))) (xT (nI 1) [eISE] σ (put idI I ad C) (put idX X ad C)) := by
  refine Ct.of (by decide) hst (Nat.le_of_ble_eq_true rfl) ?_
  intro pp ee ss mm args below meth kc A hF hnm hout
  refine V.aload_n hF dX4_restoreSnapshot_0 rfl ?_
  refine V.getRN hF dX4_restoreSnapshot_1 fl_X4_26 hO.1 hO.2 rfl h3 ?_
  refine V.ifnonnullN hF dX4_restoreSnapshot_4 ?_
  exact V.throwSW hF xw_ISE 16 rfl dX4_restoreSnapshot_7 dX4_restoreSnapshot_10 dX4_restoreSnapshot_11 dX4_restoreSnapshot_14 dX4_restoreSnapshot_17 hout (Nat.le_of_ble_eq_true rfl) (Nat.le_of_ble_eq_true rfl) (Nat.le_of_ble_eq_true rfl) (Nat.le_of_ble_eq_true rfl) (Nat.le_of_ble_eq_true rfl) (Nat.le_of_ble_eq_true rfl) ⟨⟨0, rfl, rfl⟩, rfl, rfl, rfl⟩
set_option maxRecDepth 20000 in
theorem ct_X4_restoreSnapshot_1 (hst : l.stackTraces = false) (σ : SH) (I X : IX) (o : Nat) (ad : Nat → Nat) (hO : o ∈ shL σ ∧ shK σ o = 4) (h1 : shR σ o 1 = some (ad 100)) (hG : GS σ ad) (C : IX) (sd : Nat → Nat) (E : IX) (h3 : shR σ o 3 = some (sd 100)) (hGs : GS σ sd) (hdj : ∀ i j, i ∈ idI ++ idX → j ∈ idI ++ idX → sd j ≠ ad i) (b1 : ∀ k, k ∈ idI → I (sd k) = E k) (b2 : ∀ k, k ∈ idX → X (sd k) = E k) : Ct l D cy sa sv yX4_restoreSnapshot cX4_restoreSnapshot 1 (some .int) 7 1 6 [.ref o] σ (put idI I ad C) (put idX X ad C) (pT (nI 0) (pR (some (.int (ygc C E 2 6))) σ (put idI I ad (ygc C E)) (put idX X ad (ygc C E)))) (xT (nI 0) [eISE] σ (put idI I ad C) (put idX X ad C)) := by
  refine Ct.of (by decide) hst (Nat.le_of_ble_eq_true rfl) ?_
  intro pp ee ss mm args below meth kc A hF hnm hout
  refine V.aload_n hF dX4_restoreSnapshot_0 rfl ?_
  refine V.getR hF dX4_restoreSnapshot_1 fl_X4_26 hO.1 hO.2 rfl h3 ?_
  refine V.ifnonnull (tgt := 18) hF dX4_restoreSnapshot_4 (by decide) ?_
  refine V.aload_n hF dX4_restoreSnapshot_18 rfl ?_
  refine V.getR hF dX4_restoreSnapshot_19 fl_X4_19 hO.1 hO.2 rfl h1 ?_
  refine V.aload_n hF dX4_restoreSnapshot_22 rfl ?_
  refine V.getR hF dX4_restoreSnapshot_23 fl_X4_26 hO.1 hO.2 rfl h3 ?_
  refine V.vV hF dX4_restoreSnapshot_26 (ct_X0_copyFrom hst σ I X ad hG C sd hGs hdj E b1 b2) lk_X4_287 sl_X0_copyFrom hG.g.1 hG.g.2 rfl (Nat.le_of_ble_eq_true rfl) (fit_of rfl) (Nat.le_of_ble_eq_true rfl) rfl ?_
  refine V.aload_n hF dX4_restoreSnapshot_29 rfl ?_
  refine V.getR hF dX4_restoreSnapshot_30 fl_X4_19 hO.1 hO.2 rfl h1 ?_
  refine V.getRP (i := 2) hF dX4_restoreSnapshot_33 fl_X4_40 hG.g rfl hG.r2 ?_
  refine V.getIP hF dX4_restoreSnapshot_36 fl_X4_44 hG.m rfl hG (by decide) ?_
  refine V.iret hF dX4_restoreSnapshot_39 (Nat.le_of_ble_eq_true rfl) (Nat.le_of_ble_eq_true rfl) ?_
  exact ⟨rfl, pR.i rfl⟩
theorem lw_L_restoreSnapshot : LkW RL 275 yL_restoreSnapshot cL_restoreSnapshot 3 (some .int) [(0, 8, 11, 26)] 2 := ⟨gw 1138 (by decide +kernel) (by decide +kernel), gw 1139 (by decide +kernel) (by decide +kernel), gw 52 (by decide +kernel) (by decide +kernel), gw 1140 (by decide +kernel) (by decide +kernel), by decide +kernel⟩
set_option maxRecDepth 20000 in
theorem ct_L_restoreSnapshot_0 (hst : l.stackTraces = false) (σ : SH) (I X : IX) (o : Nat) (ad : Nat → Nat) (hO : o ∈ shL σ ∧ shK σ o = 4) (h1 : shR σ o 1 = some (ad 100)) (hG : GS σ ad) (C : IX) (h3 : shR σ o 3 = none) (out : Nat) (hm : out ∈ shL σ) (hk : shK σ out = 13) (hn : shN σ out = 1) : CtW l D cy sa sv yL_restoreSnapshot cL_restoreSnapshot 3 (some .int) [(0, 8, 11, 26)] 8 1 6 [.ref o, .ref out] σ (put idI I ad C) (put idX X ad C) (fun r σ' I' X' => r = some (.int (nI 1)) ∧ ∃ g : Nat → Int64, σ' = shSetJ σ out g ∧ I' = put idI I ad C ∧ X' = put idX X ad C) := by
  refine CtW.of (by decide) hst (Nat.le_of_ble_eq_true rfl) ?_
  intro pp ee ss mm args below meth kc A hF htb hnc
  refine V.aload_n hF dL_restoreSnapshot_0 rfl ?_
  refine V.iconst (v := nI 0) hF dL_restoreSnapshot_1 (by decide) ?_
  refine V.aload_n hF dL_restoreSnapshot_2 rfl ?_
  refine V.callV hF dL_restoreSnapshot_3 (ct_X4_restoreSnapshot_0 hst σ I X o ad hO h1 hG C h3) lk_L_132 sl_X4_restoreSnapshot ⟨_, _, rfl, hO.1, hO.2, (Nat.le_of_ble_eq_true rfl), _, _, rfl⟩ (fit_of rfl) (Nat.le_of_ble_eq_true rfl) (fun E s2 I2 X2 hx => ?_) (fun r s2 I2 X2 hx => ?_) rfl
  · obtain ⟨⟨j, hj, hT⟩, e1, e2, e3⟩ := hx
    rw [e1, e2, e3]
    match j, hj, hT with
    | 0, hj, hT =>
      have hE := Option.some.inj hj
      rw [← hE]
      refine VX.catch hF [] (0, 8, 11, 26) [] htb (fun z hz => absurd hz List.not_mem_nil) (by decide) (by decide) lc_26 cc_ISE (fun q => ?_)
      refine V.astore_n hF dL_restoreSnapshot_11 (by decide) ?_
      refine V.iconst (v := nI 1) hF dL_restoreSnapshot_12 (by decide) ?_
      refine V.iret hF dL_restoreSnapshot_13 (Nat.le_of_ble_eq_true rfl) (Nat.le_of_ble_eq_true rfl) ?_
      exact ⟨congrArg (fun t => some (Value.int t)) hT.symm, shJ σ out, (shSetJ_eta _ _).symm, rfl, rfl⟩
    | j + 1, hj, hT => exact absurd hj (by simp)
  · obtain ⟨hT, e0, e1, e2, e3⟩ := hx
    rw [e0, e1, e2, e3]
    refine V.i2l hF dL_restoreSnapshot_6 ?_
    refine V.lastore (j := 0) hF dL_restoreSnapshot_7 hm hk rfl (by rw [hn]; exact lt_of rfl) (by rw [hn]; exact lt_of rfl) ?_
    refine V.goto (tgt := 14) hF dL_restoreSnapshot_8 (by decide) ?_
    refine V.iconst (v := nI 0) hF dL_restoreSnapshot_14 (by decide) ?_
    refine V.iret hF dL_restoreSnapshot_15 (Nat.le_of_ble_eq_true rfl) (Nat.le_of_ble_eq_true rfl) ?_
    exact absurd hT (by decide)
set_option maxRecDepth 20000 in
theorem ct_L_restoreSnapshot_1 (hst : l.stackTraces = false) (σ : SH) (I X : IX) (o : Nat) (ad : Nat → Nat) (hO : o ∈ shL σ ∧ shK σ o = 4) (h1 : shR σ o 1 = some (ad 100)) (hG : GS σ ad) (C : IX) (sd : Nat → Nat) (E : IX) (h3 : shR σ o 3 = some (sd 100)) (hGs : GS σ sd) (hdj : ∀ i j, i ∈ idI ++ idX → j ∈ idI ++ idX → sd j ≠ ad i) (b1 : ∀ k, k ∈ idI → I (sd k) = E k) (b2 : ∀ k, k ∈ idX → X (sd k) = E k) (out : Nat) (hm : out ∈ shL σ) (hk : shK σ out = 13) (hn : shN σ out = 1) : CtW l D cy sa sv yL_restoreSnapshot cL_restoreSnapshot 3 (some .int) [(0, 8, 11, 26)] 8 1 6 [.ref o, .ref out] σ (put idI I ad C) (put idX X ad C) (fun r σ' I' X' => r = some (.int (nI 0)) ∧ ∃ g : Nat → Int64, σ' = shSetJ σ out g ∧ I' = put idI I ad (ygc C E) ∧ X' = put idX X ad (ygc C E) ∧ g 0 = (ygc C E 2 6).toInt64) := by
  refine CtW.of (by decide) hst (Nat.le_of_ble_eq_true rfl) ?_
  intro pp ee ss mm args below meth kc A hF htb hnc
  refine V.aload_n hF dL_restoreSnapshot_0 rfl ?_
  refine V.iconst (v := nI 0) hF dL_restoreSnapshot_1 (by decide) ?_
  refine V.aload_n hF dL_restoreSnapshot_2 rfl ?_
  refine V.callV hF dL_restoreSnapshot_3 (ct_X4_restoreSnapshot_1 hst σ I X o ad hO h1 hG C sd E h3 hGs hdj b1 b2) lk_L_132 sl_X4_restoreSnapshot ⟨_, _, rfl, hO.1, hO.2, (Nat.le_of_ble_eq_true rfl), _, _, rfl⟩ (fit_of rfl) (Nat.le_of_ble_eq_true rfl) (fun E s2 I2 X2 hx => ?_) (fun r s2 I2 X2 hx => ?_) rfl
  · obtain ⟨⟨j, hj, hT⟩, e1, e2, e3⟩ := hx
    rw [e1, e2, e3]
    match j, hj, hT with
    | 0, hj, hT =>
      have hE := Option.some.inj hj
      rw [← hE]
      refine VX.catch hF [] (0, 8, 11, 26) [] htb (fun z hz => absurd hz List.not_mem_nil) (by decide) (by decide) lc_26 cc_ISE (fun q => ?_)
      refine V.astore_n hF dL_restoreSnapshot_11 (by decide) ?_
      refine V.iconst (v := nI 1) hF dL_restoreSnapshot_12 (by decide) ?_
      refine V.iret hF dL_restoreSnapshot_13 (Nat.le_of_ble_eq_true rfl) (Nat.le_of_ble_eq_true rfl) ?_
      exact absurd hT (by decide)
    | j + 1, hj, hT => exact absurd hj (by simp)
  · obtain ⟨hT, e0, e1, e2, e3⟩ := hx
    rw [e0, e1, e2, e3]
    refine V.i2l hF dL_restoreSnapshot_6 ?_
    refine V.lastore (j := 0) hF dL_restoreSnapshot_7 hm hk rfl (by rw [hn]; exact lt_of rfl) (by rw [hn]; exact lt_of rfl) ?_
    refine V.goto (tgt := 14) hF dL_restoreSnapshot_8 (by decide) ?_
    refine V.iconst (v := nI 0) hF dL_restoreSnapshot_14 (by decide) ?_
    refine V.iret hF dL_restoreSnapshot_15 (Nat.le_of_ble_eq_true rfl) (Nat.le_of_ble_eq_true rfl) ?_
    exact ⟨rfl, _, rfl, rfl, rfl, upl0⟩
end Sn
