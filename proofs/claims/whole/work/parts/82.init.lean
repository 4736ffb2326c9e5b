/-! the object of the class, made -/
def NwX (σ σ' : SH) (I I' X X' : IX) (o so : Nat) (ta ad : Nat → Nat) (C : IX) : Prop :=
  ((o ∈ shL σ' ∧ shK σ' o = 4) ∧ shR σ' o 0 = some so ∧ shR σ' o 1 = some (ad 100) ∧ shR σ' o 2 = none ∧ shR σ' o 3 = none) ∧ (SS σ' so ta ∧ GS σ' ad) ∧
  (so ∉ shL σ ∧ (∀ j, j ∈ [0, 2, 3, 4] → ta j ∉ shL σ) ∧ (∀ k, k ∈ idI ++ idX → ad k ∉ shL σ) ∧ ∀ j k, j ∈ [0, 2, 3, 4] → k ∈ idI ++ idX → ta j ≠ ad k) ∧
  ((∀ k, k ∈ idI → I' (ad k) = C k) ∧ (∀ k, k ∈ idX → X' (ad k) = C k) ∧ ∃ C0 : IX, PreG C0 ∧ C = ysn C0 (nI 3)) ∧ (I' so 1 = nI 0 ∧ I' o 4 = -1) ∧ Gw σ σ' I I' X X' (fun b => b = o)
def TA (q0 q1 q2 q3 : Nat) : Nat → Nat := fun j => if j = 0 then q0 else if j = 2 then q1 else if j = 3 then q2 else q3
theorem ix4 : ∀ j, j ∈ [0, 2, 3, 4] → j = 0 ∨ j = 2 ∨ j = 3 ∨ j = 4 := by decide
/-- a Script, made -/
theorem scr_new {σ : SH} {I X : IX} {q q0 q1 q2 q3 : Nat} (hq : q ∉ shL σ) (hf : Fr q (shAdd σ q 3 0) [(q0, 10, 60, 0), (q1, 10, 30, 2), (q2, 11, 30, 3), (q3, 11, 30, 4)]) (f : Nat → Int32) :
    SS (mkS q (shAdd σ q 3 0) [(q0, 10, 60, 0), (q1, 10, 30, 2), (q2, 11, 30, 3), (q3, 11, 30, 4)]) q (TA q0 q1 q2 q3) ∧ (∀ j, j ∈ [0, 2, 3, 4] → TA q0 q1 q2 q3 j ∉ shL σ) ∧
    Gw σ (mkS q (shAdd σ q 3 0) [(q0, 10, 60, 0), (q1, 10, 30, 2), (q2, 11, 30, 3), (q3, 11, 30, 4)]) I (va_up (va_up I q (fun _ => 0)) q f) X (mkX X [(q0, 10, 60, 0), (q1, 10, 30, 2), (q2, 11, 30, 3), (q3, 11, 30, 4)]) (fun _ => False) := by
  have hm : q ∈ shL (shAdd σ q 3 0) := mem_new
  obtain ⟨h1, h2, h3, h4, h5, h6⟩ := mkS_spec hf hm
  have h4 := h4 (show ([0, 2, 3, 4] : List Nat).Nodup by decide)
  have w0 := h4 (q0, 10, 60, 0) (List.mem_cons_self)
  have w1 := h4 (q1, 10, 30, 2) (List.mem_cons_of_mem _ List.mem_cons_self)
  have w2 := h4 (q2, 11, 30, 3) (List.mem_cons_of_mem _ (List.mem_cons_of_mem _ List.mem_cons_self))
  have w3 := h4 (q3, 11, 30, 4) (List.mem_cons_of_mem _ (List.mem_cons_of_mem _ (List.mem_cons_of_mem _ List.mem_cons_self)))
  have hd : ([q0, q1, q2, q3] : List Nat).Nodup := h5
  simp only [List.nodup_cons, List.mem_cons, List.not_mem_nil, not_or, or_false] at hd
  obtain ⟨⟨d1, d2, d3⟩, ⟨d4, d5⟩, d6, -⟩ := hd
  have hk := h1.1 q hm
  refine ⟨⟨⟨hk.1, hk.2.1.trans kind_new⟩, ⟨w0.2.2.2.2, w0.2.1, w0.2.2.1, w0.2.2.2.1⟩, ⟨w1.2.2.2.2, w1.2.1, w1.2.2.1, w1.2.2.2.1⟩, ⟨w2.2.2.2.2, w2.2.1, w2.2.2.1, w2.2.2.2.1⟩, ⟨w3.2.2.2.2, w3.2.1, w3.2.2.1, w3.2.2.2.1⟩, fun i j hi hj e => ?_⟩, fun j hj => ?_, ?_⟩
  · have t0 : TA q0 q1 q2 q3 0 = q0 := rfl
    have t2 : TA q0 q1 q2 q3 2 = q1 := rfl
    have t3 : TA q0 q1 q2 q3 3 = q2 := rfl
    have t4 : TA q0 q1 q2 q3 4 = q3 := rfl
    rcases ix4 i hi with rfl | rfl | rfl | rfl <;> rcases ix4 j hj with rfl | rfl | rfl | rfl <;> first | rfl | (simp only [t0, t2, t3, t4] at e; exfalso; first | exact d1 e | exact d2 e | exact d3 e | exact d4 e | exact d5 e | exact d6 e | exact d1 e.symm | exact d2 e.symm | exact d3 e.symm | exact d4 e.symm | exact d5 e.symm | exact d6 e.symm)
  · rcases ix4 j hj with rfl | rfl | rfl | rfl
    · exact fun m => w0.1 (mem_add m)
    · exact fun m => w1.1 (mem_add m)
    · exact fun m => w2.1 (mem_add m)
    · exact fun m => w3.1 (mem_add m)
  · exact (((Gw.addI hq).wide (fun _ _ e => e.elim)).trans (mk_gw hf hm _ _ f) (fun _ _ e => e)).nil (fun a ha e => hq (e ▸ ha))
theorem SS.gw {σ σ' : SH} {I I' X X' : IX} {ex : Nat → Prop} {so : Nat} {ta : Nat → Nat} (h : SS σ so ta) (g : Gw σ σ' I I' X X' ex) (hn : ¬ ex so) : SS σ' so ta := by
  have sa : ∀ {k kd n : Nat}, SA σ so ta k kd n → SA σ' so ta k kd n := fun {k kd n} a => ⟨(congrFun (g.2 _ h.1.1 hn).1 k).trans a.1, (g.1 _ a.2.1).1, (g.1 _ a.2.1).2.1.trans a.2.2.1, (g.1 _ a.2.1).2.2.1.trans a.2.2.2⟩
  exact ⟨⟨(g.1 _ h.1.1).1, (g.1 _ h.1.1).2.1.trans h.1.2⟩, sa h.a0, sa h.a2, sa h.a3, sa h.a4, h.2.2.2.2.2⟩
theorem va_up2 {I : IX} {o : Nat} {f g : Nat → Int32} : va_up (va_up I o f) o g = va_up I o g := by
  funext a
  by_cases e : a = o
  · subst e; rw [va_up_self, va_up_self]
  · rw [va_up_ne _ _ e, va_up_ne _ _ e, va_up_ne _ _ e]
/-- the whole object -/
theorem obj_new {σ s2 s5 : SH} {I I2 I5 X X2 X5 : IX} {o q g : Nat} {ta ad : Nat → Nat} {C : IX} (hO : o ∈ shL σ ∧ shK σ o = 4) (hq : q ∉ shL σ) (hS : SS s2 q ta) (ht : ∀ j, j ∈ [0, 2, 3, 4] → ta j ∉ shL σ) (hg2 : Gw σ s2 I I2 X X2 (fun _ => False)) (hi : I2 q 1 = nI 0)
    (hg : g ∉ shL (shSetR s2 o 0 (some q))) (hN : NG (shAdd (shSetR s2 o 0 (some q)) g 0 0) s5 (va_up I2 g (fun _ => 0)) I5 X2 X5 g ad C) :
    (o ∈ shL s5 ∧ shK s5 o = 4) ∧ NwX σ (shSetR (shSetR (shSetR s5 o 1 (some g)) o 2 none) o 3 none) I (va_up I5 o (upd (I5 o) 4 (-1))) X X5 o q ta ad C := by
  obtain ⟨⟨n1, n2, n3⟩, n4, n5, n7⟩ := hN
  have g3 : Gw s2 (shSetR s2 o 0 (some q)) I2 I2 X2 X2 (fun b => b = o) := Gw.setR
  have g5 : Gw (shSetR s2 o 0 (some q)) s5 I2 I5 X2 X5 (fun _ => False) := (((Gw.addI hg).wide (fun _ _ e => e.elim)).trans n7 (fun _ _ e => e)).nil (fun a ha e => hg (e ▸ ha))
  have g25 : Gw s2 s5 I2 I5 X2 X5 (fun b => b = o) := g3.trans g5 (fun _ _ e => e.elim)
  have g05 : Gw σ s5 I I5 X X5 (fun b => b = o) := (hg2.wide (fun _ _ e => e.elim)).trans g25 (fun _ _ e => e)
  have g6 : Gw s5 (shSetR (shSetR (shSetR s5 o 1 (some g)) o 2 none) o 3 none) I5 (va_up I5 o (upd (I5 o) 4 (-1))) X5 X5 (fun b => b = o) := ((Gw.setR.trans Gw.setR (fun _ _ e => e)).trans Gw.setR (fun _ _ e => e)).trans Gw.putI (fun _ _ e => e)
  have o2 := hg2.1 o hO.1
  have o5 := g05.1 o hO.1
  have o6 := g6.1 o o5.1
  have qo : q ≠ o := fun e => hq (e ▸ hO.1)
  have hS5 : SS s5 q ta := hS.gw g25 qo
  have hS6 := hS5.gw g6 qo
  have fr : ∀ k, k ∈ idI ++ idX → ad k ∉ shL (shSetR s2 o 0 (some q)) := fun k hk m => by
    by_cases e : k = 100
    · subst e; rw [n1] at m; exact hg m
    · exact n3 k (List.mem_cons_of_mem _ hk) e (mem_add m)
  have f0 : ∀ k, k ∈ idI ++ idX → ad k ∉ shL σ := fun k hk m => fr k hk (hg2.1 _ m).1
  have ao : ∀ k, k ∈ idI ++ idX → ad k ≠ o := fun k hk e => f0 k hk (e ▸ hO.1)
  have a3o : ad 3 ≠ o := fun e => n3 3 (by decide) (by decide) (by rw [e]; exact mem_add (show o ∈ shL (shSetR s2 o 0 (some q)) from o2.1))
  refine ⟨⟨o5.1, o5.2.1.trans hO.2⟩, ⟨⟨o6.1, o6.2.1.trans (o5.2.1.trans hO.2)⟩, ?_, ?_, ?_, ?_⟩, ⟨hS6, n2.gw g6 (fun k hk => ?_)⟩, ⟨hq, ht, f0, fun j k hj hk e => ?_⟩, ⟨fun k hk => ?_, fun k hk => n4.2 k hk, n5⟩, ⟨?_, ?_⟩, g05.trans g6 (fun _ _ e => e)⟩
  · show va_up (va_up (va_up (shR s5) o (va_up (shR s5 o) 1 (some g))) o (va_up (va_up (shR s5) o (va_up (shR s5 o) 1 (some g)) o) 2 none)) o (va_up (va_up (va_up (shR s5) o (va_up (shR s5 o) 1 (some g))) o (va_up (va_up (shR s5) o (va_up (shR s5 o) 1 (some g)) o) 2 none) o) 3 none) o 0 = _
    rw [va_up_self, va_up_ne _ _ (by decide), va_up_self, va_up_ne _ _ (by decide), va_up_self, va_up_ne _ _ (by decide)]
    rw [congrFun (g5.2 o o2.1 id).1 0]
    show va_up (shR s2) o (va_up (shR s2 o) 0 (some q)) o 0 = _
    rw [va_up_self, va_up_self]
  · show va_up (va_up (va_up (shR s5) o (va_up (shR s5 o) 1 (some g))) o (va_up (va_up (shR s5) o (va_up (shR s5 o) 1 (some g)) o) 2 none)) o (va_up (va_up (va_up (shR s5) o (va_up (shR s5 o) 1 (some g))) o (va_up (va_up (shR s5) o (va_up (shR s5 o) 1 (some g)) o) 2 none) o) 3 none) o 1 = _
    rw [va_up_self, va_up_ne _ _ (by decide), va_up_self, va_up_ne _ _ (by decide), va_up_self, va_up_self, n1]
  · show va_up (va_up (va_up (shR s5) o (va_up (shR s5 o) 1 (some g))) o (va_up (va_up (shR s5) o (va_up (shR s5 o) 1 (some g)) o) 2 none)) o (va_up (va_up (va_up (shR s5) o (va_up (shR s5 o) 1 (some g))) o (va_up (va_up (shR s5) o (va_up (shR s5 o) 1 (some g)) o) 2 none) o) 3 none) o 2 = _
    rw [va_up_self, va_up_ne _ _ (by decide), va_up_self, va_up_self]
  · show va_up (va_up (va_up (shR s5) o (va_up (shR s5 o) 1 (some g))) o (va_up (va_up (shR s5) o (va_up (shR s5 o) 1 (some g)) o) 2 none)) o (va_up (va_up (va_up (shR s5) o (va_up (shR s5 o) 1 (some g))) o (va_up (va_up (shR s5) o (va_up (shR s5 o) 1 (some g)) o) 2 none) o) 3 none) o 3 = _
    rw [va_up_self, va_up_self]
  · rcases hk with rfl | rfl | rfl | ⟨p, hp, rfl⟩
    · exact ao 100 (by decide)
    · exact ao 2 (by decide)
    · exact a3o
    · exact ao _ (mem_a (mem_rp hp))
  · have m2 : ta j ∈ shL s2 := by
      rcases ix4 j hj with rfl | rfl | rfl | rfl
      · exact hS.a0.2.1
      · exact hS.a2.2.1
      · exact hS.a3.2.1
      · exact hS.a4.2.1
    exact fr k hk (e ▸ m2)
  · rw [va_up_ne _ _ (ao k (mem_a hk))]; exact n4.1 k hk
  · rw [va_up_ne _ _ qo]
    exact (congrFun (g25.2 q hS.1.1 qo).2.2.1 1).trans hi
  · rw [va_up_self, upd_at, if_pos rfl]

section In
variable {l : Launch} {D : va_G} {cy sa sv : Nat → Nat}
theorem kf_X4_10 : Cond.fieldLink RX4 10 (TX4 0).1 (TX4 0).2.1 (TX4 0).2.2.1 ∈ GT := gw 247 (by decide +kernel) (by decide +kernel)
set_option maxRecDepth 20000 in
theorem ct_X4_init (hst : l.stackTraces = false) (σ : SH) (I X : IX) (o : Nat) (hm : o ∈ shL σ) (hK : shK σ o = 4) : Ct l D cy sa sv yX4_init cX4_init 1 none 5 40 3923 [.ref o] σ I X (fun v' σ' I' X' => v' = none ∧ ∃ (so : Nat) (ta ad : Nat → Nat) (C : IX), NwX σ σ' I I' X X' o so ta ad C) noX := by
  refine Ct.of (by decide) hst (Nat.le_of_ble_eq_true rfl) ?_
  intro pp ee ss mm args below meth kc A hF hnm hout
  refine V.aload_n hF dX4_init_0 rfl ?_
  refine V.objInit hF dX4_init_1 ol_X4 (Nat.le_of_ble_eq_true rfl) (Nat.le_of_ble_eq_true rfl) ?_
  refine V.aload_n hF dX4_init_4 rfl ?_
  refine V.new hF dX4_init_5 kl_X4_7 (Nat.le_of_ble_eq_true rfl) (Nat.le_of_ble_eq_true rfl) (fun q hq => ?_)
  refine V.dup hF dX4_init_8 rfl ?_
  refine V.callI hF dX4_init_9 (ct_X3_init hst _ _ _ q mem_new kind_new) lk_X4_9 rfl ⟨_, _, rfl⟩ (fit_of rfl) (Nat.le_of_ble_eq_true rfl) (fun _ _ _ _ h => h.elim) (fun v2 s2 I2 X2 h => ?_) rfl
  obtain ⟨rfl, q0, q1, q2, q3, hfr, rfl, hI2, rfl⟩ := h
  rw [va_up2, va_up2, va_up2] at hI2
  obtain ⟨S1, S2, S3⟩ := scr_new (I := I) (X := X) hq hfr _
  rw [← hI2] at S3
  have hi : I2 q 1 = nI 0 := by
    rw [hI2, va_up_self, upd_at, if_neg (by omega), va_up_self, upd_at, if_neg (by omega), va_up_self, upd_at, if_neg (by omega), va_up_self, upd_at, if_pos rfl]
  have o2 := S3.1 o hm
  refine V.putRv (r := some q) hF dX4_init_12 fl_X4_10 rfl (Or.inr ⟨hnm, TX4, 5, rfl, kf_X4_10⟩) (Or.inl ⟨_, rfl⟩) o2.1 (o2.2.1.trans hK) rfl ?_
  refine V.aload_n hF dX4_init_15 rfl ?_
  refine V.new hF dX4_init_16 kl_X4_16 (Nat.le_of_ble_eq_true rfl) (Nat.le_of_ble_eq_true rfl) (fun g hg => ?_)
  refine V.dup hF dX4_init_19 rfl ?_
  refine V.callI hF dX4_init_20 (ct_X0_init hst _ _ _ g mem_new kind_new) lk_X4_18 rfl ⟨_, _, rfl⟩ (fit_of rfl) (Nat.le_of_ble_eq_true rfl) (fun _ _ _ _ h => h.elim) (fun v5 s5 I5 X5 h => ?_) rfl
  obtain ⟨rfl, ad, C, hN⟩ := h
  obtain ⟨o5, hX⟩ := obj_new ⟨hm, hK⟩ hq S1 S2 S3 hi hg hN
  refine V.putRv (r := some g) hF dX4_init_23 fl_X4_19 rfl (Or.inl rfl) (Or.inl ⟨_, rfl⟩) o5.1 o5.2 rfl ?_
  refine V.aload_n hF dX4_init_26 rfl ?_
  refine V.null hF dX4_init_27 ?_
  refine V.putRv (r := none) hF dX4_init_28 fl_X4_23 rfl (Or.inl rfl) (Or.inl ⟨_, rfl⟩) o5.1 o5.2 rfl ?_
  refine V.aload_n hF dX4_init_31 rfl ?_
  refine V.null hF dX4_init_32 ?_
  refine V.putRv (r := none) hF dX4_init_33 fl_X4_26 rfl (Or.inl rfl) (Or.inl ⟨_, rfl⟩) o5.1 o5.2 rfl ?_
  refine V.aload_n hF dX4_init_36 rfl ?_
  refine V.iconst (v := -1) hF dX4_init_37 (by decide) ?_
  refine V.putI hF dX4_init_38 fl_X4_29 o5.1 o5.2 rfl rfl rfl ?_
  refine V.vret hF dX4_init_41 (Nat.le_of_ble_eq_true rfl) (Nat.le_of_ble_eq_true rfl) ?_
  exact ⟨rfl, q, _, ad, C, hX⟩
end In
