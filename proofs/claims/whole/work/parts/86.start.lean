/-! THE LAW'S START -/
def ARr (q0 q1 q2 q3 q4 q5 q6 q7 : Nat) : Nat → Nat := fun j => if j = 1 then q0 else if j = 2 then q1 else if j = 3 then q2 else if j = 5 then q3 else if j = 8 then q4 else if j = 11 then q5 else if j = 12 then q6 else q7
theorem ix8 : ∀ j, j ∈ mIx → j = 1 ∨ j = 2 ∨ j = 3 ∨ j = 5 ∨ j = 8 ∨ j = 11 ∨ j = 12 ∨ j = 13 := by decide
section Stt
variable {σ : SH} {I X : IX} {o so om out dout q0 q1 q2 q3 q4 q5 q6 q7 : Nat} {ta ad : Nat → Nat} {C : IX}
/-- the reference's object, made -/
theorem mdl_new (hq : om ∉ shL σ) (hf : Fr om (shAdd σ om 5 0) [(q0, 11, 4486, 1), (q1, 11, 4486, 2), (q2, 11, 4486, 3), (q3, 11, 60, 5), (q4, 11, 150, 8), (q5, 11, 60, 11), (q6, 11, 60, 12), (q7, 11, 60, 13)]) (f h1 h2 : Nat → Int32) :
    MS (mkS om (shAdd σ om 5 0) [(q0, 11, 4486, 1), (q1, 11, 4486, 2), (q2, 11, 4486, 3), (q3, 11, 60, 5), (q4, 11, 150, 8), (q5, 11, 60, 11), (q6, 11, 60, 12), (q7, 11, 60, 13)]) om (ARr q0 q1 q2 q3 q4 q5 q6 q7) ∧ (∀ j, j ∈ mIx → ARr q0 q1 q2 q3 q4 q5 q6 q7 j ∉ shL σ) ∧
    Gw σ (mkS om (shAdd σ om 5 0) [(q0, 11, 4486, 1), (q1, 11, 4486, 2), (q2, 11, 4486, 3), (q3, 11, 60, 5), (q4, 11, 150, 8), (q5, 11, 60, 11), (q6, 11, 60, 12), (q7, 11, 60, 13)]) I (va_up (va_up I om (fun _ => 0)) om f) X (va_up (va_up (mkX X [(q0, 11, 4486, 1), (q1, 11, 4486, 2), (q2, 11, 4486, 3), (q3, 11, 60, 5), (q4, 11, 150, 8), (q5, 11, 60, 11), (q6, 11, 60, 12), (q7, 11, 60, 13)]) q0 h1) q0 h2) (fun _ => False) ∧ mkX X [(q0, 11, 4486, 1), (q1, 11, 4486, 2), (q2, 11, 4486, 3), (q3, 11, 60, 5), (q4, 11, 150, 8), (q5, 11, 60, 11), (q6, 11, 60, 12), (q7, 11, 60, 13)] q0 = fun _ => 0 := by
  have hm : om ∈ shL (shAdd σ om 5 0) := mem_new
  obtain ⟨s1, s2, s3, s4, s5, s6⟩ := mkS_spec hf hm
  have s4 := s4 (show ([1, 2, 3, 5, 8, 11, 12, 13] : List Nat).Nodup by decide)
  have w0 := s4 (q0, 11, 4486, 1) (by simp)
  have w1 := s4 (q1, 11, 4486, 2) (by simp)
  have w2 := s4 (q2, 11, 4486, 3) (by simp)
  have w3 := s4 (q3, 11, 60, 5) (by simp)
  have w4 := s4 (q4, 11, 150, 8) (by simp)
  have w5 := s4 (q5, 11, 60, 11) (by simp)
  have w6 := s4 (q6, 11, 60, 12) (by simp)
  have w7 := s4 (q7, 11, 60, 13) (by simp)
  have hd : ([q0, q1, q2, q3, q4, q5, q6, q7] : List Nat).Nodup := s5
  have hk := s1.1 om hm
  have gt : ∀ j, j ∈ mIx → ARr q0 q1 q2 q3 q4 q5 q6 q7 j = ([q0, q1, q2, q3, q4, q5, q6, q7] : List Nat).getD (if j = 1 then 0 else if j = 2 then 1 else if j = 3 then 2 else if j = 5 then 3 else if j = 8 then 4 else if j = 11 then 5 else if j = 12 then 6 else 7) 0 := fun j hj => by
    rcases ix8 j hj with rfl | rfl | rfl | rfl | rfl | rfl | rfl | rfl <;> rfl
  have pin : ∀ i ∈ mIx, ∀ j ∈ mIx, (if i = 1 then 0 else if i = 2 then 1 else if i = 3 then 2 else if i = 5 then 3 else if i = 8 then 4 else if i = 11 then 5 else if i = 12 then 6 else 7) = (if j = 1 then 0 else if j = 2 then 1 else if j = 3 then 2 else if j = 5 then 3 else if j = 8 then 4 else if j = 11 then 5 else if j = 12 then 6 else 7) → i = j := by decide
  have pl : ∀ i ∈ mIx, (if i = 1 then 0 else if i = 2 then 1 else if i = 3 then 2 else if i = 5 then 3 else if i = 8 then 4 else if i = 11 then 5 else if i = 12 then 6 else 7) < 8 := by decide
  refine ⟨⟨⟨hk.1, hk.2.1.trans kind_new⟩, ⟨w0.2.2.2.2, w0.2.1, w0.2.2.1, w0.2.2.2.1⟩, ⟨w1.2.2.2.2, w1.2.1, w1.2.2.1, w1.2.2.2.1⟩, ⟨w2.2.2.2.2, w2.2.1, w2.2.2.1, w2.2.2.2.1⟩, ⟨w3.2.2.2.2, w3.2.1, w3.2.2.1, w3.2.2.2.1⟩, ⟨w4.2.2.2.2, w4.2.1, w4.2.2.1, w4.2.2.2.1⟩, ⟨w5.2.2.2.2, w5.2.1, w5.2.2.1, w5.2.2.2.1⟩, ⟨w6.2.2.2.2, w6.2.1, w6.2.2.1, w6.2.2.2.1⟩, ⟨w7.2.2.2.2, w7.2.1, w7.2.2.1, w7.2.2.2.1⟩, fun i j hi hj e => ?_⟩, fun j hj => ?_, ?_, mkX_in (Or.inl (by simp))⟩
  · have hi' : i ∈ mIx := hi
    have hj' : j ∈ mIx := hj
    rw [gt i hi', gt j hj'] at e
    have li := pl i hi'
    have lj := pl j hj'
    refine pin i hi' j hj' ?_
    generalize (if i = 1 then 0 else if i = 2 then 1 else if i = 3 then 2 else if i = 5 then 3 else if i = 8 then 4 else if i = 11 then 5 else if i = 12 then 6 else 7) = a at e li ⊢
    generalize (if j = 1 then 0 else if j = 2 then 1 else if j = 3 then 2 else if j = 5 then 3 else if j = 8 then 4 else if j = 11 then 5 else if j = 12 then 6 else 7) = b at e lj ⊢
    simp only [List.getD_eq_getElem?_getD, List.getElem?_eq_getElem (show a < [q0, q1, q2, q3, q4, q5, q6, q7].length from li), List.getElem?_eq_getElem (show b < [q0, q1, q2, q3, q4, q5, q6, q7].length from lj), Option.getD_some] at e
    rcases Nat.lt_trichotomy a b with q | q | q
    · exact absurd e (List.pairwise_iff_getElem.mp hd _ _ _ _ q)
    · exact q
    · exact absurd e.symm (List.pairwise_iff_getElem.mp hd _ _ _ _ q)
  · rcases ix8 j hj with rfl | rfl | rfl | rfl | rfl | rfl | rfl | rfl
    · exact fun m => w0.1 (mem_add m)
    · exact fun m => w1.1 (mem_add m)
    · exact fun m => w2.1 (mem_add m)
    · exact fun m => w3.1 (mem_add m)
    · exact fun m => w4.1 (mem_add m)
    · exact fun m => w5.1 (mem_add m)
    · exact fun m => w6.1 (mem_add m)
    · exact fun m => w7.1 (mem_add m)
  · have g1 := (((Gw.addI (X := X) (I := I) (f := fun _ => 0) hq).wide (ex' := fun b => b = om ∨ b = q0) (fun _ _ e => e.elim)).trans (mk_gw hf hm _ _ f) (fun _ _ e => Or.inl e))
    have g2 := (g1.trans (Gw.putX (f := h1)) (fun _ _ e => Or.inr e)).trans (Gw.putX (f := h2)) (fun _ _ e => Or.inr e)
    exact g2.nil (fun a ha e => e.elim (fun e => hq (e ▸ ha)) (fun e => w0.1 (mem_add (e ▸ ha))))
theorem lw_new {σ1 σ2 σ4 : SH} {I1 I2 I4 X1 X2 X4 : IX} {ar : Nat → Nat} (hN : NwX σ1 σ2 I1 I2 X1 X2 o so ta ad C) (hM : MS σ4 om ar) (hfr : ∀ j, j ∈ mIx → ar j ∉ shL σ2) (hg : Gw σ2 σ4 I2 I4 X2 X4 (fun _ => False)) (h1 : ∀ j, j < 4486 → X4 (ar 1) j = if j = 43 ∨ j = 0 then nI 3 else nI 0) (h4 : I4 om 4 = bI false) (h6 : I4 om 6 = nI 0) (h7 : I4 om 7 = -1) (ho : out ∉ shL σ4) (hd : dout ∉ shL (shAdd σ4 out 13 1)) :
    LW (shAdd (shAdd σ4 out 13 1) dout 14 1) I4 X4 o so om out dout ta ar := by
  obtain ⟨⟨⟨a1, a2⟩, a3, a4, a5, a6⟩, ⟨a7, a8⟩, ⟨b1, b2, b3, b4⟩, ⟨b5, b6, C0, b7, b8⟩, ⟨b9, b10⟩, b11⟩ := hN
  have g46 : Gw σ4 (shAdd (shAdd σ4 out 13 1) dout 14 1) I4 I4 X4 X4 (fun _ => False) := (Gw.add0 ho).trans (Gw.add0 hd) (fun _ _ e => e)
  have g : Gw σ2 (shAdd (shAdd σ4 out 13 1) dout 14 1) I2 I4 X2 X4 (fun _ => False) := hg.trans g46 (fun _ _ e => e)
  have t4 : ∀ j, j ∈ [0, 2, 3, 4] → ta j ∈ shL σ2 := fun j hj => by
    rcases ix4 j hj with rfl | rfl | rfl | rfl
    · exact a7.a0.2.1
    · exact a7.a2.2.1
    · exact a7.a3.2.1
    · exact a7.a4.2.1
  have ro : ∀ k, shR (shAdd (shAdd σ4 out 13 1) dout 14 1) o k = shR σ2 o k := fun k => congrFun (g.2 o a1 id).1 k
  have oo := g.1 o a1
  have om_n : out ∈ shL (shAdd σ4 out 13 1) := mem_new
  have outK := (Gw.add0 (I := I4) (X := X4) (kd := 14) (n := 1) hd).1 out om_n
  refine ⟨fun a => if a ∈ [ta 0, ta 2, ta 3, ta 4] then 4 else if a ∈ shL σ2 then 0 else 5, ad, C, 0, 0, 1, 2, ⟨⟨oo.1, oo.2.1.trans a2⟩, (ro 0).trans a3, a7.gw g id, hM.gw g46 id, ⟨outK.1, outK.2.1.trans kind_new, outK.2.2.1.trans len_new⟩, ⟨mem_new, kind_new, len_new⟩⟩, ⟨⟨by omega, by omega, by omega, by omega, by omega, by omega⟩, fun j hj => ?_, fun j hj => ?_⟩, (ro 1).trans a4, ⟨a8.gw g (fun _ _ e => e), fun k hk => ?_, fun k hk => ?_, fun k hk => ?_⟩, ?_, Or.inl ((ro 2).trans a5), Or.inl ⟨(ro 3).trans a6, h4⟩, ⟨?_, by omega, h6, fun i hi => absurd hi (Nat.not_lt_zero i)⟩, ⟨?_, Or.inl h7⟩⟩
  · refine if_pos ?_
    rcases ix4 j hj with rfl | rfl | rfl | rfl <;> simp
  · have n2 : ar j ∉ shL σ2 := hfr j hj
    have n4 : ar j ∉ [ta 0, ta 2, ta 3, ta 4] := fun q => by
      simp only [List.mem_cons, List.not_mem_nil, or_false] at q
      rcases q with q | q | q | q
      · exact n2 (q ▸ t4 0 (by decide))
      · exact n2 (q ▸ t4 2 (by decide))
      · exact n2 (q ▸ t4 3 (by decide))
      · exact n2 (q ▸ t4 4 (by decide))
    exact (if_neg n4).trans (if_neg n2)
  · have n4 : ad k ∉ [ta 0, ta 2, ta 3, ta 4] := fun q => by
      simp only [List.mem_cons, List.not_mem_nil, or_false] at q
      rcases q with q | q | q | q
      · exact b4 0 k (by decide) hk q.symm
      · exact b4 2 k (by decide) hk q.symm
      · exact b4 3 k (by decide) hk q.symm
      · exact b4 4 k (by decide) hk q.symm
    exact (if_neg n4).trans (if_pos (a8.mem hk))
  · exact ((g.2 _ (a8.mem (mem_a hk)) id).2.2.1).trans (b5 k hk)
  · exact ((g.2 _ (a8.mem (mem_b hk)) id).2.2.2).trans (b6 k hk)
  · rw [b8]; exact RG_anew b7 (by omega) (by omega) h1
  · rw [(g.2 so a7.1.1 id).2.2.1]; exact b9
  · rw [(g.2 o a1 id).2.2.1, h7]; exact b10
end Stt
section Lst
variable {p : Program} {l : Launch} {e : Env} {R : Room} {s : State} {m : MethodId} {args : Array Value} {below : List Frame} {meth : Method} {c : Code} {D : va_G} {cy sa sv : Nat → Nat} {A : Nat → Prop} {Q : State → Prop} {b L : Nat} {xs : Nat → Int32}
def s00 : SH := ([], fun _ => 0, fun _ _ => none, fun _ => 0, fun _ _ => none, fun _ _ => 0, fun _ _ => 0)
def i00 : IX := fun _ _ => 0
set_option maxRecDepth 20000 in
theorem law_start (hF : Fx p l s m args meth c D cy sa sv A 9 RL cL_law (some .boolean)) (hst : l.stackTraces = false) (hnc : NC s) (hXs : va_X b L xs s s.heap) (hbl : b < s.heap.size) (hbA : ¬ A b) (hL : L ≤ 2048) (hR1 : 20 ≤ R.frames) (hR2 : 10000 ≤ R.locals) (hR3 : 31000 ≤ R.cells) (hR4 : 2600000 ≤ R.slots)
    (E : ∀ (σ : SH) (I X : IX) (cl sl : Nat) (lv : List (Nat × Value)), cl ≤ R.cells → sl ≤ R.slots → V p l e R s m args below meth c D cy A Q 9 cl sl σ I X 2499 lv []) : V p l e R s m args below meth c D cy A Q 9 0 0 s00 i00 i00 0 [(0, .ref b)] [] := by
  refine V.new hF dL_law_0 kl_L_8 (by omega) (by omega) (fun o ho => ?_)
  refine V.dup hF dL_law_3 rfl ?_
  refine V.callI hF dL_law_4 (ct_X4_init hst _ _ _ o mem_new kind_new) lk_L_135 rfl ⟨_, _, rfl⟩ ⟨by omega, by omega, by omega, by omega⟩ (Nat.le_of_ble_eq_true rfl) (fun _ _ _ _ h => h.elim) (fun v2 s2 I2 X2 h => ?_) rfl
  obtain ⟨rfl, so, ta, ad, C, hN⟩ := h
  refine V.astore_n hF dL_law_7 (by decide) ?_
  refine V.new hF dL_law_8 kl_L_136 (by omega) (by omega) (fun om hom => ?_)
  refine V.dup hF dL_law_11 rfl ?_
  refine V.callI hF dL_law_12 (ct_X5_init hst _ _ _ om mem_new kind_new) lk_L_138 rfl ⟨_, _, rfl⟩ ⟨by omega, by omega, by omega, by omega⟩ (Nat.le_of_ble_eq_true rfl) (fun _ _ _ _ h => h.elim) (fun v4 s4 I4 X4 h => ?_) rfl
  obtain ⟨rfl, q0, q1, q2, q3, q4, q5, q6, q7, hfr, rfl, hI4, hX4⟩ := h
  obtain ⟨M1, M2, M3, M4⟩ := mdl_new (I := I2) (X := X2) hom hfr (upd ((va_up I2 om (fun _ => 0)) om) 7 (-1)) (upd (mkX X2 [(q0, 11, 4486, 1), (q1, 11, 4486, 2), (q2, 11, 4486, 3), (q3, 11, 60, 5), (q4, 11, 150, 8), (q5, 11, 60, 11), (q6, 11, 60, 12), (q7, 11, 60, 13)] q0) 0 (nI 3)) (upd (va_up (mkX X2 [(q0, 11, 4486, 1), (q1, 11, 4486, 2), (q2, 11, 4486, 3), (q3, 11, 60, 5), (q4, 11, 150, 8), (q5, 11, 60, 11), (q6, 11, 60, 12), (q7, 11, 60, 13)]) q0 (upd (mkX X2 [(q0, 11, 4486, 1), (q1, 11, 4486, 2), (q2, 11, 4486, 3), (q3, 11, 60, 5), (q4, 11, 150, 8), (q5, 11, 60, 11), (q6, 11, 60, 12), (q7, 11, 60, 13)] q0) 0 (nI 3)) q0) 43 (nI 3))
  rw [← hI4, ← hX4] at M3
  have om4 : ∀ k, k ≠ 7 → I4 om k = 0 := fun k hk => by rw [hI4, va_up_self, upd_at, if_neg hk, va_up_self]
  have om7 : I4 om 7 = -1 := by rw [hI4, va_up_self, upd_at, if_pos rfl]
  have x1 : ∀ j, j < 4486 → X4 (ARr q0 q1 q2 q3 q4 q5 q6 q7 1) j = if j = 43 ∨ j = 0 then nI 3 else nI 0 := fun j _ => by
    show X4 q0 j = _
    rw [hX4, va_up_self, va_up_self, M4, upd_at, upd_at]
    by_cases e1 : j = 43
    · rw [if_pos e1, if_pos (Or.inl e1)]
    · by_cases e2 : j = 0
      · rw [if_neg e1, if_pos e2, if_pos (Or.inr e2)]
      · rw [if_neg e1, if_neg e2, if_neg (fun q => q.elim e1 e2)]; rfl
  refine V.astore_n hF dL_law_15 (by decide) ?_
  refine V.iconst (v := nI 1) hF dL_law_16 (by decide) ?_
  refine V.newl (N := 1) hF dL_law_17 rfl (Nat.le_of_ble_eq_true rfl) (by omega) (by omega) (fun out hout => ?_)
  refine V.astore_n hF dL_law_19 (by decide) ?_
  refine V.iconst (v := nI 1) hF dL_law_20 (by decide) ?_
  refine V.newd (N := 1) hF dL_law_21 rfl (Nat.le_of_ble_eq_true rfl) (by omega) (by omega) (fun dout hdout => ?_)
  refine V.astore hF dL_law_23 (by decide) ?_
  refine V.iconst (v := nI 0) hF dL_law_25 (by decide) ?_
  refine V.istore hF dL_law_26 (by decide) ?_
  refine V.relv [0, 1, 2, 3, 4, 5] rfl ?_
  exact law_loop hF hst hnc hXs hbl hbA hL hR1 hR2 E 512 0 _ _ _ _ _ (by omega) (by omega) (by omega) (by omega) (lw_new hN M1 M2 M3 x1 ((om4 4 (by decide)).trans bI_f.symm) (om4 6 (by decide)) om7 hout hdout)
end Lst
