section Rf
variable {σ σ1 : SH} {I I2 X X2 : IX} {o so om out dout : Nat} {ta ar tg ad : Nat → Nat} {C : IX} {n t1 t2 t3 : Nat}
/-- the reference's own cells -/
theorem LWm.mdl (h : LWm σ I X o so om out dout ta ar tg ad C t1 t2 t3) {I' X' : IX} (hI : ∀ a, a ≠ om → I' a = I a) (h4 : I' om 4 = I om 4) (hX : ∀ a, a ≠ ar 1 → a ≠ ar 3 → a ≠ ar 11 → a ≠ ar 12 → a ≠ ar 13 → X' a = X a) : LWm σ I' X' o so om out dout ta ar tg ad C t1 t2 t3 := by
  obtain ⟨hS, hT, h1, hG, hTr, hSn⟩ := h
  have hms := hS.2.2.2.1
  have oth : ∀ {t : Nat} {bd : Nat → Nat} {E : IX}, t < 4 → GB σ I X tg t bd E → GB σ I' X' tg t bd E := fun {t} {bd} {E} ht b => by
    have nx : ∀ j, j ∈ mIx → ∀ k ∈ idX, bd k ≠ ar j := fun j hj => b.nX (by rw [hT.2.2 j hj]; omega)
    refine ⟨b.1, b.2.1, fun k hk => ?_, fun k hk => ?_⟩
    · rw [hI _ (b.nI (by rw [hms.1.2]; omega) k hk)]; exact b.2.2.1 k hk
    · rw [hX _ (nx 1 (by decide) k hk) (nx 3 (by decide) k hk) (nx 11 (by decide) k hk) (nx 12 (by decide) k hk) (nx 13 (by decide) k hk)]; exact b.2.2.2 k hk
  have x2 : X' (ar 2) = X (ar 2) := hX _ (hms.ne 2 1 (by decide) (by decide) (by decide)) (hms.ne 2 3 (by decide) (by decide) (by decide)) (hms.ne 2 11 (by decide) (by decide) (by decide)) (hms.ne 2 12 (by decide) (by decide) (by decide)) (hms.ne 2 13 (by decide) (by decide) (by decide))
  refine ⟨hS, hT, h1, oth hT.1.1 hG, ?_, ?_⟩
  · rcases hTr with q | ⟨td, E, q1, q2, q3⟩
    · exact Or.inl q
    · exact Or.inr ⟨td, E, q1, oth hT.1.2.1 q2, q3⟩
  · rcases hSn with ⟨q1, q2⟩ | ⟨sd, E, q1, q2, q3, q4⟩
    · exact Or.inl ⟨q1, by rw [h4]; exact q2⟩
    · exact Or.inr ⟨sd, E, q1, oth hT.1.2.2.1 q2, by rw [x2]; exact q3, by rw [h4]; exact q4⟩
def runT (g v : Rw) (n : Nat) : Int32 := if pok g n then (if zrG g n v then nI 0 else nI 2) else nI 1
theorem run_fin (hw : LWx σ I X o so om out dout ta ar tg ad C n t1 t2 t3) (hM : RunM σ1 I2 X2 I X o so om out dout ta ar (if pok (X (ta 0)) n && zrG (X (ta 0)) n (X (ar 1)) then zrL (X (ta 0)) n (X (ar 1)) (pK (X (ta 0)) n + 1) else X (ar 1)) (if pok (X (ta 0)) n then I o 4 else nI (pE (X (ta 0)) n).2)) {r : Option Value} {σ3 : SH} {I3 X3 : IX} (hP : RunP σ1 I2 X2 om ar (I om) (X (ar 1)) (X (ar 3)) (X (ar 5)) n r σ3 I3 X3) :
    σ3 = σ1 ∧ ∃ (f3 : Rw) (r3 : Int32), I3 = va_up I2 om f3 ∧ r = some (.int r3) ∧ f3 0 = runT (X (ta 0)) (X (ar 1)) n ∧ (runT (X (ta 0)) (X (ar 1)) n = nI 0 → nI (pK (X (ta 0)) n + 1) = r3) ∧ LW σ1 I3 X3 o so om out dout ta ar := by
  obtain ⟨tg2, ad2, C2, u1, u2, u3, hm, hR, ⟨hom, har⟩, hso, ho⟩ := hM
  obtain ⟨e1, f3, e2, k4, k6, hX3, hif⟩ := hP
  have hIn := hw.2.2.2.2.2.2.2.1
  have hEr := hw.2.2.2.2.2.2.2.2
  have cg : ∀ i, i < n → X (ar 5) i = X (ta 0) i := fun i hi => (hIn.2.2.2 i hi).symm
  rw [pok_c cg, zrG_c cg, pK_c cg, pE_c cg, zrL_c cg] at hif
  have hms := hm.1.2.2.2.1
  have so_m : so ≠ om := fun e => by have a := hm.1.2.2.1.1.2; rw [e, hms.1.2] at a; omega
  have o_m : o ≠ om := fun e => by have a := hm.1.1.2; rw [e, hms.1.2] at a; omega
  subst e2
  have hm3 : LWm σ1 (va_up I2 om f3) X3 o so om out dout ta ar tg2 ad2 C2 u1 u2 u3 := hm.mdl (fun a ha => va_up_ne _ _ ha) (by rw [va_up_self, hom]; exact k4) hX3
  have mk : RG C2 (X3 (ar 1)) → f3 7 = I2 o 4 → (f3 7 = -1 ∨ ∃ k, k ≤ 70 ∧ f3 7 = nI k) → LW σ1 (va_up I2 om f3) X3 o so om out dout ta ar := fun a1 a2 a3 => by
    refine ⟨tg2, ad2, C2, 0, u1, u2, u3, hm3.1, hm3.2.1, hm3.2.2.1, hm3.2.2.2.1, a1, hm3.2.2.2.2.1, hm3.2.2.2.2.2, ⟨?_, by omega, ?_, fun i hi => absurd hi (Nat.not_lt_zero i)⟩, ⟨?_, ?_⟩⟩
    · rw [va_up_ne _ _ so_m]; exact hso
    · rw [va_up_self]; exact k6
    · rw [va_up_ne _ _ o_m, va_up_self]; exact a2.symm
    · rw [va_up_self]; exact a3
  refine ⟨e1, f3, ?_⟩
  unfold runT
  cases hp : pok (X (ta 0)) n with
  | false =>
    rw [hp] at hif hR ho
    simp only [Bool.false_eq_true, if_false, Bool.false_and] at hif hR ho
    obtain ⟨q1, q2, q3, q4⟩ := hif
    refine ⟨nI 0, rfl, q1, q2, fun q => absurd q (show ¬ nI 1 = nI 0 by decide), mk (by rw [q4]; exact hR) (by rw [q3]; exact ho.symm) (Or.inr ⟨_, pE_le hIn.2.1, q3⟩)⟩
  | true =>
    rw [hp] at hif hR ho
    simp only [if_true, Bool.true_and] at hif hR ho
    obtain ⟨q1, q2, q3, wx, q4⟩ := hif
    have e7 : f3 7 = I2 o 4 := by rw [ho, q1]; exact hEr.1.symm
    have b7 : f3 7 = -1 ∨ ∃ k, k ≤ 70 ∧ f3 7 = nI k := by rw [q1]; exact hEr.2
    cases hz : zrG (X (ta 0)) n (X (ar 1)) with
    | true =>
      rw [hz] at hR q2 q3 q4
      simp only [if_true] at hR q2 q3 q4
      exact ⟨_, rfl, q2, q3, fun _ => rfl, mk (by rw [q4]; exact hR) e7 b7⟩
    | false =>
      rw [hz] at hR q2 q3 q4
      simp only [Bool.false_eq_true, if_false] at hR q2 q3 q4
      exact ⟨_, rfl, q2, q3, fun q => absurd q (show ¬ nI 2 = nI 0 by decide), mk (by rw [q4]; exact RG_v hR (fun k hk => by rw [ycy_in hk, ycy_in hk])) e7 b7⟩
theorem LWx.hok (hw : LWx σ I X o so om out dout ta ar tg ad C n t1 t2 t3) (g : Rw) : ∀ k, k ≤ pK g n + 1 → (∀ j, j < k → zrT g n (X (ar 1)) j = nI 0) → WV (zrL g n (X (ar 1)) k) ∧ WS (zrL g n (X (ar 1)) k) := fun k _ hj => by
  obtain ⟨C', h'⟩ := hw.rg.run g n k hj
  exact ⟨h'.1.wv, h'.1.ws⟩
end Rf

section Cs4
variable {p : Program} {l : Launch} {e : Env} {R : Room} {s : State} {m : MethodId} {args : Array Value} {below : List Frame} {meth : Method} {c : Code} {D : va_G} {cy sa sv : Nat → Nat} {A : Nat → Prop} {Q : State → Prop} {cells slots : Nat} {σ : SH} {I X : IX} {b L i : Nat} {xs : Nat → Int32} {o so om out dout : Nat} {ta ar tg ad : Nat → Nat} {C : IX} {n t1 t2 t3 : Nat}
set_option maxRecDepth 20000 in
theorem lcase_run (hF : Fx p l s m args meth c D cy sa sv A 9 RL cL_law (some .boolean)) (hst : l.stackTraces = false) (hnc : NC s) (hXs : va_X b L xs s s.heap) (hbl : b < s.heap.size) (hbA : ¬ A b) (hi : i + 3 < L) (hL : L ≤ 2048) (hw : LWx σ I X o so om out dout ta ar tg ad C n t1 t2 t3) (hc1 : cells + 60 ≤ R.cells) (hs1 : slots + 5000 ≤ R.slots) (hR1 : 20 ≤ R.frames) (hR2 : 10000 ≤ R.locals)
    (K : ∀ (σ' : SH) (I' X' : IX), LW σ' I' X' o so om out dout ta ar → V p l e R s m args below meth c D cy A Q 9 (cells + 60) (slots + 5000) σ' I' X' 2493 [(0, .ref b), (1, .ref o), (2, .ref om), (3, .ref out), (4, .ref dout), (5, .int (nI i))] []) : V p l e R s m args below meth c D cy A Q 9 cells slots σ I X 2348 [(0, .ref b), (1, .ref o), (2, .ref om), (3, .ref out), (4, .ref dout), (5, .int (nI i))] [] := by
  have hIn := hw.2.2.2.2.2.2.2.1
  refine V.aload_n hF dL_law_2348 rfl ?_
  refine V.aload_n hF dL_law_2349 rfl ?_
  refine V.callSW hF dL_law_2350 (ct_L_run hst σ I X o so om out dout ta ar tg ad C n t1 t2 t3 hw) lw_L_run hnc ⟨by omega, by omega, by omega, by omega⟩ (Nat.le_of_ble_eq_true rfl) (fun r s2 I2 X2 hx => ?_) rfl
  obtain ⟨e0, g, s1, e1, hg, hM⟩ := hx
  have hM2 : RunM (shSetJ s1 out g) I2 X2 I X o so om out dout ta ar (if pok (X (ta 0)) n && zrG (X (ta 0)) n (X (ar 1)) then zrL (X (ta 0)) n (X (ar 1)) (pK (X (ta 0)) n + 1) else X (ar 1)) (if pok (X (ta 0)) n then I o 4 else nI (pE (X (ta 0)) n).2) := hM
  obtain ⟨hms, hom, har, hou⟩ : MS (shSetJ s1 out g) om ar ∧ I2 om = I om ∧ (∀ j, j ∈ mIx → X2 (ar j) = X (ar j)) ∧ (out ∈ shL s1 ∧ shK s1 out = 13 ∧ shN s1 out = 1) := by
    obtain ⟨_, _, _, _, _, _, a1, _, a2, _, _⟩ := hM2
    exact ⟨a1.1.2.2.2.1, a2.1, a2.2, a1.1.2.2.2.2.1⟩
  rw [e0, e1]
  refine V.istore hF dL_law_2353 (by decide) ?_
  refine V.aload_n hF dL_law_2355 rfl ?_
  refine V.callV hF dL_law_2356 (ct_X5_run hst (shSetJ s1 out g) I2 X2 om ar hms (I om) hom (X (ar 1)) (har 1 (by decide)) (X (ar 3)) (har 3 (by decide)) (X (ar 5)) (har 5 (by decide)) n hIn.2.2.1 hIn.2.1 (hw.hok (X (ar 5)))) lk_L_267 sl_X5_run ⟨_, _, rfl, hms.1.1, hms.1.2, (Nat.le_of_ble_eq_true rfl), _, _, rfl⟩ ⟨by omega, by omega, by omega, by omega⟩ (Nat.le_of_ble_eq_true rfl) (fun _ _ _ _ h => h.elim) (fun r3 s3 I3 X3 hx => ?_) rfl
  obtain ⟨q1, f3, y3, q2, q3, q4, q5, hl⟩ := run_fin hw hM2 hx
  rw [q1, q3]
  refine V.istore hF dL_law_2359 (by decide) ?_
  refine V.aload_n hF dL_law_2361 rfl ?_
  refine V.vI hF dL_law_2362 (ct_X5_thrown hst (shSetJ s1 out g) I3 X3 om ar hms f3 (by rw [q2]; exact va_up_self _ _ _)) lk_L_145 sl_X5_thrown hms.1.1 hms.1.2 rfl (Nat.le_of_ble_eq_true rfl) ⟨by omega, by omega, by omega, by omega⟩ (Nat.le_of_ble_eq_true rfl) rfl ?_
  refine V.topi q4 ?_
  refine V.iload hF dL_law_2365 rfl ?_
  refine V.icmp_eq (tgt := 2372) hF dL_law_2367 (by decide) (fun _ => ?_) (fun hq => absurd rfl hq)
  refine V.iload hF dL_law_2372 rfl ?_
  refine V.if_ne (tgt := 2389) hF dL_law_2374 (by decide) (fun _ => ?_) (fun h0 => ?_)
  · refine V.goto (tgt := 2493) hF dL_law_2389 (by decide) ?_
    refine V.relv [0, 1, 2, 3, 4, 5] rfl ?_
    refine V.widen (k := cells + 60) (n := slots + 5000) (by omega) (by omega) ?_
    exact K _ _ _ hl
  · refine V.aload_n hF dL_law_2377 rfl ?_
    refine V.iconst (v := nI 0) hF dL_law_2378 (by decide) ?_
    refine V.laload (j := 0) hF dL_law_2379 hou.1 hou.2.1 rfl (by show 0 < shN s1 out; rw [hou.2.2]; omega) (by show shN s1 out < _; rw [hou.2.2]; omega) ?_
    refine V.topl ((congrFun (va_up_self (shJ s1) out g) 0).trans ((hg h0).trans (congrArg Int32.toInt64 (q5 h0)))) ?_
    refine V.iload hF dL_law_2380 rfl ?_
    refine V.i2l hF dL_law_2382 ?_
    refine V.lcmp hF dL_law_2383 ?_
    refine V.if_eq (tgt := 2389) hF dL_law_2384 (by decide) (fun _ => ?_) (fun hq => absurd (lg_self _) hq)
    refine V.goto (tgt := 2493) hF dL_law_2389 (by decide) ?_
    refine V.relv [0, 1, 2, 3, 4, 5] rfl ?_
    refine V.widen (k := cells + 60) (n := slots + 5000) (by omega) (by omega) ?_
    exact K _ _ _ hl
end Cs4
