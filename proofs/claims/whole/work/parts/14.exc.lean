abbrev xnames : List String := ["java/lang/RuntimeException", "java/lang/Exception"]
def XW (own : String) (ik ic : Nat) (cls : String) : Prop := Bundle.fit cls = true ∧ Cond.classLink own ik cls ∈ GT ∧ Cond.initialized cls ∈ GT ∧ (∀ w ∈ vx_atS own ic cls xnames, w ∈ GT ∨ w ∈ GN) ∧ ∀ w ∈ Cond.classLink own ik cls :: Cond.initialized cls :: vx_atS own ic cls xnames, vx_ot w = true
theorem xw_of {own cls : String} {ik ic : Nat} (h1 : Bundle.fit cls = true) (h2 : Cond.classLink own ik cls ∈ GT) (h3 : Cond.initialized cls ∈ GT) (h4 : (vx_atS own ic cls xnames).all (fun w => decide (w ∈ lw_tbl) && (goodWord w || isNest w)) = true) (h5 : (Cond.classLink own ik cls :: Cond.initialized cls :: vx_atS own ic cls xnames).all vx_ot = true) : XW own ik ic cls := by
  refine ⟨h1, h2, h3, fun w hw => ?_, fun w hw => List.all_eq_true.mp h5 w hw⟩
  have h := List.all_eq_true.mp h4 w hw
  simp only [Bool.and_eq_true, Bool.or_eq_true, decide_eq_true_eq] at h
  rcases h.2 with g | g
  · exact Or.inl (List.mem_filter.mpr ⟨h.1, g⟩)
  · exact Or.inr (List.mem_filter.mpr ⟨h.1, g⟩)
section VT
variable {p : Program} {l : Launch} {e : Env} {R : Room} {s : State} {m : MethodId} {args : Array Value} {below : List Frame} {meth : Method} {c : Code} {D : va_G} {cy sa sv : Nat → Nat} {A : Nat → Prop} {Q : State → Prop} {cc : ByteArray} {nL : Nat} {own : String} {ret : Option FieldType} {cells slots : Nat} {σ : SH} {I X : IX} {pc : Nat} {lv : List (Nat × Value)} {st : List Value} {post : PO} {xp : PX} {mc ms : Nat}
theorem ct_thrown {cls : String} {H : Heap} {locs : List Loc} (hP : va_P D vcl (pw cy σ I X) H) (hD : va_D A (pw cy σ I X)) (hS : va_S A s.heap H locs) (h : xp cls σ I X) : ∀ t : State, s.vm.Alike t.vm → H.size ≤ t.heap.size → (∀ q : Nat, q < H.size → t.heap[q]? = H[q]?) → CtX D cy A xp cls s t := fun t _ hz hq =>
  ⟨σ, I, X, h, hP.kept (fun k q hk => hq q.1 ((hP k q hk).lt)), hD, Nat.le_trans hS.1 hz, fun q h1 h2 => (hq q (Nat.lt_of_lt_of_le h1 hS.1)).trans (hS.2.1 q h1 h2)⟩
theorem ct_hat (hF : Fx p l s m args meth c D cy sa sv A nL own cc ret) {ik ic : Nat} {cls : String} (hw : XW own ik ic cls) : ∀ w ∈ vx_atS own ic cls xnames, w.before args s = true := fun w h => (hw.2.2.2.1 w h).elim (hF.2.2.2.2.1 w) (fun g => by
    have h2 := (List.mem_filter.mp g).2
    have h3 := hF.2.2.2.2.2.2.2.2.1.1 w g
    cases w <;> first | exact va_tabs rfl rfl h3 | (rename_i t; cases t <;> first | exact va_AO.use h3 | (simp [isNest] at h2; done)) | (simp [isNest] at h2))

theorem V.throwS (hF : Fx p l s m args meth c D cy sa sv A nL own cc ret) {ik is ic : Nat} {cls text : String} (hw : XW own ik ic cls) (k : Nat) (hk : strs[k]? = some (own, is, text)) (d0 : decode cc pc = .ok (.new ik, 3)) (d3 : decode cc (pc + 3) = .ok (.dup, 1)) (d4 : decode cc (pc + 4) = .ok (.ldc is, 2)) (d6 : decode cc (pc + 6) = .ok (.invokespecial ic, 3)) (d9 : decode cc (pc + 9) = .ok (.athrow, 1)) (hout : ∀ x ∈ c.exceptionTable.toList, False)
    (h1 : 5 < R.frames) (h2 : (st.map fun v => v.category).sum + 82 ≤ R.locals) (h3 : cells + 1 ≤ R.cells) (h4 : slots + 6 ≤ R.slots) (hc : cells + 1 ≤ mc) (hs : slots + 6 ≤ ms) (h : xp cls σ I X) : V p l e R s m args below meth c D cy A (QM below args s D cy A post xp mc ms) nL cells slots σ I X pc lv st := fun H locs ls hP hD hS hl =>
  vx_throwS hF.1 hF.2.1 hF.2.2.2.2.2.2.2.2.2.1 hF.2.2.2.1 hw.1 (by decide) (hF.2.2.2.2.1 _ hw.2.1) (hF.2.2.2.2.1 _ hw.2.2.1) (hF.2.2.2.2.2.2.2.2.1.2.1 k _ hk) (ct_hat hF hw) hw.2.2.2.2 hF.2.2.2.2.2.2.2.2.1.2.2.1 hF.2.2.2.2.2.2.2.2.1.2.2.2.1 hS (hl.1.trans hF.2.2.1.symm) d0 d3 d4 d6 d9 (fun x hx => (hout x hx).elim) h1 h2 h3 h4 hF.2.2.2.2.2.2.1 (ct_thrown hP hD hS h) hS.2.2 hc hs
theorem V.throwSW (hF : Fx p l s m args meth c D cy sa sv A nL own cc ret) {ik is ic : Nat} {cls text : String} (hw : XW own ik ic cls) (k : Nat) (hk : strs[k]? = some (own, is, text)) (d0 : decode cc pc = .ok (.new ik, 3)) (d3 : decode cc (pc + 3) = .ok (.dup, 1)) (d4 : decode cc (pc + 4) = .ok (.ldc_w is, 3)) (d6 : decode cc (pc + 7) = .ok (.invokespecial ic, 3)) (d9 : decode cc (pc + 10) = .ok (.athrow, 1)) (hout : ∀ x ∈ c.exceptionTable.toList, False)
    (h1 : 5 < R.frames) (h2 : (st.map fun v => v.category).sum + 82 ≤ R.locals) (h3 : cells + 1 ≤ R.cells) (h4 : slots + 6 ≤ R.slots) (hc : cells + 1 ≤ mc) (hs : slots + 6 ≤ ms) (h : xp cls σ I X) : V p l e R s m args below meth c D cy A (QM below args s D cy A post xp mc ms) nL cells slots σ I X pc lv st := fun H locs ls hP hD hS hl =>
  vx_throwSW hF.1 hF.2.1 hF.2.2.2.2.2.2.2.2.2.1 hF.2.2.2.1 hw.1 (by decide) (hF.2.2.2.2.1 _ hw.2.1) (hF.2.2.2.2.1 _ hw.2.2.1) (hF.2.2.2.2.2.2.2.2.1.2.1 k _ hk) (ct_hat hF hw) hw.2.2.2.2 hF.2.2.2.2.2.2.2.2.1.2.2.1 hF.2.2.2.2.2.2.2.2.1.2.2.2.1 hS (hl.1.trans hF.2.2.1.symm) d0 d3 d4 d6 d9 (fun x hx => (hout x hx).elim) h1 h2 h3 h4 hF.2.2.2.2.2.2.1 (ct_thrown hP hD hS h) hS.2.2 hc hs
end VT
set_option maxRecDepth 20000 in
theorem xw_IOB : XW RX4 178 182 "java/lang/IndexOutOfBoundsException" := xw_of (by decide +kernel) (gw 425 (by decide +kernel) (by decide +kernel)) (gw 64 (by decide +kernel) (by decide +kernel)) (by decide +kernel) (by decide +kernel)
set_option maxRecDepth 20000 in
theorem xw_ARI : XW RX4 215 219 "java/lang/ArithmeticException" := xw_of (by decide +kernel) (gw 893 (by decide +kernel) (by decide +kernel)) (gw 72 (by decide +kernel) (by decide +kernel)) (by decide +kernel) (by decide +kernel)
set_option maxRecDepth 20000 in
theorem xw_IAE : XW RX4 33 37 "java/lang/IllegalArgumentException" := xw_of (by decide +kernel) (gw 318 (by decide +kernel) (by decide +kernel)) (gw 63 (by decide +kernel) (by decide +kernel)) (by decide +kernel) (by decide +kernel)
set_option maxRecDepth 20000 in
theorem xw_ISE : XW RX4 76 80 "java/lang/IllegalStateException" := xw_of (by decide +kernel) (gw 468 (by decide +kernel) (by decide +kernel)) (gw 67 (by decide +kernel) (by decide +kernel)) (by decide +kernel) (by decide +kernel)
