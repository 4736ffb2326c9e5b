/-! WHAT HOLDS AT THE LAW'S ENTRY -/
theorem nw_start {w : Cond} (h : w ∈ GN) {args : Array Value} {s : State} (hb : w.before args s = true) : va_Nw w s := by
  have h2 := (List.mem_filter.mp h).2
  cases w <;> first | exact va_Nw.of rfl hb | (rename_i t; cases t <;> first | exact va_AO.of hb | (simp [isNest] at h2; done)) | (simp [isNest] at h2)
theorem strs_in : ∀ q ∈ strs, Cond.stringRef q.1 q.2.1 q.2.2 ∈ lw_tbl ∧ (q.1 = RX4 ∨ q.1 = RX3) := by decide +kernel
theorem fx_start {p : Program} {l : Launch} {s : State} {m : MethodId} {meth : Method} {c : Code} {b : Nat} (hx : p.tables.exec = Jvm.exec) (hb : c.code = cL_law) (hr : meth.sig.returnType = some .boolean) (hml : c.maxLocals = 9) (hown : s.vm.findClass RL = some m.cls) (hts : ∀ w ∈ lw_tbl, w.before #[Value.ref b] s = true) (hlocks : meth.locks = false) (hgv : (Jvm.Cond.and given_1 narrow_1).before #[Value.ref b] s = true) (hst : l.stackTraces = false) :
    ∃ (D : va_G) (cy sa sv : Nat → Nat), Fx p l s m #[Value.ref b] meth c D cy sa sv (fun q : Nat => s.heap.size ≤ q) 9 RL cL_law (some .boolean) ∧ NC s := by
  have hs := flat_of_before _ hgv
  have hlow : ∀ a : Nat, a < s.heap.size → ¬ (fun q : Nat => s.heap.size ≤ q) a := fun a h => Nat.not_le.mpr h
  have hgt : ∀ w ∈ GT, w.before #[Value.ref b] s = true := fun w hw => hts w (List.mem_filter.mp hw).1
  have hgn : ∀ w ∈ GN, va_Nw w s := fun w hw => nw_start hw (hts w (List.mem_filter.mp hw).1)
  obtain ⟨c0, i0, k0⟩ := u_known (C := RX0) (T := TX0) (N := 8) (n := 8) hgt inX0 (hts (.instantiable RX0 8) (by decide +kernel))
  obtain ⟨c1, i1, k1⟩ := u_known (C := RX1) (T := TX1) (N := 7) (n := 7) hgt inX1 (hts (.instantiable RX1 7) (by decide +kernel))
  obtain ⟨c2, i2, k2⟩ := u_known (C := RX2) (T := TX2) (N := 6) (n := 6) hgt inX2 (hts (.instantiable RX2 6) (by decide +kernel))
  obtain ⟨c3, i3, k3⟩ := u_known (C := RX3) (T := TX3) (N := 8) (n := 8) hgt inX3 (hts (.instantiable RX3 8) (by decide +kernel))
  obtain ⟨c4, i4, k4⟩ := u_known (C := RX4) (T := TX4) (N := 5) (n := 5) hgt inX4 (hts (.instantiable RX4 5) (by decide +kernel))
  obtain ⟨c5, i5, k5⟩ := u_known (C := RX5) (T := TX5) (N := 14) (n := 14) hgt inX5 (hts (.instantiable RX5 14) (by decide +kernel))
  obtain ⟨a0, ka0, p0, f0, g0, h0⟩ := Cond.arrayClass_spec (hts (.arrayClass .char) (by decide +kernel))
  obtain ⟨a1, ka1, p1, f1, g1, h1⟩ := Cond.arrayClass_spec (hts (.arrayClass .int) (by decide +kernel))
  obtain ⟨p2, a2, ka2, e2, -, g2, h2, f2⟩ := Cond.arrayOver_spec (hts (.arrayOver (.object RX2)) (by decide +kernel))
  obtain ⟨a3, ka3, p3, f3, g3, h3⟩ := Cond.arrayClass_spec (hts (.arrayClass .long) (by decide +kernel))
  obtain ⟨a4, ka4, p4, f4, g4, h4⟩ := Cond.arrayClass_spec (hts (.arrayClass .double) (by decide +kernel))
  have hR : ∀ k : Nat, ∃ a : Nat, ∀ q : String × Nat × String, strs[k]? = some q → vk_R q.1 q.2.1 q.2.2 a s := fun k => by
    cases hk : strs[k]? with
    | none => exact ⟨0, fun q h => by cases h⟩
    | some q =>
      obtain ⟨m1, m2⟩ := strs_in q (List.mem_of_getElem? hk)
      have hb2 := hts _ m1
      obtain ⟨cc, hcc⟩ : ∃ cc, s.vm.findClass q.1 = some cc := by
        rcases m2 with e | e
        · rw [e]; exact ⟨c4, k4.2.1⟩
        · rw [e]; exact ⟨c3, k3.2.1⟩
      obtain ⟨-, -, -, a, -, -, -, -, -, hev⟩ := Cond.stringRef_spec hcc hb2
      exact ⟨a, fun q' h => by cases h; exact vk_R.of hb2 hev⟩
  obtain ⟨sa, hsa⟩ := Classical.axiomOfChoice hR
  have e5 : ∀ j : Nat, j < 5 → (Cond.eq (.elem (.field (.string "CausalBroadcast$Script" 53) "java/lang/String" "value" "[B") (.int (Int32.ofNat j))) (.int (([98, 97, 103, 106, 108] : List Int32).getD j 0))).before #[Value.ref b] s = true := fun j hj => by
    match j, hj with
    | 0, _ => exact hs _ (by decide +kernel)
    | 1, _ => exact hs _ (by decide +kernel)
    | 2, _ => exact hs _ (by decide +kernel)
    | 3, _ => exact hs _ (by decide +kernel)
    | 4, _ => exact hs _ (by decide +kernel)
    | j + 5, hj => exact absurd hj (by omega)
  obtain ⟨aK, aV, hV, hev⟩ := vk_Sof (args := #[Value.ref b]) (s := s) (N := 1) (tm := fun _ => .string "CausalBroadcast$Script" 53) (len := [5]) (byt := [[98, 97, 103, 106, 108]]) (A := fun q : Nat => s.heap.size ≤ q) (fun i hi => by rw [show i = 0 by omega]; decide) (fun i hi => hs _ (by decide +kernel)) (fun i hi => hs _ (by decide +kernel)) (fun i hi => hs _ (by decide +kernel)) (fun i hi => by rw [show i = 0 by omega]; exact hs _ (by decide +kernel)) (fun i hi j hj => by rw [show i = 0 by omega] at hj ⊢; exact e5 j hj) (fun i j hi hj hn => absurd (show i = j by omega) hn) hlow
  have e23 : aK 0 = sa 23 := by
    have q := (hsa 23 ("CausalBroadcast$Script", 53, "bagjl") rfl).2
    have q2 : (Term.string "CausalBroadcast$Script" 53).eval #[] s none [] s = some (.ref (aK 0)) := hev 0 (by omega)
    rw [q2] at q
    injection q with q
    injection q
  refine ⟨(fun k => if k = 0 then c0 else if k = 1 then c1 else if k = 2 then c2 else if k = 3 then c3 else if k = 4 then c4 else c5, fun k => if k = 0 then i0 else if k = 1 then i1 else if k = 2 then i2 else if k = 3 then i3 else if k = 4 then i4 else i5), fun k => if k = 0 then a0 else if k = 1 then a1 else if k = 2 then a2 else if k = 3 then a3 else a4, sa, fun _ => aV 0, ⟨hx, hb, hml, hown, hgt, ⟨fun k q hq => ?_, fun k q hq => ?_⟩, hlocks, hr, ⟨hgn, hsa, ?_, ?_, ?_, ?_⟩, hst, fun _ h => h⟩, ?_⟩
  · match k, hq with
    | 0, hq => cases hq; exact k0
    | 1, hq => cases hq; exact k1
    | 2, hq => cases hq; exact k2
    | 3, hq => cases hq; exact k3
    | 4, hq => cases hq; exact k4
    | 5, hq => cases hq; exact k5
    | k + 6, hq => simp at hq
  · match k, hq with
    | 0, hq => cases hq; exact ⟨fun N z => ⟨fun k h => (by cases h), ka0, g0, p0, h0⟩, f0⟩
    | 1, hq => cases hq; exact ⟨fun N z => ⟨fun k h => (by cases h), ka1, g1, p1, h1⟩, f1⟩
    | 2, hq => cases hq; exact ⟨fun N z => ⟨fun k h => (by cases h), ka2, g2, p2, h2⟩, ka2, p2, g2, h2, e2, f2⟩
    | 3, hq => cases hq; exact ⟨fun N z => ⟨fun k h => (by cases h), ka3, g3, p3, h3⟩, f3⟩
    | 4, hq => cases hq; exact ⟨fun N z => ⟨fun k h => (by cases h), ka4, g4, p4, h4⟩, f4⟩
    | k + 5, hq => simp at hq
  · exact vx_Zqof (hts _ (by decide +kernel)) (hts _ (by decide +kernel)) (hs _ (by decide +kernel)) hlow
  · exact vx_Zqof (hts _ (by decide +kernel)) (hts _ (by decide +kernel)) (hs _ (by decide +kernel)) hlow
  · exact va_Zof (hts _ (by decide +kernel)) (hts _ (by decide +kernel)) (va_eqt (hs _ (by decide +kernel))) hlow
  · refine ⟨fun i hi => ?_, fun i j hi hj _ => by omega⟩
    have ei : i = 0 := by omega
    subst ei
    have q := hV.1 0 hi
    rw [e23] at q
    exact q
  · exact ⟨va_Nc.of (hs (.not (.castable eISE eIOB)) (by decide +kernel)), va_Nc.of (hs (.not (.castable eNSE eIOB)) (by decide +kernel)), va_Nc.of (hs (.not (.castable eIAE eIOB)) (by decide +kernel)), va_Nc.of (hs (.not (.castable eARI eIOB)) (by decide +kernel)), va_Nc.of (hs (.not (.castable eNSE eISE)) (by decide +kernel)), va_Nc.of (hs (.not (.castable eISE eIAE)) (by decide +kernel))⟩
