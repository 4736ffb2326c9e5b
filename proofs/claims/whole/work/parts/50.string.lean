theorem lk_J1_88 : Lk RJ1 88 yJ1_canEncode_9a6ad cJ1_canEncode_9a6ad 1 (some .boolean) 1 (Cond.static yJ1_canEncode_9a6ad) := ⟨Or.inl (gw 1023 (by decide +kernel) (by decide +kernel)), gw 1024 (by decide +kernel) (by decide +kernel), gw 73 (by decide +kernel) (by decide +kernel), gw 1025 (by decide +kernel) (by decide +kernel), by decide +kernel⟩
theorem lk_J1_95 : Lk RJ1 95 yJ1_indexOfChar_4cfef cJ1_indexOfChar_4cfef 6 (some .int) 4 (Cond.static yJ1_indexOfChar_4cfef) := ⟨Or.inl (gw 1028 (by decide +kernel) (by decide +kernel)), gw 1029 (by decide +kernel) (by decide +kernel), gw 73 (by decide +kernel) (by decide +kernel), gw 1030 (by decide +kernel) (by decide +kernel), by decide +kernel⟩
theorem lk_J0_335 : Lk RJ0 335 yJ0_coder_7d493 cJ0_coder_7d493 1 (some .byte) 0 (Cond.instanceMethod yJ0_coder_7d493) := ⟨Or.inl (gw 1016 (by decide +kernel) (by decide +kernel)), gw 1017 (by decide +kernel) (by decide +kernel), gw 66 (by decide +kernel) (by decide +kernel), gw 1019 (by decide +kernel) (by decide +kernel), by decide +kernel⟩
theorem sl_J0_coder_7d493 : Cond.selects RJ0 yJ0_coder_7d493 yJ0_coder_7d493 ∈ GT := gw 1018 (by decide +kernel) (by decide +kernel)
theorem lk_J0_492 : Lk RJ0 492 yJ0_isLatin1_aae02 cJ0_isLatin1_aae02 1 (some .boolean) 0 (Cond.instanceMethod yJ0_isLatin1_aae02) := ⟨Or.inl (gw 1006 (by decide +kernel) (by decide +kernel)), gw 1007 (by decide +kernel) (by decide +kernel), gw 66 (by decide +kernel) (by decide +kernel), gw 1009 (by decide +kernel) (by decide +kernel), by decide +kernel⟩
theorem sl_J0_isLatin1_aae02 : Cond.selects RJ0 yJ0_isLatin1_aae02 yJ0_isLatin1_aae02 ∈ GT := gw 1008 (by decide +kernel) (by decide +kernel)
theorem lk_J0_505 : Lk RJ0 505 yJ0_length_8abf5 cJ0_length_8abf5 1 (some .int) 0 (Cond.instanceMethod yJ0_length_8abf5) := ⟨Or.inl (gw 1012 (by decide +kernel) (by decide +kernel)), gw 1013 (by decide +kernel) (by decide +kernel), gw 66 (by decide +kernel) (by decide +kernel), gw 1015 (by decide +kernel) (by decide +kernel), by decide +kernel⟩
theorem sl_J0_length_8abf5 : Cond.selects RJ0 yJ0_length_8abf5 yJ0_length_8abf5 ∈ GT := gw 1014 (by decide +kernel) (by decide +kernel)
theorem lk_J0_637 : Lk RJ0 637 yJ1_indexOf_4cfef cJ1_indexOf_4cfef 4 (some .int) 4 (Cond.static yJ1_indexOf_4cfef) := ⟨Or.inl (gw 1020 (by decide +kernel) (by decide +kernel)), gw 1021 (by decide +kernel) (by decide +kernel), gw 73 (by decide +kernel) (by decide +kernel), gw 1022 (by decide +kernel) (by decide +kernel), by decide +kernel⟩
theorem lk_J0_633 : Lk RJ0 633 yJ0_indexOf_7cf53 cJ0_indexOf_7cf53 3 (some .int) 2 (Cond.instanceMethod yJ0_indexOf_7cf53) := ⟨Or.inl (gw 1002 (by decide +kernel) (by decide +kernel)), gw 1003 (by decide +kernel) (by decide +kernel), gw 66 (by decide +kernel) (by decide +kernel), gw 1005 (by decide +kernel) (by decide +kernel), by decide +kernel⟩
theorem sl_J0_indexOf_7cf53 : Cond.selects RJ0 yJ0_indexOf_7cf53 yJ0_indexOf_7cf53 ∈ GT := gw 1004 (by decide +kernel) (by decide +kernel)
theorem wm_92 : Cond.methodLink RJ1 92 Lib.Math.max.name ∈ GT := gw 1026 (by decide +kernel) (by decide +kernel)
theorem wm_38 : Cond.methodLink RJ1 38 Lib.Math.min.name ∈ GT := gw 1027 (by decide +kernel) (by decide +kernel)
theorem ws_38 : Cond.fieldLink RJ0 38 "java/lang/String" "COMPACT_STRINGS" "Z" ∈ GT := gw 1010 (by decide +kernel) (by decide +kernel)
theorem ws_15 : Cond.fieldLink RJ0 15 "java/lang/String" "coder" "B" ∈ GT := gw 1511 (by decide +kernel) (by decide +kernel)
theorem ws_9 : Cond.fieldLink RJ0 9 "java/lang/String" "value" "[B" ∈ GT := gw 1512 (by decide +kernel) (by decide +kernel)
def bag (j : Nat) : Int32 := ([98, 97, 103, 106, 108] : List Int32).getD j 0
section VS1
variable {p : Program} {l : Launch} {e : Env} {R : Room} {s : State} {m : MethodId} {args : Array Value} {below : List Frame} {meth : Method} {c : Code} {D : va_G} {cy sa sv : Nat → Nat} {A : Nat → Prop} {Q : State → Prop} {cc : ByteArray} {nL : Nat} {own : String} {ret : Option FieldType} {cells slots : Nat} {σ : SH} {I X : IX} {pc : Nat} {lv : List (Nat × Value)} {st : List Value}
variable {y : MethodName} {cc' : ByteArray} {n' : Nat} {ret' : Option FieldType} {d' mc ms : Nat} {av : List Value} {post : PO} {xp : PX}
theorem fx_str (hF : Fx p l s m args meth c D cy sa sv A nL own cc ret) : vk_S 1 [5] [[98, 97, 103, 106, 108]] (fun _ => sa 23) sv A s s.heap := hF.2.2.2.2.2.2.2.2.1.2.2.2.2.2
theorem V.ldcT (hF : Fx p l s m args meth c D cy sa sv A nL own cc ret) {is : Nat} {text : String} (k : Nat) (hk : strs[k]? = some (own, is, text)) (d : decode cc pc = .ok (.ldc is, 2)) (kk : V p l e R s m args below meth c D cy A Q nL cells slots σ I X (pc + 2) lv (.ref (sa k) :: st)) : V p l e R s m args below meth c D cy A Q nL cells slots σ I X pc lv st := fun H locs ls hP hD hS hl => va_ldcS hF.1 hF.2.1 hF.2.2.2.1 (hF.2.2.2.2.2.2.2.2.1.2.1 k _ hk) d (kk H locs ls hP hD hS hl)
theorem V.baS (hF : Fx p l s m args meth c D cy sa sv A nL own cc ret) {j : Nat} {i : Int32} (d : decode cc pc = .ok (.baload, 1)) (hi : i = nI j) (hj : j < 5) (kk : V p l e R s m args below meth c D cy A Q nL cells slots σ I X (pc + 1) lv (.int (bag j) :: st)) : V p l e R s m args below meth c D cy A Q nL cells slots σ I X pc lv (.int i :: .ref (sv 0) :: st) := by
  intro H locs ls hP hD hS hl
  subst hi
  exact va_tb hF.1 hF.2.1 ((fx_str hF).1 0 (by decide)).2.2.2 hS (vp_in_nI hj (by show (5 : Nat) < _; omega)) (by rw [nI_clamp (by omega)]; rfl) d (kk H locs ls hP hD hS hl)
theorem V.alS (hF : Fx p l s m args meth c D cy sa sv A nL own cc ret) (d : decode cc pc = .ok (.arraylength, 1)) (kk : V p l e R s m args below meth c D cy A Q nL cells slots σ I X (pc + 1) lv (.int (nI 5) :: st)) : V p l e R s m args below meth c D cy A Q nL cells slots σ I X pc lv (.ref (sv 0) :: st) := fun H locs ls hP hD hS hl => va_tlen hF.1 hF.2.1 ((fx_str hF).1 0 (by decide)).2.2.2 hS (v := nI 5) rfl d (kk H locs ls hP hD hS hl)
theorem V.codS (hF : Fx p l s m args meth c D cy sa sv A nL RJ0 cc ret) (d : decode cc pc = .ok (.getfield 15, 3)) (kk : V p l e R s m args below meth c D cy A Q nL cells slots σ I X (pc + 3) lv (.int 0 :: st)) : V p l e R s m args below meth c D cy A Q nL cells slots σ I X pc lv (.ref (sa 23) :: st) := fun H locs ls hP hD hS hl => vk_getf hF.1 hF.2.1 ((fx_str hF).1 0 (by decide)).2.1 hS hF.2.2.2.1 (hF.2.2.2.2.1 _ ws_15) (fun _ h => h) d (kk H locs ls hP hD hS hl)
theorem V.valS (hF : Fx p l s m args meth c D cy sa sv A nL RJ0 cc ret) (d : decode cc pc = .ok (.getfield 9, 3)) (kk : V p l e R s m args below meth c D cy A Q nL cells slots σ I X (pc + 3) lv (.ref (sv 0) :: st)) : V p l e R s m args below meth c D cy A Q nL cells slots σ I X pc lv (.ref (sa 23) :: st) := fun H locs ls hP hD hS hl => vk_getf hF.1 hF.2.1 ((fx_str hF).1 0 (by decide)).2.2.1 hS hF.2.2.2.1 (hF.2.2.2.2.1 _ ws_9) (fun _ h => h) d (kk H locs ls hP hD hS hl)
theorem V.cmpS (hF : Fx p l s m args meth c D cy sa sv A nL RJ0 cc ret) (d : decode cc pc = .ok (.getstatic 38, 3)) (kk : V p l e R s m args below meth c D cy A Q nL cells slots σ I X (pc + 3) lv (.int 1 :: st)) : V p l e R s m args below meth c D cy A Q nL cells slots σ I X pc lv st := fun H locs ls hP hD hS hl => va_gets hF.1 hF.2.1 hF.2.2.2.2.2.2.2.2.1.2.2.2.2.1 hS hF.2.2.2.1 (hF.2.2.2.2.1 _ ws_38) (fun _ h => h) d (kk H locs ls hP hD hS hl)
theorem V.i2b (hF : Fx p l s m args meth c D cy sa sv A nL own cc ret) {x : Int32} (d : decode cc pc = .ok (.i2b, 1)) (kk : V p l e R s m args below meth c D cy A Q nL cells slots σ I X (pc + 1) lv (.int x.toInt8.toInt32 :: st)) : V p l e R s m args below meth c D cy A Q nL cells slots σ I X pc lv (.int x :: st) := fun H locs ls hP hD hS hl => lv_i2b hF.1 hF.2.1 d rfl (kk H locs ls hP hD hS hl)
theorem V.bret {v : Int32} (hF : Fx p l s m args meth c D cy sa sv A nL own cc (some .byte)) (d : decode cc pc = .ok (.ireturn, 1)) (hn : narrow .byte (.int v) = .int v) (hc : cells ≤ mc) (hs : slots ≤ ms) (h : post (some (.int v)) σ I X) : V p l e R s m args below meth c D cy A (QM below args s D cy A post xp mc ms) nL cells slots σ I X pc lv [.int v] := fun H locs ls hP hD hS hl => vx_ret (W.widen hc hs (W.zret hF.1 hF.2.1 hF.2.2.2.2.2.2.2.1 hn (fun t ht hW => ⟨⟨_, σ, I, X, rfl, h, by rw [ht]; exact hP, hD⟩, hS.F ht⟩) hS.2.2 d hF.2.2.2.2.2.2.1))
theorem V.callT (hF : Fx p l s m args meth c D cy sa sv A nL own cc ret) {idx : Nat} {As : List Value} (d : decode cc pc = .ok (.invokevirtual idx, 3)) (hc : Ct l D cy sa sv y cc' n' ret' d' mc ms (.ref (sa 23) :: As) σ I X post xp) (hl : Lk own idx y cc' n' ret' As.length (Cond.instanceMethod y)) (hsel : Cond.selects RJ0 y y ∈ GT) (hR : Fit R d' n' mc ms cells slots) (hw : (st.map fun v => v.category).sum ≤ 8)
    (kx : ∀ (E : String) (σ' : SH) (I' X' : IX), xp E σ' I' X' → VX p l e R s m args below meth c D cy A Q nL (cells + mc) (slots + ms) σ' I' X' E pc lv st)
    (kk : ∀ (v : Option Value) (σ' : SH) (I' X' : IX), post v σ' I' X' → V p l e R s m args below meth c D cy A Q nL (cells + mc) (slots + ms) σ' I' X' (pc + 3) lv (v.toList ++ st)) {st0 : List Value} (hst : st0 = (.ref (sa 23) :: As).reverse ++ st) : V p l e R s m args below meth c D cy A Q nL cells slots σ I X pc lv st0 := by
  refine V.ofRun hF (a := (Value.ref (sa 23) :: As).toArray) (fun H locs ls hP hD hS hls => ?_) kx kk
  have hpre := ct_pre (av := .ref (sa 23) :: As) hF hP hD hS
  have hrv := vk_recv (i := 0) (fx_str hF) (by decide) hS
  have hst' : st0 = As.reverse ++ .ref (sa 23) :: st := by rw [hst]; simp
  rcases hl.1 with h | ⟨host, h⟩
  · exact vx_runV (C := RJ0) (fx_fix hF) (hc H.size) ⟨lk_B hF hl h hR, hF.2.2.2.2.1 _ hl.2.1, hF.2.2.2.2.1 _ hsel⟩ ⟨ct_blind, hrv, hpre⟩ rfl rfl hls.1 hst' (lv_room hw) d ⟨hR.2.2.1, hR.2.2.2⟩
  · exact vx_runVN (C := RJ0) (fx_fix hF) (hc H.size) ⟨lk_N hF hl h hR, hF.2.2.2.2.1 _ hl.2.1, hF.2.2.2.2.1 _ hsel⟩ ⟨ct_blind, hrv, hpre⟩ rfl rfl hls.1 hst' (lv_room hw) d ⟨hR.2.2.1, hR.2.2.2⟩
theorem V.tI {σ' : SH} {I' X' : IX} {r : Int32} (hF : Fx p l s m args meth c D cy sa sv A nL own cc ret) {idx : Nat} {As : List Value} (d : decode cc pc = .ok (.invokevirtual idx, 3)) (hc : Ct l D cy sa sv y cc' n' ret' d' mc ms (.ref (sa 23) :: As) σ I X (pR (some (.int r)) σ' I' X') noX) (hl : Lk own idx y cc' n' ret' As.length (Cond.instanceMethod y)) (hsel : Cond.selects RJ0 y y ∈ GT) (hR : Fit R d' n' mc ms cells slots) (hw : (st.map fun v => v.category).sum ≤ 8) {st0 : List Value} (hst : st0 = (.ref (sa 23) :: As).reverse ++ st)
    (kk : V p l e R s m args below meth c D cy A Q nL (cells + mc) (slots + ms) σ' I' X' (pc + 3) lv (.int r :: st)) : V p l e R s m args below meth c D cy A Q nL cells slots σ I X pc lv st0 := V.callT hF d hc hl hsel hR hw (fun _ _ _ _ h => h.elim) (fun v σ1 I1 X1 h => by obtain ⟨rfl, rfl, rfl, rfl⟩ := h; exact kk) hst
end VS1
def sce (c : Int32) : Bool := !decide (c < 0) && !decide (nI 255 < c)
def sib (b : Int32) : Int32 := if nI 98 = b then nI 0 else if nI 97 = b then nI 1 else if nI 103 = b then nI 2 else if nI 106 = b then nI 3 else if nI 108 = b then nI 4 else -1
def six (c : Int32) : Int32 := if sce c then sib c.toInt8.toInt32 else -1
theorem six_k : ∀ k, k < 256 → (six (nI k) < 0 ↔ ¬ (k = 98 ∨ k = 97 ∨ k = 103 ∨ k = 106 ∨ k = 108)) := by decide +kernel
theorem six_pku (c : Int32) : six c < 0 ↔ pku c = false := by
  by_cases h : sce c = true
  · have h' := h
    simp only [sce, Bool.and_eq_true, Bool.not_eq_true', decide_eq_false_iff_not] at h'
    obtain ⟨k, hk, rfl⟩ := nI_of (x := c) h'.1
    have hk2 : k < 256 := by
      rcases Nat.lt_or_ge k 256 with q | q
      · exact q
      · exact absurd ((nI_ltI (by omega) hk).mpr (by omega)) h'.2
    rw [six_k k hk2]
    have e : ∀ j, j < 256 → (nI k = nI j ↔ k = j) := fun j hj => ⟨fun q => nI_eq' q (by omega) (by omega), fun q => by rw [q]⟩
    simp only [pku, Bool.or_eq_false_iff, decide_eq_false_iff_not, e 98 (by omega), e 97 (by omega), e 103 (by omega), e 106 (by omega), e 108 (by omega)]
    omega
  · have e : six c = -1 := by rw [six, if_neg h]
    rw [e]
    refine ⟨fun _ => ?_, fun _ => by decide⟩
    have hne : ∀ k, k < 256 → ¬ c = nI k := fun k hk q => h (by rw [q]; exact (by decide +kernel : ∀ k, k < 256 → sce (nI k) = true) k hk)
    simp only [pku, Bool.or_eq_false_iff, decide_eq_false_iff_not]
    exact ⟨⟨⟨⟨hne 98 (by omega), hne 97 (by omega)⟩, hne 103 (by omega)⟩, hne 106 (by omega)⟩, hne 108 (by omega)⟩
section MD
variable {l : Launch} {D : va_G} {cy sa sv : Nat → Nat}
set_option maxRecDepth 20000 in
theorem ct_J1_canEncode_9a6ad (hst : l.stackTraces = false) (σ : SH) (I X : IX) (x : Int32) : Ct l D cy sa sv yJ1_canEncode_9a6ad cJ1_canEncode_9a6ad 1 (some .boolean) 0 0 0 [.int x] σ I X (pR (some (.int (bI (sce x)))) σ I X) noX := by
  refine Ct.of (by decide) hst (Nat.le_of_ble_eq_true rfl) ?_
  intro pp ee ss mm args below meth kc A hF hnm hout
  refine V.iload_n hF dJ1_canEncode_9a6ad_0 rfl ?_
  refine V.if_lt (tgt := 15) hF dJ1_canEncode_9a6ad_1 (by decide) (fun h1 => ?_) (fun h1 => ?_)
  · refine V.iconst (v := nI 0) hF dJ1_canEncode_9a6ad_15 (by decide) ?_
    refine V.zret hF dJ1_canEncode_9a6ad_16 (Or.inl rfl) (Nat.le_refl _) (Nat.le_refl _) ?_
    exact pR.i (by first | exact bI_e1 (by simp [sce, *]) | exact bI_e0 (by simp [sce, *]))
  · refine V.iload_n hF dJ1_canEncode_9a6ad_4 rfl ?_
    refine V.sipush (v := nI 255) hF dJ1_canEncode_9a6ad_5 (by decide) ?_
    refine V.icmp_gt (tgt := 15) hF dJ1_canEncode_9a6ad_8 (by decide) (fun h8 => ?_) (fun h8 => ?_)
    · refine V.iconst (v := nI 0) hF dJ1_canEncode_9a6ad_15 (by decide) ?_
      refine V.zret hF dJ1_canEncode_9a6ad_16 (Or.inl rfl) (Nat.le_refl _) (Nat.le_refl _) ?_
      exact pR.i (by first | exact bI_e1 (by simp [sce, *]) | exact bI_e0 (by simp [sce, *]))
    · refine V.iconst (v := nI 1) hF dJ1_canEncode_9a6ad_11 (by decide) ?_
      refine V.goto (tgt := 16) hF dJ1_canEncode_9a6ad_12 (by decide) ?_
      refine V.zret hF dJ1_canEncode_9a6ad_16 (Or.inr rfl) (Nat.le_refl _) (Nat.le_refl _) ?_
      exact pR.i (by first | exact bI_e1 (by simp [sce, *]) | exact bI_e0 (by simp [sce, *]))
set_option maxRecDepth 20000 in
theorem ct_J1_indexOfChar_4cfef (hst : l.stackTraces = false) (σ : SH) (I X : IX) (x : Int32) : Ct l D cy sa sv yJ1_indexOfChar_4cfef cJ1_indexOfChar_4cfef 6 (some .int) 0 0 0 [.ref (sv 0), .int x, .int (nI 0), .int (nI 5)] σ I X (pR (some (.int (sib x.toInt8.toInt32))) σ I X) noX := by
  refine Ct.of (by decide) hst (Nat.le_of_ble_eq_true rfl) ?_
  intro pp ee ss mm args below meth kc A hF hnm hout
  refine V.iload_n hF dJ1_indexOfChar_4cfef_0 rfl ?_
  refine V.i2b hF dJ1_indexOfChar_4cfef_1 ?_
  refine V.istore hF dJ1_indexOfChar_4cfef_2 (by decide) ?_
  refine V.iload_n hF dJ1_indexOfChar_4cfef_4 rfl ?_
  refine V.istore hF dJ1_indexOfChar_4cfef_5 (by decide) ?_
  refine V.iload hF dJ1_indexOfChar_4cfef_7 rfl ?_
  refine V.iload_n hF dJ1_indexOfChar_4cfef_9 rfl ?_
  refine V.icmp_ge (tgt := 31) hF dJ1_indexOfChar_4cfef_10 (by decide) (fun h10 => ?_) (fun h10 => ?_)
  · exact absurd h10 (by decide)
  · refine V.aload_n hF dJ1_indexOfChar_4cfef_13 rfl ?_
    refine V.iload hF dJ1_indexOfChar_4cfef_14 rfl ?_
    refine V.baS (j := 0) hF dJ1_indexOfChar_4cfef_16 rfl (by decide) ?_
    refine V.topi (y := nI 98) (by decide) ?_
    refine V.iload hF dJ1_indexOfChar_4cfef_17 rfl ?_
    refine V.icmp_ne (tgt := 25) hF dJ1_indexOfChar_4cfef_19 (by decide) (fun h19 => ?_) (fun h19 => ?_)
    · refine V.iinc (v := nI 1) hF dJ1_indexOfChar_4cfef_25 rfl (by decide) (by decide) ?_
      refine V.goto (tgt := 7) hF dJ1_indexOfChar_4cfef_28 (by decide) ?_
      refine V.iload hF dJ1_indexOfChar_4cfef_7 rfl ?_
      refine V.iload_n hF dJ1_indexOfChar_4cfef_9 rfl ?_
      refine V.icmp_ge (tgt := 31) hF dJ1_indexOfChar_4cfef_10 (by decide) (fun h10 => ?_) (fun h10 => ?_)
      · exact absurd h10 (by decide)
      · refine V.aload_n hF dJ1_indexOfChar_4cfef_13 rfl ?_
        refine V.iload hF dJ1_indexOfChar_4cfef_14 rfl ?_
        refine V.baS (j := 1) hF dJ1_indexOfChar_4cfef_16 rfl (by decide) ?_
        refine V.topi (y := nI 97) (by decide) ?_
        refine V.iload hF dJ1_indexOfChar_4cfef_17 rfl ?_
        refine V.icmp_ne (tgt := 25) hF dJ1_indexOfChar_4cfef_19 (by decide) (fun h19 => ?_) (fun h19 => ?_)
        · refine V.iinc (v := nI 2) hF dJ1_indexOfChar_4cfef_25 rfl (by decide) (by decide) ?_
          refine V.goto (tgt := 7) hF dJ1_indexOfChar_4cfef_28 (by decide) ?_
          refine V.iload hF dJ1_indexOfChar_4cfef_7 rfl ?_
          refine V.iload_n hF dJ1_indexOfChar_4cfef_9 rfl ?_
          refine V.icmp_ge (tgt := 31) hF dJ1_indexOfChar_4cfef_10 (by decide) (fun h10 => ?_) (fun h10 => ?_)
          · exact absurd h10 (by decide)
          · refine V.aload_n hF dJ1_indexOfChar_4cfef_13 rfl ?_
            refine V.iload hF dJ1_indexOfChar_4cfef_14 rfl ?_
            refine V.baS (j := 2) hF dJ1_indexOfChar_4cfef_16 rfl (by decide) ?_
            refine V.topi (y := nI 103) (by decide) ?_
            refine V.iload hF dJ1_indexOfChar_4cfef_17 rfl ?_
            refine V.icmp_ne (tgt := 25) hF dJ1_indexOfChar_4cfef_19 (by decide) (fun h19 => ?_) (fun h19 => ?_)
            · refine V.iinc (v := nI 3) hF dJ1_indexOfChar_4cfef_25 rfl (by decide) (by decide) ?_
              refine V.goto (tgt := 7) hF dJ1_indexOfChar_4cfef_28 (by decide) ?_
              refine V.iload hF dJ1_indexOfChar_4cfef_7 rfl ?_
              refine V.iload_n hF dJ1_indexOfChar_4cfef_9 rfl ?_
              refine V.icmp_ge (tgt := 31) hF dJ1_indexOfChar_4cfef_10 (by decide) (fun h10 => ?_) (fun h10 => ?_)
              · exact absurd h10 (by decide)
              · refine V.aload_n hF dJ1_indexOfChar_4cfef_13 rfl ?_
                refine V.iload hF dJ1_indexOfChar_4cfef_14 rfl ?_
                refine V.baS (j := 3) hF dJ1_indexOfChar_4cfef_16 rfl (by decide) ?_
                refine V.topi (y := nI 106) (by decide) ?_
                refine V.iload hF dJ1_indexOfChar_4cfef_17 rfl ?_
                refine V.icmp_ne (tgt := 25) hF dJ1_indexOfChar_4cfef_19 (by decide) (fun h19 => ?_) (fun h19 => ?_)
                · refine V.iinc (v := nI 4) hF dJ1_indexOfChar_4cfef_25 rfl (by decide) (by decide) ?_
                  refine V.goto (tgt := 7) hF dJ1_indexOfChar_4cfef_28 (by decide) ?_
                  refine V.iload hF dJ1_indexOfChar_4cfef_7 rfl ?_
                  refine V.iload_n hF dJ1_indexOfChar_4cfef_9 rfl ?_
                  refine V.icmp_ge (tgt := 31) hF dJ1_indexOfChar_4cfef_10 (by decide) (fun h10 => ?_) (fun h10 => ?_)
                  · exact absurd h10 (by decide)
                  · refine V.aload_n hF dJ1_indexOfChar_4cfef_13 rfl ?_
                    refine V.iload hF dJ1_indexOfChar_4cfef_14 rfl ?_
                    refine V.baS (j := 4) hF dJ1_indexOfChar_4cfef_16 rfl (by decide) ?_
                    refine V.topi (y := nI 108) (by decide) ?_
                    refine V.iload hF dJ1_indexOfChar_4cfef_17 rfl ?_
                    refine V.icmp_ne (tgt := 25) hF dJ1_indexOfChar_4cfef_19 (by decide) (fun h19 => ?_) (fun h19 => ?_)
                    · refine V.iinc (v := nI 5) hF dJ1_indexOfChar_4cfef_25 rfl (by decide) (by decide) ?_
                      refine V.goto (tgt := 7) hF dJ1_indexOfChar_4cfef_28 (by decide) ?_
                      refine V.iload hF dJ1_indexOfChar_4cfef_7 rfl ?_
                      refine V.iload_n hF dJ1_indexOfChar_4cfef_9 rfl ?_
                      refine V.icmp_ge (tgt := 31) hF dJ1_indexOfChar_4cfef_10 (by decide) (fun h10 => ?_) (fun h10 => ?_)
                      · refine V.iconst (v := -1) hF dJ1_indexOfChar_4cfef_31 (by decide) ?_
                        refine V.iret hF dJ1_indexOfChar_4cfef_32 (Nat.le_refl _) (Nat.le_refl _) ?_
                        exact pR.i (by simp [sib, *])
                      · exact absurd h10 (by decide)
                    · refine V.iload hF dJ1_indexOfChar_4cfef_22 rfl ?_
                      refine V.iret hF dJ1_indexOfChar_4cfef_24 (Nat.le_refl _) (Nat.le_refl _) ?_
                      exact pR.i (by simp [sib, *])
                · refine V.iload hF dJ1_indexOfChar_4cfef_22 rfl ?_
                  refine V.iret hF dJ1_indexOfChar_4cfef_24 (Nat.le_refl _) (Nat.le_refl _) ?_
                  exact pR.i (by simp [sib, *])
            · refine V.iload hF dJ1_indexOfChar_4cfef_22 rfl ?_
              refine V.iret hF dJ1_indexOfChar_4cfef_24 (Nat.le_refl _) (Nat.le_refl _) ?_
              exact pR.i (by simp [sib, *])
        · refine V.iload hF dJ1_indexOfChar_4cfef_22 rfl ?_
          refine V.iret hF dJ1_indexOfChar_4cfef_24 (Nat.le_refl _) (Nat.le_refl _) ?_
          exact pR.i (by simp [sib, *])
    · refine V.iload hF dJ1_indexOfChar_4cfef_22 rfl ?_
      refine V.iret hF dJ1_indexOfChar_4cfef_24 (Nat.le_refl _) (Nat.le_refl _) ?_
      exact pR.i (by simp [sib, *])
set_option maxRecDepth 20000 in
theorem ct_J1_indexOf_4cfef (hst : l.stackTraces = false) (σ : SH) (I X : IX) (x : Int32) : Ct l D cy sa sv yJ1_indexOf_4cfef cJ1_indexOf_4cfef 4 (some .int) 1 0 0 [.ref (sv 0), .int x, .int (nI 0), .int (nI 5)] σ I X (pR (some (.int (six x))) σ I X) noX := by
  refine Ct.of (by decide) hst (Nat.le_of_ble_eq_true rfl) ?_
  intro pp ee ss mm args below meth kc A hF hnm hout
  refine V.iload_n hF dJ1_indexOf_4cfef_0 rfl ?_
  refine V.sI hF dJ1_indexOf_4cfef_1 (ct_J1_canEncode_9a6ad hst _ _ _ _) lk_J1_88 (fit_of rfl) (Nat.le_of_ble_eq_true rfl) rfl ?_
  refine V.if_neB (tgt := 9) hF dJ1_indexOf_4cfef_4 (by decide) (fun h4 => ?_) (fun h4 => ?_)
  · refine V.iload_n hF dJ1_indexOf_4cfef_9 rfl ?_
    refine V.iconst (v := nI 0) hF dJ1_indexOf_4cfef_10 (by decide) ?_
    refine V.mmax hF dJ1_indexOf_4cfef_11 wm_92 (Nat.le_of_ble_eq_true rfl) (Nat.le_of_ble_eq_true rfl) (Nat.le_of_ble_eq_true rfl) (Nat.le_of_ble_eq_true rfl) ?_
    refine V.topi (y := nI 0) (by decide) ?_
    refine V.istore_n hF dJ1_indexOf_4cfef_14 (by decide) ?_
    refine V.iload_n hF dJ1_indexOf_4cfef_15 rfl ?_
    refine V.aload_n hF dJ1_indexOf_4cfef_16 rfl ?_
    refine V.alS hF dJ1_indexOf_4cfef_17 ?_
    refine V.mmin hF dJ1_indexOf_4cfef_18 wm_38 (Nat.le_of_ble_eq_true rfl) (Nat.le_of_ble_eq_true rfl) (Nat.le_of_ble_eq_true rfl) (Nat.le_of_ble_eq_true rfl) ?_
    refine V.topi (y := nI 5) (by decide) ?_
    refine V.istore_n hF dJ1_indexOf_4cfef_21 (by decide) ?_
    refine V.iload_n hF dJ1_indexOf_4cfef_22 rfl ?_
    refine V.iload_n hF dJ1_indexOf_4cfef_23 rfl ?_
    refine V.icmp_lt (tgt := 29) hF dJ1_indexOf_4cfef_24 (by decide) (fun h24 => ?_) (fun h24 => ?_)
    · refine V.aload_n hF dJ1_indexOf_4cfef_29 rfl ?_
      refine V.iload_n hF dJ1_indexOf_4cfef_30 rfl ?_
      refine V.iload_n hF dJ1_indexOf_4cfef_31 rfl ?_
      refine V.iload_n hF dJ1_indexOf_4cfef_32 rfl ?_
      refine V.sI hF dJ1_indexOf_4cfef_33 (ct_J1_indexOfChar_4cfef hst _ _ _ _) lk_J1_95 (fit_of rfl) (Nat.le_of_ble_eq_true rfl) rfl ?_
      refine V.iret hF dJ1_indexOf_4cfef_36 (Nat.le_refl _) (Nat.le_refl _) ?_
      exact pR.i (by rw [six, if_pos h4])
    · exact absurd h24 (by decide)
  · refine V.iconst (v := -1) hF dJ1_indexOf_4cfef_7 (by decide) ?_
    refine V.iret hF dJ1_indexOf_4cfef_8 (Nat.le_refl _) (Nat.le_refl _) ?_
    exact pR.i (by rw [six, h4]; rfl)
set_option maxRecDepth 20000 in
theorem ct_J0_coder_7d493 (hst : l.stackTraces = false) (σ : SH) (I X : IX)  : Ct l D cy sa sv yJ0_coder_7d493 cJ0_coder_7d493 1 (some .byte) 0 0 0 [.ref (sa 23)] σ I X (pR (some (.int (0))) σ I X) noX := by
  refine Ct.of (by decide) hst (Nat.le_of_ble_eq_true rfl) ?_
  intro pp ee ss mm args below meth kc A hF hnm hout
  refine V.cmpS hF dJ0_coder_7d493_0 ?_
  refine V.if_eq (tgt := 13) hF dJ0_coder_7d493_3 (by decide) (fun h3 => ?_) (fun h3 => ?_)
  · exact absurd h3 (by decide)
  · refine V.aload_n hF dJ0_coder_7d493_6 rfl ?_
    refine V.codS hF dJ0_coder_7d493_7 ?_
    refine V.goto (tgt := 14) hF dJ0_coder_7d493_10 (by decide) ?_
    refine V.bret hF dJ0_coder_7d493_14 rfl (Nat.le_refl _) (Nat.le_refl _) ?_
    exact pR.i rfl
set_option maxRecDepth 20000 in
theorem ct_J0_isLatin1_aae02 (hst : l.stackTraces = false) (σ : SH) (I X : IX)  : Ct l D cy sa sv yJ0_isLatin1_aae02 cJ0_isLatin1_aae02 1 (some .boolean) 0 0 0 [.ref (sa 23)] σ I X (pR (some (.int (bI true))) σ I X) noX := by
  refine Ct.of (by decide) hst (Nat.le_of_ble_eq_true rfl) ?_
  intro pp ee ss mm args below meth kc A hF hnm hout
  refine V.cmpS hF dJ0_isLatin1_aae02_0 ?_
  refine V.if_eq (tgt := 17) hF dJ0_isLatin1_aae02_3 (by decide) (fun h3 => ?_) (fun h3 => ?_)
  · exact absurd h3 (by decide)
  · refine V.aload_n hF dJ0_isLatin1_aae02_6 rfl ?_
    refine V.codS hF dJ0_isLatin1_aae02_7 ?_
    refine V.if_ne (tgt := 17) hF dJ0_isLatin1_aae02_10 (by decide) (fun h10 => ?_) (fun h10 => ?_)
    · exact (h10 (by decide)).elim
    · refine V.iconst (v := nI 1) hF dJ0_isLatin1_aae02_13 (by decide) ?_
      refine V.goto (tgt := 18) hF dJ0_isLatin1_aae02_14 (by decide) ?_
      refine V.zret hF dJ0_isLatin1_aae02_18 (Or.inr rfl) (Nat.le_refl _) (Nat.le_refl _) ?_
      exact pR.i rfl
set_option maxRecDepth 20000 in
theorem ct_J0_length_8abf5 (hst : l.stackTraces = false) (σ : SH) (I X : IX)  : Ct l D cy sa sv yJ0_length_8abf5 cJ0_length_8abf5 1 (some .int) 1 0 0 [.ref (sa 23)] σ I X (pR (some (.int (nI 5))) σ I X) noX := by
  refine Ct.of (by decide) hst (Nat.le_of_ble_eq_true rfl) ?_
  intro pp ee ss mm args below meth kc A hF hnm hout
  refine V.aload_n hF dJ0_length_8abf5_0 rfl ?_
  refine V.valS hF dJ0_length_8abf5_1 ?_
  refine V.alS hF dJ0_length_8abf5_4 ?_
  refine V.aload_n hF dJ0_length_8abf5_5 rfl ?_
  refine V.tI hF dJ0_length_8abf5_6 (ct_J0_coder_7d493 hst _ _ _) lk_J0_335 sl_J0_coder_7d493 (fit_of rfl) (Nat.le_of_ble_eq_true rfl) rfl ?_
  refine V.ishr hF dJ0_length_8abf5_9 ?_
  refine V.iret hF dJ0_length_8abf5_10 (Nat.le_refl _) (Nat.le_refl _) ?_
  exact pR.i (by decide)
set_option maxRecDepth 20000 in
theorem ct_J0_indexOf_7cf53 (hst : l.stackTraces = false) (σ : SH) (I X : IX) (x : Int32) : Ct l D cy sa sv yJ0_indexOf_7cf53 cJ0_indexOf_7cf53 3 (some .int) 2 0 0 [.ref (sa 23), .int x, .int (nI 0)] σ I X (pR (some (.int (six x))) σ I X) noX := by
  refine Ct.of (by decide) hst (Nat.le_of_ble_eq_true rfl) ?_
  intro pp ee ss mm args below meth kc A hF hnm hout
  refine V.aload_n hF dJ0_indexOf_7cf53_0 rfl ?_
  refine V.tI hF dJ0_indexOf_7cf53_1 (ct_J0_isLatin1_aae02 hst _ _ _) lk_J0_492 sl_J0_isLatin1_aae02 (fit_of rfl) (Nat.le_of_ble_eq_true rfl) rfl ?_
  refine V.if_eqB (tgt := 23) hF dJ0_indexOf_7cf53_4 (by decide) (fun h4 => ?_) (fun h4 => ?_)
  · exact absurd h4 (by decide)
  · refine V.aload_n hF dJ0_indexOf_7cf53_7 rfl ?_
    refine V.valS hF dJ0_indexOf_7cf53_8 ?_
    refine V.iload_n hF dJ0_indexOf_7cf53_11 rfl ?_
    refine V.iload_n hF dJ0_indexOf_7cf53_12 rfl ?_
    refine V.aload_n hF dJ0_indexOf_7cf53_13 rfl ?_
    refine V.tI hF dJ0_indexOf_7cf53_14 (ct_J0_length_8abf5 hst _ _ _) lk_J0_505 sl_J0_length_8abf5 (fit_of rfl) (Nat.le_of_ble_eq_true rfl) rfl ?_
    refine V.sI hF dJ0_indexOf_7cf53_17 (ct_J1_indexOf_4cfef hst _ _ _ _) lk_J0_637 (fit_of rfl) (Nat.le_of_ble_eq_true rfl) rfl ?_
    refine V.goto (tgt := 36) hF dJ0_indexOf_7cf53_20 (by decide) ?_
    refine V.iret hF dJ0_indexOf_7cf53_36 (Nat.le_refl _) (Nat.le_refl _) ?_
    exact pR.i rfl
set_option maxRecDepth 20000 in
theorem ct_J0_indexOf_0f7a4 (hst : l.stackTraces = false) (σ : SH) (I X : IX) (x : Int32) : Ct l D cy sa sv yJ0_indexOf_0f7a4 cJ0_indexOf_0f7a4 2 (some .int) 3 0 0 [.ref (sa 23), .int x] σ I X (pR (some (.int (six x))) σ I X) noX := by
  refine Ct.of (by decide) hst (Nat.le_of_ble_eq_true rfl) ?_
  intro pp ee ss mm args below meth kc A hF hnm hout
  refine V.aload_n hF dJ0_indexOf_0f7a4_0 rfl ?_
  refine V.iload_n hF dJ0_indexOf_0f7a4_1 rfl ?_
  refine V.iconst (v := nI 0) hF dJ0_indexOf_0f7a4_2 (by decide) ?_
  refine V.tI hF dJ0_indexOf_0f7a4_3 (ct_J0_indexOf_7cf53 hst _ _ _ _) lk_J0_633 sl_J0_indexOf_7cf53 (fit_of rfl) (Nat.le_of_ble_eq_true rfl) rfl ?_
  refine V.iret hF dJ0_indexOf_0f7a4_6 (Nat.le_refl _) (Nat.le_refl _) ?_
  exact pR.i rfl
end MD
