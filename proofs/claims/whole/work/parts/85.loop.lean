/-! THE LAW'S LOOP -/
theorem lim4 {L i : Nat} (hL : L ≤ 2048) (hi : i ≤ 4096) : nI L - nI 4 < nI i ↔ L < i + 4 := by
  rcases Nat.lt_or_ge L 4 with h | h
  · refine ⟨fun _ => by omega, fun _ => ?_⟩
    rw [lt_I, nI_toInt (n := i) (by omega)]
    have q : (nI L - nI 4).toInt < 0 := by
      match L, h with
      | 0, _ => decide
      | 1, _ => decide
      | 2, _ => decide
      | 3, _ => decide
      | L + 4, h => exact absurd h (by omega)
    omega
  · have e : nI L - nI 4 = nI (L - 4) := by
      have q : nI L = nI (L - 4) + nI 4 := by rw [nI_add]; congr 1; omega
      rw [q]; exact Int32.add_sub_cancel _ _
    rw [e, nI_ltI (by omega) (by omega)]
    omega
theorem and63 (x : Int32) : ∃ j, j < 64 ∧ x &&& nI 63 = nI j := by
  have h1 : (x &&& nI 63).toBitVec.toNat ≤ 63 := by
    rw [Int32.toBitVec_and, BitVec.toNat_and]
    exact Nat.le_trans Nat.and_le_right (by decide)
  have h2 : (x &&& nI 63).toInt = ((x &&& nI 63).toBitVec.toNat : Int) := by
    show (x &&& nI 63).toBitVec.toInt = _
    exact BitVec.toInt_eq_toNat_of_lt (by omega)
  have z0 : (0 : Int32).toInt = 0 := by decide
  have z63 : (nI 63).toInt = 63 := by decide
  obtain ⟨j, hj, e⟩ := nI_of2 (x := x &&& nI 63) (M := nI 63) (n := 63) (by decide) (by rw [lt_I, z0, h2]; omega) (by rw [le_I, z63, h2]; omega)
  exact ⟨j, by omega, e⟩

section Lp
variable {p : Program} {l : Launch} {e : Env} {R : Room} {s : State} {m : MethodId} {args : Array Value} {below : List Frame} {meth : Method} {c : Code} {D : va_G} {cy sa sv : Nat → Nat} {A : Nat → Prop} {Q : State → Prop} {b L : Nat} {xs : Nat → Int32} {o so om out dout : Nat} {ta ar : Nat → Nat}
set_option maxRecDepth 20000 in
theorem law_loop (hF : Fx p l s m args meth c D cy sa sv A 9 RL cL_law (some .boolean)) (hst : l.stackTraces = false) (hnc : NC s) (hXs : va_X b L xs s s.heap) (hbl : b < s.heap.size) (hbA : ¬ A b) (hL : L ≤ 2048) (hR1 : 20 ≤ R.frames) (hR2 : 10000 ≤ R.locals)
    (E : ∀ (σ : SH) (I X : IX) (cl sl : Nat) (lv : List (Nat × Value)), cl ≤ R.cells → sl ≤ R.slots → V p l e R s m args below meth c D cy A Q 9 cl sl σ I X 2499 lv []) : ∀ (k i cl sl : Nat) (σ : SH) (I X : IX), L ≤ i + 4 * k + 3 → i ≤ 2048 → cl + 60 * k ≤ R.cells → sl + 5000 * k ≤ R.slots → LW σ I X o so om out dout ta ar → V p l e R s m args below meth c D cy A Q 9 cl sl σ I X 28 [(0, .ref b), (1, .ref o), (2, .ref om), (3, .ref out), (4, .ref dout), (5, .int (nI i))] [] := by
  intro k
  induction k with
  | zero =>
    intro i cl sl σ I X hk hi hc hs hw
    refine V.iload hF dL_law_28 rfl ?_
    refine V.aload_n hF dL_law_30 rfl ?_
    refine V.slen hF hXs hbl hbA dL_law_31 ?_
    refine V.iconst (v := nI 4) hF dL_law_32 (by decide) ?_
    refine V.isub hF dL_law_33 ?_
    exact V.icmp_gt (tgt := 2499) hF dL_law_34 (by decide) (fun _ => E _ _ _ _ _ _ (by omega) (by omega)) (fun h => absurd ((lim4 hL (by omega)).mpr (by omega)) h)
  | succ k ih =>
    intro i cl sl σ I X hk hi hc hs hw
    refine V.iload hF dL_law_28 rfl ?_
    refine V.aload_n hF dL_law_30 rfl ?_
    refine V.slen hF hXs hbl hbA dL_law_31 ?_
    refine V.iconst (v := nI 4) hF dL_law_32 (by decide) ?_
    refine V.isub hF dL_law_33 ?_
    refine V.icmp_gt (tgt := 2499) hF dL_law_34 (by decide) (fun _ => E _ _ _ _ _ _ (by omega) (by omega)) (fun h => ?_)
    have hi4 : i + 4 ≤ L := by
      rcases Nat.lt_or_ge L (i + 4) with q | q
      · exact absurd ((lim4 hL (by omega)).mpr q) h
      · exact q
    have K : ∀ (σ' : SH) (I' X' : IX), LW σ' I' X' o so om out dout ta ar → V p l e R s m args below meth c D cy A Q 9 (cl + 60) (sl + 5000) σ' I' X' 2493 [(0, .ref b), (1, .ref o), (2, .ref om), (3, .ref out), (4, .ref dout), (5, .int (nI i))] [] := fun σ' I' X' h' => by
      refine V.iinc (v := nI (i + 4)) hF dL_law_2493 rfl (by rw [show Int32.ofInt 4 = nI 4 by decide]; exact nI_add i 4) (by decide) ?_
      refine V.goto (tgt := 28) hF dL_law_2496 (by decide) ?_
      refine V.relv [0, 1, 2, 3, 4, 5] rfl ?_
      exact ih (i + 4) (cl + 60) (sl + 5000) σ' I' X' (by omega) (by omega) (by omega) (by omega) h'
    refine V.aload_n hF dL_law_37 rfl ?_
    refine V.iload hF dL_law_38 rfl ?_
    refine V.sld (j := i) hF hXs hbl hbA rfl (by omega) hL dL_law_40 ?_
    refine V.bipush (v := nI 63) hF dL_law_41 (by decide) ?_
    refine V.iand hF dL_law_43 ?_
    obtain ⟨j, hj, ej⟩ := and63 (xs i)
    refine V.topi ej ?_
    obtain ⟨tg, ad, C, n, t1, t2, t3, hx⟩ := hw
    rcases Nat.lt_or_ge j 41 with q | q
    · match j, q with
      | 0, _ => exact V.tableIn (off := 180) (tgt := 224) hF dL_law_44 (by decide) (by decide) (by first | rfl | decide) (by decide) (lcase_reset hF hst hnc hXs hbl hbA (by omega) hL hx (by omega) (by omega) hR1 hR2 K)
      | 1, _ => exact V.tableIn (off := 236) (tgt := 280) hF dL_law_44 (by decide) (by decide) (by first | rfl | decide) (by decide) (lcase_view hF hst hnc hXs hbl hbA (by omega) hL hx (by omega) (by omega) hR1 hR2 K)
      | 2, _ => exact V.tableIn (off := 249) (tgt := 293) hF dL_law_44 (by decide) (by decide) (by first | rfl | decide) (by decide) (lcase_membersOf hF hst hnc hXs hbl hbA (by omega) hL hx (by omega) (by omega) hR1 hR2 K)
      | 3, _ => exact V.tableIn (off := 305) (tgt := 349) hF dL_law_44 (by decide) (by decide) (by first | rfl | decide) (by decide) (lcase_forcedIn hF hst hnc hXs hbl hbA (by omega) hL hx (by omega) (by omega) hR1 hR2 K)
      | 4, _ => exact V.tableIn (off := 361) (tgt := 405) hF dL_law_44 (by decide) (by decide) (by first | rfl | decide) (by decide) (lcase_proposed hF hst hnc hXs hbl hbA (by omega) hL hx (by omega) (by omega) hR1 hR2 K)
      | 5, _ => exact V.tableIn (off := 374) (tgt := 418) hF dL_law_44 (by decide) (by decide) (by first | rfl | decide) (by decide) (lcase_requestJoin hF hst hnc hXs hbl hbA (by omega) hL hx (by omega) (by omega) hR1 hR2 K)
      | 6, _ => exact V.tableIn (off := 430) (tgt := 474) hF dL_law_44 (by decide) (by decide) (by first | rfl | decide) (by decide) (lcase_requestLeave hF hst hnc hXs hbl hbA (by omega) hL hx (by omega) (by omega) hR1 hR2 K)
      | 7, _ => exact V.tableIn (off := 486) (tgt := 530) hF dL_law_44 (by decide) (by decide) (by first | rfl | decide) (by decide) (lcase_install hF hst hnc hXs hbl hbA (by omega) hL hx (by omega) (by omega) hR1 hR2 K)
      | 8, _ => exact V.tableIn (off := 530) (tgt := 574) hF dL_law_44 (by decide) (by decide) (by first | rfl | decide) (by decide) (lcase_broadcast hF hst hnc hXs hbl hbA (by omega) hL hx (by omega) (by omega) hR1 hR2 K)
      | 9, _ => exact V.tableIn (off := 598) (tgt := 642) hF dL_law_44 (by decide) (by decide) (by first | rfl | decide) (by decide) (lcase_arrive hF hst hnc hXs hbl hbA (by omega) hL hx (by omega) (by omega) hR1 hR2 K)
      | 10, _ => exact V.tableIn (off := 666) (tgt := 710) hF dL_law_44 (by decide) (by decide) (by first | rfl | decide) (by decide) (lcase_arriveAll hF hst hnc hXs hbl hbA (by omega) hL hx (by omega) (by omega) hR1 hR2 K)
      | 11, _ => exact V.tableIn (off := 722) (tgt := 766) hF dL_law_44 (by decide) (by decide) (by first | rfl | decide) (by decide) (lcase_gossip hF hst hnc hXs hbl hbA (by omega) hL hx (by omega) (by omega) hR1 hR2 K)
      | 12, _ => exact V.tableIn (off := 790) (tgt := 834) hF dL_law_44 (by decide) (by decide) (by first | rfl | decide) (by decide) (lcase_messageCount hF hst hnc hXs hbl hbA (by omega) hL hx (by omega) (by omega) hR1 hR2 K)
      | 13, _ => exact V.tableIn (off := 803) (tgt := 847) hF dL_law_44 (by decide) (by decide) (by first | rfl | decide) (by decide) (lcase_message hF hst hnc hXs hbl hbA (by omega) hL hx (by omega) (by omega) hR1 hR2 K)
      | 14, _ => exact V.tableIn (off := 871) (tgt := 915) hF dL_law_44 (by decide) (by decide) (by first | rfl | decide) (by decide) (lcase_messageClock hF hst hnc hXs hbl hbA (by omega) hL hx (by omega) (by omega) hR1 hR2 K)
      | 15, _ => exact V.tableIn (off := 939) (tgt := 983) hF dL_law_44 (by decide) (by decide) (by first | rfl | decide) (by decide) (lcase_isCause hF hst hnc hXs hbl hbA (by omega) hL hx (by omega) (by omega) hR1 hR2 K)
      | 16, _ => exact V.tableIn (off := 1014) (tgt := 1058) hF dL_law_44 (by decide) (by decide) (by first | rfl | decide) (by decide) (lcase_causes hF hst hnc hXs hbl hbA (by omega) hL hx (by omega) (by omega) hR1 hR2 K)
      | 17, _ => exact V.tableIn (off := 1070) (tgt := 1114) hF dL_law_44 (by decide) (by decide) (by first | rfl | decide) (by decide) (lcase_concurrent hF hst hnc hXs hbl hbA (by omega) hL hx (by omega) (by omega) hR1 hR2 K)
      | 18, _ => exact V.tableIn (off := 1126) (tgt := 1170) hF dL_law_44 (by decide) (by decide) (by first | rfl | decide) (by decide) (lcase_longestChain hF hst hnc hXs hbl hbA (by omega) hL hx (by omega) (by omega) hR1 hR2 K)
      | 19, _ => exact V.tableIn (off := 1182) (tgt := 1226) hF dL_law_44 (by decide) (by decide) (by first | rfl | decide) (by decide) (lcase_duplicates hF hst hnc hXs hbl hbA (by omega) hL hx (by omega) (by omega) hR1 hR2 K)
      | 20, _ => exact V.tableIn (off := 1195) (tgt := 1239) hF dL_law_44 (by decide) (by decide) (by first | rfl | decide) (by decide) (lcase_logLength hF hst hnc hXs hbl hbA (by omega) hL hx (by omega) (by omega) hR1 hR2 K)
      | 21, _ => exact V.tableIn (off := 1251) (tgt := 1295) hF dL_law_44 (by decide) (by decide) (by first | rfl | decide) (by decide) (lcase_logged hF hst hnc hXs hbl hbA (by omega) hL hx (by omega) (by omega) hR1 hR2 K)
      | 22, _ => exact V.tableIn (off := 1319) (tgt := 1363) hF dL_law_44 (by decide) (by decide) (by first | rfl | decide) (by decide) (lcase_position hF hst hnc hXs hbl hbA (by omega) hL hx (by omega) (by omega) hR1 hR2 K)
      | 23, _ => exact V.tableIn (off := 1387) (tgt := 1431) hF dL_law_44 (by decide) (by decide) (by first | rfl | decide) (by decide) (lcase_state hF hst hnc hXs hbl hbA (by omega) hL hx (by omega) (by omega) hR1 hR2 K)
      | 24, _ => exact V.tableIn (off := 1443) (tgt := 1487) hF dL_law_44 (by decide) (by decide) (by first | rfl | decide) (by decide) (lcase_clock hF hst hnc hXs hbl hbA (by omega) hL hx (by omega) (by omega) hR1 hR2 K)
      | 25, _ => exact V.tableIn (off := 1511) (tgt := 1555) hF dL_law_44 (by decide) (by decide) (by first | rfl | decide) (by decide) (lcase_buffered hF hst hnc hXs hbl hbA (by omega) hL hx (by omega) (by omega) hR1 hR2 K)
      | 26, _ => exact V.tableIn (off := 1567) (tgt := 1611) hF dL_law_44 (by decide) (by decide) (by first | rfl | decide) (by decide) (lcase_bufferedMessage hF hst hnc hXs hbl hbA (by omega) hL hx (by omega) (by omega) hR1 hR2 K)
      | 27, _ => exact V.tableIn (off := 1635) (tgt := 1679) hF dL_law_44 (by decide) (by decide) (by first | rfl | decide) (by decide) (lcase_missing hF hst hnc hXs hbl hbA (by omega) hL hx (by omega) (by omega) hR1 hR2 K)
      | 28, _ => exact V.tableIn (off := 1703) (tgt := 1747) hF dL_law_44 (by decide) (by decide) (by first | rfl | decide) (by decide) (lcase_inTransit hF hst hnc hXs hbl hbA (by omega) hL hx (by omega) (by omega) hR1 hR2 K)
      | 29, _ => exact V.tableIn (off := 1759) (tgt := 1803) hF dL_law_44 (by decide) (by decide) (by first | rfl | decide) (by decide) (lcase_disagreements hF hst hnc hXs hbl hbA (by omega) hL hx (by omega) (by omega) hR1 hR2 K)
      | 30, _ => exact V.tableIn (off := 1827) (tgt := 1871) hF dL_law_44 (by decide) (by decide) (by first | rfl | decide) (by decide) (lcase_overlap hF hst hnc hXs hbl hbA (by omega) hL hx (by omega) (by omega) hR1 hR2 K)
      | 31, _ => exact V.tableIn (off := 1916) (tgt := 1960) hF dL_law_44 (by decide) (by decide) (by first | rfl | decide) (by decide) (lcase_known hF hst hnc hXs hbl hbA (by omega) hL hx (by omega) (by omega) hR1 hR2 K)
      | 32, _ => exact V.tableIn (off := 1996) (tgt := 2040) hF dL_law_44 (by decide) (by decide) (by first | rfl | decide) (by decide) (lcase_isStable hF hst hnc hXs hbl hbA (by omega) hL hx (by omega) (by omega) hR1 hR2 K)
      | 33, _ => exact V.tableIn (off := 2071) (tgt := 2115) hF dL_law_44 (by decide) (by decide) (by first | rfl | decide) (by decide) (lcase_unstable hF hst hnc hXs hbl hbA (by omega) hL hx (by omega) (by omega) hR1 hR2 K)
      | 34, _ => exact V.tableIn (off := 2127) (tgt := 2171) hF dL_law_44 (by decide) (by decide) (by first | rfl | decide) (by decide) (lcase_isEverywhere hF hst hnc hXs hbl hbA (by omega) hL hx (by omega) (by omega) hR1 hR2 K)
      | 35, _ => exact V.tableIn (off := 2190) (tgt := 2234) hF dL_law_44 (by decide) (by decide) (by first | rfl | decide) (by decide) (lcase_firstUnaware hF hst hnc hXs hbl hbA (by omega) hL hx (by omega) (by omega) hR1 hR2 K)
      | 36, _ => exact V.tableIn (off := 2246) (tgt := 2290) hF dL_law_44 (by decide) (by decide) (by first | rfl | decide) (by decide) (lcase_append hF hst hnc hXs hbl hbA (by omega) hL hx (by omega) (by omega) hR1 hR2 K)
      | 37, _ => exact V.tableIn (off := 2304) (tgt := 2348) hF dL_law_44 (by decide) (by decide) (by first | rfl | decide) (by decide) (lcase_run hF hst hnc hXs hbl hbA (by omega) hL hx (by omega) (by omega) hR1 hR2 K)
      | 38, _ => exact V.tableIn (off := 2348) (tgt := 2392) hF dL_law_44 (by decide) (by decide) (by first | rfl | decide) (by decide) (lcase_errorPosition hF hst hnc hXs hbl hbA (by omega) hL hx (by omega) (by omega) hR1 hR2 K)
      | 39, _ => exact V.tableIn (off := 2392) (tgt := 2436) hF dL_law_44 (by decide) (by decide) (by first | rfl | decide) (by decide) (lcase_saveSnapshot hF hst hnc hXs hbl hbA (by omega) hL hx (by omega) (by omega) hR1 hR2 K)
      | 40, _ => exact V.tableIn (off := 2405) (tgt := 2449) hF dL_law_44 (by decide) (by decide) (by first | rfl | decide) (by decide) (lcase_restoreSnapshot hF hst hnc hXs hbl hbA (by omega) hL hx (by omega) (by omega) hR1 hR2 K)
      | j + 41, q => exact absurd q (by omega)
    · refine V.tableOut (tgt := 2493) hF dL_law_44 (Or.inr (by rw [nI_toInt (by omega)]; omega)) (by decide) ?_
      exact V.widen (k := cl + 60) (n := sl + 5000) (by omega) (by omega) (K _ _ _ ⟨tg, ad, C, n, t1, t2, t3, hx⟩)
end Lp
