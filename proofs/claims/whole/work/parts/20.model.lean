/-! the reference, as functions of its row v -/
abbrev Rw : Type := Nat → Int32
def vN (v : Rw) (k : Nat) : Nat := (v k).toNatClampNeg
def zlog (v : Rw) (p m : Nat) : Bool := decide (v (2460 + 150 * p + m) = nI 1)
def zcB (f : Nat → Bool) : Nat → Nat
  | 0 => 0
  | k + 1 => zcB f k + (if f k then 1 else 0)
def zmu (v : Rw) (p : Nat) : Nat := zcB (fun m => !zlog v p m) 150
def WV (v : Rw) : Prop := (v 42 = nI (vN v 42) ∧ vN v 42 ≤ 20) ∧ (v 44 = nI (vN v 44) ∧ vN v 44 ≤ 150) ∧ (∀ m, m < 150 → v (50 + m) = nI (vN v (50 + m)) ∧ vN v (50 + m) < 6) ∧ (∀ p, p < 6 → v (1550 + p) = nI (vN v (1550 + p)) ∧ vN v (1550 + p) + zmu v p = 150) ∧ (∀ p i, p < 6 → i < 150 → v (1560 + 150 * p + i) = nI (vN v (1560 + 150 * p + i)) ∧ vN v (1560 + 150 * p + i) < 150)
theorem WV.vw {v : Rw} (h : WV v) : v 42 = nI (vN v 42) := h.1.1
theorem WV.vw20 {v : Rw} (h : WV v) : vN v 42 ≤ 20 := h.1.2
theorem WV.n {v : Rw} (h : WV v) : v 44 = nI (vN v 44) := h.2.1.1
theorem WV.n150 {v : Rw} (h : WV v) : vN v 44 ≤ 150 := h.2.1.2
theorem WV.s {v : Rw} (h : WV v) {m : Nat} (hm : m < 150) : v (50 + m) = nI (vN v (50 + m)) := (h.2.2.1 m hm).1
theorem WV.s6 {v : Rw} (h : WV v) {m : Nat} (hm : m < 150) : vN v (50 + m) < 6 := (h.2.2.1 m hm).2
theorem WV.l {v : Rw} (h : WV v) {p : Nat} (hp : p < 6) : v (1550 + p) = nI (vN v (1550 + p)) := (h.2.2.2.1 p hp).1
theorem WV.l150 {v : Rw} (h : WV v) {p : Nat} (hp : p < 6) : vN v (1550 + p) ≤ 150 := by have := (h.2.2.2.1 p hp).2; omega
theorem WV.mu {v : Rw} (h : WV v) {p : Nat} (hp : p < 6) : vN v (1550 + p) + zmu v p = 150 := (h.2.2.2.1 p hp).2
theorem WV.g {v : Rw} (h : WV v) {p i : Nat} (hp : p < 6) (hi : i < 150) : v (1560 + 150 * p + i) = nI (vN v (1560 + 150 * p + i)) := (h.2.2.2.2 p i hp hi).1
theorem WV.g150 {v : Rw} (h : WV v) {p i : Nat} (hp : p < 6) (hi : i < 150) : vN v (1560 + 150 * p + i) < 150 := (h.2.2.2.2 p i hp hi).2
def zisIn (x lo hi : Int32) : Bool := decide (lo ≤ x) && decide (x ≤ hi)
def zPr (x : Int32) : Bool := zisIn x (nI 0) (nI 5)
def zMs (v : Rw) (m : Int32) : Bool := zisIn m (nI 0) (v 44 - nI 1)
def zmem (v : Rw) : Int32 := v (vN v 42)
def zbit (s p : Int32) : Bool := decide ((s >>> (p &&& 31)) &&& nI 1 = nI 1)
def zisM (v : Rw) (p : Int32) : Bool := zbit (zmem v) p
def zcnt (s : Int32) : Nat → Int32
  | 0 => nI 0
  | k + 1 => zcnt s k + ((s >>> (nI k &&& 31)) &&& nI 1)
def zall (f : Nat → Bool) : Nat → Bool
  | 0 => true
  | k + 1 => zall f k && f k
theorem zall_t {f : Nat → Bool} {k : Nat} (h : zall f k = true) (h2 : f k = true) : zall f (k + 1) = true := by simp [zall, h, h2]
theorem zall_f {f : Nat → Bool} {k : Nat} (h2 : f k = false) : ∀ {n : Nat}, k < n → zall f n = false
  | 0, h => absurd h (Nat.not_lt_zero _)
  | n + 1, h => by
    by_cases hk : k = n
    · subst hk; simp [zall, h2]
    · simp [zall, zall_f h2 (show k < n by omega)]
def zclk (v : Rw) (p q : Nat) : Int32 := v (4270 + 36 * p + 6 * p + q)
def znow (v : Rw) (m : Nat) : Bool := decide (v (350 + m) = v 42)
def zdq (v : Rw) (p m q : Nat) : Bool := decide (q = vN v (50 + m)) || decide (v (650 + 6 * m + q) ≤ zclk v p q)
def zdel (v : Rw) (p m : Nat) : Bool := znow v m && !zlog v p m && zall (zdq v p m) 6 && decide (v (500 + m) = zclk v p (vN v (50 + m)) + nI 1)
def zlg1 (v : Rw) (p m : Nat) : Rw := upd v (1560 + 150 * p + vN v (1550 + p)) (nI m)
def zlg2 (v : Rw) (p m : Nat) : Rw := upd (zlg1 v p m) (1550 + p) (zlg1 v p m (1550 + p) + nI 1)
def zlogs (v : Rw) (p m : Nat) : Rw := upd (zlg2 v p m) (2460 + 150 * p + m) (nI 1)
def zdv0 (v : Rw) (p m : Nat) : Rw := upd (zlogs v p m) (4260 + p) (nI 31 * zlogs v p m (4260 + p) + zlogs v p m (200 + m))
def zdv1 (v : Rw) (p m s : Nat) : Rw := upd (zdv0 v p m) (4270 + 42 * p + s) (zdv0 v p m (4270 + 42 * p + s) + nI 1)
def zdvL (p m s : Nat) (w : Rw) : Nat → Rw
  | 0 => w
  | q + 1 => upd (zdvL p m s w q) (4270 + 36 * p + 6 * s + q) (if zdvL p m s w q (650 + 6 * m + q) ≤ zdvL p m s w q (4270 + 36 * p + 6 * s + q) then zdvL p m s w q (4270 + 36 * p + 6 * s + q) else zdvL p m s w q (650 + 6 * m + q))
def zdeliv (v : Rw) (p m : Nat) : Rw := if vN v (50 + m) = p then zdv1 v p m (vN v (50 + m)) else zdvL p m (vN v (50 + m)) (zdv1 v p m (vN v (50 + m))) 6
theorem i0 : nI 0 = 0 := rfl
theorem i1 : nI 1 = 1 := rfl
theorem i2 : (nI 2 = 0) = False := by decide
theorem bI_d {c : Prop} [Decidable c] (h : c) : nI 1 = bI (decide c) := by rw [decide_eq_true h]; rfl
theorem bI_nd {c : Prop} [Decidable c] (h : ¬ c) : nI 0 = bI (decide c) := by rw [decide_eq_false h]; rfl
theorem bI_e1 {b : Bool} (h : b = true) : nI 1 = bI b := by rw [h]; rfl
theorem bI_e0 {b : Bool} (h : b = false) : nI 0 = bI b := by rw [h]; rfl
theorem nlt_le {x y : Int32} (h : ¬ x < y) : y ≤ x := by rw [Int32.lt_iff_toInt_lt] at h; rw [Int32.le_iff_toInt_le]; omega
theorem lt_nle {x y : Int32} (h : x < y) : ¬ y ≤ x := by rw [Int32.lt_iff_toInt_lt] at h; rw [Int32.le_iff_toInt_le]; omega
theorem nle_lt {x y : Int32} (h : ¬ x ≤ y) : y < x := by rw [Int32.le_iff_toInt_le] at h; rw [Int32.lt_iff_toInt_lt]; omega
theorem le_nlt {x y : Int32} (h : x ≤ y) : ¬ y < x := by rw [Int32.le_iff_toInt_le] at h; rw [Int32.lt_iff_toInt_lt]; omega
theorem nI_ge' {a b : Nat} (h : nI b ≤ nI a) (ha : a < 2147483648) (hb : b < 2147483648) : b ≤ a := (nI_leI hb ha).mp h
theorem nI_nge {a b : Nat} (h : ¬ nI b ≤ nI a) (ha : a < 2147483648) (hb : b < 2147483648) : a < b := by
  rcases Nat.lt_or_ge a b with q | q
  · exact q
  · exact absurd ((nI_leI hb ha).mpr q) h
theorem nI_eq' {a b : Nat} (h : nI a = nI b) (ha : a < 2147483648) (hb : b < 2147483648) : a = b := (nI_eq ha hb).mp h
theorem nI_ne {a b : Nat} (h : ¬ nI a = nI b) : a ≠ b := fun q => h (by rw [q])
/-- thrown := x -/
abbrev th (f : Rw) (x : Int32) : Rw := upd f 0 x

section MD
variable {l : Launch} {D : va_G} {cy sa sv : Nat → Nat}
set_option maxRecDepth 20000 in
theorem ct_X5_isIn (hst : l.stackTraces = false) (σ : SH) (I X : IX) (x lo hi : Int32) : Ct l D cy sa sv yX5_isIn cX5_isIn 3 (some .boolean) 0 0 0 [.int x, .int lo, .int hi] σ I X (pR (some (.int (bI (zisIn x lo hi)))) σ I X) noX := by
  refine Ct.of (by decide) hst (Nat.le_of_ble_eq_true rfl) ?_
  intro pp ee ss mm args below meth kc A hF hnm hout
  refine V.iload_n hF dX5_isIn_0 rfl ?_
  refine V.iload_n hF dX5_isIn_1 rfl ?_
  refine V.icmp_lt (tgt := 14) hF dX5_isIn_2 (by decide) (fun h2 => ?_) (fun h2 => ?_)
  · refine V.iconst (v := nI 0) hF dX5_isIn_14 (by decide) ?_
    refine V.zret hF dX5_isIn_15 (Or.inl rfl) (Nat.le_refl _) (Nat.le_refl _) ?_
    exact pR.i (by simp [bI, zisIn, i0, i1, nlt_le, lt_nle, nle_lt, le_nlt, *])
  · refine V.iload_n hF dX5_isIn_5 rfl ?_
    refine V.iload_n hF dX5_isIn_6 rfl ?_
    refine V.icmp_gt (tgt := 14) hF dX5_isIn_7 (by decide) (fun h7 => ?_) (fun h7 => ?_)
    · refine V.iconst (v := nI 0) hF dX5_isIn_14 (by decide) ?_
      refine V.zret hF dX5_isIn_15 (Or.inl rfl) (Nat.le_refl _) (Nat.le_refl _) ?_
      exact pR.i (by simp [bI, zisIn, i0, i1, nlt_le, lt_nle, nle_lt, le_nlt, *])
    · refine V.iconst (v := nI 1) hF dX5_isIn_10 (by decide) ?_
      refine V.goto (tgt := 15) hF dX5_isIn_11 (by decide) ?_
      refine V.zret hF dX5_isIn_15 (Or.inr rfl) (Nat.le_refl _) (Nat.le_refl _) ?_
      exact pR.i (by simp [bI, zisIn, i0, i1, nlt_le, lt_nle, nle_lt, le_nlt, *])
set_option maxRecDepth 20000 in
theorem ct_X5_isProcess (hst : l.stackTraces = false) (σ : SH) (I X : IX) (x : Int32) : Ct l D cy sa sv yX5_isProcess cX5_isProcess 1 (some .boolean) 1 0 0 [.int x] σ I X (pR (some (.int (bI (zPr x)))) σ I X) noX := by
  refine Ct.of (by decide) hst (Nat.le_of_ble_eq_true rfl) ?_
  intro pp ee ss mm args below meth kc A hF hnm hout
  refine V.iload_n hF dX5_isProcess_0 rfl ?_
  refine V.iconst (v := nI 0) hF dX5_isProcess_1 (by decide) ?_
  refine V.iconst (v := nI 5) hF dX5_isProcess_2 (by decide) ?_
  refine V.sI hF dX5_isProcess_3 (ct_X5_isIn hst _ _ _ _ _ _) lk_X5_41 (fit_of rfl) (Nat.le_of_ble_eq_true rfl) rfl ?_
  refine V.zret hF dX5_isProcess_6 (bI_01 _) (Nat.le_refl _) (Nat.le_refl _) ?_
  exact pR.i rfl
set_option maxRecDepth 20000 in
theorem ct_X5_isMessage (hst : l.stackTraces = false) (σ : SH) (I X : IX) (o : Nat) (ar : Nat → Nat) (hM : MS σ o ar) (v : Rw) (hX : X (ar 1) = v) (x : Int32) : Ct l D cy sa sv yX5_isMessage cX5_isMessage 2 (some .boolean) 1 0 0 [.ref o, .int x] σ I X (pR (some (.int (bI (zMs v x)))) σ I X) noX := by
  refine Ct.of (by decide) hst (Nat.le_of_ble_eq_true rfl) ?_
  intro pp ee ss mm args below meth kc A hF hnm hout
  refine V.iload_n hF dX5_isMessage_0 rfl ?_
  refine V.iconst (v := nI 0) hF dX5_isMessage_1 (by decide) ?_
  refine V.aload_n hF dX5_isMessage_2 rfl ?_
  refine V.getR hF dX5_isMessage_3 fl_X5_9 hM.1.1 hM.1.2 rfl hM.m1.1 ?_
  refine V.bipush (v := nI 44) hF dX5_isMessage_6 (by decide) ?_
  refine V.ialoadF (j := 44) hF dX5_isMessage_8 hM.m1.2.1 hM.m1.2.2.1 rfl (hM.m1.lt (lt_of rfl)) (hM.m1.sm (by decide)) hX ?_
  refine V.iconst (v := nI 1) hF dX5_isMessage_9 (by decide) ?_
  refine V.isub hF dX5_isMessage_10 ?_
  refine V.sI hF dX5_isMessage_11 (ct_X5_isIn hst _ _ _ _ _ _) lk_X5_41 (fit_of rfl) (Nat.le_of_ble_eq_true rfl) rfl ?_
  refine V.zret hF dX5_isMessage_14 (bI_01 _) (Nat.le_refl _) (Nat.le_refl _) ?_
  exact pR.i rfl
set_option maxRecDepth 20000 in
theorem ct_X5_members (hst : l.stackTraces = false) (σ : SH) (I X : IX) (o : Nat) (ar : Nat → Nat) (hM : MS σ o ar) (v : Rw) (hX : X (ar 1) = v) (hv : WV v) : Ct l D cy sa sv yX5_members cX5_members 1 (some .int) 0 0 0 [.ref o] σ I X (pR (some (.int (zmem v))) σ I X) noX := by
  refine Ct.of (by decide) hst (Nat.le_of_ble_eq_true rfl) ?_
  intro pp ee ss mm args below meth kc A hF hnm hout
  refine V.aload_n hF dX5_members_0 rfl ?_
  refine V.getR hF dX5_members_1 fl_X5_9 hM.1.1 hM.1.2 rfl hM.m1.1 ?_
  refine V.iconst (v := nI 0) hF dX5_members_4 (by decide) ?_
  refine V.aload_n hF dX5_members_5 rfl ?_
  refine V.getR hF dX5_members_6 fl_X5_9 hM.1.1 hM.1.2 rfl hM.m1.1 ?_
  refine V.bipush (v := nI 42) hF dX5_members_9 (by decide) ?_
  refine V.ialoadF (j := 42) hF dX5_members_11 hM.m1.2.1 hM.m1.2.2.1 rfl (hM.m1.lt (lt_of rfl)) (hM.m1.sm (by decide)) hX ?_
  refine V.topi (y := nI (vN v 42)) hv.vw ?_
  refine V.iadd hF dX5_members_12 ?_
  refine V.ialoadF (j := vN v 42) hF dX5_members_13 hM.m1.2.1 hM.m1.2.2.1 (by simp only [nI_add, pk_mul, Nat.zero_add]) (hM.m1.lt (by have := hv.vw20; omega)) (hM.m1.sm (by decide)) hX ?_
  refine V.iret hF dX5_members_14 (Nat.le_refl _) (Nat.le_refl _) ?_
  exact pR.i rfl
set_option maxRecDepth 20000 in
theorem ct_X5_isMember (hst : l.stackTraces = false) (σ : SH) (I X : IX) (o : Nat) (ar : Nat → Nat) (hM : MS σ o ar) (v : Rw) (hX : X (ar 1) = v) (hv : WV v) (x : Int32) : Ct l D cy sa sv yX5_isMember cX5_isMember 2 (some .boolean) 1 0 0 [.ref o, .int x] σ I X (pR (some (.int (bI (zisM v x)))) σ I X) noX := by
  refine Ct.of (by decide) hst (Nat.le_of_ble_eq_true rfl) ?_
  intro pp ee ss mm args below meth kc A hF hnm hout
  refine V.aload_n hF dX5_isMember_0 rfl ?_
  refine V.vI hF dX5_isMember_1 (ct_X5_members hst _ _ _ _ _ hM _ hX hv) lk_X5_45 sl_X5_members hM.1.1 hM.1.2 rfl (Nat.le_of_ble_eq_true rfl) (fit_of rfl) (Nat.le_of_ble_eq_true rfl) rfl ?_
  refine V.iload_n hF dX5_isMember_4 rfl ?_
  refine V.ishr hF dX5_isMember_5 ?_
  refine V.iconst (v := nI 1) hF dX5_isMember_6 (by decide) ?_
  refine V.iand hF dX5_isMember_7 ?_
  refine V.iconst (v := nI 1) hF dX5_isMember_8 (by decide) ?_
  refine V.icmp_ne (tgt := 16) hF dX5_isMember_9 (by decide) (fun h9 => ?_) (fun h9 => ?_)
  · refine V.iconst (v := nI 0) hF dX5_isMember_16 (by decide) ?_
    refine V.zret hF dX5_isMember_17 (Or.inl rfl) (Nat.le_refl _) (Nat.le_refl _) ?_
    exact pR.i (by first | exact bI_d (by assumption) | exact bI_nd (by assumption))
  · refine V.iconst (v := nI 1) hF dX5_isMember_12 (by decide) ?_
    refine V.goto (tgt := 17) hF dX5_isMember_13 (by decide) ?_
    refine V.zret hF dX5_isMember_17 (Or.inr rfl) (Nat.le_refl _) (Nat.le_refl _) ?_
    exact pR.i (by first | exact bI_d (by assumption) | exact bI_nd (by assumption))
set_option maxRecDepth 20000 in
theorem ct_X5_count (hst : l.stackTraces = false) (σ : SH) (I X : IX) (x : Int32) : Ct l D cy sa sv yX5_count cX5_count 3 (some .int) 0 0 0 [.int x] σ I X (pR (some (.int (zcnt x 6))) σ I X) noX := by
  refine Ct.of (by decide) hst (Nat.le_of_ble_eq_true rfl) ?_
  intro pp ee ss mm args below meth kc A hF hnm hout
  refine V.iconst (v := nI 0) hF dX5_count_0 (by decide) ?_
  refine V.istore_n hF dX5_count_1 (by decide) ?_
  refine V.iconst (v := nI 0) hF dX5_count_2 (by decide) ?_
  refine V.istore_n hF dX5_count_3 (by decide) ?_
  have L4 : ∀ (n4 : Nat) (k : Nat) (y : Int32), 6 - k < n4 → k ≤ 6 → y = zcnt x k → V pp l ee (Rm 0 0 0) ss mm args below meth kc D cy A (QM below args ss D cy A (pR (some (.int (zcnt x 6))) σ I X) noX 0 0) 3 0 0 σ I X 4 [(0, .int x), (1, .int y), (2, .int (nI k))] [] := by
    intro n4
    induction n4 with
    | zero => intro k y hlt4; exact absurd hlt4 (Nat.not_lt_zero _)
    | succ n4 ih4 =>
      intro k y hlt4 hk hy
      refine V.iload_n hF dX5_count_4 rfl ?_
      refine V.bipush (v := nI 6) hF dX5_count_5 (by decide) ?_
      refine V.icmp_ge (tgt := 24) hF dX5_count_7 (by decide) (fun h7 => ?_) (fun h7 => ?_)
      · have hk6 : k = 6 := by have := nI_ge' h7 (by omega) (by omega); omega
        refine V.iload_n hF dX5_count_24 rfl ?_
        refine V.iret hF dX5_count_25 (Nat.le_refl _) (Nat.le_refl _) ?_
        exact pR.i (by rw [hy, hk6])
      · have hk6 : k < 6 := nI_nge h7 (by omega) (by omega)
        refine V.iload_n hF dX5_count_10 rfl ?_
        refine V.iload_n hF dX5_count_11 rfl ?_
        refine V.iload_n hF dX5_count_12 rfl ?_
        refine V.ishr hF dX5_count_13 ?_
        refine V.iconst (v := nI 1) hF dX5_count_14 (by decide) ?_
        refine V.iand hF dX5_count_15 ?_
        refine V.iadd hF dX5_count_16 ?_
        refine V.istore_n hF dX5_count_17 (by decide) ?_
        refine V.iinc (v := nI (k + 1)) hF dX5_count_18 rfl (by exact nI_1 _) (by decide) ?_
        refine V.goto (tgt := 4) hF dX5_count_21 (by decide) ?_
        refine V.relv [0, 1, 2] rfl ?_
        exact ih4 (k + 1) _ (by omega) (by omega) (by rw [hy]; rfl)
  refine V.relv [0, 1, 2] rfl ?_
  exact L4 _ 0 (nI 0) (Nat.lt_succ_self _) (by omega) rfl
set_option maxRecDepth 20000 in
theorem ct_X5_no (hst : l.stackTraces = false) (σ : SH) (I X : IX) (o : Nat) (ar : Nat → Nat) (hM : MS σ o ar) (f : Rw) (hI : I o = f) (x : Int32) : Ct l D cy sa sv yX5_no cX5_no 2 (some .int) 0 0 0 [.ref o, .int x] σ I X (pR (some (.int (nI 0))) σ (va_up I o (th f (x))) X) noX := by
  refine Ct.of (by decide) hst (Nat.le_of_ble_eq_true rfl) ?_
  intro pp ee ss mm args below meth kc A hF hnm hout
  refine V.etaI o hI ?_
  refine V.aload_n hF dX5_no_0 rfl ?_
  refine V.iload_n hF dX5_no_1 rfl ?_
  refine V.putIU hF dX5_no_2 fl_X5_38 hM.1.1 hM.1.2 rfl rfl rfl ?_
  refine V.iconst (v := nI 0) hF dX5_no_5 (by decide) ?_
  refine V.iret hF dX5_no_6 (Nat.le_refl _) (Nat.le_refl _) ?_
  exact pR.i rfl
set_option maxRecDepth 20000 in
theorem ct_X5_thrown (hst : l.stackTraces = false) (σ : SH) (I X : IX) (o : Nat) (ar : Nat → Nat) (hM : MS σ o ar) (f : Rw) (hI : I o = f) : Ct l D cy sa sv yX5_thrown cX5_thrown 1 (some .int) 0 0 0 [.ref o] σ I X (pR (some (.int (f 0))) σ I X) noX := by
  refine Ct.of (by decide) hst (Nat.le_of_ble_eq_true rfl) ?_
  intro pp ee ss mm args below meth kc A hF hnm hout
  refine V.aload_n hF dX5_thrown_0 rfl ?_
  refine V.getIF hF dX5_thrown_1 fl_X5_38 hM.1.1 hM.1.2 rfl hI ?_
  refine V.iret hF dX5_thrown_4 (Nat.le_refl _) (Nat.le_refl _) ?_
  exact pR.i rfl
set_option maxRecDepth 20000 in
theorem ct_X5_isOne (hst : l.stackTraces = false) (σ : SH) (I X : IX) (o : Nat) (ar : Nat → Nat) (hM : MS σ o ar) (f : Rw) (hI : I o = f) (x : Int32) : Ct l D cy sa sv yX5_isOne cX5_isOne 2 (some .boolean) 2 0 0 [.ref o, .int x] σ I X (pR (some (.int (bI (zPr x)))) σ (va_up I o (th f (if zPr x then nI 0 else nI 1))) X) noX := by
  refine Ct.of (by decide) hst (Nat.le_of_ble_eq_true rfl) ?_
  intro pp ee ss mm args below meth kc A hF hnm hout
  refine V.etaI o hI ?_
  refine V.aload_n hF dX5_isOne_0 rfl ?_
  refine V.iload_n hF dX5_isOne_1 rfl ?_
  refine V.sI hF dX5_isOne_2 (ct_X5_isProcess hst _ _ _ _) lk_X5_49 (fit_of rfl) (Nat.le_of_ble_eq_true rfl) rfl ?_
  refine V.if_eqB (tgt := 12) hF dX5_isOne_5 (by decide) (fun h5 => ?_) (fun h5 => ?_)
  · refine V.iconst (v := nI 1) hF dX5_isOne_12 (by decide) ?_
    refine V.putIU hF dX5_isOne_13 fl_X5_38 hM.1.1 hM.1.2 rfl rfl rfl ?_
    refine V.aload_n hF dX5_isOne_16 rfl ?_
    refine V.getIF hF dX5_isOne_17 fl_X5_38 hM.1.1 hM.1.2 rfl (va_up_self _ _ _) ?_
    refine V.topi (y := nI 1) (by simp [upd]) ?_
    refine V.if_ne (tgt := 27) hF dX5_isOne_20 (by decide) (fun h20 => ?_) (fun h20 => ?_)
    · refine V.iconst (v := nI 0) hF dX5_isOne_27 (by decide) ?_
      refine V.zret hF dX5_isOne_28 (Or.inl rfl) (Nat.le_refl _) (Nat.le_refl _) ?_
      exact pR.e (by first | simp_all [bI, i0, i1, i2, upd] | rfl) (by simp_all [th]) rfl
    · exact absurd h20 (by decide)
  · refine V.iconst (v := nI 0) hF dX5_isOne_8 (by decide) ?_
    refine V.goto (tgt := 13) hF dX5_isOne_9 (by decide) ?_
    refine V.putIU hF dX5_isOne_13 fl_X5_38 hM.1.1 hM.1.2 rfl rfl rfl ?_
    refine V.aload_n hF dX5_isOne_16 rfl ?_
    refine V.getIF hF dX5_isOne_17 fl_X5_38 hM.1.1 hM.1.2 rfl (va_up_self _ _ _) ?_
    refine V.topi (y := nI 0) (by simp [upd]) ?_
    refine V.if_ne (tgt := 27) hF dX5_isOne_20 (by decide) (fun h20 => ?_) (fun h20 => ?_)
    · exact (h20 (by decide)).elim
    · refine V.iconst (v := nI 1) hF dX5_isOne_23 (by decide) ?_
      refine V.goto (tgt := 28) hF dX5_isOne_24 (by decide) ?_
      refine V.zret hF dX5_isOne_28 (Or.inr rfl) (Nat.le_refl _) (Nat.le_refl _) ?_
      exact pR.e (by first | simp_all [bI, i0, i1, i2, upd] | rfl) (by simp_all [th]) rfl
set_option maxRecDepth 20000 in
theorem ct_X5_isInView (hst : l.stackTraces = false) (σ : SH) (I X : IX) (o : Nat) (ar : Nat → Nat) (hM : MS σ o ar) (f : Rw) (hI : I o = f) (v : Rw) (hX : X (ar 1) = v) (hv : WV v) (x : Int32) : Ct l D cy sa sv yX5_isInView cX5_isInView 2 (some .boolean) 2 0 0 [.ref o, .int x] σ I X (pR (some (.int (bI (zPr x && zisM v x)))) σ (va_up I o (th f (if zPr x then (if zisM v x then nI 0 else nI 2) else nI 1))) X) noX := by
  refine Ct.of (by decide) hst (Nat.le_of_ble_eq_true rfl) ?_
  intro pp ee ss mm args below meth kc A hF hnm hout
  refine V.etaI o hI ?_
  refine V.aload_n hF dX5_isInView_0 rfl ?_
  refine V.iload_n hF dX5_isInView_1 rfl ?_
  refine V.sI hF dX5_isInView_2 (ct_X5_isProcess hst _ _ _ _) lk_X5_49 (fit_of rfl) (Nat.le_of_ble_eq_true rfl) rfl ?_
  refine V.if_neB (tgt := 12) hF dX5_isInView_5 (by decide) (fun h5 => ?_) (fun h5 => ?_)
  · refine V.aload_n hF dX5_isInView_12 rfl ?_
    refine V.iload_n hF dX5_isInView_13 rfl ?_
    refine V.vI hF dX5_isInView_14 (ct_X5_isMember hst _ _ _ _ _ hM _ hX hv _) lk_X5_53 sl_X5_isMember hM.1.1 hM.1.2 rfl (Nat.le_of_ble_eq_true rfl) (fit_of rfl) (Nat.le_of_ble_eq_true rfl) rfl ?_
    refine V.if_eqB (tgt := 24) hF dX5_isInView_17 (by decide) (fun h17 => ?_) (fun h17 => ?_)
    · refine V.iconst (v := nI 2) hF dX5_isInView_24 (by decide) ?_
      refine V.putIU hF dX5_isInView_25 fl_X5_38 hM.1.1 hM.1.2 rfl rfl rfl ?_
      refine V.aload_n hF dX5_isInView_28 rfl ?_
      refine V.getIF hF dX5_isInView_29 fl_X5_38 hM.1.1 hM.1.2 rfl (va_up_self _ _ _) ?_
      refine V.topi (y := nI 2) (by simp [upd]) ?_
      refine V.if_ne (tgt := 39) hF dX5_isInView_32 (by decide) (fun h32 => ?_) (fun h32 => ?_)
      · refine V.iconst (v := nI 0) hF dX5_isInView_39 (by decide) ?_
        refine V.zret hF dX5_isInView_40 (Or.inl rfl) (Nat.le_refl _) (Nat.le_refl _) ?_
        exact pR.e (by first | simp_all [bI, i0, i1, i2, upd] | rfl) (by simp_all [th]) rfl
      · exact absurd h32 (by decide)
    · refine V.iconst (v := nI 0) hF dX5_isInView_20 (by decide) ?_
      refine V.goto (tgt := 25) hF dX5_isInView_21 (by decide) ?_
      refine V.putIU hF dX5_isInView_25 fl_X5_38 hM.1.1 hM.1.2 rfl rfl rfl ?_
      refine V.aload_n hF dX5_isInView_28 rfl ?_
      refine V.getIF hF dX5_isInView_29 fl_X5_38 hM.1.1 hM.1.2 rfl (va_up_self _ _ _) ?_
      refine V.topi (y := nI 0) (by simp [upd]) ?_
      refine V.if_ne (tgt := 39) hF dX5_isInView_32 (by decide) (fun h32 => ?_) (fun h32 => ?_)
      · exact (h32 (by decide)).elim
      · refine V.iconst (v := nI 1) hF dX5_isInView_35 (by decide) ?_
        refine V.goto (tgt := 40) hF dX5_isInView_36 (by decide) ?_
        refine V.zret hF dX5_isInView_40 (Or.inr rfl) (Nat.le_refl _) (Nat.le_refl _) ?_
        exact pR.e (by first | simp_all [bI, i0, i1, i2, upd] | rfl) (by simp_all [th]) rfl
  · refine V.iconst (v := nI 1) hF dX5_isInView_8 (by decide) ?_
    refine V.goto (tgt := 25) hF dX5_isInView_9 (by decide) ?_
    refine V.putIU hF dX5_isInView_25 fl_X5_38 hM.1.1 hM.1.2 rfl rfl rfl ?_
    refine V.aload_n hF dX5_isInView_28 rfl ?_
    refine V.getIF hF dX5_isInView_29 fl_X5_38 hM.1.1 hM.1.2 rfl (va_up_self _ _ _) ?_
    refine V.topi (y := nI 1) (by simp [upd]) ?_
    refine V.if_ne (tgt := 39) hF dX5_isInView_32 (by decide) (fun h32 => ?_) (fun h32 => ?_)
    · refine V.iconst (v := nI 0) hF dX5_isInView_39 (by decide) ?_
      refine V.zret hF dX5_isInView_40 (Or.inl rfl) (Nat.le_refl _) (Nat.le_refl _) ?_
      exact pR.e (by first | simp_all [bI, i0, i1, i2, upd] | rfl) (by simp_all [th]) rfl
    · exact absurd h32 (by decide)
set_option maxRecDepth 20000 in
theorem ct_X5_isSent (hst : l.stackTraces = false) (σ : SH) (I X : IX) (o : Nat) (ar : Nat → Nat) (hM : MS σ o ar) (f : Rw) (hI : I o = f) (v : Rw) (hX : X (ar 1) = v) (x : Int32) : Ct l D cy sa sv yX5_isSent cX5_isSent 2 (some .boolean) 2 0 0 [.ref o, .int x] σ I X (pR (some (.int (bI (zMs v x)))) σ (va_up I o (th f (if zMs v x then nI 0 else nI 1))) X) noX := by
  refine Ct.of (by decide) hst (Nat.le_of_ble_eq_true rfl) ?_
  intro pp ee ss mm args below meth kc A hF hnm hout
  refine V.etaI o hI ?_
  refine V.aload_n hF dX5_isSent_0 rfl ?_
  refine V.aload_n hF dX5_isSent_1 rfl ?_
  refine V.iload_n hF dX5_isSent_2 rfl ?_
  refine V.vI hF dX5_isSent_3 (ct_X5_isMessage hst _ _ _ _ _ hM _ hX _) lk_X5_56 sl_X5_isMessage hM.1.1 hM.1.2 rfl (Nat.le_of_ble_eq_true rfl) (fit_of rfl) (Nat.le_of_ble_eq_true rfl) rfl ?_
  refine V.if_eqB (tgt := 13) hF dX5_isSent_6 (by decide) (fun h6 => ?_) (fun h6 => ?_)
  · refine V.iconst (v := nI 1) hF dX5_isSent_13 (by decide) ?_
    refine V.putIU hF dX5_isSent_14 fl_X5_38 hM.1.1 hM.1.2 rfl rfl rfl ?_
    refine V.aload_n hF dX5_isSent_17 rfl ?_
    refine V.getIF hF dX5_isSent_18 fl_X5_38 hM.1.1 hM.1.2 rfl (va_up_self _ _ _) ?_
    refine V.topi (y := nI 1) (by simp [upd]) ?_
    refine V.if_ne (tgt := 28) hF dX5_isSent_21 (by decide) (fun h21 => ?_) (fun h21 => ?_)
    · refine V.iconst (v := nI 0) hF dX5_isSent_28 (by decide) ?_
      refine V.zret hF dX5_isSent_29 (Or.inl rfl) (Nat.le_refl _) (Nat.le_refl _) ?_
      exact pR.e (by first | simp_all [bI, i0, i1, i2, upd] | rfl) (by simp_all [th]) rfl
    · exact absurd h21 (by decide)
  · refine V.iconst (v := nI 0) hF dX5_isSent_9 (by decide) ?_
    refine V.goto (tgt := 14) hF dX5_isSent_10 (by decide) ?_
    refine V.putIU hF dX5_isSent_14 fl_X5_38 hM.1.1 hM.1.2 rfl rfl rfl ?_
    refine V.aload_n hF dX5_isSent_17 rfl ?_
    refine V.getIF hF dX5_isSent_18 fl_X5_38 hM.1.1 hM.1.2 rfl (va_up_self _ _ _) ?_
    refine V.topi (y := nI 0) (by simp [upd]) ?_
    refine V.if_ne (tgt := 28) hF dX5_isSent_21 (by decide) (fun h21 => ?_) (fun h21 => ?_)
    · exact (h21 (by decide)).elim
    · refine V.iconst (v := nI 1) hF dX5_isSent_24 (by decide) ?_
      refine V.goto (tgt := 29) hF dX5_isSent_25 (by decide) ?_
      refine V.zret hF dX5_isSent_29 (Or.inr rfl) (Nat.le_refl _) (Nat.le_refl _) ?_
      exact pR.e (by first | simp_all [bI, i0, i1, i2, upd] | rfl) (by simp_all [th]) rfl
set_option maxRecDepth 20000 in
theorem ct_X5_clockOf (hst : l.stackTraces = false) (σ : SH) (I X : IX) (o : Nat) (ar : Nat → Nat) (hM : MS σ o ar) (v : Rw) (hX : X (ar 1) = v) (p q : Nat) (hp : p < 6) (hq : q < 6) : Ct l D cy sa sv yX5_clockOf cX5_clockOf 3 (some .int) 0 0 0 [.ref o, .int (nI p), .int (nI q)] σ I X (pR (some (.int (zclk v p q))) σ I X) noX := by
  refine Ct.of (by decide) hst (Nat.le_of_ble_eq_true rfl) ?_
  intro pp ee ss mm args below meth kc A hF hnm hout
  refine V.aload_n hF dX5_clockOf_0 rfl ?_
  refine V.getR hF dX5_clockOf_1 fl_X5_9 hM.1.1 hM.1.2 rfl hM.m1.1 ?_
  refine V.sipush (v := nI 4270) hF dX5_clockOf_4 (by decide) ?_
  refine V.bipush (v := nI 36) hF dX5_clockOf_7 (by decide) ?_
  refine V.iload_n hF dX5_clockOf_9 rfl ?_
  refine V.imul hF dX5_clockOf_10 ?_
  refine V.iadd hF dX5_clockOf_11 ?_
  refine V.bipush (v := nI 6) hF dX5_clockOf_12 (by decide) ?_
  refine V.iload_n hF dX5_clockOf_14 rfl ?_
  refine V.imul hF dX5_clockOf_15 ?_
  refine V.iadd hF dX5_clockOf_16 ?_
  refine V.iload_n hF dX5_clockOf_17 rfl ?_
  refine V.iadd hF dX5_clockOf_18 ?_
  refine V.ialoadF (j := (((4270 + (36 * p)) + (6 * p)) + q)) hF dX5_clockOf_19 hM.m1.2.1 hM.m1.2.2.1 (by simp only [nI_add, pk_mul, Nat.zero_add, Nat.add_zero]) (hM.m1.lt (by omega)) (hM.m1.sm (by decide)) hX ?_
  refine V.iret hF dX5_clockOf_20 (Nat.le_refl _) (Nat.le_refl _) ?_
  exact pR.i rfl
set_option maxRecDepth 20000 in
theorem ct_X5_isLogged (hst : l.stackTraces = false) (σ : SH) (I X : IX) (o : Nat) (ar : Nat → Nat) (hM : MS σ o ar) (v : Rw) (hX : X (ar 1) = v) (p m : Nat) (hp : p < 6) (hm : m < 150) : Ct l D cy sa sv yX5_isLogged cX5_isLogged 3 (some .boolean) 0 0 0 [.ref o, .int (nI p), .int (nI m)] σ I X (pR (some (.int (bI (zlog v p m)))) σ I X) noX := by
  refine Ct.of (by decide) hst (Nat.le_of_ble_eq_true rfl) ?_
  intro pp ee ss mm args below meth kc A hF hnm hout
  refine V.aload_n hF dX5_isLogged_0 rfl ?_
  refine V.getR hF dX5_isLogged_1 fl_X5_9 hM.1.1 hM.1.2 rfl hM.m1.1 ?_
  refine V.sipush (v := nI 2460) hF dX5_isLogged_4 (by decide) ?_
  refine V.sipush (v := nI 150) hF dX5_isLogged_7 (by decide) ?_
  refine V.iload_n hF dX5_isLogged_10 rfl ?_
  refine V.imul hF dX5_isLogged_11 ?_
  refine V.iadd hF dX5_isLogged_12 ?_
  refine V.iload_n hF dX5_isLogged_13 rfl ?_
  refine V.iadd hF dX5_isLogged_14 ?_
  refine V.ialoadF (j := ((2460 + (150 * p)) + m)) hF dX5_isLogged_15 hM.m1.2.1 hM.m1.2.2.1 (by simp only [nI_add, pk_mul, Nat.zero_add, Nat.add_zero]) (hM.m1.lt (by omega)) (hM.m1.sm (by decide)) hX ?_
  refine V.iconst (v := nI 1) hF dX5_isLogged_16 (by decide) ?_
  refine V.icmp_ne (tgt := 24) hF dX5_isLogged_17 (by decide) (fun h17 => ?_) (fun h17 => ?_)
  · refine V.iconst (v := nI 0) hF dX5_isLogged_24 (by decide) ?_
    refine V.zret hF dX5_isLogged_25 (Or.inl rfl) (Nat.le_refl _) (Nat.le_refl _) ?_
    exact pR.i (by first | exact bI_d (by assumption) | exact bI_nd (by assumption))
  · refine V.iconst (v := nI 1) hF dX5_isLogged_20 (by decide) ?_
    refine V.goto (tgt := 25) hF dX5_isLogged_21 (by decide) ?_
    refine V.zret hF dX5_isLogged_25 (Or.inr rfl) (Nat.le_refl _) (Nat.le_refl _) ?_
    exact pR.i (by first | exact bI_d (by assumption) | exact bI_nd (by assumption))
set_option maxRecDepth 20000 in
theorem ct_X5_isNow (hst : l.stackTraces = false) (σ : SH) (I X : IX) (o : Nat) (ar : Nat → Nat) (hM : MS σ o ar) (v : Rw) (hX : X (ar 1) = v) (m : Nat) (hm : m < 150) : Ct l D cy sa sv yX5_isNow cX5_isNow 2 (some .boolean) 0 0 0 [.ref o, .int (nI m)] σ I X (pR (some (.int (bI (znow v m)))) σ I X) noX := by
  refine Ct.of (by decide) hst (Nat.le_of_ble_eq_true rfl) ?_
  intro pp ee ss mm args below meth kc A hF hnm hout
  refine V.aload_n hF dX5_isNow_0 rfl ?_
  refine V.getR hF dX5_isNow_1 fl_X5_9 hM.1.1 hM.1.2 rfl hM.m1.1 ?_
  refine V.sipush (v := nI 350) hF dX5_isNow_4 (by decide) ?_
  refine V.iload_n hF dX5_isNow_7 rfl ?_
  refine V.iadd hF dX5_isNow_8 ?_
  refine V.ialoadF (j := (350 + m)) hF dX5_isNow_9 hM.m1.2.1 hM.m1.2.2.1 (by simp only [nI_add, pk_mul, Nat.zero_add, Nat.add_zero]) (hM.m1.lt (by omega)) (hM.m1.sm (by decide)) hX ?_
  refine V.aload_n hF dX5_isNow_10 rfl ?_
  refine V.getR hF dX5_isNow_11 fl_X5_9 hM.1.1 hM.1.2 rfl hM.m1.1 ?_
  refine V.bipush (v := nI 42) hF dX5_isNow_14 (by decide) ?_
  refine V.ialoadF (j := 42) hF dX5_isNow_16 hM.m1.2.1 hM.m1.2.2.1 rfl (hM.m1.lt (lt_of rfl)) (hM.m1.sm (by decide)) hX ?_
  refine V.icmp_ne (tgt := 24) hF dX5_isNow_17 (by decide) (fun h17 => ?_) (fun h17 => ?_)
  · refine V.iconst (v := nI 0) hF dX5_isNow_24 (by decide) ?_
    refine V.zret hF dX5_isNow_25 (Or.inl rfl) (Nat.le_refl _) (Nat.le_refl _) ?_
    exact pR.i (by first | exact bI_d (by assumption) | exact bI_nd (by assumption))
  · refine V.iconst (v := nI 1) hF dX5_isNow_20 (by decide) ?_
    refine V.goto (tgt := 25) hF dX5_isNow_21 (by decide) ?_
    refine V.zret hF dX5_isNow_25 (Or.inr rfl) (Nat.le_refl _) (Nat.le_refl _) ?_
    exact pR.i (by first | exact bI_d (by assumption) | exact bI_nd (by assumption))
set_option maxRecDepth 20000 in
theorem ct_X5_isDeliverable (hst : l.stackTraces = false) (σ : SH) (I X : IX) (o : Nat) (ar : Nat → Nat) (hM : MS σ o ar) (v : Rw) (hX : X (ar 1) = v) (hv : WV v) (p m : Nat) (hp : p < 6) (hm : m < 150) : Ct l D cy sa sv yX5_isDeliverable cX5_isDeliverable 5 (some .boolean) 1 0 0 [.ref o, .int (nI p), .int (nI m)] σ I X (pR (some (.int (bI (zdel v p m)))) σ I X) noX := by
  refine Ct.of (by decide) hst (Nat.le_of_ble_eq_true rfl) ?_
  intro pp ee ss mm args below meth kc A hF hnm hout
  have hs6 := hv.s6 hm
  refine V.aload_n hF dX5_isDeliverable_0 rfl ?_
  refine V.iload_n hF dX5_isDeliverable_1 rfl ?_
  refine V.vI hF dX5_isDeliverable_2 (ct_X5_isNow hst _ _ _ _ _ hM _ hX m (by omega)) lk_X5_69 sl_X5_isNow hM.1.1 hM.1.2 rfl (Nat.le_of_ble_eq_true rfl) (fit_of rfl) (Nat.le_of_ble_eq_true rfl) rfl ?_
  refine V.if_eqB (tgt := 17) hF dX5_isDeliverable_5 (by decide) (fun h5 => ?_) (fun h5 => ?_)
  · refine V.iconst (v := nI 0) hF dX5_isDeliverable_17 (by decide) ?_
    refine V.zret hF dX5_isDeliverable_18 (Or.inl rfl) (Nat.le_refl _) (Nat.le_refl _) ?_
    exact pR.i (bI_e0 (by simp [zdel, *]))
  · refine V.aload_n hF dX5_isDeliverable_8 rfl ?_
    refine V.iload_n hF dX5_isDeliverable_9 rfl ?_
    refine V.iload_n hF dX5_isDeliverable_10 rfl ?_
    refine V.vI hF dX5_isDeliverable_11 (ct_X5_isLogged hst _ _ _ _ _ hM _ hX p m (by omega) (by omega)) lk_X5_72 sl_X5_isLogged hM.1.1 hM.1.2 rfl (Nat.le_of_ble_eq_true rfl) (fit_of rfl) (Nat.le_of_ble_eq_true rfl) rfl ?_
    refine V.if_eqB (tgt := 19) hF dX5_isDeliverable_14 (by decide) (fun h14 => ?_) (fun h14 => ?_)
    · refine V.aload_n hF dX5_isDeliverable_19 rfl ?_
      refine V.getR hF dX5_isDeliverable_20 fl_X5_9 hM.1.1 hM.1.2 rfl hM.m1.1 ?_
      refine V.bipush (v := nI 50) hF dX5_isDeliverable_23 (by decide) ?_
      refine V.iload_n hF dX5_isDeliverable_25 rfl ?_
      refine V.iadd hF dX5_isDeliverable_26 ?_
      refine V.ialoadF (j := (50 + m)) hF dX5_isDeliverable_27 hM.m1.2.1 hM.m1.2.2.1 (by simp only [nI_add, pk_mul, Nat.zero_add, Nat.add_zero]) (hM.m1.lt (by omega)) (hM.m1.sm (by decide)) hX ?_
      refine V.topi (y := nI (vN v (50 + m))) (hv.s hm) ?_
      refine V.istore_n hF dX5_isDeliverable_28 (by decide) ?_
      refine V.iconst (v := nI 0) hF dX5_isDeliverable_29 (by decide) ?_
      refine V.istore hF dX5_isDeliverable_30 (by decide) ?_
      have L32 : ∀ (n32 : Nat) (q : Nat), 6 - q < n32 → q ≤ 6 → zall (zdq v p m) q = true → V pp l ee (Rm 1 0 0) ss mm args below meth kc D cy A (QM below args ss D cy A (pR (some (.int (bI (zdel v p m)))) σ I X) noX 0 0) 5 0 0 σ I X 32 [(0, .ref o), (1, .int (nI p)), (2, .int (nI m)), (3, .int (nI (vN v (50 + m)))), (4, .int (nI q))] [] := by
        intro n32
        induction n32 with
        | zero => intro q hlt32; exact absurd hlt32 (Nat.not_lt_zero _)
        | succ n32 ih32 =>
          intro q hlt32 hq ha
          refine V.iload hF dX5_isDeliverable_32 rfl ?_
          refine V.bipush (v := nI 6) hF dX5_isDeliverable_34 (by decide) ?_
          refine V.icmp_ge (tgt := 79) hF dX5_isDeliverable_36 (by decide) (fun h36 => ?_) (fun h36 => ?_)
          · have hq6 : q = 6 := by have := nI_ge' h36 (by omega) (by omega); omega
            subst hq6
            refine V.aload_n hF dX5_isDeliverable_79 rfl ?_
            refine V.getR hF dX5_isDeliverable_80 fl_X5_9 hM.1.1 hM.1.2 rfl hM.m1.1 ?_
            refine V.sipush (v := nI 500) hF dX5_isDeliverable_83 (by decide) ?_
            refine V.iload_n hF dX5_isDeliverable_86 rfl ?_
            refine V.iadd hF dX5_isDeliverable_87 ?_
            refine V.ialoadF (j := (500 + m)) hF dX5_isDeliverable_88 hM.m1.2.1 hM.m1.2.2.1 (by simp only [nI_add, pk_mul, Nat.zero_add, Nat.add_zero]) (hM.m1.lt (by omega)) (hM.m1.sm (by decide)) hX ?_
            refine V.aload_n hF dX5_isDeliverable_89 rfl ?_
            refine V.iload_n hF dX5_isDeliverable_90 rfl ?_
            refine V.iload_n hF dX5_isDeliverable_91 rfl ?_
            refine V.vI hF dX5_isDeliverable_92 (ct_X5_clockOf hst _ _ _ _ _ hM _ hX p (vN v (50 + m)) (by omega) (by omega)) lk_X5_76 sl_X5_clockOf hM.1.1 hM.1.2 rfl (Nat.le_of_ble_eq_true rfl) (fit_of rfl) (Nat.le_of_ble_eq_true rfl) rfl ?_
            refine V.iconst (v := nI 1) hF dX5_isDeliverable_95 (by decide) ?_
            refine V.iadd hF dX5_isDeliverable_96 ?_
            refine V.icmp_ne (tgt := 104) hF dX5_isDeliverable_97 (by decide) (fun h97 => ?_) (fun h97 => ?_)
            · refine V.iconst (v := nI 0) hF dX5_isDeliverable_104 (by decide) ?_
              refine V.zret hF dX5_isDeliverable_105 (Or.inl rfl) (Nat.le_refl _) (Nat.le_refl _) ?_
              exact pR.i (by first | exact bI_e1 (by simp [zdel, *]) | exact bI_e0 (by simp [zdel, *]))
            · refine V.iconst (v := nI 1) hF dX5_isDeliverable_100 (by decide) ?_
              refine V.goto (tgt := 105) hF dX5_isDeliverable_101 (by decide) ?_
              refine V.zret hF dX5_isDeliverable_105 (Or.inr rfl) (Nat.le_refl _) (Nat.le_refl _) ?_
              exact pR.i (by first | exact bI_e1 (by simp [zdel, *]) | exact bI_e0 (by simp [zdel, *]))
          · have hq6 : q < 6 := nI_nge h36 (by omega) (by omega)
            refine V.iload hF dX5_isDeliverable_39 rfl ?_
            refine V.iload_n hF dX5_isDeliverable_41 rfl ?_
            refine V.icmp_eq (tgt := 73) hF dX5_isDeliverable_42 (by decide) (fun h42 => ?_) (fun h42 => ?_)
            · have hz : zdq v p m q = true := by have := nI_eq' h42 (by omega) (by omega); simp [zdq, this]
              refine V.iinc (v := nI (q + 1)) hF dX5_isDeliverable_73 rfl (by exact nI_1 _) (by decide) ?_
              refine V.goto (tgt := 32) hF dX5_isDeliverable_76 (by decide) ?_
              refine V.relv [0, 1, 2, 3, 4] rfl ?_
              exact ih32 (q + 1) (by omega) (by omega) (zall_t ha hz)
            · have hqs := nI_ne h42
              refine V.aload_n hF dX5_isDeliverable_45 rfl ?_
              refine V.getR hF dX5_isDeliverable_46 fl_X5_9 hM.1.1 hM.1.2 rfl hM.m1.1 ?_
              refine V.sipush (v := nI 650) hF dX5_isDeliverable_49 (by decide) ?_
              refine V.bipush (v := nI 6) hF dX5_isDeliverable_52 (by decide) ?_
              refine V.iload_n hF dX5_isDeliverable_54 rfl ?_
              refine V.imul hF dX5_isDeliverable_55 ?_
              refine V.iadd hF dX5_isDeliverable_56 ?_
              refine V.iload hF dX5_isDeliverable_57 rfl ?_
              refine V.iadd hF dX5_isDeliverable_59 ?_
              refine V.ialoadF (j := ((650 + (6 * m)) + q)) hF dX5_isDeliverable_60 hM.m1.2.1 hM.m1.2.2.1 (by simp only [nI_add, pk_mul, Nat.zero_add, Nat.add_zero]) (hM.m1.lt (by omega)) (hM.m1.sm (by decide)) hX ?_
              refine V.aload_n hF dX5_isDeliverable_61 rfl ?_
              refine V.iload_n hF dX5_isDeliverable_62 rfl ?_
              refine V.iload hF dX5_isDeliverable_63 rfl ?_
              refine V.vI hF dX5_isDeliverable_65 (ct_X5_clockOf hst _ _ _ _ _ hM _ hX p q (by omega) (by omega)) lk_X5_76 sl_X5_clockOf hM.1.1 hM.1.2 rfl (Nat.le_of_ble_eq_true rfl) (fit_of rfl) (Nat.le_of_ble_eq_true rfl) rfl ?_
              refine V.icmp_le (tgt := 73) hF dX5_isDeliverable_68 (by decide) (fun h68 => ?_) (fun h68 => ?_)
              · have hz : zdq v p m q = true := by simp [zdq, h68]
                refine V.iinc (v := nI (q + 1)) hF dX5_isDeliverable_73 rfl (by exact nI_1 _) (by decide) ?_
                refine V.goto (tgt := 32) hF dX5_isDeliverable_76 (by decide) ?_
                refine V.relv [0, 1, 2, 3, 4] rfl ?_
                exact ih32 (q + 1) (by omega) (by omega) (zall_t ha hz)
              · have hz : zdq v p m q = false := by simp [zdq, h68, hqs]
                refine V.iconst (v := nI 0) hF dX5_isDeliverable_71 (by decide) ?_
                refine V.zret hF dX5_isDeliverable_72 (Or.inl rfl) (Nat.le_refl _) (Nat.le_refl _) ?_
                exact pR.i (bI_e0 (by simp [zdel, zall_f hz hq6]))
      refine V.relv [0, 1, 2, 3, 4] rfl ?_
      exact L32 _ 0 (Nat.lt_succ_self _) (by omega) rfl
    · refine V.iconst (v := nI 0) hF dX5_isDeliverable_17 (by decide) ?_
      refine V.zret hF dX5_isDeliverable_18 (Or.inl rfl) (Nat.le_refl _) (Nat.le_refl _) ?_
      exact pR.i (bI_e0 (by simp [zdel, *]))
set_option maxRecDepth 20000 in
theorem ct_X5_logs (hst : l.stackTraces = false) (σ : SH) (I X : IX) (o : Nat) (ar : Nat → Nat) (hM : MS σ o ar) (v : Rw) (hX : X (ar 1) = v) (hv : WV v) (p m : Nat) (hp : p < 6) (hm : m < 150) : Ct l D cy sa sv yX5_logs cX5_logs 3 none 0 0 0 [.ref o, .int (nI p), .int (nI m)] σ I X (pR none σ I (va_up X (ar 1) (zlogs v p m))) noX := by
  refine Ct.of (by decide) hst (Nat.le_of_ble_eq_true rfl) ?_
  intro pp ee ss mm args below meth kc A hF hnm hout
  refine V.etaX (ar 1) hX ?_
  have hl150 := hv.l150 hp
  refine V.aload_n hF dX5_logs_0 rfl ?_
  refine V.getR hF dX5_logs_1 fl_X5_9 hM.1.1 hM.1.2 rfl hM.m1.1 ?_
  refine V.sipush (v := nI 1560) hF dX5_logs_4 (by decide) ?_
  refine V.sipush (v := nI 150) hF dX5_logs_7 (by decide) ?_
  refine V.iload_n hF dX5_logs_10 rfl ?_
  refine V.imul hF dX5_logs_11 ?_
  refine V.iadd hF dX5_logs_12 ?_
  refine V.aload_n hF dX5_logs_13 rfl ?_
  refine V.getR hF dX5_logs_14 fl_X5_9 hM.1.1 hM.1.2 rfl hM.m1.1 ?_
  refine V.sipush (v := nI 1550) hF dX5_logs_17 (by decide) ?_
  refine V.iload_n hF dX5_logs_20 rfl ?_
  refine V.iadd hF dX5_logs_21 ?_
  refine V.ialoadF (j := (1550 + p)) hF dX5_logs_22 hM.m1.2.1 hM.m1.2.2.1 (by simp only [nI_add, pk_mul, Nat.zero_add, Nat.add_zero]) (hM.m1.lt (by omega)) (hM.m1.sm (by decide)) (va_up_self _ _ _) ?_
  refine V.topi (y := nI (vN v (1550 + p))) (hv.l hp) ?_
  refine V.iadd hF dX5_logs_23 ?_
  refine V.iload_n hF dX5_logs_24 rfl ?_
  refine V.iastoreU (j := ((1560 + (150 * p)) + vN v (1550 + p))) hF dX5_logs_25 hM.m1.2.1 hM.m1.2.2.1 (by simp only [nI_add, pk_mul, Nat.zero_add, Nat.add_zero]) (hM.m1.lt (by omega)) (hM.m1.sm (by decide)) ?_
  refine V.aload_n hF dX5_logs_26 rfl ?_
  refine V.getR hF dX5_logs_27 fl_X5_9 hM.1.1 hM.1.2 rfl hM.m1.1 ?_
  refine V.sipush (v := nI 1550) hF dX5_logs_30 (by decide) ?_
  refine V.iload_n hF dX5_logs_33 rfl ?_
  refine V.iadd hF dX5_logs_34 ?_
  refine V.dup2 hF dX5_logs_35 rfl rfl ?_
  refine V.ialoadF (j := (1550 + p)) hF dX5_logs_36 hM.m1.2.1 hM.m1.2.2.1 (by simp only [nI_add, pk_mul, Nat.zero_add, Nat.add_zero]) (hM.m1.lt (by omega)) (hM.m1.sm (by decide)) (va_up_self _ _ _) ?_
  refine V.iconst (v := nI 1) hF dX5_logs_37 (by decide) ?_
  refine V.iadd hF dX5_logs_38 ?_
  refine V.iastoreU (j := (1550 + p)) hF dX5_logs_39 hM.m1.2.1 hM.m1.2.2.1 (by simp only [nI_add, pk_mul, Nat.zero_add, Nat.add_zero]) (hM.m1.lt (by omega)) (hM.m1.sm (by decide)) ?_
  refine V.aload_n hF dX5_logs_40 rfl ?_
  refine V.getR hF dX5_logs_41 fl_X5_9 hM.1.1 hM.1.2 rfl hM.m1.1 ?_
  refine V.sipush (v := nI 2460) hF dX5_logs_44 (by decide) ?_
  refine V.sipush (v := nI 150) hF dX5_logs_47 (by decide) ?_
  refine V.iload_n hF dX5_logs_50 rfl ?_
  refine V.imul hF dX5_logs_51 ?_
  refine V.iadd hF dX5_logs_52 ?_
  refine V.iload_n hF dX5_logs_53 rfl ?_
  refine V.iadd hF dX5_logs_54 ?_
  refine V.iconst (v := nI 1) hF dX5_logs_55 (by decide) ?_
  refine V.iastoreU (j := ((2460 + (150 * p)) + m)) hF dX5_logs_56 hM.m1.2.1 hM.m1.2.2.1 (by simp only [nI_add, pk_mul, Nat.zero_add, Nat.add_zero]) (hM.m1.lt (by omega)) (hM.m1.sm (by decide)) ?_
  refine V.vret hF dX5_logs_57 (Nat.le_refl _) (Nat.le_refl _) ?_
  exact pR.v
end MD
