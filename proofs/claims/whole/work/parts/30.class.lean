/-! the class's group, as functions of its rows C -/
def cN (C : IX) (k j : Nat) : Nat := (C k j).toNatClampNeg
def WC (C : IX) : Prop := (C 100 4 = nI (cN C 100 4) ∧ cN C 100 4 ≤ 20) ∧ (C 100 6 = nI (cN C 100 6) ∧ cN C 100 6 ≤ 150) ∧ (C 2 6 = nI (cN C 2 6) ∧ cN C 2 6 ≤ 150) ∧ (∀ p, p < 6 → C (10 + p) 0 = nI p) ∧ (∀ m, m < 150 → C 4 m = nI (cN C 4 m) ∧ cN C 4 m < 6) ∧ (∀ p, p < 6 → C (10 + p) 4 = nI (cN C (10 + p) 4) ∧ cN C (10 + p) 4 ≤ 150) ∧ ∀ p i, p < 6 → i < 150 → C (20 + p) i = nI (cN C (20 + p) i) ∧ cN C (20 + p) i < 150
section WCx
variable {C : IX}
theorem WC.vw (h : WC C) : C 100 4 = nI (cN C 100 4) := h.1.1
theorem WC.vw20 (h : WC C) : cN C 100 4 ≤ 20 := h.1.2
theorem WC.vs (h : WC C) : C 100 6 = nI (cN C 100 6) := h.2.1.1
theorem WC.vs150 (h : WC C) : cN C 100 6 ≤ 150 := h.2.1.2
theorem WC.n (h : WC C) : C 2 6 = nI (cN C 2 6) := h.2.2.1.1
theorem WC.n150 (h : WC C) : cN C 2 6 ≤ 150 := h.2.2.1.2
theorem WC.self (h : WC C) {p : Nat} (hp : p < 6) : C (10 + p) 0 = nI p := h.2.2.2.1 p hp
theorem WC.s (h : WC C) {m : Nat} (hm : m < 150) : C 4 m = nI (cN C 4 m) := (h.2.2.2.2.1 m hm).1
theorem WC.s6 (h : WC C) {m : Nat} (hm : m < 150) : cN C 4 m < 6 := (h.2.2.2.2.1 m hm).2
theorem WC.l (h : WC C) {p : Nat} (hp : p < 6) : C (10 + p) 4 = nI (cN C (10 + p) 4) := (h.2.2.2.2.2.1 p hp).1
theorem WC.l150 (h : WC C) {p : Nat} (hp : p < 6) : cN C (10 + p) 4 ≤ 150 := (h.2.2.2.2.2.1 p hp).2
theorem WC.g (h : WC C) {p i : Nat} (hp : p < 6) (hi : i < 150) : C (20 + p) i = nI (cN C (20 + p) i) := (h.2.2.2.2.2.2 p i hp hi).1
theorem WC.g150 (h : WC C) {p i : Nat} (hp : p < 6) (hi : i < 150) : cN C (20 + p) i < 150 := (h.2.2.2.2.2.2 p i hp hi).2
end WCx
theorem zPr_lt {x : Int32} (h1 : ¬ x < 0) (h2 : ¬ nI 6 ≤ x) : zPr x = true := by
  simp only [zPr, zisIn, Bool.and_eq_true, decide_eq_true_eq]
  rw [Int32.lt_iff_toInt_lt] at h1
  rw [Int32.le_iff_toInt_le] at h2
  rw [Int32.le_iff_toInt_le, Int32.le_iff_toInt_le]
  have e0 : (nI 0).toInt = 0 := by decide
  have e5 : (nI 5).toInt = 5 := by decide
  have e6 : (nI 6).toInt = 6 := by decide
  have e : (0 : Int32).toInt = 0 := by decide
  omega
theorem zPr_neg {x : Int32} (h1 : x < 0) : zPr x = false := by
  cases h : zPr x with
  | false => rfl
  | true =>
    obtain ⟨p, hp, rfl⟩ := zPr_of h
    exact absurd h1 (nI_pos (by omega))
theorem zPr_ge {x : Int32} (h1 : nI 6 ≤ x) : zPr x = false := by
  cases h : zPr x with
  | false => rfl
  | true =>
    obtain ⟨p, hp, rfl⟩ := zPr_of h
    have := (nI_leI (by omega) (by omega)).mp h1
    omega
def yhas (C : IX) (x : Int32) : Bool := !decide (x < 0) && !decide (C 2 6 ≤ x)
def yfull (C : IX) : Bool := !decide (C 2 6 < nI 150)
def yent (C : IX) (m q : Nat) : Int32 := C 9 (m * 6 + q)
def yprec (C : IX) (a b : Nat) : Bool := !decide (a = b) && decide (C 6 a = C 6 b) && !decide (yent C b (cN C 4 a) < C 7 a)
def ymx (x y : Int32) : Int32 := if x < y then y else x
def ygdb (C : IX) (m : Nat) : Nat → Int32
  | 0 => nI 0
  | k + 1 => if yprec C k m then ymx (ygdb C m k) (C 8 k) else ygdb C m k
def ygd (C : IX) (x : Int32) : Nat → Int32
  | 0 => nI 0
  | k + 1 => if C 6 k = x then ymx (ygd C x k) (C 8 k) else ygd C x k
def ycon (C : IX) (m k : Nat) : Bool := !decide (k = m) && decide (C 6 k = C 6 m) && !yprec C k m && !yprec C m k
def ylog (C : IX) (p m : Nat) : Bool := !decide (C (30 + p) m < 0)
def yhrd (C : IX) (p q s : Nat) : Int32 := C (40 + p) (q * 6 + s)
def yclk (C : IX) (p q : Nat) : Int32 := yhrd C p p q
def ymem (C : IX) : Int32 := C 0 (cN C 100 4)
def yisM (C : IX) (x : Int32) : Bool := zPr x && zbit (ymem C) x
def yrq (C : IX) (p m q : Nat) : Bool := decide (q = cN C 4 m) || decide (yent C m q ≤ yclk C p q)
def yrdy (C : IX) (p m : Nat) : Bool := !ylog C p m && decide (C 7 m = nI 1 + yclk C p (cN C 4 m)) && zall (yrq C p m) 6
def ydl1 (C : IX) (p : Nat) (x : Int32) : IX := va_up C (20 + p) (upd (C (20 + p)) (cN C (10 + p) 4) x)
def ydl2 (C : IX) (p m : Nat) : IX := va_up (ydl1 C p (nI m)) (30 + p) (upd (ydl1 C p (nI m) (30 + p)) m (ydl1 C p (nI m) (10 + p) 4))
def ydl3 (C : IX) (p m : Nat) : IX := va_up (ydl2 C p m) (10 + p) (upd (ydl2 C p m (10 + p)) 4 (ydl2 C p m (10 + p) 4 + nI 1))
def ydl4 (C : IX) (p m : Nat) (y : Int32) : IX := va_up (ydl3 C p m) (10 + p) (upd (ydl3 C p m (10 + p)) 5 (nI 31 * ydl3 C p m (10 + p) 5 + y))
def ydl5 (C : IX) (p m s : Nat) (y : Int32) : IX := va_up (ydl4 C p m y) (40 + p) (upd (ydl4 C p m y (40 + p)) (p * 6 + s) (ydl4 C p m y (40 + p) (p * 6 + s) + nI 1))
def ydl (C : IX) (p m s : Nat) (y : Int32) : IX := if C (10 + p) 4 < nI 150 then ydl5 C p m s y else C
theorem iushr1 : True := trivial
theorem ydl_self {C : IX} (hC : WC C) {p : Nat} (hp : p < 6) {m : Nat} {y : Int32} : ydl4 C p m y (10 + p) 0 = nI p := by
  have e1 : ydl1 C p (nI m) (10 + p) = C (10 + p) := by rw [ydl1, va_up_ne _ _ (by omega)]
  have e2 : ydl2 C p m (10 + p) = C (10 + p) := by rw [ydl2, va_up_ne _ _ (by omega), e1]
  rw [ydl4, va_up_self, upd_at, if_neg (by omega), ydl3, va_up_self, upd_at, if_neg (by omega), e2]
  exact hC.self hp

section MD
variable {l : Launch} {D : va_G} {cy sa sv : Nat → Nat}
set_option maxRecDepth 20000 in
theorem ct_X4_isProcess (hst : l.stackTraces = false) (σ : SH) (I X : IX) (x : Int32) : Ct l D cy sa sv yX4_isProcess cX4_isProcess 1 (some .boolean) 0 0 0 [.int x] σ I X (pR (some (.int (bI (zPr x)))) σ I X) noX := by
  refine Ct.of (by decide) hst (Nat.le_of_ble_eq_true rfl) ?_
  intro pp ee ss mm args below meth kc A hF hnm hout
  refine V.iload_n hF dX4_isProcess_0 rfl ?_
  refine V.if_lt (tgt := 14) hF dX4_isProcess_1 (by decide) (fun h1 => ?_) (fun h1 => ?_)
  · have hz := zPr_neg h1
    refine V.iconst (v := nI 0) hF dX4_isProcess_14 (by decide) ?_
    refine V.zret hF dX4_isProcess_15 (Or.inl rfl) (Nat.le_refl _) (Nat.le_refl _) ?_
    exact pR.i (by rw [hz]; rfl)
  · refine V.iload_n hF dX4_isProcess_4 rfl ?_
    refine V.bipush (v := nI 6) hF dX4_isProcess_5 (by decide) ?_
    refine V.icmp_ge (tgt := 14) hF dX4_isProcess_7 (by decide) (fun h7 => ?_) (fun h7 => ?_)
    · have hz := zPr_ge h7
      refine V.iconst (v := nI 0) hF dX4_isProcess_14 (by decide) ?_
      refine V.zret hF dX4_isProcess_15 (Or.inl rfl) (Nat.le_refl _) (Nat.le_refl _) ?_
      exact pR.i (by rw [hz]; rfl)
    · have hz := zPr_lt h1 h7
      refine V.iconst (v := nI 1) hF dX4_isProcess_10 (by decide) ?_
      refine V.goto (tgt := 15) hF dX4_isProcess_11 (by decide) ?_
      refine V.zret hF dX4_isProcess_15 (Or.inr rfl) (Nat.le_refl _) (Nat.le_refl _) ?_
      exact pR.i (by rw [hz]; rfl)
set_option maxRecDepth 20000 in
theorem ct_X4_contains (hst : l.stackTraces = false) (σ : SH) (I X : IX) (x y : Int32) : Ct l D cy sa sv yX4_contains cX4_contains 2 (some .boolean) 0 0 0 [.int x, .int y] σ I X (pR (some (.int (bI (zbit x y)))) σ I X) noX := by
  refine Ct.of (by decide) hst (Nat.le_of_ble_eq_true rfl) ?_
  intro pp ee ss mm args below meth kc A hF hnm hout
  refine V.iload_n hF dX4_contains_0 rfl ?_
  refine V.iload_n hF dX4_contains_1 rfl ?_
  refine V.ishr hF dX4_contains_2 ?_
  refine V.iconst (v := nI 1) hF dX4_contains_3 (by decide) ?_
  refine V.iand hF dX4_contains_4 ?_
  refine V.iconst (v := nI 1) hF dX4_contains_5 (by decide) ?_
  refine V.icmp_ne (tgt := 13) hF dX4_contains_6 (by decide) (fun h6 => ?_) (fun h6 => ?_)
  · refine V.iconst (v := nI 0) hF dX4_contains_13 (by decide) ?_
    refine V.zret hF dX4_contains_14 (Or.inl rfl) (Nat.le_refl _) (Nat.le_refl _) ?_
    exact pR.i (by first | exact bI_d (by assumption) | exact bI_nd (by assumption))
  · refine V.iconst (v := nI 1) hF dX4_contains_9 (by decide) ?_
    refine V.goto (tgt := 14) hF dX4_contains_10 (by decide) ?_
    refine V.zret hF dX4_contains_14 (Or.inr rfl) (Nat.le_refl _) (Nat.le_refl _) ?_
    exact pR.i (by first | exact bI_d (by assumption) | exact bI_nd (by assumption))
set_option maxRecDepth 20000 in
theorem ct_X4_lowestOf (hst : l.stackTraces = false) (σ : SH) (I X : IX) (x : Int32) : Ct l D cy sa sv yX4_lowestOf cX4_lowestOf 2 (some .int) 1 0 0 [.int x] σ I X (pR (some (.int (nI (zfst (fun p => zbit x (nI p)) 5)))) σ I X) noX := by
  refine Ct.of (by decide) hst (Nat.le_of_ble_eq_true rfl) ?_
  intro pp ee ss mm args below meth kc A hF hnm hout
  refine V.iconst (v := nI 0) hF dX4_lowestOf_0 (by decide) ?_
  refine V.istore_n hF dX4_lowestOf_1 (by decide) ?_
  have L2 : ∀ (n2 : Nat) (p : Nat), 5 - p < n2 → p ≤ 5 → (∀ j, j < p → zbit x (nI j) = false) → V pp l ee (Rm 1 0 0) ss mm args below meth kc D cy A (QM below args ss D cy A (pR (some (.int (nI (zfst (fun p => zbit x (nI p)) 5)))) σ I X) noX 0 0) 2 0 0 σ I X 2 [(0, .int x), (1, .int (nI p))] [] := by
    intro n2
    induction n2 with
    | zero => intro p hlt2; exact absurd hlt2 (Nat.not_lt_zero _)
    | succ n2 ih2 =>
      intro p hlt2 hp ha
      refine V.iload_n hF dX4_lowestOf_2 rfl ?_
      refine V.iconst (v := nI 5) hF dX4_lowestOf_3 (by decide) ?_
      refine V.icmp_ge (tgt := 21) hF dX4_lowestOf_4 (by decide) (fun h4 => ?_) (fun h4 => ?_)
      · have hp6 : p = 5 := by have := nI_ge' h4 (by omega) (by omega); omega
        subst hp6
        refine V.iload_n hF dX4_lowestOf_21 rfl ?_
        refine V.iret hF dX4_lowestOf_22 (Nat.le_refl _) (Nat.le_refl _) ?_
        exact pR.i (congrArg nI (by first | exact (zfst_no ha).symm | exact (zfst_at (f := fun p => zbit x (nI p)) ha h12 hp6).symm))
      · have hp6 : p < 5 := nI_nge h4 (by omega) (by omega)
        refine V.iload_n hF dX4_lowestOf_7 rfl ?_
        refine V.iload_n hF dX4_lowestOf_8 rfl ?_
        refine V.sI hF dX4_lowestOf_9 (ct_X4_contains hst _ _ _ _ _) lk_X4_320 (fit_of rfl) (Nat.le_of_ble_eq_true rfl) rfl ?_
        refine V.if_neB (tgt := 21) hF dX4_lowestOf_12 (by decide) (fun h12 => ?_) (fun h12 => ?_)
        · refine V.iload_n hF dX4_lowestOf_21 rfl ?_
          refine V.iret hF dX4_lowestOf_22 (Nat.le_refl _) (Nat.le_refl _) ?_
          exact pR.i (congrArg nI (by first | exact (zfst_no ha).symm | exact (zfst_at (f := fun p => zbit x (nI p)) ha h12 hp6).symm))
        · refine V.iinc (v := nI (p + 1)) hF dX4_lowestOf_15 rfl (by exact nI_1 _) (by decide) ?_
          refine V.goto (tgt := 2) hF dX4_lowestOf_18 (by decide) ?_
          refine V.relv [0, 1] rfl ?_
          exact ih2 (p + 1) (by omega) (by omega) (lt_s ha h12)
  refine V.relv [0, 1] rfl ?_
  exact L2 _ 0 (Nat.lt_succ_self _) (by omega) (fun j h => absurd h (Nat.not_lt_zero _))
set_option maxRecDepth 20000 in
theorem ct_X1_has (hst : l.stackTraces = false) (σ : SH) (I X : IX) (ad : Nat → Nat) (hG : GS σ ad) (C : IX) (x : Int32) : Ct l D cy sa sv yX1_has cX1_has 2 (some .boolean) 0 0 0 [.ref (ad 2), .int x] σ (put idI I ad C) (put idX X ad C) (pR (some (.int (bI (yhas C x)))) σ (put idI I ad C) (put idX X ad C)) noX := by
  refine Ct.of (by decide) hst (Nat.le_of_ble_eq_true rfl) ?_
  intro pp ee ss mm args below meth kc A hF hnm hout
  refine V.iload_n hF dX1_has_0 rfl ?_
  refine V.if_lt (tgt := 16) hF dX1_has_1 (by decide) (fun h1 => ?_) (fun h1 => ?_)
  · refine V.iconst (v := nI 0) hF dX1_has_16 (by decide) ?_
    refine V.zret hF dX1_has_17 (Or.inl rfl) (Nat.le_refl _) (Nat.le_refl _) ?_
    exact pR.i (by first | exact bI_e1 (by simp [yhas, *]) | exact bI_e0 (by simp [yhas, *]))
  · refine V.iload_n hF dX1_has_4 rfl ?_
    refine V.aload_n hF dX1_has_5 rfl ?_
    refine V.getIP hF dX1_has_6 fl_X1_30 hG.m rfl hG (by decide) ?_
    refine V.icmp_ge (tgt := 16) hF dX1_has_9 (by decide) (fun h9 => ?_) (fun h9 => ?_)
    · refine V.iconst (v := nI 0) hF dX1_has_16 (by decide) ?_
      refine V.zret hF dX1_has_17 (Or.inl rfl) (Nat.le_refl _) (Nat.le_refl _) ?_
      exact pR.i (by first | exact bI_e1 (by simp [yhas, *]) | exact bI_e0 (by simp [yhas, *]))
    · refine V.iconst (v := nI 1) hF dX1_has_12 (by decide) ?_
      refine V.goto (tgt := 17) hF dX1_has_13 (by decide) ?_
      refine V.zret hF dX1_has_17 (Or.inr rfl) (Nat.le_refl _) (Nat.le_refl _) ?_
      exact pR.i (by first | exact bI_e1 (by simp [yhas, *]) | exact bI_e0 (by simp [yhas, *]))
set_option maxRecDepth 20000 in
theorem ct_X1_isFull (hst : l.stackTraces = false) (σ : SH) (I X : IX) (ad : Nat → Nat) (hG : GS σ ad) (C : IX) : Ct l D cy sa sv yX1_isFull cX1_isFull 1 (some .boolean) 0 0 0 [.ref (ad 2)] σ (put idI I ad C) (put idX X ad C) (pR (some (.int (bI (yfull C)))) σ (put idI I ad C) (put idX X ad C)) noX := by
  refine Ct.of (by decide) hst (Nat.le_of_ble_eq_true rfl) ?_
  intro pp ee ss mm args below meth kc A hF hnm hout
  refine V.aload_n hF dX1_isFull_0 rfl ?_
  refine V.getIP hF dX1_isFull_1 fl_X1_30 hG.m rfl hG (by decide) ?_
  refine V.sipush (v := nI 150) hF dX1_isFull_4 (by decide) ?_
  refine V.icmp_lt (tgt := 14) hF dX1_isFull_7 (by decide) (fun h7 => ?_) (fun h7 => ?_)
  · refine V.iconst (v := nI 0) hF dX1_isFull_14 (by decide) ?_
    refine V.zret hF dX1_isFull_15 (Or.inl rfl) (Nat.le_refl _) (Nat.le_refl _) ?_
    exact pR.i (by first | exact bI_e1 (by simp [yfull, *]) | exact bI_e0 (by simp [yfull, *]))
  · refine V.iconst (v := nI 1) hF dX1_isFull_10 (by decide) ?_
    refine V.goto (tgt := 15) hF dX1_isFull_11 (by decide) ?_
    refine V.zret hF dX1_isFull_15 (Or.inr rfl) (Nat.le_refl _) (Nat.le_refl _) ?_
    exact pR.i (by first | exact bI_e1 (by simp [yfull, *]) | exact bI_e0 (by simp [yfull, *]))
set_option maxRecDepth 20000 in
theorem ct_X1_entry (hst : l.stackTraces = false) (σ : SH) (I X : IX) (ad : Nat → Nat) (hG : GS σ ad) (C : IX) (m q : Nat) (hm : m < 150) (hq : q < 6) : Ct l D cy sa sv yX1_entry cX1_entry 3 (some .int) 0 0 0 [.ref (ad 2), .int (nI m), .int (nI q)] σ (put idI I ad C) (put idX X ad C) (pR (some (.int (yent C m q))) σ (put idI I ad C) (put idX X ad C)) noX := by
  refine Ct.of (by decide) hst (Nat.le_of_ble_eq_true rfl) ?_
  intro pp ee ss mm args below meth kc A hF hnm hout
  refine V.aload_n hF dX1_entry_0 rfl ?_
  refine V.getRP (i := 9) hF dX1_entry_1 fl_X1_27 hG.m rfl (hG.mr 5 (by decide)) ?_
  refine V.iload_n hF dX1_entry_4 rfl ?_
  refine V.bipush (v := nI 6) hF dX1_entry_5 (by decide) ?_
  refine V.imul hF dX1_entry_7 ?_
  refine V.iload_n hF dX1_entry_8 rfl ?_
  refine V.iadd hF dX1_entry_9 ?_
  refine V.ialoadP (j := ((m * 6) + q)) hF dX1_entry_10 hG.a9 (by simp only [nI_add, pk_mul, Nat.zero_add, Nat.add_zero]) (by omega) (by decide) hG (by decide) ?_
  refine V.iret hF dX1_entry_11 (Nat.le_refl _) (Nat.le_refl _) ?_
  exact pR.i rfl
set_option maxRecDepth 20000 in
theorem ct_X1_precedes (hst : l.stackTraces = false) (σ : SH) (I X : IX) (ad : Nat → Nat) (hG : GS σ ad) (C : IX) (hC : WC C) (a b : Nat) (ha : a < 150) (hb : b < 150) : Ct l D cy sa sv yX1_precedes cX1_precedes 3 (some .boolean) 1 0 0 [.ref (ad 2), .int (nI a), .int (nI b)] σ (put idI I ad C) (put idX X ad C) (pR (some (.int (bI (yprec C a b)))) σ (put idI I ad C) (put idX X ad C)) noX := by
  refine Ct.of (by decide) hst (Nat.le_of_ble_eq_true rfl) ?_
  intro pp ee ss mm args below meth kc A hF hnm hout
  have hs6 := hC.s6 ha
  refine V.iload_n hF dX1_precedes_0 rfl ?_
  refine V.iload_n hF dX1_precedes_1 rfl ?_
  refine V.icmp_eq (tgt := 44) hF dX1_precedes_2 (by decide) (fun h2 => ?_) (fun h2 => ?_)
  · have hab := nI_eq' h2 (by omega) (by omega)
    refine V.iconst (v := nI 0) hF dX1_precedes_44 (by decide) ?_
    refine V.zret hF dX1_precedes_45 (Or.inl rfl) (Nat.le_refl _) (Nat.le_refl _) ?_
    exact pR.i (by first | exact bI_e1 (by simp [yprec, *]) | exact bI_e0 (by simp [yprec, *]))
  · have hab := nI_ne h2
    refine V.aload_n hF dX1_precedes_5 rfl ?_
    refine V.getRP (i := 6) hF dX1_precedes_6 fl_X1_18 hG.m rfl (hG.mr 2 (by decide)) ?_
    refine V.iload_n hF dX1_precedes_9 rfl ?_
    refine V.ialoadP (j := a) hF dX1_precedes_10 hG.a6 rfl (by omega) (by decide) hG (by decide) ?_
    refine V.aload_n hF dX1_precedes_11 rfl ?_
    refine V.getRP (i := 6) hF dX1_precedes_12 fl_X1_18 hG.m rfl (hG.mr 2 (by decide)) ?_
    refine V.iload_n hF dX1_precedes_15 rfl ?_
    refine V.ialoadP (j := b) hF dX1_precedes_16 hG.a6 rfl (by omega) (by decide) hG (by decide) ?_
    refine V.icmp_ne (tgt := 44) hF dX1_precedes_17 (by decide) (fun h17 => ?_) (fun h17 => ?_)
    · refine V.iconst (v := nI 0) hF dX1_precedes_44 (by decide) ?_
      refine V.zret hF dX1_precedes_45 (Or.inl rfl) (Nat.le_refl _) (Nat.le_refl _) ?_
      exact pR.i (by first | exact bI_e1 (by simp [yprec, *]) | exact bI_e0 (by simp [yprec, *]))
    · refine V.aload_n hF dX1_precedes_20 rfl ?_
      refine V.iload_n hF dX1_precedes_21 rfl ?_
      refine V.aload_n hF dX1_precedes_22 rfl ?_
      refine V.getRP (i := 4) hF dX1_precedes_23 fl_X1_9 hG.m rfl (hG.mr 0 (by decide)) ?_
      refine V.iload_n hF dX1_precedes_26 rfl ?_
      refine V.ialoadP (j := a) hF dX1_precedes_27 hG.a4 rfl (by omega) (by decide) hG (by decide) ?_
      refine V.topi (y := nI (cN C 4 a)) (hC.s ha) ?_
      refine V.vI hF dX1_precedes_28 (ct_X1_entry hst _ _ _ _ hG _ b (cN C 4 a) (by omega) (by omega)) lk_X1_50 sl_X1_entry hG.m.1 hG.m.2 rfl (Nat.le_of_ble_eq_true rfl) (fit_of rfl) (Nat.le_of_ble_eq_true rfl) rfl ?_
      refine V.aload_n hF dX1_precedes_31 rfl ?_
      refine V.getRP (i := 7) hF dX1_precedes_32 fl_X1_21 hG.m rfl (hG.mr 3 (by decide)) ?_
      refine V.iload_n hF dX1_precedes_35 rfl ?_
      refine V.ialoadP (j := a) hF dX1_precedes_36 hG.a7 rfl (by omega) (by decide) hG (by decide) ?_
      refine V.icmp_lt (tgt := 44) hF dX1_precedes_37 (by decide) (fun h37 => ?_) (fun h37 => ?_)
      · refine V.iconst (v := nI 0) hF dX1_precedes_44 (by decide) ?_
        refine V.zret hF dX1_precedes_45 (Or.inl rfl) (Nat.le_refl _) (Nat.le_refl _) ?_
        exact pR.i (by first | exact bI_e1 (by simp [yprec, *]) | exact bI_e0 (by simp [yprec, *]))
      · refine V.iconst (v := nI 1) hF dX1_precedes_40 (by decide) ?_
        refine V.goto (tgt := 45) hF dX1_precedes_41 (by decide) ?_
        refine V.zret hF dX1_precedes_45 (Or.inr rfl) (Nat.le_refl _) (Nat.le_refl _) ?_
        exact pR.i (by first | exact bI_e1 (by simp [yprec, *]) | exact bI_e0 (by simp [yprec, *]))
set_option maxRecDepth 20000 in
theorem ct_X1_countCauses (hst : l.stackTraces = false) (σ : SH) (I X : IX) (ad : Nat → Nat) (hG : GS σ ad) (C : IX) (hC : WC C) (m : Nat) (hm : m < 150) : Ct l D cy sa sv yX1_countCauses cX1_countCauses 4 (some .int) 2 0 0 [.ref (ad 2), .int (nI m)] σ (put idI I ad C) (put idX X ad C) (pR (some (.int (nI (zcB (fun k => yprec C k m) (cN C 2 6))))) σ (put idI I ad C) (put idX X ad C)) noX := by
  refine Ct.of (by decide) hst (Nat.le_of_ble_eq_true rfl) ?_
  intro pp ee ss mm args below meth kc A hF hnm hout
  have hn150 := hC.n150
  refine V.iconst (v := nI 0) hF dX1_countCauses_0 (by decide) ?_
  refine V.istore_n hF dX1_countCauses_1 (by decide) ?_
  refine V.iconst (v := nI 0) hF dX1_countCauses_2 (by decide) ?_
  refine V.istore_n hF dX1_countCauses_3 (by decide) ?_
  have L4 : ∀ (n4 : Nat) (k c : Nat), cN C 2 6 - k < n4 → k ≤ cN C 2 6 → c = zcB (fun k => yprec C k m) k → V pp l ee (Rm 2 0 0) ss mm args below meth kc D cy A (QM below args ss D cy A (pR (some (.int (nI (zcB (fun k => yprec C k m) (cN C 2 6))))) σ (put idI I ad C) (put idX X ad C)) noX 0 0) 4 0 0 σ (put idI I ad C) (put idX X ad C) 4 [(0, .ref (ad 2)), (1, .int (nI m)), (2, .int (nI c)), (3, .int (nI k))] [] := by
    intro n4
    induction n4 with
    | zero => intro k c hlt4; exact absurd hlt4 (Nat.not_lt_zero _)
    | succ n4 ih4 =>
      intro k c hlt4 hk hc
      refine V.iload_n hF dX1_countCauses_4 rfl ?_
      refine V.aload_n hF dX1_countCauses_5 rfl ?_
      refine V.getIP hF dX1_countCauses_6 fl_X1_30 hG.m rfl hG (by decide) ?_
      refine V.topi (y := nI (cN C 2 6)) hC.n ?_
      refine V.icmp_ge (tgt := 30) hF dX1_countCauses_9 (by decide) (fun h9 => ?_) (fun h9 => ?_)
      · have hk6 : k = cN C 2 6 := by have := nI_ge' h9 (by omega) (by omega); omega
        subst hk6
        refine V.iload_n hF dX1_countCauses_30 rfl ?_
        refine V.iret hF dX1_countCauses_31 (Nat.le_refl _) (Nat.le_refl _) ?_
        exact pR.i (by rw [hc])
      · have hk6 : k < cN C 2 6 := nI_nge h9 (by omega) (by omega)
        refine V.aload_n hF dX1_countCauses_12 rfl ?_
        refine V.iload_n hF dX1_countCauses_13 rfl ?_
        refine V.iload_n hF dX1_countCauses_14 rfl ?_
        refine V.vI hF dX1_countCauses_15 (ct_X1_precedes hst _ _ _ _ hG _ hC k m (by omega) (by omega)) lk_X1_53 sl_X1_precedes hG.m.1 hG.m.2 rfl (Nat.le_of_ble_eq_true rfl) (fit_of rfl) (Nat.le_of_ble_eq_true rfl) rfl ?_
        refine V.if_eqB (tgt := 24) hF dX1_countCauses_18 (by decide) (fun h18 => ?_) (fun h18 => ?_)
        · refine V.iinc (v := nI (k + 1)) hF dX1_countCauses_24 rfl (by exact nI_1 _) (by decide) ?_
          refine V.goto (tgt := 4) hF dX1_countCauses_27 (by decide) ?_
          refine V.relv [0, 1, 2, 3] rfl ?_
          exact ih4 (k + 1) _ (by omega) (by omega) (by simp [zcB, ycon, hc, *])
        · refine V.iinc (v := nI (c + 1)) hF dX1_countCauses_21 rfl (by exact nI_1 _) (by decide) ?_
          refine V.iinc (v := nI (k + 1)) hF dX1_countCauses_24 rfl (by exact nI_1 _) (by decide) ?_
          refine V.goto (tgt := 4) hF dX1_countCauses_27 (by decide) ?_
          refine V.relv [0, 1, 2, 3] rfl ?_
          exact ih4 (k + 1) _ (by omega) (by omega) (by simp [zcB, ycon, hc, *])
  refine V.relv [0, 1, 2, 3] rfl ?_
  exact L4 _ 0 0 (Nat.lt_succ_self _) (by omega) rfl
set_option maxRecDepth 20000 in
theorem ct_X1_countConcurrent (hst : l.stackTraces = false) (σ : SH) (I X : IX) (ad : Nat → Nat) (hG : GS σ ad) (C : IX) (hC : WC C) (m : Nat) (hm : m < 150) : Ct l D cy sa sv yX1_countConcurrent cX1_countConcurrent 4 (some .int) 2 0 0 [.ref (ad 2), .int (nI m)] σ (put idI I ad C) (put idX X ad C) (pR (some (.int (nI (zcB (ycon C m) (cN C 2 6))))) σ (put idI I ad C) (put idX X ad C)) noX := by
  refine Ct.of (by decide) hst (Nat.le_of_ble_eq_true rfl) ?_
  intro pp ee ss mm args below meth kc A hF hnm hout
  have hn150 := hC.n150
  refine V.iconst (v := nI 0) hF dX1_countConcurrent_0 (by decide) ?_
  refine V.istore_n hF dX1_countConcurrent_1 (by decide) ?_
  refine V.iconst (v := nI 0) hF dX1_countConcurrent_2 (by decide) ?_
  refine V.istore_n hF dX1_countConcurrent_3 (by decide) ?_
  have L4 : ∀ (n4 : Nat) (k c : Nat), cN C 2 6 - k < n4 → k ≤ cN C 2 6 → c = zcB (ycon C m) k → V pp l ee (Rm 2 0 0) ss mm args below meth kc D cy A (QM below args ss D cy A (pR (some (.int (nI (zcB (ycon C m) (cN C 2 6))))) σ (put idI I ad C) (put idX X ad C)) noX 0 0) 4 0 0 σ (put idI I ad C) (put idX X ad C) 4 [(0, .ref (ad 2)), (1, .int (nI m)), (2, .int (nI c)), (3, .int (nI k))] [] := by
    intro n4
    induction n4 with
    | zero => intro k c hlt4; exact absurd hlt4 (Nat.not_lt_zero _)
    | succ n4 ih4 =>
      intro k c hlt4 hk hc
      refine V.iload_n hF dX1_countConcurrent_4 rfl ?_
      refine V.aload_n hF dX1_countConcurrent_5 rfl ?_
      refine V.getIP hF dX1_countConcurrent_6 fl_X1_30 hG.m rfl hG (by decide) ?_
      refine V.topi (y := nI (cN C 2 6)) hC.n ?_
      refine V.icmp_ge (tgt := 59) hF dX1_countConcurrent_9 (by decide) (fun h9 => ?_) (fun h9 => ?_)
      · have hk6 : k = cN C 2 6 := by have := nI_ge' h9 (by omega) (by omega); omega
        subst hk6
        refine V.iload_n hF dX1_countConcurrent_59 rfl ?_
        refine V.iret hF dX1_countConcurrent_60 (Nat.le_refl _) (Nat.le_refl _) ?_
        exact pR.i (by rw [hc])
      · have hk6 : k < cN C 2 6 := nI_nge h9 (by omega) (by omega)
        refine V.iload_n hF dX1_countConcurrent_12 rfl ?_
        refine V.iload_n hF dX1_countConcurrent_13 rfl ?_
        refine V.icmp_eq (tgt := 53) hF dX1_countConcurrent_14 (by decide) (fun h14 => ?_) (fun h14 => ?_)
        · have hkm : k = m := nI_eq' h14 (by omega) (by omega)
          refine V.iinc (v := nI (k + 1)) hF dX1_countConcurrent_53 rfl (by exact nI_1 _) (by decide) ?_
          refine V.goto (tgt := 4) hF dX1_countConcurrent_56 (by decide) ?_
          refine V.relv [0, 1, 2, 3] rfl ?_
          exact ih4 (k + 1) _ (by omega) (by omega) (by simp [zcB, ycon, hc, *])
        · have hkm := nI_ne h14
          refine V.aload_n hF dX1_countConcurrent_17 rfl ?_
          refine V.getRP (i := 6) hF dX1_countConcurrent_18 fl_X1_18 hG.m rfl (hG.mr 2 (by decide)) ?_
          refine V.iload_n hF dX1_countConcurrent_21 rfl ?_
          refine V.ialoadP (j := k) hF dX1_countConcurrent_22 hG.a6 rfl (by omega) (by decide) hG (by decide) ?_
          refine V.aload_n hF dX1_countConcurrent_23 rfl ?_
          refine V.getRP (i := 6) hF dX1_countConcurrent_24 fl_X1_18 hG.m rfl (hG.mr 2 (by decide)) ?_
          refine V.iload_n hF dX1_countConcurrent_27 rfl ?_
          refine V.ialoadP (j := m) hF dX1_countConcurrent_28 hG.a6 rfl (by omega) (by decide) hG (by decide) ?_
          refine V.icmp_ne (tgt := 53) hF dX1_countConcurrent_29 (by decide) (fun h29 => ?_) (fun h29 => ?_)
          · refine V.iinc (v := nI (k + 1)) hF dX1_countConcurrent_53 rfl (by exact nI_1 _) (by decide) ?_
            refine V.goto (tgt := 4) hF dX1_countConcurrent_56 (by decide) ?_
            refine V.relv [0, 1, 2, 3] rfl ?_
            exact ih4 (k + 1) _ (by omega) (by omega) (by simp [zcB, ycon, hc, *])
          · refine V.aload_n hF dX1_countConcurrent_32 rfl ?_
            refine V.iload_n hF dX1_countConcurrent_33 rfl ?_
            refine V.iload_n hF dX1_countConcurrent_34 rfl ?_
            refine V.vI hF dX1_countConcurrent_35 (ct_X1_precedes hst _ _ _ _ hG _ hC k m (by omega) (by omega)) lk_X1_53 sl_X1_precedes hG.m.1 hG.m.2 rfl (Nat.le_of_ble_eq_true rfl) (fit_of rfl) (Nat.le_of_ble_eq_true rfl) rfl ?_
            refine V.if_neB (tgt := 53) hF dX1_countConcurrent_38 (by decide) (fun h38 => ?_) (fun h38 => ?_)
            · refine V.iinc (v := nI (k + 1)) hF dX1_countConcurrent_53 rfl (by exact nI_1 _) (by decide) ?_
              refine V.goto (tgt := 4) hF dX1_countConcurrent_56 (by decide) ?_
              refine V.relv [0, 1, 2, 3] rfl ?_
              exact ih4 (k + 1) _ (by omega) (by omega) (by simp [zcB, ycon, hc, *])
            · refine V.aload_n hF dX1_countConcurrent_41 rfl ?_
              refine V.iload_n hF dX1_countConcurrent_42 rfl ?_
              refine V.iload_n hF dX1_countConcurrent_43 rfl ?_
              refine V.vI hF dX1_countConcurrent_44 (ct_X1_precedes hst _ _ _ _ hG _ hC m k (by omega) (by omega)) lk_X1_53 sl_X1_precedes hG.m.1 hG.m.2 rfl (Nat.le_of_ble_eq_true rfl) (fit_of rfl) (Nat.le_of_ble_eq_true rfl) rfl ?_
              refine V.if_neB (tgt := 53) hF dX1_countConcurrent_47 (by decide) (fun h47 => ?_) (fun h47 => ?_)
              · refine V.iinc (v := nI (k + 1)) hF dX1_countConcurrent_53 rfl (by exact nI_1 _) (by decide) ?_
                refine V.goto (tgt := 4) hF dX1_countConcurrent_56 (by decide) ?_
                refine V.relv [0, 1, 2, 3] rfl ?_
                exact ih4 (k + 1) _ (by omega) (by omega) (by simp [zcB, ycon, hc, *])
              · refine V.iinc (v := nI (c + 1)) hF dX1_countConcurrent_50 rfl (by exact nI_1 _) (by decide) ?_
                refine V.iinc (v := nI (k + 1)) hF dX1_countConcurrent_53 rfl (by exact nI_1 _) (by decide) ?_
                refine V.goto (tgt := 4) hF dX1_countConcurrent_56 (by decide) ?_
                refine V.relv [0, 1, 2, 3] rfl ?_
                exact ih4 (k + 1) _ (by omega) (by omega) (by simp [zcB, ycon, hc, *])
  refine V.relv [0, 1, 2, 3] rfl ?_
  exact L4 _ 0 0 (Nat.lt_succ_self _) (by omega) rfl
set_option maxRecDepth 20000 in
theorem ct_X2_hasLogged (hst : l.stackTraces = false) (σ : SH) (I X : IX) (ad : Nat → Nat) (hG : GS σ ad) (C : IX) (p : Nat) (hp : p < 6) (m : Nat) (hm : m < 150) : Ct l D cy sa sv yX2_hasLogged cX2_hasLogged 2 (some .boolean) 0 0 0 [.ref (ad (10 + p)), .int (nI m)] σ (put idI I ad C) (put idX X ad C) (pR (some (.int (bI (ylog C p m)))) σ (put idI I ad C) (put idX X ad C)) noX := by
  refine Ct.of (by decide) hst (Nat.le_of_ble_eq_true rfl) ?_
  intro pp ee ss mm args below meth kc A hF hnm hout
  refine V.aload_n hF dX2_hasLogged_0 rfl ?_
  refine V.getRP (i := (30 + p)) hF dX2_hasLogged_1 fl_X2_15 (hG.rp hp) rfl (hG.p2 hp) ?_
  refine V.iload_n hF dX2_hasLogged_4 rfl ?_
  refine V.ialoadP (j := m) hF dX2_hasLogged_5 (hG.ap hp) rfl (by omega) (by decide) hG (mem_pl hp) ?_
  refine V.if_lt (tgt := 13) hF dX2_hasLogged_6 (by decide) (fun h6 => ?_) (fun h6 => ?_)
  · refine V.iconst (v := nI 0) hF dX2_hasLogged_13 (by decide) ?_
    refine V.zret hF dX2_hasLogged_14 (Or.inl rfl) (Nat.le_refl _) (Nat.le_refl _) ?_
    exact pR.i (by first | exact bI_e1 (by simp [ylog, *]) | exact bI_e0 (by simp [ylog, *]))
  · refine V.iconst (v := nI 1) hF dX2_hasLogged_9 (by decide) ?_
    refine V.goto (tgt := 14) hF dX2_hasLogged_10 (by decide) ?_
    refine V.zret hF dX2_hasLogged_14 (Or.inr rfl) (Nat.le_refl _) (Nat.le_refl _) ?_
    exact pR.i (by first | exact bI_e1 (by simp [ylog, *]) | exact bI_e0 (by simp [ylog, *]))
set_option maxRecDepth 20000 in
theorem ct_X2_heard (hst : l.stackTraces = false) (σ : SH) (I X : IX) (ad : Nat → Nat) (hG : GS σ ad) (C : IX) (p : Nat) (hp : p < 6) (q r : Nat) (hq : q < 6) (hr : r < 6) : Ct l D cy sa sv yX2_heard cX2_heard 3 (some .int) 0 0 0 [.ref (ad (10 + p)), .int (nI q), .int (nI r)] σ (put idI I ad C) (put idX X ad C) (pR (some (.int (yhrd C p q r))) σ (put idI I ad C) (put idX X ad C)) noX := by
  refine Ct.of (by decide) hst (Nat.le_of_ble_eq_true rfl) ?_
  intro pp ee ss mm args below meth kc A hF hnm hout
  refine V.aload_n hF dX2_heard_0 rfl ?_
  refine V.getRP (i := (40 + p)) hF dX2_heard_1 fl_X2_18 (hG.rp hp) rfl (hG.p3 hp) ?_
  refine V.iload_n hF dX2_heard_4 rfl ?_
  refine V.bipush (v := nI 6) hF dX2_heard_5 (by decide) ?_
  refine V.imul hF dX2_heard_7 ?_
  refine V.iload_n hF dX2_heard_8 rfl ?_
  refine V.iadd hF dX2_heard_9 ?_
  refine V.ialoadP (j := ((q * 6) + r)) hF dX2_heard_10 (hG.at hp) (by simp only [nI_add, pk_mul, Nat.zero_add, Nat.add_zero]) (by omega) (by decide) hG (mem_tb hp) ?_
  refine V.iret hF dX2_heard_11 (Nat.le_refl _) (Nat.le_refl _) ?_
  exact pR.i rfl
set_option maxRecDepth 20000 in
theorem ct_X2_entry (hst : l.stackTraces = false) (σ : SH) (I X : IX) (ad : Nat → Nat) (hG : GS σ ad) (C : IX) (hC : WC C) (p : Nat) (hp : p < 6) (q : Nat) (hq : q < 6) : Ct l D cy sa sv yX2_entry cX2_entry 2 (some .int) 1 0 0 [.ref (ad (10 + p)), .int (nI q)] σ (put idI I ad C) (put idX X ad C) (pR (some (.int (yclk C p q))) σ (put idI I ad C) (put idX X ad C)) noX := by
  refine Ct.of (by decide) hst (Nat.le_of_ble_eq_true rfl) ?_
  intro pp ee ss mm args below meth kc A hF hnm hout
  refine V.aload_n hF dX2_entry_0 rfl ?_
  refine V.aload_n hF dX2_entry_1 rfl ?_
  refine V.getIP hF dX2_entry_2 fl_X2_28 (hG.rp hp) rfl hG (mem_rp hp) ?_
  refine V.topi (y := nI p) (hC.self hp) ?_
  refine V.iload_n hF dX2_entry_5 rfl ?_
  refine V.vI hF dX2_entry_6 (ct_X2_heard hst _ _ _ _ hG _ p hp p q (by omega) (by omega)) lk_X2_40 sl_X2_heard (hG.rp hp).1 (hG.rp hp).2 rfl (Nat.le_of_ble_eq_true rfl) (fit_of rfl) (Nat.le_of_ble_eq_true rfl) rfl ?_
  refine V.iret hF dX2_entry_9 (Nat.le_refl _) (Nat.le_refl _) ?_
  exact pR.i rfl
set_option maxRecDepth 20000 in
theorem ct_X2_isReadyFor (hst : l.stackTraces = false) (σ : SH) (I X : IX) (ad : Nat → Nat) (hG : GS σ ad) (C : IX) (hC : WC C) (p : Nat) (hp : p < 6) (m : Nat) (hm : m < 150) : Ct l D cy sa sv yX2_isReadyFor cX2_isReadyFor 5 (some .boolean) 2 0 0 [.ref (ad (10 + p)), .ref (ad 2), .int (nI m)] σ (put idI I ad C) (put idX X ad C) (pR (some (.int (bI (yrdy C p m)))) σ (put idI I ad C) (put idX X ad C)) noX := by
  refine Ct.of (by decide) hst (Nat.le_of_ble_eq_true rfl) ?_
  intro pp ee ss mm args below meth kc A hF hnm hout
  have hs6 := hC.s6 hm
  refine V.aload_n hF dX2_isReadyFor_0 rfl ?_
  refine V.getRP (i := 4) hF dX2_isReadyFor_1 fl_X2_44 hG.m rfl (hG.mr 0 (by decide)) ?_
  refine V.iload_n hF dX2_isReadyFor_4 rfl ?_
  refine V.ialoadP (j := m) hF dX2_isReadyFor_5 hG.a4 rfl (by omega) (by decide) hG (by decide) ?_
  refine V.topi (y := nI (cN C 4 m)) (hC.s hm) ?_
  refine V.istore_n hF dX2_isReadyFor_6 (by decide) ?_
  refine V.aload_n hF dX2_isReadyFor_7 rfl ?_
  refine V.iload_n hF dX2_isReadyFor_8 rfl ?_
  refine V.vI hF dX2_isReadyFor_9 (ct_X2_hasLogged hst _ _ _ _ hG _ p hp m (by omega)) lk_X2_49 sl_X2_hasLogged (hG.rp hp).1 (hG.rp hp).2 rfl (Nat.le_of_ble_eq_true rfl) (fit_of rfl) (Nat.le_of_ble_eq_true rfl) rfl ?_
  refine V.if_neB (tgt := 31) hF dX2_isReadyFor_12 (by decide) (fun h12 => ?_) (fun h12 => ?_)
  · refine V.iconst (v := nI 0) hF dX2_isReadyFor_31 (by decide) ?_
    refine V.zret hF dX2_isReadyFor_32 (Or.inl rfl) (Nat.le_refl _) (Nat.le_refl _) ?_
    exact pR.i (bI_e0 (by simp [yrdy, *]))
  · refine V.aload_n hF dX2_isReadyFor_15 rfl ?_
    refine V.getRP (i := 7) hF dX2_isReadyFor_16 fl_X2_53 hG.m rfl (hG.mr 3 (by decide)) ?_
    refine V.iload_n hF dX2_isReadyFor_19 rfl ?_
    refine V.ialoadP (j := m) hF dX2_isReadyFor_20 hG.a7 rfl (by omega) (by decide) hG (by decide) ?_
    refine V.iconst (v := nI 1) hF dX2_isReadyFor_21 (by decide) ?_
    refine V.aload_n hF dX2_isReadyFor_22 rfl ?_
    refine V.iload_n hF dX2_isReadyFor_23 rfl ?_
    refine V.vI hF dX2_isReadyFor_24 (ct_X2_entry hst _ _ _ _ hG _ hC p hp (cN C 4 m) (by omega)) lk_X2_56 sl_X2_entry (hG.rp hp).1 (hG.rp hp).2 rfl (Nat.le_of_ble_eq_true rfl) (fit_of rfl) (Nat.le_of_ble_eq_true rfl) rfl ?_
    refine V.iadd hF dX2_isReadyFor_27 ?_
    refine V.icmp_eq (tgt := 33) hF dX2_isReadyFor_28 (by decide) (fun h28 => ?_) (fun h28 => ?_)
    · refine V.iconst (v := nI 0) hF dX2_isReadyFor_33 (by decide) ?_
      refine V.istore hF dX2_isReadyFor_34 (by decide) ?_
      have L36 : ∀ (n36 : Nat) (q : Nat), 6 - q < n36 → q ≤ 6 → zall (yrq C p m) q = true → V pp l ee (Rm 2 0 0) ss mm args below meth kc D cy A (QM below args ss D cy A (pR (some (.int (bI (yrdy C p m)))) σ (put idI I ad C) (put idX X ad C)) noX 0 0) 5 0 0 σ (put idI I ad C) (put idX X ad C) 36 [(0, .ref (ad (10 + p))), (1, .ref (ad 2)), (2, .int (nI m)), (3, .int (nI (cN C 4 m))), (4, .int (nI q))] [] := by
        intro n36
        induction n36 with
        | zero => intro q hlt36; exact absurd hlt36 (Nat.not_lt_zero _)
        | succ n36 ih36 =>
          intro q hlt36 hq ha
          refine V.iload hF dX2_isReadyFor_36 rfl ?_
          refine V.bipush (v := nI 6) hF dX2_isReadyFor_38 (by decide) ?_
          refine V.icmp_ge (tgt := 73) hF dX2_isReadyFor_40 (by decide) (fun h40 => ?_) (fun h40 => ?_)
          · have hq6 : q = 6 := by have := nI_ge' h40 (by omega) (by omega); omega
            subst hq6
            refine V.iconst (v := nI 1) hF dX2_isReadyFor_73 (by decide) ?_
            refine V.zret hF dX2_isReadyFor_74 (Or.inr rfl) (Nat.le_refl _) (Nat.le_refl _) ?_
            exact pR.i (bI_e1 (by simp [yrdy, *]))
          · have hq6 : q < 6 := nI_nge h40 (by omega) (by omega)
            refine V.iload hF dX2_isReadyFor_43 rfl ?_
            refine V.iload_n hF dX2_isReadyFor_45 rfl ?_
            refine V.icmp_eq (tgt := 67) hF dX2_isReadyFor_46 (by decide) (fun h46 => ?_) (fun h46 => ?_)
            · have hz : yrq C p m q = true := by have := nI_eq' h46 (by omega) (by omega); simp [yrq, this]
              refine V.iinc (v := nI (q + 1)) hF dX2_isReadyFor_67 rfl (by exact nI_1 _) (by decide) ?_
              refine V.goto (tgt := 36) hF dX2_isReadyFor_70 (by decide) ?_
              refine V.relv [0, 1, 2, 3, 4] rfl ?_
              exact ih36 (q + 1) (by omega) (by omega) (zall_t ha hz)
            · have hqs := nI_ne h46
              refine V.aload_n hF dX2_isReadyFor_49 rfl ?_
              refine V.iload_n hF dX2_isReadyFor_50 rfl ?_
              refine V.iload hF dX2_isReadyFor_51 rfl ?_
              refine V.vI hF dX2_isReadyFor_53 (ct_X1_entry hst _ _ _ _ hG _ m q (by omega) (by omega)) lk_X2_60 sl_X1_entry hG.m.1 hG.m.2 rfl (Nat.le_of_ble_eq_true rfl) (fit_of rfl) (Nat.le_of_ble_eq_true rfl) rfl ?_
              refine V.aload_n hF dX2_isReadyFor_56 rfl ?_
              refine V.iload hF dX2_isReadyFor_57 rfl ?_
              refine V.vI hF dX2_isReadyFor_59 (ct_X2_entry hst _ _ _ _ hG _ hC p hp q (by omega)) lk_X2_56 sl_X2_entry (hG.rp hp).1 (hG.rp hp).2 rfl (Nat.le_of_ble_eq_true rfl) (fit_of rfl) (Nat.le_of_ble_eq_true rfl) rfl ?_
              refine V.icmp_le (tgt := 67) hF dX2_isReadyFor_62 (by decide) (fun h62 => ?_) (fun h62 => ?_)
              · have hz : yrq C p m q = true := by simp [yrq, h62]
                refine V.iinc (v := nI (q + 1)) hF dX2_isReadyFor_67 rfl (by exact nI_1 _) (by decide) ?_
                refine V.goto (tgt := 36) hF dX2_isReadyFor_70 (by decide) ?_
                refine V.relv [0, 1, 2, 3, 4] rfl ?_
                exact ih36 (q + 1) (by omega) (by omega) (zall_t ha hz)
              · have hz : yrq C p m q = false := by simp [yrq, h62, hqs]
                refine V.iconst (v := nI 0) hF dX2_isReadyFor_65 (by decide) ?_
                refine V.zret hF dX2_isReadyFor_66 (Or.inl rfl) (Nat.le_refl _) (Nat.le_refl _) ?_
                exact pR.i (bI_e0 (by simp [yrdy, zall_f hz hq6]))
      refine V.relv [0, 1, 2, 3, 4] rfl ?_
      exact L36 _ 0 (Nat.lt_succ_self _) (by omega) rfl
    · refine V.iconst (v := nI 0) hF dX2_isReadyFor_31 (by decide) ?_
      refine V.zret hF dX2_isReadyFor_32 (Or.inl rfl) (Nat.le_refl _) (Nat.le_refl _) ?_
      exact pR.i (bI_e0 (by simp [yrdy, *]))
set_option maxRecDepth 20000 in
theorem ct_X2_deliver (hst : l.stackTraces = false) (σ : SH) (I X : IX) (ad : Nat → Nat) (hG : GS σ ad) (C : IX) (hC : WC C) (p : Nat) (hp : p < 6) (m r : Nat) (hm : m < 150) (hr : r < 6) (y : Int32) : Ct l D cy sa sv yX2_deliver cX2_deliver 4 none 0 0 0 [.ref (ad (10 + p)), .int (nI m), .int (nI r), .int y] σ (put idI I ad C) (put idX X ad C) (pR none σ (put idI I ad (ydl C p m r y)) (put idX X ad (ydl C p m r y))) noX := by
  refine Ct.of (by decide) hst (Nat.le_of_ble_eq_true rfl) ?_
  intro pp ee ss mm args below meth kc A hF hnm hout
  have hl150 := hC.l150 hp
  refine V.aload_n hF dX2_deliver_0 rfl ?_
  refine V.getIP hF dX2_deliver_1 fl_X2_21 (hG.rp hp) rfl hG (mem_rp hp) ?_
  refine V.sipush (v := nI 150) hF dX2_deliver_4 (by decide) ?_
  refine V.icmp_lt (tgt := 11) hF dX2_deliver_7 (by decide) (fun h7 => ?_) (fun h7 => ?_)
  · have hl : cN C (10 + p) 4 < 150 := by have h7b := h7; rw [hC.l hp] at h7b; exact (nI_ltI (by omega) (by omega)).mp h7b
    refine V.aload_n hF dX2_deliver_11 rfl ?_
    refine V.getRP (i := (20 + p)) hF dX2_deliver_12 fl_X2_9 (hG.rp hp) rfl (hG.p1 hp) ?_
    refine V.aload_n hF dX2_deliver_15 rfl ?_
    refine V.getIP hF dX2_deliver_16 fl_X2_21 (hG.rp hp) rfl hG (mem_rp hp) ?_
    refine V.topi (y := nI (cN C (10 + p) 4)) (hC.l hp) ?_
    refine V.iload_n hF dX2_deliver_19 rfl ?_
    refine V.iastoreP (j := (cN C (10 + p) 4)) hF dX2_deliver_20 (hG.al hp) rfl (by omega) (by decide) hG (mem_lg hp) ?_
    refine V.aload_n hF dX2_deliver_21 rfl ?_
    refine V.getRP (i := (30 + p)) hF dX2_deliver_22 fl_X2_15 (hG.rp hp) rfl (hG.p2 hp) ?_
    refine V.iload_n hF dX2_deliver_25 rfl ?_
    refine V.aload_n hF dX2_deliver_26 rfl ?_
    refine V.getIP hF dX2_deliver_27 fl_X2_21 (hG.rp hp) rfl hG (mem_rp hp) ?_
    refine V.iastoreP (j := m) hF dX2_deliver_30 (hG.ap hp) rfl (by omega) (by decide) hG (mem_pl hp) ?_
    refine V.aload_n hF dX2_deliver_31 rfl ?_
    refine V.dup hF dX2_deliver_32 rfl ?_
    refine V.getIP hF dX2_deliver_33 fl_X2_21 (hG.rp hp) rfl hG (mem_rp hp) ?_
    refine V.iconst (v := nI 1) hF dX2_deliver_36 (by decide) ?_
    refine V.iadd hF dX2_deliver_37 ?_
    refine V.putIP hF dX2_deliver_38 fl_X2_21 (hG.rp hp) rfl rfl rfl hG (mem_rp hp) ?_
    refine V.aload_n hF dX2_deliver_41 rfl ?_
    refine V.bipush (v := nI 31) hF dX2_deliver_42 (by decide) ?_
    refine V.aload_n hF dX2_deliver_44 rfl ?_
    refine V.getIP hF dX2_deliver_45 fl_X2_25 (hG.rp hp) rfl hG (mem_rp hp) ?_
    refine V.imul hF dX2_deliver_48 ?_
    refine V.iload_n hF dX2_deliver_49 rfl ?_
    refine V.iadd hF dX2_deliver_50 ?_
    refine V.putIP hF dX2_deliver_51 fl_X2_25 (hG.rp hp) rfl rfl rfl hG (mem_rp hp) ?_
    refine V.aload_n hF dX2_deliver_54 rfl ?_
    refine V.getRP (i := (40 + p)) hF dX2_deliver_55 fl_X2_18 (hG.rp hp) rfl (hG.p3 hp) ?_
    refine V.aload_n hF dX2_deliver_58 rfl ?_
    refine V.getIP hF dX2_deliver_59 fl_X2_28 (hG.rp hp) rfl hG (mem_rp hp) ?_
    refine V.topi (y := nI p) (ydl_self (m := m) (y := y) hC hp) ?_
    refine V.bipush (v := nI 6) hF dX2_deliver_62 (by decide) ?_
    refine V.imul hF dX2_deliver_64 ?_
    refine V.iload_n hF dX2_deliver_65 rfl ?_
    refine V.iadd hF dX2_deliver_66 ?_
    refine V.dup2 hF dX2_deliver_67 rfl rfl ?_
    refine V.ialoadP (j := ((p * 6) + r)) hF dX2_deliver_68 (hG.at hp) (by simp only [nI_add, pk_mul, Nat.zero_add, Nat.add_zero]) (by omega) (by decide) hG (mem_tb hp) ?_
    refine V.iconst (v := nI 1) hF dX2_deliver_69 (by decide) ?_
    refine V.iadd hF dX2_deliver_70 ?_
    refine V.iastoreP (j := ((p * 6) + r)) hF dX2_deliver_71 (hG.at hp) (by simp only [nI_add, pk_mul, Nat.zero_add, Nat.add_zero]) (by omega) (by decide) hG (mem_tb hp) ?_
    refine V.vret hF dX2_deliver_72 (Nat.le_refl _) (Nat.le_refl _) ?_
    exact pR.ve (by rw [ydl, if_pos h7]; rfl) (by rw [ydl, if_pos h7]; rfl)
  · refine V.vret hF dX2_deliver_10 (Nat.le_refl _) (Nat.le_refl _) ?_
    exact pR.ve (by rw [ydl, if_neg h7]) (by rw [ydl, if_neg h7])
end MD
