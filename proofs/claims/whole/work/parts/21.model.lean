def zany (f : Nat → Bool) : Nat → Bool
  | 0 => false
  | k + 1 => zany f k || f k
theorem zany_f {f : Nat → Bool} {k : Nat} (h : zany f k = false) (h2 : f k = false) : zany f (k + 1) = false := by simp [zany, h, h2]
theorem zany_t {f : Nat → Bool} {k : Nat} (h2 : f k = true) : ∀ {n : Nat}, k < n → zany f n = true
  | 0, h => absurd h (Nat.not_lt_zero _)
  | n + 1, h => by
    by_cases hk : k = n
    · subst hk; simp [zany, h2]
    · simp [zany, zany_t h2 (show k < n by omega)]
def zfst (f : Nat → Bool) : Nat → Nat
  | 0 => 0
  | n + 1 => if zfst f n < n then zfst f n else if f n then n else n + 1
theorem zfst_no {f : Nat → Bool} : ∀ {n : Nat}, (∀ j, j < n → f j = false) → zfst f n = n
  | 0, _ => rfl
  | n + 1, h => by
    have ih := zfst_no (f := f) (n := n) (fun j hj => h j (by omega))
    simp [zfst, ih, h n (by omega)]
theorem zfst_at {f : Nat → Bool} {i : Nat} (h1 : ∀ j, j < i → f j = false) (h2 : f i = true) : ∀ {n : Nat}, i < n → zfst f n = i
  | 0, h => absurd h (Nat.not_lt_zero _)
  | n + 1, h => by
    by_cases hk : i = n
    · subst hk
      simp [zfst, zfst_no h1, h2]
    · have ih := zfst_at h1 h2 (show i < n by omega)
      have : i < n := by omega
      simp [zfst, ih, this]
theorem zfst_cases (f : Nat → Bool) (n : Nat) : (zfst f n = n ∧ ∀ j, j < n → f j = false) ∨ (zfst f n < n ∧ f (zfst f n) = true ∧ ∀ j, j < zfst f n → f j = false) := by
  induction n with
  | zero => exact Or.inl ⟨rfl, fun j h => absurd h (Nat.not_lt_zero _)⟩
  | succ n ih =>
    rcases ih with ⟨h1, h2⟩ | ⟨h1, h2, h3⟩
    · cases hf : f n with
      | false => exact Or.inl ⟨by simp [zfst, h1, hf], fun j hj => (Nat.lt_or_ge j n).elim (fun q => h2 j q) (fun q => by rw [show j = n by omega]; exact hf)⟩
      | true =>
        have e : zfst f (n + 1) = n := by simp [zfst, h1, hf]
        exact Or.inr ⟨by omega, by rw [e]; exact hf, fun j hj => h2 j (by omega)⟩
    · have e : zfst f (n + 1) = zfst f n := by simp [zfst, h1]
      exact Or.inr ⟨by omega, by rw [e]; exact h2, fun j hj => h3 j (by omega)⟩
def zheld (v : Rw) (m : Nat) (s : Int32) : Bool := zany (fun p => zbit s (nI p) && zlog v p m) 6
def zbuf (v : Rw) (p m : Nat) : Bool := znow v m && decide (v (3360 + 150 * p + m) = nI 1) && !zlog v p m
def zotw (v : Rw) (p m : Nat) : Bool := znow v m && !decide (v (50 + m) = nI p) && decide (v (3360 + 150 * p + m) = 0)
def zcau (v : Rw) (a b : Nat) : Bool := !decide (a = b) && decide (v (350 + a) = v (350 + b)) && !decide (v (650 + 6 * b + vN v (50 + a)) < v (500 + a))
def zplf (v : Rw) (p : Nat) (x : Int32) (i : Nat) : Bool := decide (v (1560 + 150 * p + i) = x)
def zpl (v : Rw) (p : Nat) (x : Int32) : Int32 := if zfst (zplf v p x) (vN v (1550 + p)) < vN v (1550 + p) then nI (zfst (zplf v p x) (vN v (1550 + p))) else -1
def zsq (v : Rw) (p m q : Nat) : Bool := !zisM v (nI q) || !decide (v (4270 + 36 * p + 6 * q + vN v (50 + m)) < v (500 + m))
def zsafe (v : Rw) (p m : Nat) : Bool := !znow v m || zall (zsq v p m) 6
def zwq (v : Rw) (m p : Nat) : Bool := !zisM v (nI p) || zlog v p m
def zwith (v : Rw) (m : Nat) : Bool := zall (zwq v m) 6
def zzero (v : Rw) (k : Nat) : Rw := fun j => if j < k then nI 0 else v j
theorem zzero_s (v : Rw) (k : Nat) : upd (zzero v k) k (nI 0) = zzero v (k + 1) := by
  funext j
  simp only [upd, zzero]
  by_cases h : j = k
  · subst h; simp
  · by_cases h2 : j < k
    · simp [h, h2, Nat.lt_succ_of_lt h2]
    · have : ¬ j < k + 1 := by omega
      simp [h, h2, this]
theorem zzero_0 (v : Rw) : zzero v 0 = v := by funext j; simp [zzero]
def zreset (v : Rw) (x : Int32) : Rw := upd (upd (zzero v 4486) 0 x) 43 x
theorem zin_of {x : Int32} {n : Nat} (hn : n < 2147483648) (h : zisIn x (nI 0) (nI n) = true) : ∃ k, k ≤ n ∧ x = nI k := by
  simp only [zisIn, Bool.and_eq_true, decide_eq_true_eq] at h
  obtain ⟨k, hk, e⟩ := nI_of (x := x) (by rw [← i0]; exact le_nlt h.1)
  subst e
  exact ⟨k, (nI_leI hk hn).mp h.2, rfl⟩
def zjoin (v : Rw) (x : Int32) : Rw := upd v 43 (v 43 ||| (nI 1 <<< (x &&& 31)))
def zleft (v : Rw) (x : Int32) : Int32 := v 43 &&& ((nI 1 <<< (x &&& 31)) ^^^ (-1))
def zlok (v : Rw) (x : Int32) : Bool := !decide (zleft v x = v 43) && !decide (zleft v x &&& zmem v = 0)
theorem zdvL_st {p m s : Nat} {w : Rw} {q : Nat} {y : Int32} (h : y = if zdvL p m s w q (650 + 6 * m + q) ≤ zdvL p m s w q (4270 + 36 * p + 6 * s + q) then zdvL p m s w q (4270 + 36 * p + 6 * s + q) else zdvL p m s w q (650 + 6 * m + q)) : upd (zdvL p m s w q) (4270 + 36 * p + 6 * s + q) y = zdvL p m s w (q + 1) := by rw [h]; rfl

section MD
variable {l : Launch} {D : va_G} {cy sa sv : Nat → Nat}
set_option maxRecDepth 20000 in
theorem ct_X5_delivers (hst : l.stackTraces = false) (σ : SH) (I X : IX) (o : Nat) (ar : Nat → Nat) (hM : MS σ o ar) (v : Rw) (hX : X (ar 1) = v) (hv : WV v) (p m : Nat) (hp : p < 6) (hm : m < 150) : Ct l D cy sa sv yX5_delivers cX5_delivers 6 none 1 0 0 [.ref o, .int (nI p), .int (nI m)] σ I X (pR none σ I (va_up X (ar 1) (zdeliv v p m))) noX := by
  refine Ct.of (by decide) hst (Nat.le_of_ble_eq_true rfl) ?_
  intro pp ee ss mm args below meth kc A hF hnm hout
  refine V.etaX (ar 1) hX ?_
  have hs6 := hv.s6 hm
  refine V.aload_n hF dX5_delivers_0 rfl ?_
  refine V.getR hF dX5_delivers_1 fl_X5_9 hM.1.1 hM.1.2 rfl hM.m1.1 ?_
  refine V.bipush (v := nI 50) hF dX5_delivers_4 (by decide) ?_
  refine V.iload_n hF dX5_delivers_6 rfl ?_
  refine V.iadd hF dX5_delivers_7 ?_
  refine V.ialoadF (j := (50 + m)) hF dX5_delivers_8 hM.m1.2.1 hM.m1.2.2.1 (by simp only [nI_add, pk_mul, Nat.zero_add, Nat.add_zero]) (hM.m1.lt (by omega)) (hM.m1.sm (by decide)) (va_up_self _ _ _) ?_
  refine V.topi (y := nI (vN v (50 + m))) (hv.s hm) ?_
  refine V.istore_n hF dX5_delivers_9 (by decide) ?_
  refine V.aload_n hF dX5_delivers_10 rfl ?_
  refine V.iload_n hF dX5_delivers_11 rfl ?_
  refine V.iload_n hF dX5_delivers_12 rfl ?_
  refine V.vV hF dX5_delivers_13 (ct_X5_logs hst _ _ _ _ _ hM _ (va_up_self _ _ _) hv p m (by omega) (by omega)) lk_X5_80 sl_X5_logs hM.1.1 hM.1.2 rfl (Nat.le_of_ble_eq_true rfl) (fit_of rfl) (Nat.le_of_ble_eq_true rfl) rfl ?_
  refine V.collX ?_
  refine V.aload_n hF dX5_delivers_16 rfl ?_
  refine V.getR hF dX5_delivers_17 fl_X5_9 hM.1.1 hM.1.2 rfl hM.m1.1 ?_
  refine V.sipush (v := nI 4260) hF dX5_delivers_20 (by decide) ?_
  refine V.iload_n hF dX5_delivers_23 rfl ?_
  refine V.iadd hF dX5_delivers_24 ?_
  refine V.bipush (v := nI 31) hF dX5_delivers_25 (by decide) ?_
  refine V.aload_n hF dX5_delivers_27 rfl ?_
  refine V.getR hF dX5_delivers_28 fl_X5_9 hM.1.1 hM.1.2 rfl hM.m1.1 ?_
  refine V.sipush (v := nI 4260) hF dX5_delivers_31 (by decide) ?_
  refine V.iload_n hF dX5_delivers_34 rfl ?_
  refine V.iadd hF dX5_delivers_35 ?_
  refine V.ialoadF (j := (4260 + p)) hF dX5_delivers_36 hM.m1.2.1 hM.m1.2.2.1 (by simp only [nI_add, pk_mul, Nat.zero_add, Nat.add_zero]) (hM.m1.lt (by omega)) (hM.m1.sm (by decide)) (va_up_self _ _ _) ?_
  refine V.imul hF dX5_delivers_37 ?_
  refine V.aload_n hF dX5_delivers_38 rfl ?_
  refine V.getR hF dX5_delivers_39 fl_X5_9 hM.1.1 hM.1.2 rfl hM.m1.1 ?_
  refine V.sipush (v := nI 200) hF dX5_delivers_42 (by decide) ?_
  refine V.iload_n hF dX5_delivers_45 rfl ?_
  refine V.iadd hF dX5_delivers_46 ?_
  refine V.ialoadF (j := (200 + m)) hF dX5_delivers_47 hM.m1.2.1 hM.m1.2.2.1 (by simp only [nI_add, pk_mul, Nat.zero_add, Nat.add_zero]) (hM.m1.lt (by omega)) (hM.m1.sm (by decide)) (va_up_self _ _ _) ?_
  refine V.iadd hF dX5_delivers_48 ?_
  refine V.iastoreU (j := (4260 + p)) hF dX5_delivers_49 hM.m1.2.1 hM.m1.2.2.1 (by simp only [nI_add, pk_mul, Nat.zero_add, Nat.add_zero]) (hM.m1.lt (by omega)) (hM.m1.sm (by decide)) ?_
  refine V.aload_n hF dX5_delivers_50 rfl ?_
  refine V.getR hF dX5_delivers_51 fl_X5_9 hM.1.1 hM.1.2 rfl hM.m1.1 ?_
  refine V.sipush (v := nI 4270) hF dX5_delivers_54 (by decide) ?_
  refine V.bipush (v := nI 42) hF dX5_delivers_57 (by decide) ?_
  refine V.iload_n hF dX5_delivers_59 rfl ?_
  refine V.imul hF dX5_delivers_60 ?_
  refine V.iadd hF dX5_delivers_61 ?_
  refine V.iload_n hF dX5_delivers_62 rfl ?_
  refine V.iadd hF dX5_delivers_63 ?_
  refine V.dup2 hF dX5_delivers_64 rfl rfl ?_
  refine V.ialoadF (j := ((4270 + (42 * p)) + vN v (50 + m))) hF dX5_delivers_65 hM.m1.2.1 hM.m1.2.2.1 (by simp only [nI_add, pk_mul, Nat.zero_add, Nat.add_zero]) (hM.m1.lt (by omega)) (hM.m1.sm (by decide)) (va_up_self _ _ _) ?_
  refine V.iconst (v := nI 1) hF dX5_delivers_66 (by decide) ?_
  refine V.iadd hF dX5_delivers_67 ?_
  refine V.iastoreU (j := ((4270 + (42 * p)) + vN v (50 + m))) hF dX5_delivers_68 hM.m1.2.1 hM.m1.2.2.1 (by simp only [nI_add, pk_mul, Nat.zero_add, Nat.add_zero]) (hM.m1.lt (by omega)) (hM.m1.sm (by decide)) ?_
  refine V.iconst (v := nI 0) hF dX5_delivers_69 (by decide) ?_
  refine V.istore hF dX5_delivers_70 (by decide) ?_
  have L72 : ∀ (n72 : Nat) (q : Nat), 6 - q < n72 → q ≤ 6 → (vN v (50 + m) = p → q = 0) → V pp l ee (Rm 1 0 0) ss mm args below meth kc D cy A (QM below args ss D cy A (pR none σ I (va_up X (ar 1) (zdeliv v p m))) noX 0 0) 6 0 0 σ I (va_up X (ar 1) (zdvL p m (vN v (50 + m)) (zdv1 v p m (vN v (50 + m))) q)) 72 [(0, .ref o), (1, .int (nI p)), (2, .int (nI m)), (3, .int (nI (vN v (50 + m)))), (4, .int (nI q))] [] := by
    intro n72
    induction n72 with
    | zero => intro q hlt72; exact absurd hlt72 (Nat.not_lt_zero _)
    | succ n72 ih72 =>
      intro q hlt72 hq hsp
      refine V.iload hF dX5_delivers_72 rfl ?_
      refine V.bipush (v := nI 6) hF dX5_delivers_74 (by decide) ?_
      refine V.icmp_ge (tgt := 167) hF dX5_delivers_76 (by decide) (fun h76 => ?_) (fun h76 => ?_)
      · have hq6 : q = 6 := by have := nI_ge' h76 (by omega) (by omega); omega
        refine V.vret hF dX5_delivers_167 (Nat.le_refl _) (Nat.le_refl _) ?_
        have e : zdeliv v p m = zdvL p m (vN v (50 + m)) (zdv1 v p m (vN v (50 + m))) q := by
          unfold zdeliv
          by_cases hh : vN v (50 + m) = p
          · rw [if_pos hh, hsp hh]; rfl
          · rw [if_neg hh]; first | rw [hq6] | exact absurd (nI_eq' h81 (by omega) (by omega)) hh
        rw [e]
        exact pR.v
      · have hq6 : q < 6 := nI_nge h76 (by omega) (by omega)
        refine V.iload_n hF dX5_delivers_79 rfl ?_
        refine V.iload_n hF dX5_delivers_80 rfl ?_
        refine V.icmp_eq (tgt := 167) hF dX5_delivers_81 (by decide) (fun h81 => ?_) (fun h81 => ?_)
        · refine V.vret hF dX5_delivers_167 (Nat.le_refl _) (Nat.le_refl _) ?_
          have e : zdeliv v p m = zdvL p m (vN v (50 + m)) (zdv1 v p m (vN v (50 + m))) q := by
            unfold zdeliv
            by_cases hh : vN v (50 + m) = p
            · rw [if_pos hh, hsp hh]; rfl
            · rw [if_neg hh]; first | rw [hq6] | exact absurd (nI_eq' h81 (by omega) (by omega)) hh
          rw [e]
          exact pR.v
        · refine V.sipush (v := nI 4270) hF dX5_delivers_84 (by decide) ?_
          refine V.bipush (v := nI 36) hF dX5_delivers_87 (by decide) ?_
          refine V.iload_n hF dX5_delivers_89 rfl ?_
          refine V.imul hF dX5_delivers_90 ?_
          refine V.iadd hF dX5_delivers_91 ?_
          refine V.bipush (v := nI 6) hF dX5_delivers_92 (by decide) ?_
          refine V.iload_n hF dX5_delivers_94 rfl ?_
          refine V.imul hF dX5_delivers_95 ?_
          refine V.iadd hF dX5_delivers_96 ?_
          refine V.iload hF dX5_delivers_97 rfl ?_
          refine V.iadd hF dX5_delivers_99 ?_
          refine V.topi (y := nI (((4270 + (36 * p)) + (6 * (vN v (50 + m)))) + q)) (by simp only [nI_add, pk_mul, Nat.zero_add, Nat.add_zero]) ?_
          refine V.istore hF dX5_delivers_100 (by decide) ?_
          refine V.aload_n hF dX5_delivers_102 rfl ?_
          refine V.getR hF dX5_delivers_103 fl_X5_9 hM.1.1 hM.1.2 rfl hM.m1.1 ?_
          refine V.iload hF dX5_delivers_106 rfl ?_
          refine V.aload_n hF dX5_delivers_108 rfl ?_
          refine V.getR hF dX5_delivers_109 fl_X5_9 hM.1.1 hM.1.2 rfl hM.m1.1 ?_
          refine V.sipush (v := nI 650) hF dX5_delivers_112 (by decide) ?_
          refine V.bipush (v := nI 6) hF dX5_delivers_115 (by decide) ?_
          refine V.iload_n hF dX5_delivers_117 rfl ?_
          refine V.imul hF dX5_delivers_118 ?_
          refine V.iadd hF dX5_delivers_119 ?_
          refine V.iload hF dX5_delivers_120 rfl ?_
          refine V.iadd hF dX5_delivers_122 ?_
          refine V.ialoadF (j := ((650 + (6 * m)) + q)) hF dX5_delivers_123 hM.m1.2.1 hM.m1.2.2.1 (by simp only [nI_add, pk_mul, Nat.zero_add, Nat.add_zero]) (hM.m1.lt (by omega)) (hM.m1.sm (by decide)) (va_up_self _ _ _) ?_
          refine V.aload_n hF dX5_delivers_124 rfl ?_
          refine V.getR hF dX5_delivers_125 fl_X5_9 hM.1.1 hM.1.2 rfl hM.m1.1 ?_
          refine V.iload hF dX5_delivers_128 rfl ?_
          refine V.ialoadF (j := (((4270 + (36 * p)) + (6 * (vN v (50 + m)))) + q)) hF dX5_delivers_130 hM.m1.2.1 hM.m1.2.2.1 rfl (hM.m1.lt (by omega)) (hM.m1.sm (by decide)) (va_up_self _ _ _) ?_
          refine V.icmp_le (tgt := 153) hF dX5_delivers_131 (by decide) (fun h131 => ?_) (fun h131 => ?_)
          · have hle := h131
            refine V.aload_n hF dX5_delivers_153 rfl ?_
            refine V.getR hF dX5_delivers_154 fl_X5_9 hM.1.1 hM.1.2 rfl hM.m1.1 ?_
            refine V.iload hF dX5_delivers_157 rfl ?_
            refine V.ialoadF (j := (((4270 + (36 * p)) + (6 * (vN v (50 + m)))) + q)) hF dX5_delivers_159 hM.m1.2.1 hM.m1.2.2.1 rfl (hM.m1.lt (by omega)) (hM.m1.sm (by decide)) (va_up_self _ _ _) ?_
            refine V.iastoreU (j := (((4270 + (36 * p)) + (6 * (vN v (50 + m)))) + q)) hF dX5_delivers_160 hM.m1.2.1 hM.m1.2.2.1 rfl (hM.m1.lt (by omega)) (hM.m1.sm (by decide)) ?_
            refine V.iinc (v := nI (q + 1)) hF dX5_delivers_161 rfl (by exact nI_1 _) (by decide) ?_
            refine V.goto (tgt := 72) hF dX5_delivers_164 (by decide) ?_
            refine V.relv [0, 1, 2, 3, 4] rfl ?_
            refine V.eqX (congrArg (va_up X (ar 1)) (zdvL_st (by simp [hle]))) ?_
            exact ih72 (q + 1) (by omega) (by omega) (fun h => absurd (by rw [h]) h81)
          · have hle := h131
            refine V.aload_n hF dX5_delivers_134 rfl ?_
            refine V.getR hF dX5_delivers_135 fl_X5_9 hM.1.1 hM.1.2 rfl hM.m1.1 ?_
            refine V.sipush (v := nI 650) hF dX5_delivers_138 (by decide) ?_
            refine V.bipush (v := nI 6) hF dX5_delivers_141 (by decide) ?_
            refine V.iload_n hF dX5_delivers_143 rfl ?_
            refine V.imul hF dX5_delivers_144 ?_
            refine V.iadd hF dX5_delivers_145 ?_
            refine V.iload hF dX5_delivers_146 rfl ?_
            refine V.iadd hF dX5_delivers_148 ?_
            refine V.ialoadF (j := ((650 + (6 * m)) + q)) hF dX5_delivers_149 hM.m1.2.1 hM.m1.2.2.1 (by simp only [nI_add, pk_mul, Nat.zero_add, Nat.add_zero]) (hM.m1.lt (by omega)) (hM.m1.sm (by decide)) (va_up_self _ _ _) ?_
            refine V.goto (tgt := 160) hF dX5_delivers_150 (by decide) ?_
            refine V.iastoreU (j := (((4270 + (36 * p)) + (6 * (vN v (50 + m)))) + q)) hF dX5_delivers_160 hM.m1.2.1 hM.m1.2.2.1 rfl (hM.m1.lt (by omega)) (hM.m1.sm (by decide)) ?_
            refine V.iinc (v := nI (q + 1)) hF dX5_delivers_161 rfl (by exact nI_1 _) (by decide) ?_
            refine V.goto (tgt := 72) hF dX5_delivers_164 (by decide) ?_
            refine V.relv [0, 1, 2, 3, 4] rfl ?_
            refine V.eqX (congrArg (va_up X (ar 1)) (zdvL_st (by simp [hle]))) ?_
            exact ih72 (q + 1) (by omega) (by omega) (fun h => absurd (by rw [h]) h81)
  refine V.relv [0, 1, 2, 3, 4] rfl ?_
  exact L72 _ 0 (Nat.lt_succ_self _) (by omega) (fun _ => rfl)
set_option maxRecDepth 20000 in
theorem ct_X5_isHeld (hst : l.stackTraces = false) (σ : SH) (I X : IX) (o : Nat) (ar : Nat → Nat) (hM : MS σ o ar) (v : Rw) (hX : X (ar 1) = v) (m : Nat) (hm : m < 150) (x : Int32) : Ct l D cy sa sv yX5_isHeld cX5_isHeld 4 (some .boolean) 1 0 0 [.ref o, .int (nI m), .int x] σ I X (pR (some (.int (bI (zheld v m x)))) σ I X) noX := by
  refine Ct.of (by decide) hst (Nat.le_of_ble_eq_true rfl) ?_
  intro pp ee ss mm args below meth kc A hF hnm hout
  refine V.iconst (v := nI 0) hF dX5_isHeld_0 (by decide) ?_
  refine V.istore_n hF dX5_isHeld_1 (by decide) ?_
  have L2 : ∀ (n2 : Nat) (p : Nat), 6 - p < n2 → p ≤ 6 → zany (fun p => zbit x (nI p) && zlog v p m) p = false → V pp l ee (Rm 1 0 0) ss mm args below meth kc D cy A (QM below args ss D cy A (pR (some (.int (bI (zheld v m x)))) σ I X) noX 0 0) 4 0 0 σ I X 2 [(0, .ref o), (1, .int (nI m)), (2, .int x), (3, .int (nI p))] [] := by
    intro n2
    induction n2 with
    | zero => intro p hlt2; exact absurd hlt2 (Nat.not_lt_zero _)
    | succ n2 ih2 =>
      intro p hlt2 hp ha
      refine V.iload_n hF dX5_isHeld_2 rfl ?_
      refine V.bipush (v := nI 6) hF dX5_isHeld_3 (by decide) ?_
      refine V.icmp_ge (tgt := 34) hF dX5_isHeld_5 (by decide) (fun h5 => ?_) (fun h5 => ?_)
      · have hp6 : p = 6 := by have := nI_ge' h5 (by omega) (by omega); omega
        refine V.iconst (v := nI 0) hF dX5_isHeld_34 (by decide) ?_
        refine V.zret hF dX5_isHeld_35 (Or.inl rfl) (Nat.le_refl _) (Nat.le_refl _) ?_
        exact pR.i (bI_e0 (by subst hp6; exact ha))
      · have hp6 : p < 6 := nI_nge h5 (by omega) (by omega)
        refine V.iload_n hF dX5_isHeld_8 rfl ?_
        refine V.iload_n hF dX5_isHeld_9 rfl ?_
        refine V.ishr hF dX5_isHeld_10 ?_
        refine V.iconst (v := nI 1) hF dX5_isHeld_11 (by decide) ?_
        refine V.iand hF dX5_isHeld_12 ?_
        refine V.iconst (v := nI 1) hF dX5_isHeld_13 (by decide) ?_
        refine V.icmp_ne (tgt := 28) hF dX5_isHeld_14 (by decide) (fun h14 => ?_) (fun h14 => ?_)
        · refine V.iinc (v := nI (p + 1)) hF dX5_isHeld_28 rfl (by exact nI_1 _) (by decide) ?_
          refine V.goto (tgt := 2) hF dX5_isHeld_31 (by decide) ?_
          refine V.relv [0, 1, 2, 3] rfl ?_
          exact ih2 (p + 1) (by omega) (by omega) (zany_f ha (by simp [zbit, *]))
        · refine V.aload_n hF dX5_isHeld_17 rfl ?_
          refine V.iload_n hF dX5_isHeld_18 rfl ?_
          refine V.iload_n hF dX5_isHeld_19 rfl ?_
          refine V.vI hF dX5_isHeld_20 (ct_X5_isLogged hst _ _ _ _ _ hM _ hX p m (by omega) (by omega)) lk_X5_72 sl_X5_isLogged hM.1.1 hM.1.2 rfl (Nat.le_of_ble_eq_true rfl) (fit_of rfl) (Nat.le_of_ble_eq_true rfl) rfl ?_
          refine V.if_eqB (tgt := 28) hF dX5_isHeld_23 (by decide) (fun h23 => ?_) (fun h23 => ?_)
          · refine V.iinc (v := nI (p + 1)) hF dX5_isHeld_28 rfl (by exact nI_1 _) (by decide) ?_
            refine V.goto (tgt := 2) hF dX5_isHeld_31 (by decide) ?_
            refine V.relv [0, 1, 2, 3] rfl ?_
            exact ih2 (p + 1) (by omega) (by omega) (zany_f ha (by simp [zbit, *]))
          · refine V.iconst (v := nI 1) hF dX5_isHeld_26 (by decide) ?_
            refine V.zret hF dX5_isHeld_27 (Or.inr rfl) (Nat.le_refl _) (Nat.le_refl _) ?_
            exact pR.i (bI_e1 (zany_t (by simp [zbit, *]) hp6))
  refine V.relv [0, 1, 2, 3] rfl ?_
  exact L2 _ 0 (Nat.lt_succ_self _) (by omega) rfl
set_option maxRecDepth 20000 in
theorem ct_X5_isBuffered (hst : l.stackTraces = false) (σ : SH) (I X : IX) (o : Nat) (ar : Nat → Nat) (hM : MS σ o ar) (v : Rw) (hX : X (ar 1) = v) (p m : Nat) (hp : p < 6) (hm : m < 150) : Ct l D cy sa sv yX5_isBuffered cX5_isBuffered 3 (some .boolean) 1 0 0 [.ref o, .int (nI p), .int (nI m)] σ I X (pR (some (.int (bI (zbuf v p m)))) σ I X) noX := by
  refine Ct.of (by decide) hst (Nat.le_of_ble_eq_true rfl) ?_
  intro pp ee ss mm args below meth kc A hF hnm hout
  refine V.aload_n hF dX5_isBuffered_0 rfl ?_
  refine V.iload_n hF dX5_isBuffered_1 rfl ?_
  refine V.vI hF dX5_isBuffered_2 (ct_X5_isNow hst _ _ _ _ _ hM _ hX m (by omega)) lk_X5_69 sl_X5_isNow hM.1.1 hM.1.2 rfl (Nat.le_of_ble_eq_true rfl) (fit_of rfl) (Nat.le_of_ble_eq_true rfl) rfl ?_
  refine V.if_eqB (tgt := 41) hF dX5_isBuffered_5 (by decide) (fun h5 => ?_) (fun h5 => ?_)
  · refine V.iconst (v := nI 0) hF dX5_isBuffered_41 (by decide) ?_
    refine V.zret hF dX5_isBuffered_42 (Or.inl rfl) (Nat.le_refl _) (Nat.le_refl _) ?_
    exact pR.i (by first | exact bI_e1 (by simp [zbuf, *]) | exact bI_e0 (by simp [zbuf, *]))
  · refine V.aload_n hF dX5_isBuffered_8 rfl ?_
    refine V.getR hF dX5_isBuffered_9 fl_X5_9 hM.1.1 hM.1.2 rfl hM.m1.1 ?_
    refine V.sipush (v := nI 3360) hF dX5_isBuffered_12 (by decide) ?_
    refine V.sipush (v := nI 150) hF dX5_isBuffered_15 (by decide) ?_
    refine V.iload_n hF dX5_isBuffered_18 rfl ?_
    refine V.imul hF dX5_isBuffered_19 ?_
    refine V.iadd hF dX5_isBuffered_20 ?_
    refine V.iload_n hF dX5_isBuffered_21 rfl ?_
    refine V.iadd hF dX5_isBuffered_22 ?_
    refine V.ialoadF (j := ((3360 + (150 * p)) + m)) hF dX5_isBuffered_23 hM.m1.2.1 hM.m1.2.2.1 (by simp only [nI_add, pk_mul, Nat.zero_add, Nat.add_zero]) (hM.m1.lt (by omega)) (hM.m1.sm (by decide)) hX ?_
    refine V.iconst (v := nI 1) hF dX5_isBuffered_24 (by decide) ?_
    refine V.icmp_ne (tgt := 41) hF dX5_isBuffered_25 (by decide) (fun h25 => ?_) (fun h25 => ?_)
    · refine V.iconst (v := nI 0) hF dX5_isBuffered_41 (by decide) ?_
      refine V.zret hF dX5_isBuffered_42 (Or.inl rfl) (Nat.le_refl _) (Nat.le_refl _) ?_
      exact pR.i (by first | exact bI_e1 (by simp [zbuf, *]) | exact bI_e0 (by simp [zbuf, *]))
    · refine V.aload_n hF dX5_isBuffered_28 rfl ?_
      refine V.iload_n hF dX5_isBuffered_29 rfl ?_
      refine V.iload_n hF dX5_isBuffered_30 rfl ?_
      refine V.vI hF dX5_isBuffered_31 (ct_X5_isLogged hst _ _ _ _ _ hM _ hX p m (by omega) (by omega)) lk_X5_72 sl_X5_isLogged hM.1.1 hM.1.2 rfl (Nat.le_of_ble_eq_true rfl) (fit_of rfl) (Nat.le_of_ble_eq_true rfl) rfl ?_
      refine V.if_neB (tgt := 41) hF dX5_isBuffered_34 (by decide) (fun h34 => ?_) (fun h34 => ?_)
      · refine V.iconst (v := nI 0) hF dX5_isBuffered_41 (by decide) ?_
        refine V.zret hF dX5_isBuffered_42 (Or.inl rfl) (Nat.le_refl _) (Nat.le_refl _) ?_
        exact pR.i (by first | exact bI_e1 (by simp [zbuf, *]) | exact bI_e0 (by simp [zbuf, *]))
      · refine V.iconst (v := nI 1) hF dX5_isBuffered_37 (by decide) ?_
        refine V.goto (tgt := 42) hF dX5_isBuffered_38 (by decide) ?_
        refine V.zret hF dX5_isBuffered_42 (Or.inr rfl) (Nat.le_refl _) (Nat.le_refl _) ?_
        exact pR.i (by first | exact bI_e1 (by simp [zbuf, *]) | exact bI_e0 (by simp [zbuf, *]))
set_option maxRecDepth 20000 in
theorem ct_X5_isOnTheWay (hst : l.stackTraces = false) (σ : SH) (I X : IX) (o : Nat) (ar : Nat → Nat) (hM : MS σ o ar) (v : Rw) (hX : X (ar 1) = v) (p m : Nat) (hp : p < 6) (hm : m < 150) : Ct l D cy sa sv yX5_isOnTheWay cX5_isOnTheWay 3 (some .boolean) 1 0 0 [.ref o, .int (nI p), .int (nI m)] σ I X (pR (some (.int (bI (zotw v p m)))) σ I X) noX := by
  refine Ct.of (by decide) hst (Nat.le_of_ble_eq_true rfl) ?_
  intro pp ee ss mm args below meth kc A hF hnm hout
  refine V.aload_n hF dX5_isOnTheWay_0 rfl ?_
  refine V.iload_n hF dX5_isOnTheWay_1 rfl ?_
  refine V.vI hF dX5_isOnTheWay_2 (ct_X5_isNow hst _ _ _ _ _ hM _ hX m (by omega)) lk_X5_69 sl_X5_isNow hM.1.1 hM.1.2 rfl (Nat.le_of_ble_eq_true rfl) (fit_of rfl) (Nat.le_of_ble_eq_true rfl) rfl ?_
  refine V.if_eqB (tgt := 44) hF dX5_isOnTheWay_5 (by decide) (fun h5 => ?_) (fun h5 => ?_)
  · refine V.iconst (v := nI 0) hF dX5_isOnTheWay_44 (by decide) ?_
    refine V.zret hF dX5_isOnTheWay_45 (Or.inl rfl) (Nat.le_refl _) (Nat.le_refl _) ?_
    exact pR.i (by first | exact bI_e1 (by simp [zotw, *]) | exact bI_e0 (by simp [zotw, *]))
  · refine V.aload_n hF dX5_isOnTheWay_8 rfl ?_
    refine V.getR hF dX5_isOnTheWay_9 fl_X5_9 hM.1.1 hM.1.2 rfl hM.m1.1 ?_
    refine V.bipush (v := nI 50) hF dX5_isOnTheWay_12 (by decide) ?_
    refine V.iload_n hF dX5_isOnTheWay_14 rfl ?_
    refine V.iadd hF dX5_isOnTheWay_15 ?_
    refine V.ialoadF (j := (50 + m)) hF dX5_isOnTheWay_16 hM.m1.2.1 hM.m1.2.2.1 (by simp only [nI_add, pk_mul, Nat.zero_add, Nat.add_zero]) (hM.m1.lt (by omega)) (hM.m1.sm (by decide)) hX ?_
    refine V.iload_n hF dX5_isOnTheWay_17 rfl ?_
    refine V.icmp_eq (tgt := 44) hF dX5_isOnTheWay_18 (by decide) (fun h18 => ?_) (fun h18 => ?_)
    · refine V.iconst (v := nI 0) hF dX5_isOnTheWay_44 (by decide) ?_
      refine V.zret hF dX5_isOnTheWay_45 (Or.inl rfl) (Nat.le_refl _) (Nat.le_refl _) ?_
      exact pR.i (by first | exact bI_e1 (by simp [zotw, *]) | exact bI_e0 (by simp [zotw, *]))
    · refine V.aload_n hF dX5_isOnTheWay_21 rfl ?_
      refine V.getR hF dX5_isOnTheWay_22 fl_X5_9 hM.1.1 hM.1.2 rfl hM.m1.1 ?_
      refine V.sipush (v := nI 3360) hF dX5_isOnTheWay_25 (by decide) ?_
      refine V.sipush (v := nI 150) hF dX5_isOnTheWay_28 (by decide) ?_
      refine V.iload_n hF dX5_isOnTheWay_31 rfl ?_
      refine V.imul hF dX5_isOnTheWay_32 ?_
      refine V.iadd hF dX5_isOnTheWay_33 ?_
      refine V.iload_n hF dX5_isOnTheWay_34 rfl ?_
      refine V.iadd hF dX5_isOnTheWay_35 ?_
      refine V.ialoadF (j := ((3360 + (150 * p)) + m)) hF dX5_isOnTheWay_36 hM.m1.2.1 hM.m1.2.2.1 (by simp only [nI_add, pk_mul, Nat.zero_add, Nat.add_zero]) (hM.m1.lt (by omega)) (hM.m1.sm (by decide)) hX ?_
      refine V.if_ne (tgt := 44) hF dX5_isOnTheWay_37 (by decide) (fun h37 => ?_) (fun h37 => ?_)
      · refine V.iconst (v := nI 0) hF dX5_isOnTheWay_44 (by decide) ?_
        refine V.zret hF dX5_isOnTheWay_45 (Or.inl rfl) (Nat.le_refl _) (Nat.le_refl _) ?_
        exact pR.i (by first | exact bI_e1 (by simp [zotw, *]) | exact bI_e0 (by simp [zotw, *]))
      · refine V.iconst (v := nI 1) hF dX5_isOnTheWay_40 (by decide) ?_
        refine V.goto (tgt := 45) hF dX5_isOnTheWay_41 (by decide) ?_
        refine V.zret hF dX5_isOnTheWay_45 (Or.inr rfl) (Nat.le_refl _) (Nat.le_refl _) ?_
        exact pR.i (by first | exact bI_e1 (by simp [zotw, *]) | exact bI_e0 (by simp [zotw, *]))
set_option maxRecDepth 20000 in
theorem ct_X5_isCauseOf (hst : l.stackTraces = false) (σ : SH) (I X : IX) (o : Nat) (ar : Nat → Nat) (hM : MS σ o ar) (v : Rw) (hX : X (ar 1) = v) (hv : WV v) (a b : Nat) (ha : a < 150) (hb : b < 150) : Ct l D cy sa sv yX5_isCauseOf cX5_isCauseOf 3 (some .boolean) 0 0 0 [.ref o, .int (nI a), .int (nI b)] σ I X (pR (some (.int (bI (zcau v a b)))) σ I X) noX := by
  refine Ct.of (by decide) hst (Nat.le_of_ble_eq_true rfl) ?_
  intro pp ee ss mm args below meth kc A hF hnm hout
  have hs6 := hv.s6 ha
  refine V.iload_n hF dX5_isCauseOf_0 rfl ?_
  refine V.iload_n hF dX5_isCauseOf_1 rfl ?_
  refine V.icmp_eq (tgt := 68) hF dX5_isCauseOf_2 (by decide) (fun h2 => ?_) (fun h2 => ?_)
  · have hab := nI_eq' h2 (by omega) (by omega)
    refine V.iconst (v := nI 0) hF dX5_isCauseOf_68 (by decide) ?_
    refine V.zret hF dX5_isCauseOf_69 (Or.inl rfl) (Nat.le_refl _) (Nat.le_refl _) ?_
    exact pR.i (by first | exact bI_e1 (by simp [zcau, *]) | exact bI_e0 (by simp [zcau, *]))
  · have hab := nI_ne h2
    refine V.aload_n hF dX5_isCauseOf_5 rfl ?_
    refine V.getR hF dX5_isCauseOf_6 fl_X5_9 hM.1.1 hM.1.2 rfl hM.m1.1 ?_
    refine V.sipush (v := nI 350) hF dX5_isCauseOf_9 (by decide) ?_
    refine V.iload_n hF dX5_isCauseOf_12 rfl ?_
    refine V.iadd hF dX5_isCauseOf_13 ?_
    refine V.ialoadF (j := (350 + a)) hF dX5_isCauseOf_14 hM.m1.2.1 hM.m1.2.2.1 (by simp only [nI_add, pk_mul, Nat.zero_add, Nat.add_zero]) (hM.m1.lt (by omega)) (hM.m1.sm (by decide)) hX ?_
    refine V.aload_n hF dX5_isCauseOf_15 rfl ?_
    refine V.getR hF dX5_isCauseOf_16 fl_X5_9 hM.1.1 hM.1.2 rfl hM.m1.1 ?_
    refine V.sipush (v := nI 350) hF dX5_isCauseOf_19 (by decide) ?_
    refine V.iload_n hF dX5_isCauseOf_22 rfl ?_
    refine V.iadd hF dX5_isCauseOf_23 ?_
    refine V.ialoadF (j := (350 + b)) hF dX5_isCauseOf_24 hM.m1.2.1 hM.m1.2.2.1 (by simp only [nI_add, pk_mul, Nat.zero_add, Nat.add_zero]) (hM.m1.lt (by omega)) (hM.m1.sm (by decide)) hX ?_
    refine V.icmp_ne (tgt := 68) hF dX5_isCauseOf_25 (by decide) (fun h25 => ?_) (fun h25 => ?_)
    · refine V.iconst (v := nI 0) hF dX5_isCauseOf_68 (by decide) ?_
      refine V.zret hF dX5_isCauseOf_69 (Or.inl rfl) (Nat.le_refl _) (Nat.le_refl _) ?_
      exact pR.i (by first | exact bI_e1 (by simp [zcau, *]) | exact bI_e0 (by simp [zcau, *]))
    · refine V.aload_n hF dX5_isCauseOf_28 rfl ?_
      refine V.getR hF dX5_isCauseOf_29 fl_X5_9 hM.1.1 hM.1.2 rfl hM.m1.1 ?_
      refine V.sipush (v := nI 650) hF dX5_isCauseOf_32 (by decide) ?_
      refine V.bipush (v := nI 6) hF dX5_isCauseOf_35 (by decide) ?_
      refine V.iload_n hF dX5_isCauseOf_37 rfl ?_
      refine V.imul hF dX5_isCauseOf_38 ?_
      refine V.iadd hF dX5_isCauseOf_39 ?_
      refine V.aload_n hF dX5_isCauseOf_40 rfl ?_
      refine V.getR hF dX5_isCauseOf_41 fl_X5_9 hM.1.1 hM.1.2 rfl hM.m1.1 ?_
      refine V.bipush (v := nI 50) hF dX5_isCauseOf_44 (by decide) ?_
      refine V.iload_n hF dX5_isCauseOf_46 rfl ?_
      refine V.iadd hF dX5_isCauseOf_47 ?_
      refine V.ialoadF (j := (50 + a)) hF dX5_isCauseOf_48 hM.m1.2.1 hM.m1.2.2.1 (by simp only [nI_add, pk_mul, Nat.zero_add, Nat.add_zero]) (hM.m1.lt (by omega)) (hM.m1.sm (by decide)) hX ?_
      refine V.topi (y := nI (vN v (50 + a))) (hv.s ha) ?_
      refine V.iadd hF dX5_isCauseOf_49 ?_
      refine V.ialoadF (j := ((650 + (6 * b)) + vN v (50 + a))) hF dX5_isCauseOf_50 hM.m1.2.1 hM.m1.2.2.1 (by simp only [nI_add, pk_mul, Nat.zero_add, Nat.add_zero]) (hM.m1.lt (by omega)) (hM.m1.sm (by decide)) hX ?_
      refine V.aload_n hF dX5_isCauseOf_51 rfl ?_
      refine V.getR hF dX5_isCauseOf_52 fl_X5_9 hM.1.1 hM.1.2 rfl hM.m1.1 ?_
      refine V.sipush (v := nI 500) hF dX5_isCauseOf_55 (by decide) ?_
      refine V.iload_n hF dX5_isCauseOf_58 rfl ?_
      refine V.iadd hF dX5_isCauseOf_59 ?_
      refine V.ialoadF (j := (500 + a)) hF dX5_isCauseOf_60 hM.m1.2.1 hM.m1.2.2.1 (by simp only [nI_add, pk_mul, Nat.zero_add, Nat.add_zero]) (hM.m1.lt (by omega)) (hM.m1.sm (by decide)) hX ?_
      refine V.icmp_lt (tgt := 68) hF dX5_isCauseOf_61 (by decide) (fun h61 => ?_) (fun h61 => ?_)
      · refine V.iconst (v := nI 0) hF dX5_isCauseOf_68 (by decide) ?_
        refine V.zret hF dX5_isCauseOf_69 (Or.inl rfl) (Nat.le_refl _) (Nat.le_refl _) ?_
        exact pR.i (by first | exact bI_e1 (by simp [zcau, *]) | exact bI_e0 (by simp [zcau, *]))
      · refine V.iconst (v := nI 1) hF dX5_isCauseOf_64 (by decide) ?_
        refine V.goto (tgt := 69) hF dX5_isCauseOf_65 (by decide) ?_
        refine V.zret hF dX5_isCauseOf_69 (Or.inr rfl) (Nat.le_refl _) (Nat.le_refl _) ?_
        exact pR.i (by first | exact bI_e1 (by simp [zcau, *]) | exact bI_e0 (by simp [zcau, *]))
set_option maxRecDepth 20000 in
theorem ct_X5_placeOf (hst : l.stackTraces = false) (σ : SH) (I X : IX) (o : Nat) (ar : Nat → Nat) (hM : MS σ o ar) (v : Rw) (hX : X (ar 1) = v) (hv : WV v) (p : Nat) (hp : p < 6) (x : Int32) : Ct l D cy sa sv yX5_placeOf cX5_placeOf 4 (some .int) 0 0 0 [.ref o, .int (nI p), .int x] σ I X (pR (some (.int (zpl v p x))) σ I X) noX := by
  refine Ct.of (by decide) hst (Nat.le_of_ble_eq_true rfl) ?_
  intro pp ee ss mm args below meth kc A hF hnm hout
  have hl150 := hv.l150 hp
  refine V.iconst (v := nI 0) hF dX5_placeOf_0 (by decide) ?_
  refine V.istore_n hF dX5_placeOf_1 (by decide) ?_
  have L2 : ∀ (n2 : Nat) (i : Nat), vN v (1550 + p) - i < n2 → i ≤ vN v (1550 + p) → (∀ j, j < i → zplf v p x j = false) → V pp l ee (Rm 0 0 0) ss mm args below meth kc D cy A (QM below args ss D cy A (pR (some (.int (zpl v p x))) σ I X) noX 0 0) 4 0 0 σ I X 2 [(0, .ref o), (1, .int (nI p)), (2, .int x), (3, .int (nI i))] [] := by
    intro n2
    induction n2 with
    | zero => intro i hlt2; exact absurd hlt2 (Nat.not_lt_zero _)
    | succ n2 ih2 =>
      intro i hlt2 hi ha
      refine V.iload_n hF dX5_placeOf_2 rfl ?_
      refine V.aload_n hF dX5_placeOf_3 rfl ?_
      refine V.getR hF dX5_placeOf_4 fl_X5_9 hM.1.1 hM.1.2 rfl hM.m1.1 ?_
      refine V.sipush (v := nI 1550) hF dX5_placeOf_7 (by decide) ?_
      refine V.iload_n hF dX5_placeOf_10 rfl ?_
      refine V.iadd hF dX5_placeOf_11 ?_
      refine V.ialoadF (j := (1550 + p)) hF dX5_placeOf_12 hM.m1.2.1 hM.m1.2.2.1 (by simp only [nI_add, pk_mul, Nat.zero_add, Nat.add_zero]) (hM.m1.lt (by omega)) (hM.m1.sm (by decide)) hX ?_
      refine V.topi (y := nI (vN v (1550 + p))) (hv.l hp) ?_
      refine V.icmp_ge (tgt := 44) hF dX5_placeOf_13 (by decide) (fun h13 => ?_) (fun h13 => ?_)
      · have hi6 : i = vN v (1550 + p) := by have := nI_ge' h13 (by omega) (by omega); omega
        refine V.iconst (v := -1) hF dX5_placeOf_44 (by decide) ?_
        refine V.iret hF dX5_placeOf_45 (Nat.le_refl _) (Nat.le_refl _) ?_
        have e := zfst_no (fun j hj => ha j (by omega) : ∀ j, j < vN v (1550 + p) → zplf v p x j = false)
        exact pR.i (by simp [zpl, e])
      · have hi6 : i < vN v (1550 + p) := nI_nge h13 (by omega) (by omega)
        refine V.aload_n hF dX5_placeOf_16 rfl ?_
        refine V.getR hF dX5_placeOf_17 fl_X5_9 hM.1.1 hM.1.2 rfl hM.m1.1 ?_
        refine V.sipush (v := nI 1560) hF dX5_placeOf_20 (by decide) ?_
        refine V.sipush (v := nI 150) hF dX5_placeOf_23 (by decide) ?_
        refine V.iload_n hF dX5_placeOf_26 rfl ?_
        refine V.imul hF dX5_placeOf_27 ?_
        refine V.iadd hF dX5_placeOf_28 ?_
        refine V.iload_n hF dX5_placeOf_29 rfl ?_
        refine V.iadd hF dX5_placeOf_30 ?_
        refine V.ialoadF (j := ((1560 + (150 * p)) + i)) hF dX5_placeOf_31 hM.m1.2.1 hM.m1.2.2.1 (by simp only [nI_add, pk_mul, Nat.zero_add, Nat.add_zero]) (hM.m1.lt (by omega)) (hM.m1.sm (by decide)) hX ?_
        refine V.iload_n hF dX5_placeOf_32 rfl ?_
        refine V.icmp_ne (tgt := 38) hF dX5_placeOf_33 (by decide) (fun h33 => ?_) (fun h33 => ?_)
        · refine V.iinc (v := nI (i + 1)) hF dX5_placeOf_38 rfl (by exact nI_1 _) (by decide) ?_
          refine V.goto (tgt := 2) hF dX5_placeOf_41 (by decide) ?_
          refine V.relv [0, 1, 2, 3] rfl ?_
          exact ih2 (i + 1) (by omega) (by omega) (lt_s ha (by simp [zplf, h33]))
        · refine V.iload_n hF dX5_placeOf_36 rfl ?_
          refine V.iret hF dX5_placeOf_37 (Nat.le_refl _) (Nat.le_refl _) ?_
          have e := zfst_at ha (show zplf v p x i = true by simp only [zplf, decide_eq_true_eq]; exact h33) hi6
          exact pR.i (by simp [zpl, e, hi6])
  refine V.relv [0, 1, 2, 3] rfl ?_
  exact L2 _ 0 (Nat.lt_succ_self _) (by omega) (fun j h => absurd h (Nat.not_lt_zero _))
set_option maxRecDepth 20000 in
theorem ct_X5_isSafe (hst : l.stackTraces = false) (σ : SH) (I X : IX) (o : Nat) (ar : Nat → Nat) (hM : MS σ o ar) (v : Rw) (hX : X (ar 1) = v) (hv : WV v) (p m : Nat) (hp : p < 6) (hm : m < 150) : Ct l D cy sa sv yX5_isSafe cX5_isSafe 4 (some .boolean) 2 0 0 [.ref o, .int (nI p), .int (nI m)] σ I X (pR (some (.int (bI (zsafe v p m)))) σ I X) noX := by
  refine Ct.of (by decide) hst (Nat.le_of_ble_eq_true rfl) ?_
  intro pp ee ss mm args below meth kc A hF hnm hout
  have hs6 := hv.s6 hm
  refine V.aload_n hF dX5_isSafe_0 rfl ?_
  refine V.iload_n hF dX5_isSafe_1 rfl ?_
  refine V.vI hF dX5_isSafe_2 (ct_X5_isNow hst _ _ _ _ _ hM _ hX m (by omega)) lk_X5_69 sl_X5_isNow hM.1.1 hM.1.2 rfl (Nat.le_of_ble_eq_true rfl) (fit_of rfl) (Nat.le_of_ble_eq_true rfl) rfl ?_
  refine V.if_neB (tgt := 10) hF dX5_isSafe_5 (by decide) (fun h5 => ?_) (fun h5 => ?_)
  · refine V.iconst (v := nI 0) hF dX5_isSafe_10 (by decide) ?_
    refine V.istore_n hF dX5_isSafe_11 (by decide) ?_
    have L12 : ∀ (n12 : Nat) (q : Nat), 6 - q < n12 → q ≤ 6 → zall (zsq v p m) q = true → V pp l ee (Rm 2 0 0) ss mm args below meth kc D cy A (QM below args ss D cy A (pR (some (.int (bI (zsafe v p m)))) σ I X) noX 0 0) 4 0 0 σ I X 12 [(0, .ref o), (1, .int (nI p)), (2, .int (nI m)), (3, .int (nI q))] [] := by
      intro n12
      induction n12 with
      | zero => intro q hlt12; exact absurd hlt12 (Nat.not_lt_zero _)
      | succ n12 ih12 =>
        intro q hlt12 hq ha
        refine V.iload_n hF dX5_isSafe_12 rfl ?_
        refine V.bipush (v := nI 6) hF dX5_isSafe_13 (by decide) ?_
        refine V.icmp_ge (tgt := 75) hF dX5_isSafe_15 (by decide) (fun h15 => ?_) (fun h15 => ?_)
        · have hq6 : q = 6 := by have := nI_ge' h15 (by omega) (by omega); omega
          refine V.iconst (v := nI 1) hF dX5_isSafe_75 (by decide) ?_
          refine V.zret hF dX5_isSafe_76 (Or.inr rfl) (Nat.le_refl _) (Nat.le_refl _) ?_
          exact pR.i (bI_e1 (by subst hq6; simp [zsafe, ha]))
        · have hq6 : q < 6 := nI_nge h15 (by omega) (by omega)
          refine V.aload_n hF dX5_isSafe_18 rfl ?_
          refine V.iload_n hF dX5_isSafe_19 rfl ?_
          refine V.vI hF dX5_isSafe_20 (ct_X5_isMember hst _ _ _ _ _ hM _ hX hv _) lk_X5_53 sl_X5_isMember hM.1.1 hM.1.2 rfl (Nat.le_of_ble_eq_true rfl) (fit_of rfl) (Nat.le_of_ble_eq_true rfl) rfl ?_
          refine V.if_eqB (tgt := 69) hF dX5_isSafe_23 (by decide) (fun h23 => ?_) (fun h23 => ?_)
          · refine V.iinc (v := nI (q + 1)) hF dX5_isSafe_69 rfl (by exact nI_1 _) (by decide) ?_
            refine V.goto (tgt := 12) hF dX5_isSafe_72 (by decide) ?_
            refine V.relv [0, 1, 2, 3] rfl ?_
            exact ih12 (q + 1) (by omega) (by omega) (zall_t ha (by simp [zsq, nlt_le, le_nlt, *]))
          · refine V.aload_n hF dX5_isSafe_26 rfl ?_
            refine V.getR hF dX5_isSafe_27 fl_X5_9 hM.1.1 hM.1.2 rfl hM.m1.1 ?_
            refine V.sipush (v := nI 4270) hF dX5_isSafe_30 (by decide) ?_
            refine V.bipush (v := nI 36) hF dX5_isSafe_33 (by decide) ?_
            refine V.iload_n hF dX5_isSafe_35 rfl ?_
            refine V.imul hF dX5_isSafe_36 ?_
            refine V.iadd hF dX5_isSafe_37 ?_
            refine V.bipush (v := nI 6) hF dX5_isSafe_38 (by decide) ?_
            refine V.iload_n hF dX5_isSafe_40 rfl ?_
            refine V.imul hF dX5_isSafe_41 ?_
            refine V.iadd hF dX5_isSafe_42 ?_
            refine V.aload_n hF dX5_isSafe_43 rfl ?_
            refine V.getR hF dX5_isSafe_44 fl_X5_9 hM.1.1 hM.1.2 rfl hM.m1.1 ?_
            refine V.bipush (v := nI 50) hF dX5_isSafe_47 (by decide) ?_
            refine V.iload_n hF dX5_isSafe_49 rfl ?_
            refine V.iadd hF dX5_isSafe_50 ?_
            refine V.ialoadF (j := (50 + m)) hF dX5_isSafe_51 hM.m1.2.1 hM.m1.2.2.1 (by simp only [nI_add, pk_mul, Nat.zero_add, Nat.add_zero]) (hM.m1.lt (by omega)) (hM.m1.sm (by decide)) hX ?_
            refine V.topi (y := nI (vN v (50 + m))) (hv.s hm) ?_
            refine V.iadd hF dX5_isSafe_52 ?_
            refine V.ialoadF (j := (((4270 + (36 * p)) + (6 * q)) + vN v (50 + m))) hF dX5_isSafe_53 hM.m1.2.1 hM.m1.2.2.1 (by simp only [nI_add, pk_mul, Nat.zero_add, Nat.add_zero]) (hM.m1.lt (by omega)) (hM.m1.sm (by decide)) hX ?_
            refine V.aload_n hF dX5_isSafe_54 rfl ?_
            refine V.getR hF dX5_isSafe_55 fl_X5_9 hM.1.1 hM.1.2 rfl hM.m1.1 ?_
            refine V.sipush (v := nI 500) hF dX5_isSafe_58 (by decide) ?_
            refine V.iload_n hF dX5_isSafe_61 rfl ?_
            refine V.iadd hF dX5_isSafe_62 ?_
            refine V.ialoadF (j := (500 + m)) hF dX5_isSafe_63 hM.m1.2.1 hM.m1.2.2.1 (by simp only [nI_add, pk_mul, Nat.zero_add, Nat.add_zero]) (hM.m1.lt (by omega)) (hM.m1.sm (by decide)) hX ?_
            refine V.icmp_ge (tgt := 69) hF dX5_isSafe_64 (by decide) (fun h64 => ?_) (fun h64 => ?_)
            · refine V.iinc (v := nI (q + 1)) hF dX5_isSafe_69 rfl (by exact nI_1 _) (by decide) ?_
              refine V.goto (tgt := 12) hF dX5_isSafe_72 (by decide) ?_
              refine V.relv [0, 1, 2, 3] rfl ?_
              exact ih12 (q + 1) (by omega) (by omega) (zall_t ha (by simp [zsq, nlt_le, le_nlt, *]))
            · refine V.iconst (v := nI 0) hF dX5_isSafe_67 (by decide) ?_
              refine V.zret hF dX5_isSafe_68 (Or.inl rfl) (Nat.le_refl _) (Nat.le_refl _) ?_
              have hz : zsq v p m q = false := by simp [zsq, nle_lt h64, *]
              exact pR.i (bI_e0 (by simp [zsafe, zall_f hz hq6, *]))
    refine V.relv [0, 1, 2, 3] rfl ?_
    exact L12 _ 0 (Nat.lt_succ_self _) (by omega) rfl
  · refine V.iconst (v := nI 1) hF dX5_isSafe_8 (by decide) ?_
    refine V.zret hF dX5_isSafe_9 (Or.inr rfl) (Nat.le_refl _) (Nat.le_refl _) ?_
    exact pR.i (bI_e1 (by simp [zsafe, *]))
set_option maxRecDepth 20000 in
theorem ct_X5_isWithAll (hst : l.stackTraces = false) (σ : SH) (I X : IX) (o : Nat) (ar : Nat → Nat) (hM : MS σ o ar) (v : Rw) (hX : X (ar 1) = v) (hv : WV v) (m : Nat) (hm : m < 150) : Ct l D cy sa sv yX5_isWithAll cX5_isWithAll 3 (some .boolean) 2 0 0 [.ref o, .int (nI m)] σ I X (pR (some (.int (bI (zwith v m)))) σ I X) noX := by
  refine Ct.of (by decide) hst (Nat.le_of_ble_eq_true rfl) ?_
  intro pp ee ss mm args below meth kc A hF hnm hout
  refine V.iconst (v := nI 0) hF dX5_isWithAll_0 (by decide) ?_
  refine V.istore_n hF dX5_isWithAll_1 (by decide) ?_
  have L2 : ∀ (n2 : Nat) (p : Nat), 6 - p < n2 → p ≤ 6 → zall (zwq v m) p = true → V pp l ee (Rm 2 0 0) ss mm args below meth kc D cy A (QM below args ss D cy A (pR (some (.int (bI (zwith v m)))) σ I X) noX 0 0) 3 0 0 σ I X 2 [(0, .ref o), (1, .int (nI m)), (2, .int (nI p))] [] := by
    intro n2
    induction n2 with
    | zero => intro p hlt2; exact absurd hlt2 (Nat.not_lt_zero _)
    | succ n2 ih2 =>
      intro p hlt2 hp ha
      refine V.iload_n hF dX5_isWithAll_2 rfl ?_
      refine V.bipush (v := nI 6) hF dX5_isWithAll_3 (by decide) ?_
      refine V.icmp_ge (tgt := 33) hF dX5_isWithAll_5 (by decide) (fun h5 => ?_) (fun h5 => ?_)
      · have hp6 : p = 6 := by have := nI_ge' h5 (by omega) (by omega); omega
        refine V.iconst (v := nI 1) hF dX5_isWithAll_33 (by decide) ?_
        refine V.zret hF dX5_isWithAll_34 (Or.inr rfl) (Nat.le_refl _) (Nat.le_refl _) ?_
        exact pR.i (bI_e1 (by subst hp6; exact ha))
      · have hp6 : p < 6 := nI_nge h5 (by omega) (by omega)
        refine V.aload_n hF dX5_isWithAll_8 rfl ?_
        refine V.iload_n hF dX5_isWithAll_9 rfl ?_
        refine V.vI hF dX5_isWithAll_10 (ct_X5_isMember hst _ _ _ _ _ hM _ hX hv _) lk_X5_53 sl_X5_isMember hM.1.1 hM.1.2 rfl (Nat.le_of_ble_eq_true rfl) (fit_of rfl) (Nat.le_of_ble_eq_true rfl) rfl ?_
        refine V.if_eqB (tgt := 27) hF dX5_isWithAll_13 (by decide) (fun h13 => ?_) (fun h13 => ?_)
        · refine V.iinc (v := nI (p + 1)) hF dX5_isWithAll_27 rfl (by exact nI_1 _) (by decide) ?_
          refine V.goto (tgt := 2) hF dX5_isWithAll_30 (by decide) ?_
          refine V.relv [0, 1, 2] rfl ?_
          exact ih2 (p + 1) (by omega) (by omega) (zall_t ha (by simp [zwq, *]))
        · refine V.aload_n hF dX5_isWithAll_16 rfl ?_
          refine V.iload_n hF dX5_isWithAll_17 rfl ?_
          refine V.iload_n hF dX5_isWithAll_18 rfl ?_
          refine V.vI hF dX5_isWithAll_19 (ct_X5_isLogged hst _ _ _ _ _ hM _ hX p m (by omega) (by omega)) lk_X5_72 sl_X5_isLogged hM.1.1 hM.1.2 rfl (Nat.le_of_ble_eq_true rfl) (fit_of rfl) (Nat.le_of_ble_eq_true rfl) rfl ?_
          refine V.if_neB (tgt := 27) hF dX5_isWithAll_22 (by decide) (fun h22 => ?_) (fun h22 => ?_)
          · refine V.iinc (v := nI (p + 1)) hF dX5_isWithAll_27 rfl (by exact nI_1 _) (by decide) ?_
            refine V.goto (tgt := 2) hF dX5_isWithAll_30 (by decide) ?_
            refine V.relv [0, 1, 2] rfl ?_
            exact ih2 (p + 1) (by omega) (by omega) (zall_t ha (by simp [zwq, *]))
          · refine V.iconst (v := nI 0) hF dX5_isWithAll_25 (by decide) ?_
            refine V.zret hF dX5_isWithAll_26 (Or.inl rfl) (Nat.le_refl _) (Nat.le_refl _) ?_
            have hz : zwq v m p = false := by simp [zwq, *]
            exact pR.i (bI_e0 (zall_f hz hp6))
  refine V.relv [0, 1, 2] rfl ?_
  exact L2 _ 0 (Nat.lt_succ_self _) (by omega) rfl
set_option maxRecDepth 20000 in
theorem ct_X5_view (hst : l.stackTraces = false) (σ : SH) (I X : IX) (o : Nat) (ar : Nat → Nat) (hM : MS σ o ar) (f : Rw) (hI : I o = f) (v : Rw) (hX : X (ar 1) = v) : Ct l D cy sa sv yX5_view cX5_view 1 (some .int) 0 0 0 [.ref o] σ I X (pR (some (.int (v 42))) σ (va_up I o (th f (nI 0))) X) noX := by
  refine Ct.of (by decide) hst (Nat.le_of_ble_eq_true rfl) ?_
  intro pp ee ss mm args below meth kc A hF hnm hout
  refine V.etaI o hI ?_
  refine V.aload_n hF dX5_view_0 rfl ?_
  refine V.iconst (v := nI 0) hF dX5_view_1 (by decide) ?_
  refine V.putIU hF dX5_view_2 fl_X5_38 hM.1.1 hM.1.2 rfl rfl rfl ?_
  refine V.aload_n hF dX5_view_5 rfl ?_
  refine V.getR hF dX5_view_6 fl_X5_9 hM.1.1 hM.1.2 rfl hM.m1.1 ?_
  refine V.bipush (v := nI 42) hF dX5_view_9 (by decide) ?_
  refine V.ialoadF (j := 42) hF dX5_view_11 hM.m1.2.1 hM.m1.2.2.1 rfl (hM.m1.lt (lt_of rfl)) (hM.m1.sm (by decide)) hX ?_
  refine V.iret hF dX5_view_12 (Nat.le_refl _) (Nat.le_refl _) ?_
  exact pR.i rfl
set_option maxRecDepth 20000 in
theorem ct_X5_proposed (hst : l.stackTraces = false) (σ : SH) (I X : IX) (o : Nat) (ar : Nat → Nat) (hM : MS σ o ar) (f : Rw) (hI : I o = f) (v : Rw) (hX : X (ar 1) = v) : Ct l D cy sa sv yX5_proposed cX5_proposed 1 (some .int) 0 0 0 [.ref o] σ I X (pR (some (.int (v 43))) σ (va_up I o (th f (nI 0))) X) noX := by
  refine Ct.of (by decide) hst (Nat.le_of_ble_eq_true rfl) ?_
  intro pp ee ss mm args below meth kc A hF hnm hout
  refine V.etaI o hI ?_
  refine V.aload_n hF dX5_proposed_0 rfl ?_
  refine V.iconst (v := nI 0) hF dX5_proposed_1 (by decide) ?_
  refine V.putIU hF dX5_proposed_2 fl_X5_38 hM.1.1 hM.1.2 rfl rfl rfl ?_
  refine V.aload_n hF dX5_proposed_5 rfl ?_
  refine V.getR hF dX5_proposed_6 fl_X5_9 hM.1.1 hM.1.2 rfl hM.m1.1 ?_
  refine V.bipush (v := nI 43) hF dX5_proposed_9 (by decide) ?_
  refine V.ialoadF (j := 43) hF dX5_proposed_11 hM.m1.2.1 hM.m1.2.2.1 rfl (hM.m1.lt (lt_of rfl)) (hM.m1.sm (by decide)) hX ?_
  refine V.iret hF dX5_proposed_12 (Nat.le_refl _) (Nat.le_refl _) ?_
  exact pR.i rfl
set_option maxRecDepth 20000 in
theorem ct_X5_messageCount (hst : l.stackTraces = false) (σ : SH) (I X : IX) (o : Nat) (ar : Nat → Nat) (hM : MS σ o ar) (f : Rw) (hI : I o = f) (v : Rw) (hX : X (ar 1) = v) : Ct l D cy sa sv yX5_messageCount cX5_messageCount 1 (some .int) 0 0 0 [.ref o] σ I X (pR (some (.int (v 44))) σ (va_up I o (th f (nI 0))) X) noX := by
  refine Ct.of (by decide) hst (Nat.le_of_ble_eq_true rfl) ?_
  intro pp ee ss mm args below meth kc A hF hnm hout
  refine V.etaI o hI ?_
  refine V.aload_n hF dX5_messageCount_0 rfl ?_
  refine V.iconst (v := nI 0) hF dX5_messageCount_1 (by decide) ?_
  refine V.putIU hF dX5_messageCount_2 fl_X5_38 hM.1.1 hM.1.2 rfl rfl rfl ?_
  refine V.aload_n hF dX5_messageCount_5 rfl ?_
  refine V.getR hF dX5_messageCount_6 fl_X5_9 hM.1.1 hM.1.2 rfl hM.m1.1 ?_
  refine V.bipush (v := nI 44) hF dX5_messageCount_9 (by decide) ?_
  refine V.ialoadF (j := 44) hF dX5_messageCount_11 hM.m1.2.1 hM.m1.2.2.1 rfl (hM.m1.lt (lt_of rfl)) (hM.m1.sm (by decide)) hX ?_
  refine V.iret hF dX5_messageCount_12 (Nat.le_refl _) (Nat.le_refl _) ?_
  exact pR.i rfl
set_option maxRecDepth 20000 in
theorem ct_X5_duplicates (hst : l.stackTraces = false) (σ : SH) (I X : IX) (o : Nat) (ar : Nat → Nat) (hM : MS σ o ar) (f : Rw) (hI : I o = f) (v : Rw) (hX : X (ar 1) = v) : Ct l D cy sa sv yX5_duplicates cX5_duplicates 1 (some .int) 0 0 0 [.ref o] σ I X (pR (some (.int (v 45))) σ (va_up I o (th f (nI 0))) X) noX := by
  refine Ct.of (by decide) hst (Nat.le_of_ble_eq_true rfl) ?_
  intro pp ee ss mm args below meth kc A hF hnm hout
  refine V.etaI o hI ?_
  refine V.aload_n hF dX5_duplicates_0 rfl ?_
  refine V.iconst (v := nI 0) hF dX5_duplicates_1 (by decide) ?_
  refine V.putIU hF dX5_duplicates_2 fl_X5_38 hM.1.1 hM.1.2 rfl rfl rfl ?_
  refine V.aload_n hF dX5_duplicates_5 rfl ?_
  refine V.getR hF dX5_duplicates_6 fl_X5_9 hM.1.1 hM.1.2 rfl hM.m1.1 ?_
  refine V.bipush (v := nI 45) hF dX5_duplicates_9 (by decide) ?_
  refine V.ialoadF (j := 45) hF dX5_duplicates_11 hM.m1.2.1 hM.m1.2.2.1 rfl (hM.m1.lt (lt_of rfl)) (hM.m1.sm (by decide)) hX ?_
  refine V.iret hF dX5_duplicates_12 (Nat.le_refl _) (Nat.le_refl _) ?_
  exact pR.i rfl
end MD
