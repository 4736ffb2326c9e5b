/-! MATHEMATICS: the class's rows C beside the reference's row v -/
theorem tI0 : (nI 0).toInt = 0 := by decide
theorem tI1 : (nI 1).toInt = 1 := by decide
theorem le_I {x y : Int32} : x ≤ y ↔ x.toInt ≤ y.toInt := Int32.le_iff_toInt_le
theorem lt_I {x y : Int32} : x < y ↔ x.toInt < y.toInt := Int32.lt_iff_toInt_lt
theorem eq_I {x y : Int32} : x = y ↔ x.toInt = y.toInt := Int32.toInt_inj.symm
theorem add1_I {x : Int32} (h : x.toInt < 1000) : (x + nI 1).toInt = x.toInt + 1 := by
  have h2 := Int32.le_toInt x
  rw [Int32.toInt_add, tI1, Int.bmod_eq_of_le (by omega) (by omega)]
theorem add0_I (x : Int32) : x + nI 0 = x := by rw [i0]; exact Int32.add_zero x
theorem zadd_I (x : Int32) : nI 0 + x = x := by rw [i0]; exact Int32.zero_add x
theorem n1n0 : ¬ nI 1 = nI 0 := by decide
theorem n0n1 : ¬ nI 0 = nI 1 := by decide
theorem m2lt : (-2 : Int32) < 0 := by decide
theorem m1lt : (-1 : Int32) < 0 := by decide
theorem zall_cong {f g : Nat → Bool} : ∀ {n : Nat}, (∀ j, j < n → f j = g j) → zall f n = zall g n
  | 0, _ => rfl
  | n + 1, h => by rw [zall, zall, zall_cong (fun j hj => h j (by omega)), h n (by omega)]
theorem zany_cong {f g : Nat → Bool} : ∀ {n : Nat}, (∀ j, j < n → f j = g j) → zany f n = zany g n
  | 0, _ => rfl
  | n + 1, h => by rw [zany, zany, zany_cong (fun j hj => h j (by omega)), h n (by omega)]
theorem zfst_cong {f g : Nat → Bool} : ∀ {n : Nat}, (∀ j, j < n → f j = g j) → zfst f n = zfst g n
  | 0, _ => rfl
  | n + 1, h => by rw [zfst, zfst, zfst_cong (fun j hj => h j (by omega)), h n (by omega)]
theorem zall_of {f : Nat → Bool} : ∀ {n : Nat}, (∀ j, j < n → f j = true) → zall f n = true
  | 0, _ => rfl
  | n + 1, h => by rw [zall, zall_of (fun j hj => h j (by omega)), h n (by omega)]; rfl
theorem zall_at {f : Nat → Bool} {n : Nat} (h : zall f n = true) {j : Nat} (hj : j < n) : f j = true := by
  cases hf : f j with
  | true => rfl
  | false => rw [zall_f hf hj] at h; cases h
theorem zcB_add (f : Nat → Bool) (a : Nat) : ∀ b, zcB f (a + b) = zcB f a + zcB (fun i => f (a + i)) b
  | 0 => rfl
  | b + 1 => by rw [← Nat.add_assoc, zcB, zcB_add f a b, zcB]; omega
theorem zcB_none {f : Nat → Bool} : ∀ {n : Nat}, (∀ j, j < n → f j = false) → zcB f n = 0
  | 0, _ => rfl
  | n + 1, h => by rw [zcB, zcB_none (fun j hj => h j (by omega)), h n (by omega)]; rfl
theorem zcB_every {f : Nat → Bool} : ∀ {n : Nat}, (∀ j, j < n → f j = true) → zcB f n = n
  | 0, _ => rfl
  | n + 1, h => by rw [zcB, zcB_every (fun j hj => h j (by omega)), h n (by omega)]; rfl
/-- the messages below a are none of them -/
theorem zcB_from {f g : Nat → Bool} {a n : Nat} (ha : a ≤ n) (h0 : ∀ j, j < a → f j = false) (h1 : ∀ j, a ≤ j → j < n → f j = g j) : zcB f n = zcB (fun k => g (a + k)) (n - a) := by
  have e : n = a + (n - a) := by omega
  have h2 := zcB_add f a (n - a)
  rw [← e, zcB_none h0, Nat.zero_add] at h2
  rw [h2]
  exact zcB_cong (fun j hj => h1 (a + j) (by omega) (by omega))
/-- a set of processes -/
def Sm (x : Int32) : Prop := x = nI x.toNatClampNeg ∧ x.toNatClampNeg < 64
theorem Sm_nI {k : Nat} (h : k < 64) : Sm (nI k) := by
  have e := nI_clamp (n := k) (by omega)
  unfold Sm; rw [e]; exact ⟨rfl, h⟩
theorem Sm.ex {x : Int32} (h : Sm x) : ∃ k, k < 64 ∧ x = nI k := ⟨_, h.2, h.1⟩
/-! the relation -/
/-- what is low: heads, views, messages, depths -/
def RH (C : IX) (v : Rw) : Prop := C 100 4 = v 42 ∧ C 100 5 = v 43 ∧ C 100 7 = v 45 ∧ C 2 6 = v 44
def RVw (C : IX) (v : Rw) : Prop := (∀ j, j ≤ vN v 42 → C 0 j = v j ∧ C 1 j = v (21 + j)) ∧ v 21 = nI 0
def RM (C : IX) (v : Rw) : Prop := ∀ m, m < vN v 44 → C 4 m = v (50 + m) ∧ C 5 m = v (200 + m) ∧ C 6 m = v (350 + m) ∧ C 7 m = v (500 + m) ∧ ∀ q, q < 6 → C 9 (m * 6 + q) = v (650 + 6 * m + q)
def RD (C : IX) (v : Rw) : Prop := ∀ m, m < vN v 44 → C 8 m = nI 1 + ygdb C m m ∧ ∃ d, C 8 m = nI d ∧ 1 ≤ d ∧ d ≤ m + 1
def KV (C : IX) (v : Rw) : Prop := cN C 100 6 ≤ vN v 44 ∧ ∀ m, m < vN v 44 → v (350 + m) ≤ v 42 ∧ (cN C 100 6 ≤ m ↔ v (350 + m) = v 42)
def KS (v : Rw) : Prop := Sm (v 43) ∧ Sm (zmem v)
def RLw (C : IX) (v : Rw) : Prop := (WS v ∧ KS v) ∧ RH C v ∧ RVw C v ∧ RM C v ∧ RD C v ∧ KV C v
/-- a process -/
def PP (C : IX) (v : Rw) (n p : Nat) : Prop := C (10 + p) 4 = v (1550 + p) ∧ C (10 + p) 5 = v (4260 + p) ∧ (∀ i, i < vN v (1550 + p) → C (20 + p) i = v (1560 + 150 * p + i)) ∧ (∀ j, j < 36 → C (40 + p) j = v (4270 + 36 * p + j)) ∧
  (∀ m, m < 150 → ylog C p m = zlog v p m ∧ (n ≤ m → C (30 + p) m = -2 ∧ v (3360 + 150 * p + m) = nI 0)) ∧ (∀ i, i < vN v (1550 + p) → vN v (1560 + 150 * p + i) < n ∧ C (30 + p) (vN v (1560 + 150 * p + i)) = nI i) ∧
  ∀ m, m < n → zlog v p m = true → ∃ i, i < vN v (1550 + p) ∧ C (30 + p) m = nI i ∧ v (1560 + 150 * p + i) = nI m
def KC (v : Rw) : Prop := ∀ p q, p < 6 → q < 6 → zclk v p q ≤ zclk v q q ∧ zclk v q q ≤ v 44
def KM (C : IX) (v : Rw) : Prop := ∀ m, cN C 100 6 ≤ m → m < vN v 44 → v (650 + 6 * m + vN v (50 + m)) = v (500 + m) ∧ ∀ q, q < 6 → v (650 + 6 * m + q) ≤ zclk v q q
def KO (C : IX) (v : Rw) : Prop := ∀ a b, cN C 100 6 ≤ a → a < b → b < vN v 44 → v (650 + 6 * a + vN v (50 + b)) < v (500 + b)
/-- the core -/
def R0 (C : IX) (v : Rw) : Prop := (WC C ∧ WV v) ∧ RLw C v ∧ (∀ p, p < 6 → PP C v (vN v 44) p) ∧ KC v ∧ KM C v ∧ KO C v
/-- arrivals -/
def RA (C : IX) (v : Rw) : Prop := ∀ p m, p < 6 → cN C 100 6 ≤ m → m < vN v 44 → (zlog v p m = true → v (50 + m) = nI p ∨ v (3360 + 150 * p + m) = nI 1) ∧ (zlog v p m = false → v (50 + m) ≠ nI p ∧ ((v (3360 + 150 * p + m) = nI 1 ∧ C (30 + p) m = -1) ∨ (v (3360 + 150 * p + m) = nI 0 ∧ C (30 + p) m = -2)))
/-- buffers: nothing in them is deliverable -/
def RB (C : IX) (v : Rw) : Prop := ∀ p m, p < 6 → cN C 100 6 ≤ m → m < vN v 44 → zFc p v m = false
def RG (C : IX) (v : Rw) : Prop := R0 C v ∧ RA C v ∧ RB C v
section R0x
variable {C : IX} {v : Rw}
theorem R0.wc (h : R0 C v) : WC C := h.1.1
theorem R0.wv (h : R0 C v) : WV v := h.1.2
theorem R0.w (h : R0 C v) : RLw C v := h.2.1
theorem R0.ws (h : R0 C v) : WS v := h.2.1.1.1
theorem R0.ks (h : R0 C v) : KS v := h.2.1.1.2
theorem R0.hd (h : R0 C v) : RH C v := h.2.1.2.1
theorem R0.vw (h : R0 C v) : RVw C v := h.2.1.2.2.1
theorem R0.m (h : R0 C v) : RM C v := h.2.1.2.2.2.1
theorem R0.d (h : R0 C v) : RD C v := h.2.1.2.2.2.2.1
theorem R0.kv (h : R0 C v) : KV C v := h.2.1.2.2.2.2.2
theorem R0.pp (h : R0 C v) {p : Nat} (hp : p < 6) : PP C v (vN v 44) p := h.2.2.1 p hp
theorem R0.kc (h : R0 C v) : KC v := h.2.2.2.1
theorem R0.km (h : R0 C v) : KM C v := h.2.2.2.2.1
theorem R0.ko (h : R0 C v) : KO C v := h.2.2.2.2.2
theorem R0.n (h : R0 C v) : cN C 2 6 = vN v 44 := congrArg Int32.toNatClampNeg h.hd.2.2.2
theorem R0.vn (h : R0 C v) : cN C 100 4 = vN v 42 := congrArg Int32.toNatClampNeg h.hd.1
theorem R0.n150 (h : R0 C v) : vN v 44 ≤ 150 := h.wv.n150
theorem R0.sd (h : R0 C v) {m : Nat} (hm : m < vN v 44) : cN C 4 m = vN v (50 + m) := congrArg Int32.toNatClampNeg (h.m m hm).1
theorem R0.vs (h : R0 C v) : cN C 100 6 ≤ vN v 44 := h.kv.1
theorem R0.now (h : R0 C v) {m : Nat} (hm : m < vN v 44) : znow v m = decide (cN C 100 6 ≤ m) := by
  have := (h.kv.2 m hm).2
  unfold znow
  by_cases hc : cN C 100 6 ≤ m
  · rw [decide_eq_true (this.mp hc), decide_eq_true hc]
  · rw [decide_eq_false (fun q => hc (this.mpr q)), decide_eq_false hc]
theorem R0.mem (h : R0 C v) : ymem C = zmem v := by
  unfold ymem zmem
  rw [h.vn]
  exact (h.vw.1 _ (Nat.le_refl _)).1
theorem PP.clk {n p q : Nat} (h : PP C v n p) (hp : p < 6) (hq : q < 6) : yclk C p q = zclk v p q := by
  have := h.2.2.2.1 (p * 6 + q) (by omega)
  unfold yclk yhrd zclk
  rw [this]
  exact congrArg v (by omega)
theorem PP.hrd {n p q s : Nat} (h : PP C v n p) (hq : q < 6) (hs : s < 6) : yhrd C p q s = v (4270 + 36 * p + 6 * q + s) := by
  have := h.2.2.2.1 (q * 6 + s) (by omega)
  unfold yhrd
  rw [this]
  exact congrArg v (by omega)
theorem PP.log {n p m : Nat} (h : PP C v n p) (hm : m < 150) : ylog C p m = zlog v p m := (h.2.2.2.2.1 m hm).1
theorem PP.far {n p m : Nat} (h : PP C v n p) (hm : m < 150) (hn : n ≤ m) : C (30 + p) m = -2 ∧ v (3360 + 150 * p + m) = nI 0 := (h.2.2.2.2.1 m hm).2 hn
theorem PP.logN {n p m : Nat} (h : PP C v n p) (hm : m < 150) (hn : n ≤ m) : zlog v p m = false := by
  rw [← h.log hm, ylog, (h.far hm hn).1, decide_eq_true m2lt]; rfl
theorem R0.isM (h : R0 C v) (x : Int32) : yisM C x = (zPr x && zisM v x) := by unfold yisM zisM; rw [h.mem]
theorem R0.has (h : R0 C v) (x : Int32) : yhas C x = zMs v x := by
  have hn := h.n150
  cases hz : zMs v x with
  | true =>
    obtain ⟨m, h1, h2, rfl⟩ := zMs_of h.wv hz
    unfold yhas
    rw [decide_eq_false (nI_pos (by omega)), decide_eq_false (by rw [h.hd.2.2.2, h.wv.n]; exact nI_ge h1 (by omega))]; rfl
  | false =>
    cases hy : yhas C x with
    | false => rfl
    | true =>
      obtain ⟨m, h1, h2, rfl⟩ := yhas_of h.wc hy
      rw [h.n] at h1
      rw [zMs_nI h.wv h1] at hz; cases hz
theorem R0.prec (h : R0 C v) {a b : Nat} (ha : a < vN v 44) (hb : b < vN v 44) : yprec C a b = zcau v a b := by
  have hn := h.n150
  unfold yprec zcau yent
  rw [(h.m a ha).2.2.1, (h.m b hb).2.2.1, (h.m a ha).2.2.2.1, h.sd ha, (h.m b hb).2.2.2.2 _ (h.wv.s6 (by omega))]
theorem R0.rdy (h : R0 C v) {p m : Nat} (hp : p < 6) (hv : cN C 100 6 ≤ m) (hm : m < vN v 44) : yrdy C p m = zdel v p m := by
  have hn := h.n150
  have hs := h.wv.s6 (show m < 150 by omega)
  unfold yrdy zdel
  rw [(h.pp hp).log (by omega), h.now hm, decide_eq_true hv, (h.m m hm).2.2.2.1, h.sd hm, (h.pp hp).clk hp hs, Int32.add_comm (nI 1)]
  have e : zall (yrq C p m) 6 = zall (zdq v p m) 6 := zall_cong (fun q hq => by
    unfold yrq zdq yent
    rw [h.sd hm, (h.m m hm).2.2.2.2 q hq, (h.pp hp).clk hp hq])
  rw [e]
  cases zlog v p m <;> cases zall (zdq v p m) 6 <;> simp
end R0x
/-! rows that differ high up alone -/
theorem vN_eq {v w : Rw} {k : Nat} (h : w k = v k) : vN w k = vN v k := congrArg Int32.toNatClampNeg h
theorem ygdb_cong {C D : IX} {m : Nat} : ∀ {j : Nat}, (∀ k, k ≤ m → D 6 k = C 6 k ∧ D 4 k = C 4 k ∧ D 7 k = C 7 k) → (∀ q, D 9 (m * 6 + q) = C 9 (m * 6 + q) ∨ 6 ≤ q) → (∀ k, k < j → D 8 k = C 8 k) → (∀ k, k < j → cN C 4 k < 6) → j ≤ m → ygdb D m j = ygdb C m j
  | 0, _, _, _, _, _ => rfl
  | j + 1, h1, h2, h3, h4, hj => by
    have ih := ygdb_cong (j := j) h1 h2 (fun k hk => h3 k (by omega)) (fun k hk => h4 k (by omega)) (by omega)
    have e4 : cN D 4 j = cN C 4 j := congrArg Int32.toNatClampNeg (h1 j (by omega)).2.1
    have hp : yprec D j m = yprec C j m := by
      unfold yprec yent
      rw [(h1 j (by omega)).1, (h1 m (by omega)).1, (h1 j (by omega)).2.2, e4]
      have h5 := h4 j (by omega)
      rcases h2 (cN C 4 j) with h6 | h6
      · rw [h6]
      · omega
    rw [ygdb, ygdb, ih, hp, h3 j (by omega)]
theorem WS_lo {v w : Rw} (hv : WV v) (h : ∀ j, j < 1550 → w j = v j) : zsv w = zsv v ∧ (WS v → WS w) := by
  have e : zsv w = zsv v := by unfold zsv; rw [zmem_lo hv h, h 43 (by omega)]
  exact ⟨e, fun q => by unfold WS at q ⊢; rw [e]; exact q⟩
theorem RLw_lo {C D : IX} {v w : Rw} (hR : RLw C v) (hC : WC C) (hv : WV v) (hD : ∀ k, (k < 10 ∨ k = 100) → D k = C k) (hw : ∀ j, j < 1550 → w j = v j) : RLw D w := by
  obtain ⟨⟨h1, h2⟩, h3, h4, h5, h6, h7⟩ := hR
  have n44 : vN w 44 = vN v 44 := vN_eq (hw 44 (by omega))
  have n42 : vN w 42 = vN v 42 := vN_eq (hw 42 (by omega))
  have c6 : cN D 100 6 = cN C 100 6 := cN_row (hD 100 (by omega))
  have hn := hv.n150
  have h20 := hv.vw20
  refine ⟨⟨(WS_lo hv hw).2 h1, ?_⟩, ?_, ?_, ?_, ?_, ?_⟩
  · unfold KS; rw [hw 43 (by omega), zmem_lo hv hw]; exact h2
  · unfold RH; rw [hD 100 (by omega), hD 2 (by omega), hw 42 (by omega), hw 43 (by omega), hw 45 (by omega), hw 44 (by omega)]; exact h3
  · refine ⟨fun j hj => ?_, by rw [hw 21 (by omega)]; exact h4.2⟩
    rw [n42] at hj
    rw [hD 0 (by omega), hD 1 (by omega), hw j (by omega), hw (21 + j) (by omega)]; exact h4.1 j hj
  · intro m hm
    rw [n44] at hm
    have h8 := h5 m hm
    rw [hD 4 (by omega), hD 5 (by omega), hD 6 (by omega), hD 7 (by omega), hD 9 (by omega), hw (50 + m) (by omega), hw (200 + m) (by omega), hw (350 + m) (by omega), hw (500 + m) (by omega)]
    refine ⟨h8.1, h8.2.1, h8.2.2.1, h8.2.2.2.1, fun q hq => ?_⟩
    rw [hw _ (by omega)]; exact h8.2.2.2.2 q hq
  · intro m hm
    rw [n44] at hm
    have e : ygdb D m m = ygdb C m m := ygdb_cong (fun k _ => by rw [hD 6 (by omega), hD 4 (by omega), hD 7 (by omega)]; exact ⟨rfl, rfl, rfl⟩) (fun q => Or.inl (by rw [hD 9 (by omega)])) (fun k _ => by rw [hD 8 (by omega)]) (fun k hk => hC.s6 (by omega)) (Nat.le_refl _)
    rw [hD 8 (by omega), e]; exact h6 m hm
  · refine ⟨by rw [c6, n44]; exact h7.1, fun m hm => ?_⟩
    rw [n44] at hm
    rw [c6, hw (350 + m) (by omega), hw 42 (by omega)]; exact h7.2 m hm
theorem PP_cong {C D : IX} {v w : Rw} {n p : Nat} (h : PP C v n p) (hn : n ≤ 150) (hl : vN v (1550 + p) ≤ 150) (hD : D (10 + p) = C (10 + p) ∧ D (20 + p) = C (20 + p) ∧ D (30 + p) = C (30 + p) ∧ D (40 + p) = C (40 + p)) (hw : ∀ k, (k = 1550 + p ∨ k = 4260 + p ∨ (1560 + 150 * p ≤ k ∧ k < 1560 + 150 * p + 150) ∨ (2460 + 150 * p ≤ k ∧ k < 2460 + 150 * p + 150) ∨ (3360 + 150 * p ≤ k ∧ k < 3360 + 150 * p + 150) ∨ (4270 + 36 * p ≤ k ∧ k < 4270 + 36 * p + 36)) → w k = v k) : PP D w n p := by
  obtain ⟨h1, h2, h3, h4, h5, h6, h7⟩ := h
  have e1 := hw (1550 + p) (by omega)
  have el : vN w (1550 + p) = vN v (1550 + p) := vN_eq e1
  have lg : ∀ m, m < 150 → zlog w p m = zlog v p m := fun m hm => by unfold zlog; rw [hw (2460 + 150 * p + m) (by omega)]
  have yl : ∀ m, ylog D p m = ylog C p m := fun m => by unfold ylog; rw [hD.2.2.1]
  unfold PP
  rw [hD.1, hD.2.1, hD.2.2.1, hD.2.2.2, e1, hw (4260 + p) (by omega), el]
  refine ⟨h1, h2, fun i hi => ?_, fun j hj => ?_, fun m hm => ?_, fun i hi => ?_, fun m hm hz => ?_⟩
  · rw [hw (1560 + 150 * p + i) (by omega)]; exact h3 i hi
  · rw [hw (4270 + 36 * p + j) (by omega)]; exact h4 j hj
  · rw [yl, lg m hm, hw (3360 + 150 * p + m) (by omega)]; exact h5 m hm
  · rw [vN_eq (hw (1560 + 150 * p + i) (by omega))]; exact h6 i hi
  · rw [lg m (by omega)] at hz
    obtain ⟨i, a, b, c⟩ := h7 m hm hz
    exact ⟨i, a, b, by rw [hw (1560 + 150 * p + i) (by omega)]; exact c⟩
/-! a delivery -/
theorem zdvL_at {p m s : Nat} (hm : m < 150) {w : Rw} : ∀ {n : Nat}, n ≤ 6 → ∀ k, zdvL p m s w n k = if 4270 + 36 * p + 6 * s ≤ k ∧ k < 4270 + 36 * p + 6 * s + n then (if w (650 + 6 * m + (k - (4270 + 36 * p + 6 * s))) ≤ w k then w k else w (650 + 6 * m + (k - (4270 + 36 * p + 6 * s)))) else w k
  | 0, _, k => by rw [if_neg (by omega)]; rfl
  | n + 1, hn, k => by
    have ih := zdvL_at (p := p) (s := s) hm (w := w) (n := n) (by omega)
    have e1 : zdvL p m s w n (650 + 6 * m + n) = w (650 + 6 * m + n) := by rw [ih, if_neg (by omega)]
    have e2 : zdvL p m s w n (4270 + 36 * p + 6 * s + n) = w (4270 + 36 * p + 6 * s + n) := by rw [ih, if_neg (by omega)]
    rw [zdvL, upd_at, e1, e2]
    by_cases h : k = 4270 + 36 * p + 6 * s + n
    · subst h
      rw [if_pos rfl, if_pos (c := 4270 + 36 * p + 6 * s ≤ 4270 + 36 * p + 6 * s + n ∧ 4270 + 36 * p + 6 * s + n < 4270 + 36 * p + 6 * s + (n + 1)) (by omega), show 4270 + 36 * p + 6 * s + n - (4270 + 36 * p + 6 * s) = n by omega]
    · rw [if_neg h, ih]
      by_cases h2 : 4270 + 36 * p + 6 * s ≤ k ∧ k < 4270 + 36 * p + 6 * s + n
      · rw [if_pos h2, if_pos (c := 4270 + 36 * p + 6 * s ≤ k ∧ k < 4270 + 36 * p + 6 * s + (n + 1)) (by omega)]
      · rw [if_neg h2, if_neg (by omega)]
theorem zdv1_at (v : Rw) {p m s : Nat} (hp : p < 6) (hm : m < 150) (hs : s < 6) (hl : vN v (1550 + p) < 150) (k : Nat) : zdv1 v p m s k = if k = 4270 + 42 * p + s then v (4270 + 42 * p + s) + nI 1 else if k = 4260 + p then nI 31 * v (4260 + p) + v (200 + m) else if k = 2460 + 150 * p + m then nI 1 else if k = 1550 + p then v (1550 + p) + nI 1 else if k = 1560 + 150 * p + vN v (1550 + p) then nI m else v k := by
  have e1 : zlogs v p m (4260 + p) = v (4260 + p) := by rw [zlogs_at, if_neg (by omega), if_neg (by omega), if_neg (by omega)]
  have e2 : zlogs v p m (200 + m) = v (200 + m) := zlogs_lo (by omega)
  have e3 : zdv0 v p m (4270 + 42 * p + s) = v (4270 + 42 * p + s) := by rw [zdv0, upd_at, if_neg (by omega), zlogs_at, if_neg (by omega), if_neg (by omega), if_neg (by omega)]
  rw [zdv1, upd_at, e3]
  by_cases h1 : k = 4270 + 42 * p + s
  · rw [if_pos h1, if_pos h1]
  · rw [if_neg h1, if_neg h1, zdv0, upd_at, e1, e2]
    by_cases h2 : k = 4260 + p
    · rw [if_pos h2, if_pos h2]
    · rw [if_neg h2, if_neg h2, zlogs_at, zlg1_l hp]
theorem zdeliv_at {v : Rw} {p m s : Nat} (hp : p < 6) (hm : m < 150) (hs : vN v (50 + m) = s) (h6 : s < 6) (hsp : s ≠ p) (hl : vN v (1550 + p) < 150) (k : Nat) : zdeliv v p m k = if 4270 + 36 * p + 6 * s ≤ k ∧ k < 4270 + 36 * p + 6 * s + 6 then (if v (650 + 6 * m + (k - (4270 + 36 * p + 6 * s))) ≤ v k then v k else v (650 + 6 * m + (k - (4270 + 36 * p + 6 * s)))) else zdv1 v p m s k := by
  have at1 := zdv1_at v (p := p) (m := m) (s := s) hp hm h6 hl
  rw [zdeliv, hs, if_neg hsp, zdvL_at hm (Nat.le_refl _)]
  by_cases h : 4270 + 36 * p + 6 * s ≤ k ∧ k < 4270 + 36 * p + 6 * s + 6
  · have e1 : zdv1 v p m s k = v k := by rw [at1, if_neg (by omega), if_neg (by omega), if_neg (by omega), if_neg (by omega), if_neg (by omega)]
    have e2 : zdv1 v p m s (650 + 6 * m + (k - (4270 + 36 * p + 6 * s))) = v (650 + 6 * m + (k - (4270 + 36 * p + 6 * s))) := by rw [at1, if_neg (by omega), if_neg (by omega), if_neg (by omega), if_neg (by omega), if_neg (by omega)]
    rw [if_pos h, if_pos h, e1, e2]
  · rw [if_neg h, if_neg h]
theorem ylcL_at {C : IX} {p m : Nat} (hp : p < 6) : ∀ {n : Nat}, n ≤ 6 → ∀ j, ylcL C p m n (40 + p) j = if cN C 4 m * 6 ≤ j ∧ j < cN C 4 m * 6 + n then (if C 9 (m * 6 + (j - cN C 4 m * 6)) ≤ C (40 + p) j then C (40 + p) j else C 9 (m * 6 + (j - cN C 4 m * 6))) else C (40 + p) j
  | 0, _, j => by rw [if_neg (by omega)]; rfl
  | n + 1, hn, j => by
    have ih := ylcL_at (C := C) (m := m) hp (n := n) (by omega)
    have e1 : yent (ylcL C p m n) m n = C 9 (m * 6 + n) := by unfold yent; rw [ylcL_lo (by omega)]
    have e2 : ylcL C p m n (40 + p) (cN C 4 m * 6 + n) = C (40 + p) (cN C 4 m * 6 + n) := by rw [ih, if_neg (by omega)]
    by_cases hc : C 9 (m * 6 + n) ≤ C (40 + p) (cN C 4 m * 6 + n)
    · rw [ylcL_t rfl (by rw [e1, e2]; exact hc), ih]
      by_cases h2 : cN C 4 m * 6 ≤ j ∧ j < cN C 4 m * 6 + n
      · rw [if_pos h2, if_pos (c := cN C 4 m * 6 ≤ j ∧ j < cN C 4 m * 6 + (n + 1)) (by omega)]
      · rw [if_neg h2]
        by_cases h3 : j = cN C 4 m * 6 + n
        · subst h3
          rw [if_pos (by omega), show cN C 4 m * 6 + n - cN C 4 m * 6 = n by omega, if_pos hc]
        · rw [if_neg (by omega)]
    · rw [ylcL_f rfl (by rw [e1, e2]; exact hc), va_up_self, upd_at, e1, ih]
      by_cases h3 : j = cN C 4 m * 6 + n
      · subst h3
        rw [if_pos rfl, if_pos (by omega), show cN C 4 m * 6 + n - cN C 4 m * 6 = n by omega, if_neg hc]
      · rw [if_neg h3]
        by_cases h2 : cN C 4 m * 6 ≤ j ∧ j < cN C 4 m * 6 + n
        · rw [if_pos h2, if_pos (c := cN C 4 m * 6 ≤ j ∧ j < cN C 4 m * 6 + (n + 1)) (by omega)]
        · rw [if_neg h2, if_neg (by omega)]
theorem R0.len {C : IX} {v : Rw} (h : R0 C v) {p m : Nat} (hp : p < 6) (hm : m < 150) (hl : zlog v p m = false) : vN v (1550 + p) < 150 := by
  have h1 := h.wv.mu hp
  have h2 : 1 ≤ zmu v p := zcB_pos hm (by rw [hl]; rfl)
  omega
theorem R0.lenC {C : IX} {v : Rw} (h : R0 C v) {p : Nat} (hp : p < 6) (hl : vN v (1550 + p) < 150) : C (10 + p) 4 < nI 150 := by
  rw [(h.pp hp).1, h.wv.l hp]; exact nI_lt hl (by omega)
theorem ydl_t {C : IX} {p m r : Nat} {y : Int32} (h : C (10 + p) 4 < nI 150) : ydl C p m r y = ydl5 C p m r y := by rw [ydl, if_pos h]
/-- the rows behind a delivery -/
theorem ygdel_at {C : IX} {p m : Nat} (hp : p < 6) (hl : C (10 + p) 4 < nI 150) : (∀ k, (k < 10 ∨ k = 100) → ygdel C p m k = C k) ∧ (∀ q, q < 6 → q ≠ p → ygdel C p m (10 + q) = C (10 + q) ∧ ygdel C p m (20 + q) = C (20 + q) ∧ ygdel C p m (30 + q) = C (30 + q) ∧ ygdel C p m (40 + q) = C (40 + q)) ∧
    ygdel C p m (10 + p) = upd (upd (C (10 + p)) 4 (C (10 + p) 4 + nI 1)) 5 (nI 31 * C (10 + p) 5 + C 5 m) ∧ ygdel C p m (20 + p) = upd (C (20 + p)) (cN C (10 + p) 4) (nI m) ∧ ygdel C p m (30 + p) = upd (C (30 + p)) m (C (10 + p) 4) ∧
    ∀ j, ygdel C p m (40 + p) j = if cN C 4 m * 6 ≤ j ∧ j < cN C 4 m * 6 + 6 then (if C 9 (m * 6 + (j - cN C 4 m * 6)) ≤ ydl5 C p m (cN C 4 m) (C 5 m) (40 + p) j then ydl5 C p m (cN C 4 m) (C 5 m) (40 + p) j else C 9 (m * 6 + (j - cN C 4 m * 6))) else ydl5 C p m (cN C 4 m) (C 5 m) (40 + p) j := by
  have at_ := ydl5_at C hp m (cN C 4 m) (C 5 m)
  have e0 : ygdel C p m = ylcL (ydl5 C p m (cN C 4 m) (C 5 m)) p m 6 := by rw [ygdel, ydl_t hl]
  have hi : ∀ k, k ≠ 40 + p → ygdel C p m k = ydl5 C p m (cN C 4 m) (C 5 m) k := fun k hk => by rw [e0, ylcL_lo hk]
  refine ⟨fun k hk => ygdel_lo hp hk, fun q hq hn => ⟨?_, ?_, ?_, ?_⟩, ?_, ?_, ?_, fun j => ?_⟩
  · rw [hi _ (by omega), at_, if_neg (by omega), if_neg (by omega), if_neg (by omega), if_neg (by omega)]
  · rw [hi _ (by omega), at_, if_neg (by omega), if_neg (by omega), if_neg (by omega), if_neg (by omega)]
  · rw [hi _ (by omega), at_, if_neg (by omega), if_neg (by omega), if_neg (by omega), if_neg (by omega)]
  · rw [hi _ (by omega), at_, if_neg (by omega), if_neg (by omega), if_neg (by omega), if_neg (by omega)]
  · rw [hi _ (by omega), at_, if_neg (by omega), if_pos rfl]
  · rw [hi _ (by omega), at_, if_neg (by omega), if_neg (by omega), if_neg (by omega), if_pos rfl]
  · rw [hi _ (by omega), at_, if_neg (by omega), if_neg (by omega), if_pos rfl]
  · have e4 : ydl5 C p m (cN C 4 m) (C 5 m) 4 = C 4 := by rw [at_, if_neg (by omega), if_neg (by omega), if_neg (by omega), if_neg (by omega)]
    have e9 : ydl5 C p m (cN C 4 m) (C 5 m) 9 = C 9 := by rw [at_, if_neg (by omega), if_neg (by omega), if_neg (by omega), if_neg (by omega)]
    have ec : cN (ydl5 C p m (cN C 4 m) (C 5 m)) 4 m = cN C 4 m := cN_row e4
    rw [e0, ylcL_at hp (Nat.le_refl _), ec, e9]
/-- of a message that is deliverable -/
theorem zdel_of {v : Rw} {p m : Nat} (h : zdel v p m = true) : znow v m = true ∧ zlog v p m = false ∧ (∀ q, q < 6 → q ≠ vN v (50 + m) → v (650 + 6 * m + q) ≤ zclk v p q) ∧ v (500 + m) = zclk v p (vN v (50 + m)) + nI 1 := by
  simp only [zdel, Bool.and_eq_true, Bool.not_eq_true', decide_eq_true_eq] at h
  refine ⟨h.1.1.1, h.1.1.2, fun q hq hn => ?_, h.2⟩
  have := zall_at h.1.2 hq
  simp only [zdq, Bool.or_eq_true, decide_eq_true_eq] at this
  exact this.resolve_left hn
theorem zdel_mk {v : Rw} {p m : Nat} (h1 : znow v m = true) (h2 : zlog v p m = false) (h3 : ∀ q, q < 6 → q ≠ vN v (50 + m) → v (650 + 6 * m + q) ≤ zclk v p q) (h4 : v (500 + m) = zclk v p (vN v (50 + m)) + nI 1) : zdel v p m = true := by
  have e : zall (zdq v p m) 6 = true := zall_of (fun q hq => by
    unfold zdq
    by_cases hn : q = vN v (50 + m)
    · rw [decide_eq_true hn]; rfl
    · rw [decide_eq_true (h3 q hq hn)]; simp)
  rw [zdel, h1, h2, e, decide_eq_true h4]; rfl
theorem R0.v44 {C : IX} {v : Rw} (h : R0 C v) : (v 44).toInt ≤ 150 := by
  have h1 := h.wv.n
  have h2 := h.n150
  rw [h1, nI_toInt (by omega)]; omega
theorem R0.clk {C : IX} {v : Rw} (h : R0 C v) {p q : Nat} (hp : p < 6) (hq : q < 6) : (zclk v p q).toInt ≤ (zclk v q q).toInt ∧ (zclk v q q).toInt ≤ 150 := by
  have h1 := h.kc p q hp hq
  have h2 := h.v44
  have h3 := le_I.mp h1.1
  have h4 := le_I.mp h1.2
  omega
/-- a deliverable message is another's -/
theorem R0.oth {C : IX} {v : Rw} (h : R0 C v) {p m : Nat} (hp : p < 6) (hv : cN C 100 6 ≤ m) (hm : m < vN v 44) (hd : zdel v p m = true) : vN v (50 + m) ≠ p := by
  intro e
  have h1 := (zdel_of hd).2.2.2
  have h2 := h.km m hv hm
  have h3 := le_I.mp (h2.2 p hp)
  rw [e] at h1 h2
  rw [h2.1, h1, add1_I (by have := (h.clk hp hp).2; omega)] at h3
  omega
theorem R0_del {C : IX} {v : Rw} (h : R0 C v) {p m : Nat} (hp : p < 6) (hv : cN C 100 6 ≤ m) (hm : m < vN v 44) (hd : zdel v p m = true) : R0 (ygdel C p m) (zdeliv v p m) := by
  have hn := h.n150
  have hm1 : m < 150 := by omega
  obtain ⟨-, hl, hq, hnum⟩ := zdel_of hd
  have hsp := h.oth hp hv hm hd
  have h6 := h.wv.s6 hm1
  have hlen := h.len hp hm1 hl
  have hsd := h.sd hm
  obtain ⟨y1, y2, y3, y4, y5, y6⟩ := ygdel_at (m := m) hp (h.lenC hp hlen)
  have at_ := zdeliv_at hp hm1 rfl h6 hsp hlen
  have at1 := zdv1_at v (p := p) (m := m) (s := vN v (50 + m)) hp hm1 h6 hlen
  have lo : ∀ k, k < 1550 → zdeliv v p m k = v k := fun k hk => by rw [zdeliv_lo (by omega), zlogs_lo hk]
  have n44 : vN (zdeliv v p m) 44 = vN v 44 := vN_eq (lo 44 (by omega))
  have c6 : cN (ygdel C p m) 100 6 = cN C 100 6 := cN_row (y1 100 (by omega))
  have hck : ∀ a b, a < 6 → b < 6 → zclk (zdeliv v p m) a b = if a = p ∧ b = vN v (50 + m) then zclk v a b + nI 1 else zclk v a b := by
    intro a b ha hb
    unfold zclk
    rw [at_, if_neg (by omega), at1]
    by_cases e : a = p ∧ b = vN v (50 + m)
    · obtain ⟨rfl, rfl⟩ := e
      rw [if_pos (by omega), if_pos ⟨rfl, rfl⟩, show 4270 + 36 * a + 6 * a + vN v (50 + m) = 4270 + 42 * a + vN v (50 + m) by omega]
    · rw [if_neg (by omega), if_neg (by omega), if_neg (by omega), if_neg (by omega), if_neg (by omega), if_neg e]
  have hdg : ∀ b, b < 6 → zclk (zdeliv v p m) b b = zclk v b b := fun b hb => by rw [hck b b hb hb, if_neg (by omega)]
  refine ⟨⟨WC_ygdel h.wc hp hm1, (WV_deliv h.wv hp hm1 hl).1⟩, RLw_lo h.w h.wc h.wv y1 lo, ?_, ?_, ?_, ?_⟩
  · intro p' hp'
    rw [n44]
    by_cases e : p' = p
    · subst e
      obtain ⟨g1, g2, g3, g4, g5, g6, g7⟩ := h.pp hp
      have el : zdeliv v p' m (1550 + p') = v (1550 + p') + nI 1 := by rw [at_, if_neg (by omega), at1, if_neg (by omega), if_neg (by omega), if_neg (by omega), if_pos rfl]
      have el2 : zdeliv v p' m (1550 + p') = nI (vN v (1550 + p') + 1) := by rw [el, h.wv.l hp, nI_add]
      have nl : vN (zdeliv v p' m) (1550 + p') = vN v (1550 + p') + 1 := vN_nI el2 (by omega)
      have cl : cN C (10 + p') 4 = vN v (1550 + p') := congrArg Int32.toNatClampNeg g1
      have lgs : ∀ i, i < 150 → zdeliv v p' m (1560 + 150 * p' + i) = if i = vN v (1550 + p') then nI m else v (1560 + 150 * p' + i) := fun i hi => by
        rw [at_, if_neg (by omega), at1, if_neg (by omega), if_neg (by omega), if_neg (by omega), if_neg (by omega)]
        by_cases e : i = vN v (1550 + p')
        · rw [if_pos (by omega), if_pos e]
        · rw [if_neg (by omega), if_neg e]
      have zl : ∀ j, j < 150 → zlog (zdeliv v p' m) p' j = if j = m then true else zlog v p' j := fun j hj => by
        rw [zdeliv_log hp hp hj hm1 hlen]
        by_cases e : j = m
        · rw [if_pos ⟨rfl, e⟩, if_pos e]
        · rw [if_neg (fun q => e q.2), if_neg e]
      have gl : C (10 + p') 4 = nI (vN v (1550 + p')) := by rw [g1]; exact h.wv.l hp
      refine ⟨?_, ?_, fun i hi => ?_, fun j hj => ?_, fun j hj => ⟨?_, fun hj2 => ?_⟩, fun i hi => ?_, fun j hj hz => ?_⟩
      · rw [y3, upd_at, if_neg (by omega), upd_at, if_pos rfl, el, g1]
      · rw [y3, upd_at, if_pos rfl, at_, if_neg (by omega), at1, if_neg (by omega), if_pos rfl, g2, (h.m m hm).2.1]
      · rw [nl] at hi
        rw [y4, upd_at, cl, lgs i (by omega)]
        by_cases e : i = vN v (1550 + p')
        · rw [if_pos e, if_pos e]
        · rw [if_neg e, if_neg e]; exact g3 i (by omega)
      · have hy := ydl5_at C hp m (cN C 4 m) (C 5 m) (40 + p')
        rw [if_pos rfl] at hy
        rw [y6, hsd, at_]
        have h9 : ∀ q, q < 6 → C 9 (m * 6 + q) = v (650 + 6 * m + q) := (h.m m hm).2.2.2.2
        by_cases e : vN v (50 + m) * 6 ≤ j ∧ j < vN v (50 + m) * 6 + 6
        · have ej : ydl5 C p' m (vN v (50 + m)) (C 5 m) (40 + p') j = v (4270 + 36 * p' + j) := by
            rw [← hsd, hy, upd_at, if_neg (by omega)]; exact g4 j hj
          rw [if_pos e, if_pos (c := 4270 + 36 * p' + 6 * vN v (50 + m) ≤ 4270 + 36 * p' + j ∧ 4270 + 36 * p' + j < 4270 + 36 * p' + 6 * vN v (50 + m) + 6) (by omega), ej, h9 _ (by omega), show 4270 + 36 * p' + j - (4270 + 36 * p' + 6 * vN v (50 + m)) = j - vN v (50 + m) * 6 by omega]
        · rw [if_neg e, if_neg (by omega), ← hsd, hy, upd_at, hsd, at1]
          by_cases e2 : j = p' * 6 + vN v (50 + m)
          · rw [if_pos e2, if_pos (by omega), g4 _ (by omega), show 4270 + 36 * p' + (p' * 6 + vN v (50 + m)) = 4270 + 42 * p' + vN v (50 + m) by omega]
          · rw [if_neg e2, if_neg (by omega), if_neg (by omega), if_neg (by omega), if_neg (by omega), if_neg (by omega)]; exact g4 j hj
      · rw [zl j hj]
        unfold ylog
        rw [y5, upd_at]
        by_cases e : j = m
        · rw [if_pos e, if_pos e, gl, decide_eq_false (nI_pos (by omega))]; rfl
        · rw [if_neg e, if_neg e]; exact (g5 j hj).1
      · have hjm : j ≠ m := by omega
        rw [y5, upd_at, if_neg hjm, at_, if_neg (by omega), at1, if_neg (by omega), if_neg (by omega), if_neg (by omega), if_neg (by omega), if_neg (by omega)]
        exact (g5 j hj).2 hj2
      · rw [nl] at hi
        by_cases e : i = vN v (1550 + p')
        · have e1 : zdeliv v p' m (1560 + 150 * p' + i) = nI m := by rw [lgs i (by omega), if_pos e]
          rw [show vN (zdeliv v p' m) (1560 + 150 * p' + i) = m from vN_nI e1 (by omega), y5, upd_at, if_pos rfl, gl, e]
          exact ⟨hm, rfl⟩
        · have e1 : zdeliv v p' m (1560 + 150 * p' + i) = v (1560 + 150 * p' + i) := by rw [lgs i (by omega), if_neg e]
          obtain ⟨k1, k2⟩ := g6 i (by omega)
          rw [vN_eq e1, y5, upd_at]
          have hne : vN v (1560 + 150 * p' + i) ≠ m := by
            intro q
            rw [q] at k2
            have := (g5 m hm1).1
            rw [hl] at this
            unfold ylog at this
            rw [k2, decide_eq_false (nI_pos (by omega))] at this
            cases this
          rw [if_neg hne]
          exact ⟨k1, k2⟩
      · rw [nl]
        by_cases e : j = m
        · subst e
          exact ⟨vN v (1550 + p'), by omega, by rw [y5, upd_at, if_pos rfl, gl], by rw [lgs _ (by omega), if_pos rfl]⟩
        · rw [zl j (by omega), if_neg e] at hz
          obtain ⟨i, k1, k2, k3⟩ := g7 j hj hz
          exact ⟨i, by omega, by rw [y5, upd_at, if_neg e]; exact k2, by rw [lgs i (by omega), if_neg (by omega)]; exact k3⟩
    · refine PP_cong (h.pp hp') hn (h.wv.l150 hp') (y2 p' hp' e) (fun k hk => ?_)
      rw [at_, if_neg (by omega), at1, if_neg (by omega), if_neg (by omega), if_neg (by omega), if_neg (by omega), if_neg (by omega)]
  · intro a b ha hb
    rw [hdg b hb, lo 44 (by omega), hck a b ha hb]
    refine ⟨?_, (h.kc a b ha hb).2⟩
    split
    · rename_i e
      obtain ⟨rfl, rfl⟩ := e
      rw [← hnum, ← (h.km m hv hm).1]
      exact (h.km m hv hm).2 _ h6
    · exact (h.kc a b ha hb).1
  · intro k hk1 hk2
    rw [c6] at hk1
    rw [n44] at hk2
    have := h.km k hk1 hk2
    have h7 := h.wv.s6 (show k < 150 by omega)
    rw [vN_eq (lo (50 + k) (by omega)), lo (650 + 6 * k + vN v (50 + k)) (by omega), lo (500 + k) (by omega)]
    refine ⟨this.1, fun q hq => ?_⟩
    rw [lo _ (by omega), hdg q hq]; exact this.2 q hq
  · intro a b hk1 hk2 hk3
    rw [c6] at hk1
    rw [n44] at hk3
    have h7 := h.wv.s6 (show b < 150 by omega)
    rw [vN_eq (lo (50 + b) (by omega)), lo (650 + 6 * a + vN v (50 + b)) (by omega), lo (500 + b) (by omega)]
    exact h.ko a b hk1 hk2 hk3
/-- a delivery makes only higher numbers deliverable -/
theorem del_mono {C : IX} {v : Rw} (h : R0 C v) {p m i : Nat} (hp : p < 6) (hv : cN C 100 6 ≤ m) (hm : m < vN v 44) (hd : zdel v p m = true) (hi : i < m) (hf : zdel v p i = false) : zdel (zdeliv v p m) p i = false := by
  cases hz : zdel (zdeliv v p m) p i with
  | false => rfl
  | true =>
    have hn := h.n150
    have hm1 : m < 150 := by omega
    obtain ⟨-, hl, hq, hnum⟩ := zdel_of hd
    have hsp := h.oth hp hv hm hd
    have h6 := h.wv.s6 hm1
    have hi6 := h.wv.s6 (show i < 150 by omega)
    have hlen := h.len hp hm1 hl
    have lo : ∀ k, k < 1550 → zdeliv v p m k = v k := fun k hk => by rw [zdeliv_lo (by omega), zlogs_lo hk]
    have at_ := zdeliv_at hp hm1 rfl h6 hsp hlen
    have at1 := zdv1_at v (p := p) (m := m) (s := vN v (50 + m)) hp hm1 h6 hlen
    have hck : ∀ b, b < 6 → zclk (zdeliv v p m) p b = if b = vN v (50 + m) then zclk v p b + nI 1 else zclk v p b := by
      intro b hb
      unfold zclk
      rw [at_, if_neg (by omega), at1]
      by_cases e : b = vN v (50 + m)
      · subst e
        rw [if_pos (by omega), if_pos rfl, show 4270 + 36 * p + 6 * p + vN v (50 + m) = 4270 + 42 * p + vN v (50 + m) by omega]
      · rw [if_neg (by omega), if_neg (by omega), if_neg (by omega), if_neg (by omega), if_neg (by omega), if_neg e]
    obtain ⟨z1, z2, z3, z4⟩ := zdel_of hz
    have en : znow (zdeliv v p m) i = znow v i := by unfold znow; rw [lo _ (by omega), lo _ (by omega)]
    rw [en] at z1
    have hvi : cN C 100 6 ≤ i := by
      have := h.now (show i < vN v 44 by omega)
      rw [z1] at this
      exact of_decide_eq_true this.symm
    rw [zdeliv_log hp hp (by omega) hm1 hlen, if_neg (by omega)] at z2
    rw [vN_eq (lo (50 + i) (by omega))] at z3 z4
    have hko := lt_I.mp (h.ko i m hvi hi hm)
    have hb := (h.clk hp h6)
    rw [hnum, add1_I (by omega)] at hko
    rw [lo _ (by omega), hck _ hi6] at z4
    have hkm := h.km i hvi (by omega)
    have : zdel v p i = true := by
      refine zdel_mk z1 z2 (fun q hq hne => ?_) ?_
      · by_cases e : q = vN v (50 + m)
        · subst e; rw [le_I]; omega
        · have := z3 q hq hne
          rw [lo _ (by omega), hck q hq, if_neg e] at this
          exact this
      · by_cases e : vN v (50 + i) = vN v (50 + m)
        · rw [if_pos e] at z4
          exfalso
          rw [← hkm.1, e] at z4
          rw [z4, add1_I (by rw [add1_I (by omega)]; omega), add1_I (by omega)] at hko
          omega
        · rw [if_neg e] at z4; exact z4
    rw [this] at hf; cases hf
/-- one way up, beside the reference's search for the lowest -/
theorem up_pair {F : Rw → Nat → Bool} {G : IX → Nat → Bool} {P : IX → Rw → Prop} {p j : Nat} (hp : p < 6) (hP : ∀ C v, P C v → R0 C v)
    (hFG : ∀ C v m, P C v → cN C 100 6 ≤ m → m < vN v 44 → G C m = F v m)
    (hst : ∀ C v m, P C v → cN C 100 6 ≤ m → m < vN v 44 → F v m = true → P (ygdel C p m) (zdeliv v p m) ∧ ∀ i, i ≤ m → (i < m → F v i = false) → F (zdeliv v p m) i = false)
    {C : IX} {v : Rw} (h : P C v) (hj : cN C 100 6 ≤ j) (hlow : ∀ i, i < j → F v i = false) (f : Nat) (c : Int32) : ∀ k, j + k ≤ vN v 44 → k < f → ∃ f' w, f ≤ f' + k ∧ zlo F p f v c = zlo F p f' w (c + (yup G p j C k).2) ∧ P (yup G p j C k).1 w ∧ (∀ i, i < j + k → F w i = false) ∧ vN w 44 = vN v 44
  | 0, _, _ => ⟨f, v, by omega, by show _ = zlo F p f v (c + nI 0); rw [add0_I], h, fun i hi => hlow i (by omega), rfl⟩
  | k + 1, hk, hf => by
    obtain ⟨f', w, a1, a2, a3, a4, a5⟩ := up_pair hp hP hFG hst h hj hlow f c k (by omega) (by omega)
    rcases hE : yup G p j C k with ⟨E, cc⟩
    rw [hE] at a2 a3
    dsimp only at a2 a3
    have hE1 : cN E 100 6 = cN C 100 6 := by
      have := yup_lo (F := G) (j := j) hp (C := C) (k := 100) (Or.inr rfl) k
      rw [hE] at this
      exact cN_row this
    have hg := hFG E w (j + k) a3 (by omega) (by omega)
    cases hF : F w (j + k) with
    | false =>
      rw [hF] at hg
      rw [yup_f hE hg]
      exact ⟨f', w, by omega, a2, a3, fun i hi => (Nat.lt_or_ge i (j + k)).elim (a4 i) (fun q => by rw [show i = j + k by omega]; exact hF), a5⟩
    | true =>
      rw [hF] at hg
      rw [yup_t hE hg]
      dsimp only
      obtain ⟨b1, b2⟩ := hst E w (j + k) a3 (by omega) (by omega) hF
      obtain ⟨g, rfl⟩ : ∃ g, f' = g + 1 := ⟨f' - 1, by omega⟩
      rw [zlo_at a4 hF (by omega)] at a2
      refine ⟨g, _, by omega, ?_, b1, fun i hi => b2 i (by omega) (fun q => a4 i q), ?_⟩
      · rw [a2, Int32.add_assoc]
      · rw [vN_eq (show zdeliv w p (j + k) 44 = w 44 by rw [zdeliv_lo (by omega), zlogs_lo (by omega)])]; exact a5
theorem up_all {F : Rw → Nat → Bool} {G : IX → Nat → Bool} {P : IX → Rw → Prop} {p j : Nat} (hp : p < 6) (hP : ∀ C v, P C v → R0 C v)
    (hFG : ∀ C v m, P C v → cN C 100 6 ≤ m → m < vN v 44 → G C m = F v m)
    (hst : ∀ C v m, P C v → cN C 100 6 ≤ m → m < vN v 44 → F v m = true → P (ygdel C p m) (zdeliv v p m) ∧ ∀ i, i ≤ m → (i < m → F v i = false) → F (zdeliv v p m) i = false)
    {C : IX} {v : Rw} (h : P C v) (hj : cN C 100 6 ≤ j) (hjn : j ≤ vN v 44) (hlow : ∀ i, i < j → F v i = false) : (zlo F p 151 v (nI 0)).2 = (yup G p j C (vN v 44 - j)).2 ∧ P (yup G p j C (vN v 44 - j)).1 (zlo F p 151 v (nI 0)).1 ∧ ∀ i, i < vN v 44 → F (zlo F p 151 v (nI 0)).1 i = false := by
  have hn := (hP _ _ h).n150
  obtain ⟨f', w, a1, a2, a3, a4, a5⟩ := up_pair hp hP hFG hst h hj hlow 151 (nI 0) (vN v 44 - j) (by omega) (by omega)
  have a6 : ∀ i, i < vN v 44 → F w i = false := fun i hi => a4 i (by omega)
  have e : zlo F p f' w (nI 0 + (yup G p j C (vN v 44 - j)).2) = (w, nI 0 + (yup G p j C (vN v 44 - j)).2) := by
    cases f' with
    | zero => rfl
    | succ g => exact zlo_no (fun i hi => a6 i (by omega))
  rw [a2, e]
  exact ⟨zadd_I _, a3, a6⟩
