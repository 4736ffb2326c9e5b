/-! BRIDGES: for each call the face's code and answer are the reference's -/
theorem t1_0 {b : Bool} (h : (if b then nI 0 else nI 1) = nI 0) : b = true := by
  cases b
  · exact absurd h (show ¬ nI 1 = nI 0 by decide)
  · rfl
theorem t2_0 {b c : Bool} (h : (if b then (if c then nI 0 else nI 2) else nI 1) = nI 0) : b = true ∧ c = true := by
  cases b
  · exact absurd h (show ¬ nI 1 = nI 0 by decide)
  · cases c
    · exact absurd h (show ¬ nI 2 = nI 0 by decide)
    · exact ⟨rfl, rfl⟩
theorem t2n_0 {b c : Bool} (h : (if b then (if c then nI 2 else nI 0) else nI 1) = nI 0) : b = true ∧ c = false := by
  cases b
  · exact absurd h (show ¬ nI 1 = nI 0 by decide)
  · cases c
    · exact ⟨rfl, rfl⟩
    · exact absurd h (show ¬ nI 2 = nI 0 by decide)
theorem t2p_0 {b : Bool} {c : Prop} [Decidable c] (h : (if b then (if c then nI 2 else nI 0) else nI 1) = nI 0) : b = true ∧ ¬ c := by
  cases b
  · exact absurd h (show ¬ nI 1 = nI 0 by decide)
  · by_cases hc : c
    · rw [if_pos rfl, if_pos hc] at h; exact absurd h (show ¬ nI 2 = nI 0 by decide)
    · exact ⟨rfl, hc⟩
theorem t3_0 {b c : Bool} {d : Prop} [Decidable d] (h : (if b then (if c then (if d then nI 0 else nI 3) else nI 2) else nI 1) = nI 0) : b = true ∧ c = true ∧ d := by
  cases b
  · exact absurd h (show ¬ nI 1 = nI 0 by decide)
  · cases c
    · exact absurd h (show ¬ nI 2 = nI 0 by decide)
    · by_cases hd : d
      · exact ⟨rfl, rfl, hd⟩
      · rw [if_pos rfl, if_pos rfl, if_neg hd] at h; exact absurd h (show ¬ nI 3 = nI 0 by decide)
theorem nI_nm1 {k : Nat} (h : k < 2147483648) : ¬ nI k = -1 := fun q => by
  have h1 := nI_pos h
  rw [q] at h1
  exact h1 (by decide)
theorem z63 {x : Int32} (h : zisIn x (nI 1) (nI 63) = true) : ∃ k, 1 ≤ k ∧ k < 64 ∧ x = nI k := by
  have h1 := h
  simp only [zisIn, Bool.and_eq_true, decide_eq_true_eq] at h1
  have e0 : (nI 0).toInt = 0 := by decide
  have e1 : (nI 1).toInt = 1 := by decide
  obtain ⟨k, hk, e⟩ := zin_of (x := x) (n := 63) (by omega) (by
    simp only [zisIn, Bool.and_eq_true, decide_eq_true_eq]
    refine ⟨?_, h1.2⟩
    have h2 := h1.1
    rw [Int32.le_iff_toInt_le] at h2 ⊢
    omega)
  subst e
  exact ⟨k, nI_ge' h1.1 (by omega) (by omega), by omega, rfl⟩
theorem lgd_eq {l : Nat} (hl : l ≤ 150) {y : Int32} : (!decide (y < 0) && decide (y < nI l)) = zisIn y (nI 0) (nI l - nI 1) := by
  have e0 : (nI 0).toInt = 0 := by decide
  have z0 : (0 : Int32).toInt = 0 := by decide
  have e1 : (nI l - nI 1).toInt = (l : Int) - 1 := pk_sub_toInt (by omega) (by omega)
  have e2 : (nI l).toInt = (l : Int) := nI_toInt (by omega)
  unfold zisIn
  rw [← decide_not, ← Bool.decide_and, ← Bool.decide_and]
  congr 1
  rw [Int32.lt_iff_toInt_lt, Int32.lt_iff_toInt_lt, Int32.le_iff_toInt_le, Int32.le_iff_toInt_le, e0, z0, e1, e2]
  exact propext ⟨fun q => ⟨by omega, by omega⟩, fun q => ⟨by omega, by omega⟩⟩
theorem lgd_lt {i l : Nat} (hl : l ≤ 150) (hi : i < 2 ^ 31) (h : nI i < nI l) : i < l := (nI_ltI hi (Nat.lt_of_le_of_lt hl (Nat.le_of_ble_eq_true rfl))).mp h
section Brx
variable {C : IX} {v : Rw}
theorem R0.vwj (h : R0 C v) {x : Int32} (hx : zisIn x (nI 0) (v 42) = true) : ∃ j, j ≤ vN v 42 ∧ x = nI j := by
  have h20 := h.wv.vw20
  rw [h.wv.vw] at hx
  exact zin_of (by omega) hx
theorem R0.lgP (h : R0 C v) {p : Nat} (hp : p < 6) (y : Int32) : (!decide (y < 0) && decide (y < C (10 + p) 4)) = zisIn y (nI 0) (v (1550 + p) - nI 1) := by
  have e : C (10 + p) 4 = nI (vN v (1550 + p)) := (h.pp hp).1.trans (h.wv.l hp)
  have e2 := h.wv.l hp
  rw [e, e2]
  exact lgd_eq (h.wv.l150 hp)
theorem R0.lgT (h : R0 C v) {x y : Int32} : (zPr x && ylgd C x y) = (zPr x && zisIn y (nI 0) (v (1550 + x.toNatClampNeg) - nI 1)) := by
  cases hx : zPr x with
  | false => rw [Bool.false_and, Bool.false_and]
  | true =>
    obtain ⟨p, hp, e⟩ := zPr_of hx
    have cp : x.toNatClampNeg = p := by rw [e]; exact nI_clamp (by omega)
    rw [Bool.true_and, Bool.true_and, ylgd, cp]
    exact h.lgP hp y
theorem R0.lgA (h : R0 C v) {x y : Int32} (hb : (zPr x && ylgd C x y) = true) : C (20 + x.toNatClampNeg) y.toNatClampNeg = v (1560 + 150 * x.toNatClampNeg + y.toNatClampNeg) := by
  obtain ⟨h1, h2⟩ := Bool.and_eq_true_iff.mp hb
  obtain ⟨p, hp, e⟩ := zPr_of h1
  have cp : x.toNatClampNeg = p := by rw [e]; exact nI_clamp (by omega)
  have hl := h.wv.l150 hp
  have e4 : C (10 + p) 4 = nI (vN v (1550 + p)) := (h.pp hp).1.trans (h.wv.l hp)
  rw [ylgd, cp, e4] at h2
  obtain ⟨h3, h4⟩ := Bool.and_eq_true_iff.mp h2
  have h5 := of_decide_eq_true h4
  obtain ⟨i, hi, e2⟩ := nI_of (of_decide_eq_false ((Bool.not_eq_true' _).mp h3))
  rw [e2] at h5
  have hi2 : i < vN v (1550 + p) := lgd_lt hl hi h5
  have ci : y.toNatClampNeg = i := by rw [e2]; exact nI_clamp hi
  rw [cp, ci]
  exact (h.pp hp).2.2.1 i hi2
theorem R0.zplE (h : R0 C v) {p m : Nat} (hp : p < 6) (hm : m < vN v 44) : zpl v p (nI m) = if zlog v p m then C (30 + p) m else -1 := by
  have hn := h.n150
  have hl := h.wv.l150 hp
  obtain ⟨g1, g2, g3, g4, g5, g6, g7⟩ := h.pp hp
  have hu : ∀ i, i < vN v (1550 + p) → v (1560 + 150 * p + i) = nI m → C (30 + p) m = nI i := fun i hi e => by
    have := (g6 i hi).2
    rw [show vN v (1560 + 150 * p + i) = m from vN_nI e (by omega)] at this
    exact this
  unfold zpl
  cases hz : zlog v p m with
  | true =>
    obtain ⟨i, k1, k2, k3⟩ := g7 m hm hz
    have hf : zfst (zplf v p (nI m)) (vN v (1550 + p)) = i := zfst_at (fun j hj => by
      unfold zplf
      refine decide_eq_false (fun e => ?_)
      have := hu j (by omega) e
      rw [k2] at this
      have := nI_eq' this (by omega) (by omega)
      omega) (decide_eq_true k3) k1
    rw [hf, if_pos k1, if_pos rfl, k2]
  | false =>
    have hf : zfst (zplf v p (nI m)) (vN v (1550 + p)) = vN v (1550 + p) := zfst_no (fun j hj => by
      unfold zplf
      refine decide_eq_false (fun e => ?_)
      have h1 := hu j hj e
      have h2 := (g5 m (by omega)).1
      rw [hz, ylog, h1, decide_eq_false (nI_pos (by omega))] at h2
      cases h2)
    rw [hf, if_neg (Nat.lt_irrefl _), if_neg (by decide)]
theorem R0.sq (h : R0 C v) {p m q : Nat} (hp : p < 6) (hm : m < vN v 44) (hq : q < 6) : ysq C p m q = zsq v p m q := by
  have hn := h.n150
  have h6 := h.wv.s6 (show m < 150 by omega)
  unfold ysq zsq
  rw [h.isM, zPr_nI hq, Bool.true_and, h.sd hm, (h.pp hp).hrd hq h6, (h.m m hm).2.2.2.1]
theorem R0.set (h : R0 C v) {p m : Nat} (hp : p < 6) (hm : m < vN v 44) : yset C p m = zsafe v p m := by
  have hn := h.n150
  have h6 := h.wc.vs150
  unfold yset zsafe
  rw [zall_cong (fun q hq => h.sq hp hm hq), h.now hm, h.wc.vs]
  by_cases e : cN C 100 6 ≤ m
  · rw [decide_eq_true e, decide_eq_true (nI_le e (by omega))]
  · rw [decide_eq_false e, decide_eq_false (fun q => e (nI_ge' q (by omega) (by omega)))]
theorem R0.wa (h : R0 C v) {m : Nat} (hm : m < vN v 44) : ywa C m = zwith v m := by
  have hn := h.n150
  unfold ywa zwith
  refine zall_cong (fun p hp => ?_)
  unfold ywq zwq
  rw [h.isM, zPr_nI hp, Bool.true_and, (h.pp hp).log (by omega)]
theorem R0.fu (h : R0 C v) {m : Nat} (hm : m < vN v 44) : zfst (yfu C m) 6 = zfst (zfuF v m) 6 := zfst_cong (fun p hp => by
  unfold yfu zfuF
  rw [h.isM, zPr_nI hp, Bool.true_and, h.set hp hm])
theorem zcB_low {f g : Nat → Bool} {a : Nat} (h0 : ∀ j, j < a → f j = false) (k : Nat) (h1 : ∀ j, j < k → f (a + j) = g j) : zcB f (a + k) = zcB g k := by
  rw [zcB_add, zcB_none h0, Nat.zero_add]
  exact zcB_cong h1
theorem R0.wt (h : R0 C v) (ha : RA C v) {p : Nat} (hp : p < 6) (y : Int32) : ywt C p y = if zfst (zbmF v p y) (vN v 44) < vN v 44 then nI (zfst (zbmF v p y) (vN v 44)) else -1 := by
  have hvs := h.vs
  have lowb : ∀ j, j < cN C 100 6 → zbuf v p j = false := fun j hj => by
    have := h.now (show j < vN v 44 by omega)
    rw [decide_eq_false (by omega)] at this
    unfold zbuf; rw [this]; rfl
  have hib : ∀ j, cN C 100 6 + j < vN v 44 → zbuf v p (cN C 100 6 + j) = ypc C p (-1) (cN C 100 6 + j) := fun j hj => ((h.plc ha hp (by omega) hj).1).symm
  have heq : ∀ k, cN C 100 6 + k < vN v 44 → zbmF v p y (cN C 100 6 + k) = ywtF C p y k := fun k hk => by
    unfold zbmF ywtF
    rw [hib k hk, zcB_low lowb k (fun j hj => hib j (by omega))]
  have hlow : ∀ j, j < cN C 100 6 → zbmF v p y j = false := fun j hj => by unfold zbmF; rw [lowb j hj]; rfl
  unfold ywt
  rw [h.n]
  rcases zfst_cases (ywtF C p y) (vN v 44 - cN C 100 6) with ⟨e, hn⟩ | ⟨hl, ht, hf⟩
  · have : zfst (zbmF v p y) (vN v 44) = vN v 44 := zfst_no (fun j hj => by
      rcases Nat.lt_or_ge j (cN C 100 6) with q | q
      · exact hlow j q
      · have := heq (j - cN C 100 6) (by omega)
        rw [show cN C 100 6 + (j - cN C 100 6) = j by omega, hn _ (by omega)] at this
        exact this)
    rw [this, e, if_neg (Nat.lt_irrefl _), if_neg (Nat.lt_irrefl _)]
  · have : zfst (zbmF v p y) (vN v 44) = cN C 100 6 + zfst (ywtF C p y) (vN v 44 - cN C 100 6) := zfst_at (fun j hj => by
      rcases Nat.lt_or_ge j (cN C 100 6) with q | q
      · exact hlow j q
      · have := heq (j - cN C 100 6) (by omega)
        rw [show cN C 100 6 + (j - cN C 100 6) = j by omega, hf _ (by omega)] at this
        exact this) (by rw [heq _ (by omega)]; exact ht) (by omega)
    rw [this, if_pos hl, if_pos (by omega)]
/-- pairs, counted by their first or by their second -/
def sumB (f : Nat → Nat → Bool) (n : Nat) : Nat → Nat
  | 0 => 0
  | s + 1 => sumB f n s + zcB (fun k => f s (s + 1 + k)) (n - (s + 1))
theorem sumB_grow (f : Nat → Nat → Bool) {n : Nat} : ∀ {s : Nat}, s ≤ n → sumB f (n + 1) s = sumB f n s + zcB (fun j => f j n) s
  | 0, _ => rfl
  | s + 1, hs => by
    rw [sumB, sumB, sumB_grow f (s := s) (by omega), show n + 1 - (s + 1) = (n - (s + 1)) + 1 by omega, zcB, zcB, show s + 1 + (n - (s + 1)) = n by omega]
    omega
def sumC (f : Nat → Nat → Bool) : Nat → Nat
  | 0 => 0
  | n + 1 => sumC f n + zcB (fun j => f j n) n
theorem sumB_eq (f : Nat → Nat → Bool) : ∀ n, sumB f n n = sumC f n
  | 0 => rfl
  | n + 1 => by
    rw [sumB, sumB_grow f (Nat.le_refl n), sumB_eq f n, show n + 1 - (n + 1) = 0 by omega]
    rfl
theorem R0.plI (h : R0 C v) {p i : Nat} (hp : p < 6) (hi : i < vN v (1550 + p)) : cN C (20 + p) i = vN v (1560 + 150 * p + i) ∧ vN v (1560 + 150 * p + i) < vN v 44 ∧ v (1560 + 150 * p + i) = nI (vN v (1560 + 150 * p + i)) := by
  have hl := h.wv.l150 hp
  obtain ⟨g1, g2, g3, g4, g5, g6, g7⟩ := h.pp hp
  exact ⟨congrArg Int32.toNatClampNeg (g3 i hi), (g6 i hi).1, h.wv.g hp (by omega)⟩
theorem R0.swF (h : R0 C v) {p q s i : Nat} (hp : p < 6) (hq : q < 6) (hs : s < vN v (1550 + p)) (hi : i < vN v (1550 + p)) : (yshF C p q s && yswG C p q s i) = (!decide (zdga v p q i < 0) && zdgF v p q i s) := by
  have hn := h.n150
  obtain ⟨a1, a2, a3⟩ := h.plI hp hs
  obtain ⟨b1, b2, b3⟩ := h.plI hp hi
  have e1 : zdga v p q s = if zlog v q (vN v (1560 + 150 * p + s)) then ypl C p q s else -1 := by unfold zdga ypl; rw [a3, h.zplE hq a2, a1]
  have e2 : zdga v p q i = if zlog v q (vN v (1560 + 150 * p + i)) then ypl C p q i else -1 := by unfold zdga ypl; rw [b3, h.zplE hq b2, b1]
  have l1 : zlog v q (vN v (1560 + 150 * p + s)) = !decide (ypl C p q s < 0) := by rw [← (h.pp hq).log (by omega)]; unfold ylog ypl; rw [a1]
  have l2 : zlog v q (vN v (1560 + 150 * p + i)) = !decide (ypl C p q i < 0) := by rw [← (h.pp hq).log (by omega)]; unfold ylog ypl; rw [b1]
  have e3 : yshF C p q s = !decide (ypl C p q s < 0) := rfl
  unfold yswG zdgF
  rw [e1, e2, l1, l2, e3]
  by_cases hA : ypl C p q s < 0
  · by_cases hB : ypl C p q i < 0
    · simp [hA, hB]
    · have : (-1 : Int32) ≤ ypl C p q i := by
        rw [Int32.lt_iff_toInt_lt] at hB
        rw [Int32.le_iff_toInt_le]
        have z0 : (0 : Int32).toInt = 0 := by decide
        have z1 : (-1 : Int32).toInt = -1 := by decide
        omega
      simp [hA, hB, this]
  · by_cases hB : ypl C p q i < 0
    · simp [hA, hB]
    · simp [hA, hB]
theorem yswS_sum {p q n : Nat} (hn : cN C (10 + p) 4 = n) : ∀ k, yswS C p q k = sumB (fun s i => yshF C p q s && yswG C p q s i) n k
  | 0 => rfl
  | k + 1 => by
    rw [yswS, sumB, yswS_sum hn k]
    congr 1
    cases hs : yshF C p q k with
    | true =>
      rw [if_pos rfl, yswB, hn]
      exact zcB_cong (fun j _ => by rw [Bool.true_and])
    | false => rw [if_neg (by decide)]; exact (zcB_none (fun j _ => by rw [Bool.false_and])).symm
theorem sumB_cong {f g : Nat → Nat → Bool} {n : Nat} (h : ∀ s i, s < n → i < n → f s i = g s i) : ∀ {k}, k ≤ n → sumB f n k = sumB g n k
  | 0, _ => rfl
  | k + 1, hk => by
    rw [sumB, sumB, sumB_cong h (k := k) (by omega), zcB_cong (fun j hj => h k (k + 1 + j) (by omega) (by omega))]
theorem zdgO_sum {p q : Nat} : ∀ k, zdgO v p q k = sumC (fun s i => !decide (zdga v p q i < 0) && zdgF v p q i s) k
  | 0 => rfl
  | k + 1 => by
    rw [zdgO, sumC, zdgO_sum k]
    congr 1
    by_cases hz : zdga v p q k < 0
    · rw [if_pos hz]; exact (zcB_none (fun j _ => by rw [decide_eq_true hz]; rfl)).symm
    · rw [if_neg hz]; exact zcB_cong (fun j _ => by rw [decide_eq_false hz]; rfl)
theorem R0.swap (h : R0 C v) {p q : Nat} (hp : p < 6) (hq : q < 6) : yswS C p q (vN v (1550 + p)) = zdgO v p q (vN v (1550 + p)) := by
  have hn : cN C (10 + p) 4 = vN v (1550 + p) := congrArg Int32.toNatClampNeg (h.pp hp).1
  rw [yswS_sum hn, zdgO_sum, ← sumB_eq]
  exact sumB_cong (fun s i hs hi => h.swF hp hq hs hi) (Nat.le_refl _)
theorem chI_pair (h : R0 C v) {m : Nat} (hm : m < vN v 44) {g : Rw} (hg : ∀ k, k < m → v (350 + k) = v (350 + m) → g k = C 8 k) : ∀ {j : Nat}, j ≤ m → zchI v m g j m = nI 1 + ygdb C m j ∧ ∀ k, k ≠ m → zchI v m g j k = g k
  | 0, _ => ⟨by rw [zchI, upd_at, if_pos rfl, ygdb, add0_I], fun k hk => by rw [zchI, upd_at, if_neg hk]⟩
  | j + 1, hj => by
    have hn := h.n150
    obtain ⟨i1, i2⟩ := chI_pair h hm hg (j := j) (by omega)
    have hp := h.prec (show j < vN v 44 by omega) hm
    rw [zchI, ygdb, hp]
    cases hc : zcau v j m with
    | false => rw [Bool.false_and, if_neg (by decide), if_neg (by decide)]; exact ⟨i1, i2⟩
    | true =>
      have hv : v (350 + j) = v (350 + m) := by
        have := hc
        simp only [zcau, Bool.and_eq_true, decide_eq_true_eq] at this
        exact this.1.2
      obtain ⟨-, d, e1, d1, d2⟩ := h.d j (by omega)
      obtain ⟨gg, e2, d3⟩ := ygdb_nI (C := C) (m := m) (by omega) (j := j) (by omega) (fun k hk => (h.d k (by omega)).2)
      have e3 : zchI v m g j j = nI d := by rw [i2 j (by omega), hg j (by omega) hv, e1]
      have e4 : zchI v m g j m = nI (1 + gg) := by rw [i1, e2, nI_add]
      rw [Bool.true_and, if_pos rfl, e3, e4, e1, e2, ymx]
      by_cases hd : d < 1 + gg
      · rw [decide_eq_true ((nI_ltI (by omega) (by omega)).mpr hd), if_neg (by decide), if_neg (fun q => by have := (nI_ltI (by omega) (by omega)).mp q; omega)]
        exact ⟨by rw [e4, nI_add], i2⟩
      · rw [decide_eq_false (fun q => hd ((nI_ltI (by omega) (by omega)).mp q)), if_pos (show (!false) = true from rfl), if_pos ((nI_ltI (by omega) (by omega)).mpr (by omega))]
        refine ⟨by rw [upd_at, if_pos rfl, Int32.add_comm], fun k hk => ?_⟩
        rw [upd_at, if_neg hk]; exact i2 k hk
theorem chain_pair (h : R0 C v) {x : Int32} {g0 : Rw} : ∀ {n : Nat}, n ≤ vN v 44 → (∀ k, k < n → v (350 + k) = x → (zchO v x g0 n).1 k = C 8 k) ∧ (zchO v x g0 n).2 = ygd C x n
  | 0, _ => ⟨fun k hk => absurd hk (Nat.not_lt_zero _), rfl⟩
  | n + 1, hn => by
    obtain ⟨i1, i2⟩ := chain_pair h (x := x) (g0 := g0) (n := n) (by omega)
    rw [zchO, ygd, (h.m n (by omega)).2.2.1]
    by_cases e : v (350 + n) = x
    · rw [if_pos e, if_pos e]
      obtain ⟨c1, c2⟩ := chI_pair h (show n < vN v 44 by omega) (g := (zchO v x g0 n).1) (fun k hk hv => i1 k hk (hv.trans e)) (j := n) (Nat.le_refl _)
      rw [← (h.d n (by omega)).1] at c1
      refine ⟨fun k hk hv => ?_, ?_⟩
      · by_cases ek : k = n
        · rw [ek]; exact c1
        · dsimp only; rw [c2 k ek]; exact i1 k (by omega) hv
      · dsimp only
        rw [c1, i2, ymx]
        by_cases hq : C 8 n ≤ ygd C x n
        · rw [if_pos hq, if_neg (le_nlt hq)]
        · rw [if_neg hq, if_pos (nle_lt hq)]
    · rw [if_neg e, if_neg e]
      exact ⟨fun k hk hv => i1 k (by rcases Nat.lt_or_ge k n with q | q; exact q; exact absurd (show v (350 + n) = x by rw [← hv, show k = n by omega]) e) hv, i2⟩
end Brx

theorem br_reset {C : IX} {v : Rw} (h : RG C v) (x : Int32) : (if zisIn x (nI 1) (nI 63) then nI 0 else nI 1) = (if zisIn x (nI 1) (nI 63) then nI 0 else nI 1) ∧ ((if zisIn x (nI 1) (nI 63) then nI 0 else nI 1) = nI 0 → (C 2 6) = (if zisIn x (nI 1) (nI 63) then v 44 else nI 0) ∧ RG (ysn C x) (if zisIn x (nI 1) (nI 63) then zreset v x else v)) ∧ ((if zisIn x (nI 1) (nI 63) then nI 0 else nI 1) ≠ nI 0 → (if zisIn x (nI 1) (nI 63) then zreset v x else v) = v) := by
  refine ⟨rfl, fun hT => ?_, fun hT => ?_⟩
  · have hb := t1_0 hT
    obtain ⟨k, h1, h2, e⟩ := z63 hb
    rw [if_pos hb, if_pos hb]
    refine ⟨h.1.hd.2.2.2, ?_⟩
    have := RG_anew h.pre h1 h2 (w := zreset v x) (by rw [← e]; exact zreset_at v x)
    rw [← e] at this
    exact this
  · exact if_neg (fun q => hT (by rw [if_pos q]))
theorem br_membersOf {C : IX} {v : Rw} (h : RG C v) (x : Int32) : (if zisIn x (nI 0) (C 100 4) then nI 0 else nI 1) = (if zisIn x (nI 0) (v 42) then nI 0 else nI 1) ∧ ((if zisIn x (nI 0) (v 42) then nI 0 else nI 1) = nI 0 → (C 0 x.toNatClampNeg) = (if zisIn x (nI 0) (v 42) then v x.toNatClampNeg else nI 0) ∧ RG C (v)) ∧ ((if zisIn x (nI 0) (v 42) then nI 0 else nI 1) ≠ nI 0 → (v) = v) := by
  have H := h.1
  refine ⟨(by rw [H.hd.1]), fun hT => ⟨?_, h⟩, fun _ => rfl⟩
  have hb := t1_0 hT
  obtain ⟨j, hj, e⟩ := H.vwj hb
  have cj : x.toNatClampNeg = j := by have := H.wv.vw20; rw [e]; exact nI_clamp (by omega)
  rw [if_pos hb, cj]
  exact (H.vw.1 j hj).1
theorem br_forcedIn {C : IX} {v : Rw} (h : RG C v) (x : Int32) : (if zisIn x (nI 0) (C 100 4) then nI 0 else nI 1) = (if zisIn x (nI 0) (v 42) then nI 0 else nI 1) ∧ ((if zisIn x (nI 0) (v 42) then nI 0 else nI 1) = nI 0 → (C 1 x.toNatClampNeg) = (if zisIn x (nI 0) (v 42) then v (21 + x.toNatClampNeg) else nI 0) ∧ RG C (v)) ∧ ((if zisIn x (nI 0) (v 42) then nI 0 else nI 1) ≠ nI 0 → (v) = v) := by
  have H := h.1
  refine ⟨(by rw [H.hd.1]), fun hT => ⟨?_, h⟩, fun _ => rfl⟩
  have hb := t1_0 hT
  obtain ⟨j, hj, e⟩ := H.vwj hb
  have cj : x.toNatClampNeg = j := by have := H.wv.vw20; rw [e]; exact nI_clamp (by omega)
  rw [if_pos hb, cj]
  exact (H.vw.1 j hj).2
theorem br_requestJoin {C : IX} {v : Rw} (h : RG C v) (x : Int32) : (if zPr x then (if zbit (C 100 5) x then nI 2 else nI 0) else nI 1) = (if zPr x then (if zbit (v 43) x then nI 2 else nI 0) else nI 1) ∧ ((if zPr x then (if zbit (v 43) x then nI 2 else nI 0) else nI 1) = nI 0 → (ybc (C 100 5 ||| (nI 1 <<< (x &&& 31)))) = (if zPr x && !zbit (v 43) x then zcnt (v 43 ||| (nI 1 <<< (x &&& 31))) 6 else nI 0) ∧ RG (va_up C 100 (upd (C 100) 5 (C 100 5 ||| (nI 1 <<< (x &&& 31))))) (if zPr x && !zbit (v 43) x then zjoin v x else v)) ∧ ((if zPr x then (if zbit (v 43) x then nI 2 else nI 0) else nI 1) ≠ nI 0 → (if zPr x && !zbit (v 43) x then zjoin v x else v) = v) := by
  have H := h.1
  refine ⟨by rw [H.hd.2.1], fun hT => ?_, fun hT => ?_⟩
  · obtain ⟨hb, hc⟩ := t2n_0 hT
    obtain ⟨p, hp, e⟩ := zPr_of hb
    subst e
    have hk : (zPr (nI p) && !zbit (v 43) (nI p)) = true := by rw [hb, hc]; rfl
    rw [if_pos hk, if_pos hk]
    exact ⟨(RG_join h hp).2, (RG_join h hp).1⟩
  · refine if_neg (fun q => hT ?_)
    obtain ⟨h1, h2⟩ := Bool.and_eq_true_iff.mp q
    rw [if_pos h1, (Bool.not_eq_true' _).mp h2]; rfl
theorem br_requestLeave {C : IX} {v : Rw} (h : RG C v) (x : Int32) : (if zPr x then (if (zbit (C 100 5) x && !decide ((ymem C &&& C 100 5) &&& ((nI 1 <<< (x &&& 31)) ^^^ (-1)) = 0)) then nI 0 else nI 2) else nI 1) = (if zPr x then (if zlok v x then nI 0 else nI 2) else nI 1) ∧ ((if zPr x then (if zlok v x then nI 0 else nI 2) else nI 1) = nI 0 → (ybc (C 100 5 &&& ((nI 1 <<< (x &&& 31)) ^^^ (-1)))) = (if zPr x && zlok v x then zcnt (zleft v x) 6 else nI 0) ∧ RG (va_up C 100 (upd (C 100) 5 (C 100 5 &&& ((nI 1 <<< (x &&& 31)) ^^^ (-1))))) (if zPr x && zlok v x then upd v 43 (zleft v x) else v)) ∧ ((if zPr x then (if zlok v x then nI 0 else nI 2) else nI 1) ≠ nI 0 → (if zPr x && zlok v x then upd v 43 (zleft v x) else v) = v) := by
  have H := h.1
  refine ⟨?_, fun hT => ?_, fun hT => ?_⟩
  · cases hb : zPr x with
    | false => rfl
    | true =>
      obtain ⟨p, hp, e⟩ := zPr_of hb
      subst e
      rw [can_quit H hp]
  · obtain ⟨hb, hc⟩ := t2_0 hT
    obtain ⟨p, hp, e⟩ := zPr_of hb
    subst e
    have hk : (zPr (nI p) && zlok v (nI p)) = true := by rw [hb, hc]; rfl
    rw [if_pos hk, if_pos hk]
    exact ⟨(RG_leave h hp hc).2, (RG_leave h hp hc).1⟩
  · refine if_neg (fun q => hT ?_)
    obtain ⟨h1, h2⟩ := Bool.and_eq_true_iff.mp q
    rw [if_pos h1, if_pos h2]
theorem br_install {C : IX} {v : Rw} (h : RG C v) : (if !decide (nI 20 ≤ C 100 4) then nI 0 else nI 1) = (if zinT v then nI 1 else nI 0) ∧ ((if zinT v then nI 1 else nI 0) = nI 0 → (ychN C) = (if zinT v then nI 0 else zinC v) ∧ RG (ych C) (if zinT v then v else zinV v)) ∧ ((if zinT v then nI 1 else nI 0) ≠ nI 0 → (if zinT v then v else zinV v) = v) := by
  have H := h.1
  have h20 := H.wv.vw20
  have e0 : (!decide (nI 20 ≤ C 100 4)) = !zinT v := by
    rw [H.hd.1]
    unfold zinT
    rw [H.wv.vw]
    by_cases e : vN v 42 = 20
    · rw [e]; rfl
    · rw [decide_eq_false (fun q => e (nI_eq' q (by omega) (by omega))), decide_eq_false (fun q => e (by have := nI_ge' q (by omega) (by omega); omega))]
  refine ⟨?_, fun hT => ?_, fun hT => ?_⟩
  · rw [e0]; cases zinT v <;> rfl
  · have hz : zinT v = false := by cases hz : zinT v with
      | false => rfl
      | true => rw [hz] at hT; exact absurd hT (by decide)
    rw [hz]
    exact inst_pair h hz
  · have hz : zinT v = true := by cases hz : zinT v with
      | true => rfl
      | false => rw [hz] at hT; exact absurd rfl hT
    rw [hz]; rfl
theorem br_broadcast {C : IX} {v : Rw} (h : RG C v) (x y : Int32) : (if zPr x then (if yisM C x && !yfull C then nI 0 else nI 2) else nI 1) = (zbT v x) ∧ ((zbT v x) = nI 0 → (nI (cN C 2 6)) = (if zbT v x = nI 0 then v 44 else nI 0) ∧ RG (ysend C x.toNatClampNeg y) (if zbT v x = nI 0 then zbV v x.toNatClampNeg y else v)) ∧ ((zbT v x) ≠ nI 0 → (if zbT v x = nI 0 then zbV v x.toNatClampNeg y else v) = v) := by
  have H := h.1
  have hn := H.n150
  have ef : (!yfull C) = !decide (v 44 = nI 150) := by
    unfold yfull
    rw [H.hd.2.2.2, H.wv.n, Bool.not_not]
    by_cases e : vN v 44 = 150
    · rw [e]; decide
    · rw [decide_eq_false (fun q => e (nI_eq' q (by omega) (by omega))), decide_eq_true ((nI_ltI (by omega) (by omega)).mpr (by omega))]; rfl
  have eT : (if zPr x then (if yisM C x && !yfull C then nI 0 else nI 2) else nI 1) = zbT v x := by
    unfold zbT
    rw [ef, H.isM]
    cases zPr x <;> cases zisM v x <;> by_cases e : v 44 = nI 150 <;> simp [e]
  refine ⟨eT, fun hT => ?_, fun hT => if_neg hT⟩
  rw [if_pos hT, if_pos hT]
  rw [← eT] at hT
  obtain ⟨hb, hc⟩ := t2_0 hT
  obtain ⟨p, hp, e⟩ := zPr_of hb
  subst e
  have cp : (nI p).toNatClampNeg = p := nI_clamp (by omega)
  have hlt : vN v 44 < 150 := by
    have h2 := (Bool.and_eq_true_iff.mp hc).2
    rw [ef, Bool.not_eq_true', decide_eq_false_iff_not, H.wv.n] at h2
    have : vN v 44 ≠ 150 := fun q => h2 (by rw [q])
    omega
  rw [cp, H.n]
  exact ⟨H.wv.n.symm, send_pair h hp y hlt⟩
theorem br_arrive {C : IX} {v : Rw} (h : RG C v) (x y : Int32) : (if zPr x && yhas C y then (if yisM C x && yhas C y && !decide (y < C 100 6) then nI 0 else nI 2) else nI 1) = (zaT v x y) ∧ ((zaT v x y) = nI 0 → ((yrcv C x.toNatClampNeg y.toNatClampNeg).2) = (if zaT v x y = nI 0 then (zaV v x.toNatClampNeg y.toNatClampNeg).2 else nI 0) ∧ RG (yrcv C x.toNatClampNeg y.toNatClampNeg).1 (if zaT v x y = nI 0 then (zaV v x.toNatClampNeg y.toNatClampNeg).1 else v)) ∧ ((zaT v x y) ≠ nI 0 → (if zaT v x y = nI 0 then (zaV v x.toNatClampNeg y.toNatClampNeg).1 else v) = v) := by
  have H := h.1
  have eT : (if zPr x && yhas C y then (if yisM C x && yhas C y && !decide (y < C 100 6) then nI 0 else nI 2) else nI 1) = zaT v x y := by
    unfold zaT
    rw [H.has, H.isM]
    cases hx : zPr x with
    | false => rfl
    | true =>
      cases hy : zMs v y with
      | false => rfl
      | true =>
        obtain ⟨m, h1, h2, e⟩ := zMs_of H.wv hy
        have c6 := H.wc.vs150
        subst e
        have cm : (nI m).toNatClampNeg = m := nI_clamp (by omega)
        rw [cm, H.now h1, H.wc.vs]
        by_cases e : cN C 100 6 ≤ m
        · rw [decide_eq_true e, decide_eq_false (fun q => absurd ((nI_ltI (by omega) (by omega)).mp q) (by omega))]
          cases zisM v x <;> rfl
        · rw [decide_eq_false e, decide_eq_true ((nI_ltI (by omega) (by omega)).mpr (by omega))]
          cases zisM v x <;> rfl
  refine ⟨eT, fun hT => ?_, fun hT => if_neg hT⟩
  rw [if_pos hT, if_pos hT]
  unfold zaT at hT
  obtain ⟨hbb, hc⟩ := t2_0 hT
  obtain ⟨hb, hb2⟩ := Bool.and_eq_true_iff.mp hbb
  obtain ⟨p, hp, e⟩ := zPr_of hb
  subst e
  obtain ⟨m, hm, hm2, e⟩ := zMs_of H.wv hb2
  subst e
  have cp : (nI p).toNatClampNeg = p := nI_clamp (by omega)
  have cm : (nI m).toNatClampNeg = m := nI_clamp (by omega)
  have hv : cN C 100 6 ≤ m := by
    have := (Bool.and_eq_true_iff.mp hc).2
    rw [cm, H.now hm] at this
    exact of_decide_eq_true this
  rw [cp, cm]
  have hr := rcv_pair h hp hv hm
  exact ⟨hr.1.symm, hr.2⟩
theorem br_arriveAll {C : IX} {v : Rw} (h : RG C v) (x : Int32) : (if zPr x then (if yisM C x then nI 0 else nI 2) else nI 1) = (if zPr x then (if zisM v x then nI 0 else nI 2) else nI 1) ∧ ((if zPr x then (if zisM v x then nI 0 else nI 2) else nI 1) = nI 0 → ((yrr C x.toNatClampNeg (cN C 2 6 - cN C 100 6)).2) = (if zPr x && zisM v x then (zalL x.toNatClampNeg v (vN v 44)).2 else nI 0) ∧ RG (yrr C x.toNatClampNeg (cN C 2 6 - cN C 100 6)).1 (if zPr x && zisM v x then (zalL x.toNatClampNeg v (vN v 44)).1 else v)) ∧ ((if zPr x then (if zisM v x then nI 0 else nI 2) else nI 1) ≠ nI 0 → (if zPr x && zisM v x then (zalL x.toNatClampNeg v (vN v 44)).1 else v) = v) := by
  have H := h.1
  refine ⟨(by rw [H.isM]; cases zPr x <;> rfl), fun hT => ?_, fun hT => if_neg (fun q => hT (by obtain ⟨h1, h2⟩ := Bool.and_eq_true_iff.mp q; rw [if_pos h1, if_pos h2]))⟩
  obtain ⟨hb, hc⟩ := t2_0 hT
  have hk : (zPr x && zisM v x) = true := by rw [hb, hc]; rfl
  rw [if_pos hk, if_pos hk]
  obtain ⟨p, hp, e⟩ := zPr_of hb
  subst e
  have cp : (nI p).toNatClampNeg = p := nI_clamp (by omega)
  have hvs := H.vs
  have hr := rest_pair h hp (k := vN v 44 - cN C 100 6) (by omega)
  rw [show cN C 100 6 + (vN v 44 - cN C 100 6) = vN v 44 by omega] at hr
  rw [cp, H.n]
  exact ⟨hr.1.symm, hr.2.1⟩
theorem br_gossip {C : IX} {v : Rw} (h : RG C v) (x y : Int32) : (if zPr x && zPr y then (if yisM C x && yisM C y && !decide (x = y) then nI 0 else nI 2) else nI 1) = (zgT v x y) ∧ ((zgT v x y) = nI 0 → ((yltL C y.toNatClampNeg x.toNatClampNeg 36).2) = (if zgT v x y = nI 0 then (zgO x.toNatClampNeg y.toNatClampNeg v 6).2 else nI 0) ∧ RG (yltL C y.toNatClampNeg x.toNatClampNeg 36).1 (if zgT v x y = nI 0 then (zgO x.toNatClampNeg y.toNatClampNeg v 6).1 else v)) ∧ ((zgT v x y) ≠ nI 0 → (if zgT v x y = nI 0 then (zgO x.toNatClampNeg y.toNatClampNeg v 6).1 else v) = v) := by
  have H := h.1
  have eT : (if zPr x && zPr y then (if yisM C x && yisM C y && !decide (x = y) then nI 0 else nI 2) else nI 1) = zgT v x y := by
    unfold zgT
    rw [H.isM, H.isM]
    cases zPr x <;> cases zPr y <;> rfl
  refine ⟨eT, fun hT => ?_, fun hT => if_neg hT⟩
  rw [if_pos hT, if_pos hT]
  unfold zgT at hT
  obtain ⟨hbb, hc⟩ := t2_0 hT
  obtain ⟨hb, hb2⟩ := Bool.and_eq_true_iff.mp hbb
  obtain ⟨p, hp, e⟩ := zPr_of hb
  subst e
  obtain ⟨q, hq, e⟩ := zPr_of hb2
  subst e
  have cp : (nI p).toNatClampNeg = p := nI_clamp (by omega)
  have cq : (nI q).toNatClampNeg = q := nI_clamp (by omega)
  have hne : p ≠ q := fun e => by
    have := (Bool.and_eq_true_iff.mp hc).2
    rw [e] at this
    simp at this
  rw [cp, cq]
  have hr := gos_pair h hp hq hne
  exact ⟨hr.1.symm, hr.2⟩
theorem br_messageClock {C : IX} {v : Rw} (h : RG C v) (x y : Int32) : (if yhas C x && zPr y then nI 0 else nI 1) = (if zMs v x && zPr y then nI 0 else nI 1) ∧ ((if zMs v x && zPr y then nI 0 else nI 1) = nI 0 → (yent C x.toNatClampNeg y.toNatClampNeg) = (if zMs v x && zPr y then v (650 + 6 * x.toNatClampNeg + y.toNatClampNeg) else nI 0) ∧ RG C (v)) ∧ ((if zMs v x && zPr y then nI 0 else nI 1) ≠ nI 0 → (v) = v) := by
  have H := h.1
  refine ⟨(by rw [H.has]), fun hT => ⟨?_, h⟩, fun _ => rfl⟩
  have hb := t1_0 hT
  rw [if_pos hb]
  obtain ⟨h1, h2⟩ := Bool.and_eq_true_iff.mp hb
  obtain ⟨m, hm, hm2, e⟩ := zMs_of H.wv h1
  obtain ⟨q, hq, e2⟩ := zPr_of h2
  have cm : x.toNatClampNeg = m := by rw [e]; exact nI_clamp (by omega)
  have cq : y.toNatClampNeg = q := by rw [e2]; exact nI_clamp (by omega)
  rw [cm, cq]
  exact (H.m m hm).2.2.2.2 q hq
theorem br_isCause {C : IX} {v : Rw} (h : RG C v) (x y : Int32) : (if yhas C x && yhas C y then nI 0 else nI 1) = (if zMs v x && zMs v y then nI 0 else nI 1) ∧ ((if zMs v x && zMs v y then nI 0 else nI 1) = nI 0 → (bI (yprec C x.toNatClampNeg y.toNatClampNeg)) = (bI (zMs v x && zMs v y && zcau v x.toNatClampNeg y.toNatClampNeg)) ∧ RG C (v)) ∧ ((if zMs v x && zMs v y then nI 0 else nI 1) ≠ nI 0 → (v) = v) := by
  have H := h.1
  refine ⟨(by rw [H.has, H.has]), fun hT => ⟨?_, h⟩, fun _ => rfl⟩
  have hb := t1_0 hT
  rw [hb, Bool.true_and]
  obtain ⟨h1, h2⟩ := Bool.and_eq_true_iff.mp hb
  obtain ⟨m, hm, hm2, e⟩ := zMs_of H.wv h1
  obtain ⟨n, hn, hn2, e2⟩ := zMs_of H.wv h2
  have cm : x.toNatClampNeg = m := by rw [e]; exact nI_clamp (by omega)
  have cn : y.toNatClampNeg = n := by rw [e2]; exact nI_clamp (by omega)
  rw [cm, cn, H.prec hm hn]
theorem br_causes {C : IX} {v : Rw} (h : RG C v) (x : Int32) : (if yhas C x then nI 0 else nI 1) = (if zMs v x then nI 0 else nI 1) ∧ ((if zMs v x then nI 0 else nI 1) = nI 0 → (nI (zcB (fun k => yprec C k x.toNatClampNeg) (cN C 2 6))) = (if zMs v x then nI (zcB (fun k => zcau v k x.toNatClampNeg) (vN v 44)) else nI 0) ∧ RG C (v)) ∧ ((if zMs v x then nI 0 else nI 1) ≠ nI 0 → (v) = v) := by
  have H := h.1
  refine ⟨(by rw [H.has]), fun hT => ⟨?_, h⟩, fun _ => rfl⟩
  have hb := t1_0 hT
  rw [if_pos hb]
  obtain ⟨m, hm, hm2, e⟩ := zMs_of H.wv hb
  have cm : x.toNatClampNeg = m := by rw [e]; exact nI_clamp (by omega)
  rw [cm]
  rw [H.n]
  exact congrArg nI (zcB_cong (fun k hk => H.prec hk hm))
theorem br_concurrent {C : IX} {v : Rw} (h : RG C v) (x : Int32) : (if yhas C x then nI 0 else nI 1) = (if zMs v x then nI 0 else nI 1) ∧ ((if zMs v x then nI 0 else nI 1) = nI 0 → (nI (zcB (ycon C x.toNatClampNeg) (cN C 2 6))) = (if zMs v x then nI (zcB (zcon v x.toNatClampNeg) (vN v 44)) else nI 0) ∧ RG C (v)) ∧ ((if zMs v x then nI 0 else nI 1) ≠ nI 0 → (v) = v) := by
  have H := h.1
  refine ⟨(by rw [H.has]), fun hT => ⟨?_, h⟩, fun _ => rfl⟩
  have hb := t1_0 hT
  rw [if_pos hb]
  obtain ⟨m, hm, hm2, e⟩ := zMs_of H.wv hb
  have cm : x.toNatClampNeg = m := by rw [e]; exact nI_clamp (by omega)
  rw [cm]
  rw [H.n]
  refine congrArg nI (zcB_cong (fun k hk => ?_))
  unfold ycon zcon
  rw [H.prec hk hm, H.prec hm hk, (H.m k hk).2.2.1, (H.m m hm).2.2.1]
theorem br_longestChain {C : IX} {v : Rw} (h : RG C v) (g0 : Rw) (x : Int32) : (if zisIn x (nI 0) (C 100 4) then nI 0 else nI 1) = (if zisIn x (nI 0) (v 42) then nI 0 else nI 1) ∧ ((if zisIn x (nI 0) (v 42) then nI 0 else nI 1) = nI 0 → (ygd C x (cN C 2 6)) = (if zisIn x (nI 0) (v 42) then (zchO v x g0 (vN v 44)).2 else nI 0) ∧ RG C (v)) ∧ ((if zisIn x (nI 0) (v 42) then nI 0 else nI 1) ≠ nI 0 → (v) = v) := by
  have H := h.1
  refine ⟨(by rw [H.hd.1]), fun hT => ⟨?_, h⟩, fun _ => rfl⟩
  have hb := t1_0 hT
  rw [if_pos hb, H.n]
  exact (chain_pair H (Nat.le_refl _)).2.symm
theorem br_logLength {C : IX} {v : Rw} (h : RG C v) (x : Int32) : (if zPr x then nI 0 else nI 1) = (if zPr x then nI 0 else nI 1) ∧ ((if zPr x then nI 0 else nI 1) = nI 0 → (C (10 + x.toNatClampNeg) 4) = (if zPr x then v (1550 + x.toNatClampNeg) else nI 0) ∧ RG C (v)) ∧ ((if zPr x then nI 0 else nI 1) ≠ nI 0 → (v) = v) := by
  have H := h.1
  refine ⟨rfl, fun hT => ⟨?_, h⟩, fun _ => rfl⟩
  have hb := t1_0 hT
  rw [if_pos hb]
  obtain ⟨p, hp, e⟩ := zPr_of hb
  have cp : x.toNatClampNeg = p := by rw [e]; exact nI_clamp (by omega)
  rw [cp]
  exact (H.pp hp).1
theorem br_logged {C : IX} {v : Rw} (h : RG C v) (x y : Int32) : (if zPr x && ylgd C x y then nI 0 else nI 1) = (if zPr x && zisIn y (nI 0) (v (1550 + x.toNatClampNeg) - nI 1) then nI 0 else nI 1) ∧ ((if zPr x && zisIn y (nI 0) (v (1550 + x.toNatClampNeg) - nI 1) then nI 0 else nI 1) = nI 0 → (C (20 + x.toNatClampNeg) y.toNatClampNeg) = (if zPr x && zisIn y (nI 0) (v (1550 + x.toNatClampNeg) - nI 1) then v (1560 + 150 * x.toNatClampNeg + y.toNatClampNeg) else nI 0) ∧ RG C (v)) ∧ ((if zPr x && zisIn y (nI 0) (v (1550 + x.toNatClampNeg) - nI 1) then nI 0 else nI 1) ≠ nI 0 → (v) = v) := by
  have H := h.1
  refine ⟨by rw [H.lgT], fun hT => ⟨?_, h⟩, fun _ => rfl⟩
  have hb := t1_0 hT
  rw [if_pos hb]
  exact H.lgA (by rw [H.lgT]; exact hb)
theorem br_position {C : IX} {v : Rw} (h : RG C v) (x y : Int32) : (if zPr x && yhas C y then (if ylog C x.toNatClampNeg y.toNatClampNeg then nI 0 else nI 2) else nI 1) = (if zPr x && zMs v y then (if zpl v x.toNatClampNeg y < 0 then nI 2 else nI 0) else nI 1) ∧ ((if zPr x && zMs v y then (if zpl v x.toNatClampNeg y < 0 then nI 2 else nI 0) else nI 1) = nI 0 → (C (30 + x.toNatClampNeg) y.toNatClampNeg) = (if zPr x && zMs v y then (if zpl v x.toNatClampNeg y < 0 then nI 0 else zpl v x.toNatClampNeg y) else nI 0) ∧ RG C (v)) ∧ ((if zPr x && zMs v y then (if zpl v x.toNatClampNeg y < 0 then nI 2 else nI 0) else nI 1) ≠ nI 0 → (v) = v) := by
  have H := h.1
  have eT : (if zPr x && yhas C y then (if ylog C x.toNatClampNeg y.toNatClampNeg then nI 0 else nI 2) else nI 1) = (if zPr x && zMs v y then (if zpl v x.toNatClampNeg y < 0 then nI 2 else nI 0) else nI 1) := by
    rw [H.has]
    cases hb : zPr x && zMs v y with
    | false => rfl
    | true =>
      obtain ⟨h1, h2⟩ := Bool.and_eq_true_iff.mp hb
      obtain ⟨p, hp, e⟩ := zPr_of h1
      obtain ⟨m, hm, hm2, e2⟩ := zMs_of H.wv h2
      have cp : x.toNatClampNeg = p := by rw [e]; exact nI_clamp (by omega)
      have cm : y.toNatClampNeg = m := by rw [e2]; exact nI_clamp (by omega)
      rw [cp, cm, e2, H.zplE hp hm, (H.pp hp).log hm2]
      cases hz : zlog v p m with
      | false => rfl
      | true =>
        have h3 := (H.pp hp).log hm2
        rw [hz, ylog, Bool.not_eq_true', decide_eq_false_iff_not] at h3
        show nI 0 = if C (30 + p) m < 0 then nI 2 else nI 0
        rw [if_neg h3]
  refine ⟨eT, fun hT => ⟨?_, h⟩, fun _ => rfl⟩
  obtain ⟨hb, hc⟩ := t2p_0 hT
  rw [if_pos hb, if_neg hc]
  obtain ⟨h1, h2⟩ := Bool.and_eq_true_iff.mp hb
  obtain ⟨p, hp, e⟩ := zPr_of h1
  obtain ⟨m, hm, hm2, e2⟩ := zMs_of H.wv h2
  have cp : x.toNatClampNeg = p := by rw [e]; exact nI_clamp (by omega)
  have cm : y.toNatClampNeg = m := by rw [e2]; exact nI_clamp (by omega)
  rw [cp, e2, H.zplE hp hm] at hc
  rw [cp, cm, e2, H.zplE hp hm]
  cases hz : zlog v p m with
  | true => rfl
  | false => rw [hz] at hc; exact absurd (show (-1 : Int32) < 0 by decide) hc
theorem br_state {C : IX} {v : Rw} (h : RG C v) (x : Int32) : (if zPr x then nI 0 else nI 1) = (if zPr x then nI 0 else nI 1) ∧ ((if zPr x then nI 0 else nI 1) = nI 0 → (C (10 + x.toNatClampNeg) 5) = (if zPr x then v (4260 + x.toNatClampNeg) else nI 0) ∧ RG C (v)) ∧ ((if zPr x then nI 0 else nI 1) ≠ nI 0 → (v) = v) := by
  have H := h.1
  refine ⟨rfl, fun hT => ⟨?_, h⟩, fun _ => rfl⟩
  have hb := t1_0 hT
  rw [if_pos hb]
  obtain ⟨p, hp, e⟩ := zPr_of hb
  have cp : x.toNatClampNeg = p := by rw [e]; exact nI_clamp (by omega)
  rw [cp]
  exact (H.pp hp).2.1
theorem br_clock {C : IX} {v : Rw} (h : RG C v) (x y : Int32) : (if zPr x && zPr y then (if yisM C x then nI 0 else nI 2) else nI 1) = (if zPr x && zPr y then (if zisM v x then nI 0 else nI 2) else nI 1) ∧ ((if zPr x && zPr y then (if zisM v x then nI 0 else nI 2) else nI 1) = nI 0 → (yclk C x.toNatClampNeg y.toNatClampNeg) = (if zPr x && zPr y && zisM v x then zclk v x.toNatClampNeg y.toNatClampNeg else nI 0) ∧ RG C (v)) ∧ ((if zPr x && zPr y then (if zisM v x then nI 0 else nI 2) else nI 1) ≠ nI 0 → (v) = v) := by
  have H := h.1
  refine ⟨(by rw [H.isM]; cases zPr x <;> rfl), fun hT => ⟨?_, h⟩, fun _ => rfl⟩
  obtain ⟨hb, hc⟩ := t2_0 hT
  rw [if_pos (show (zPr x && zPr y && zisM v x) = true by rw [hb, hc]; rfl)]
  obtain ⟨h1, h2⟩ := Bool.and_eq_true_iff.mp hb
  obtain ⟨p, hp, e⟩ := zPr_of h1
  obtain ⟨q, hq, e2⟩ := zPr_of h2
  have cp : x.toNatClampNeg = p := by rw [e]; exact nI_clamp (by omega)
  have cq : y.toNatClampNeg = q := by rw [e2]; exact nI_clamp (by omega)
  rw [cp, cq]
  exact (H.pp hp).clk hp hq
theorem br_buffered {C : IX} {v : Rw} (h : RG C v) (x : Int32) : (if zPr x then (if yisM C x then nI 0 else nI 2) else nI 1) = (if zPr x then (if zisM v x then nI 0 else nI 2) else nI 1) ∧ ((if zPr x then (if zisM v x then nI 0 else nI 2) else nI 1) = nI 0 → (nI (yfr (ypc C x.toNatClampNeg (-1)) C)) = (if zPr x && zisM v x then nI (zcB (zbuf v x.toNatClampNeg) (vN v 44)) else nI 0) ∧ RG C (v)) ∧ ((if zPr x then (if zisM v x then nI 0 else nI 2) else nI 1) ≠ nI 0 → (v) = v) := by
  have H := h.1
  refine ⟨(by rw [H.isM]; cases zPr x <;> rfl), fun hT => ⟨?_, h⟩, fun _ => rfl⟩
  obtain ⟨hb, hc⟩ := t2_0 hT
  have hk : (zPr x && zisM v x) = true := by rw [hb, hc]; rfl
  rw [if_pos hk]
  obtain ⟨p, hp, e⟩ := zPr_of hb
  subst e
  have cp : (nI p).toNatClampNeg = p := nI_clamp (by omega)
  rw [cp]
  rw [yfr, H.n]
  refine congrArg nI (zcB_from H.vs (fun j hj => ?_) (fun j hj1 hj2 => ?_)).symm
  · have := H.now (show j < vN v 44 by have := H.vs; omega)
    rw [decide_eq_false (by omega)] at this
    unfold zbuf; rw [this]; rfl
  · exact (H.plc h.2.1 hp hj1 hj2).1.symm
theorem br_bufferedMessage {C : IX} {v : Rw} (h : RG C v) (x y : Int32) : (if zPr x then (if yisM C x then (if ywt C x.toNatClampNeg y = -1 then nI 3 else nI 0) else nI 2) else nI 1) = (if zPr x then (if zisM v x then (if zfst (zbmF v x.toNatClampNeg y) (vN v 44) < vN v 44 then nI 0 else nI 3) else nI 2) else nI 1) ∧ ((if zPr x then (if zisM v x then (if zfst (zbmF v x.toNatClampNeg y) (vN v 44) < vN v 44 then nI 0 else nI 3) else nI 2) else nI 1) = nI 0 → (ywt C x.toNatClampNeg y) = (if zPr x && zisM v x then (if zfst (zbmF v x.toNatClampNeg y) (vN v 44) < vN v 44 then nI (zfst (zbmF v x.toNatClampNeg y) (vN v 44)) else nI 0) else nI 0) ∧ RG C (v)) ∧ ((if zPr x then (if zisM v x then (if zfst (zbmF v x.toNatClampNeg y) (vN v 44) < vN v 44 then nI 0 else nI 3) else nI 2) else nI 1) ≠ nI 0 → (v) = v) := by
  have H := h.1
  have hvs := H.vs
  have hn := H.n150
  have key : ∀ p, p < 6 → ywt C p y = if zfst (zbmF v p y) (vN v 44) < vN v 44 then nI (zfst (zbmF v p y) (vN v 44)) else -1 := fun p hp => H.wt h.2.1 hp y
  have eT : (if zPr x then (if yisM C x then (if ywt C x.toNatClampNeg y = -1 then nI 3 else nI 0) else nI 2) else nI 1) = (if zPr x then (if zisM v x then (if zfst (zbmF v x.toNatClampNeg y) (vN v 44) < vN v 44 then nI 0 else nI 3) else nI 2) else nI 1) := by
    rw [H.isM]
    cases hb : zPr x with
    | false => rfl
    | true =>
      obtain ⟨p, hp, e⟩ := zPr_of hb
      have cp : x.toNatClampNeg = p := by rw [e]; exact nI_clamp (by omega)
      rw [Bool.true_and, cp, key p hp]
      by_cases hz : zfst (zbmF v p y) (vN v 44) < vN v 44
      · rw [if_pos hz, if_pos hz, if_neg (nI_nm1 (by omega))]
      · rw [if_neg hz, if_neg hz, if_pos (show (-1 : Int32) = -1 from rfl)]
  refine ⟨eT, fun hT => ⟨?_, h⟩, fun _ => rfl⟩
  obtain ⟨hb, hc, hz⟩ := t3_0 hT
  rw [if_pos (show (zPr x && zisM v x) = true by rw [hb, hc]; rfl), if_pos hz]
  obtain ⟨p, hp, e⟩ := zPr_of hb
  have cp : x.toNatClampNeg = p := by rw [e]; exact nI_clamp (by omega)
  rw [cp] at hz
  rw [cp, key p hp, if_pos hz]
theorem br_missing {C : IX} {v : Rw} (h : RG C v) (x y : Int32) : (if zPr x && yhas C y then (if yisM C x && yhas C y && !decide (y < C 100 6) then nI 0 else nI 2) else nI 1) = (zaT v x y) ∧ ((zaT v x y) = nI 0 → (nI (yfr (ymi C x.toNatClampNeg y.toNatClampNeg) C)) = (if zaT v x y = nI 0 then nI (zcB (zmis v x.toNatClampNeg y.toNatClampNeg) (vN v 44)) else nI 0) ∧ RG C (v)) ∧ ((zaT v x y) ≠ nI 0 → (v) = v) := by
  have H := h.1
  have eT : (if zPr x && yhas C y then (if yisM C x && yhas C y && !decide (y < C 100 6) then nI 0 else nI 2) else nI 1) = zaT v x y := by
    unfold zaT
    rw [H.has, H.isM]
    cases hx : zPr x with
    | false => rfl
    | true =>
      cases hy : zMs v y with
      | false => rfl
      | true =>
        obtain ⟨m, h1, h2, e⟩ := zMs_of H.wv hy
        have c6 := H.wc.vs150
        subst e
        have cm : (nI m).toNatClampNeg = m := nI_clamp (by omega)
        rw [cm, H.now h1, H.wc.vs]
        by_cases e : cN C 100 6 ≤ m
        · rw [decide_eq_true e, decide_eq_false (fun q => absurd ((nI_ltI (by omega) (by omega)).mp q) (by omega))]
          cases zisM v x <;> rfl
        · rw [decide_eq_false e, decide_eq_true ((nI_ltI (by omega) (by omega)).mpr (by omega))]
          cases zisM v x <;> rfl
  refine ⟨eT, fun hT => ⟨?_, h⟩, fun _ => rfl⟩
  rw [if_pos hT]
  unfold zaT at hT
  obtain ⟨hbb, hc⟩ := t2_0 hT
  obtain ⟨hb, hb2⟩ := Bool.and_eq_true_iff.mp hbb
  obtain ⟨p, hp, e⟩ := zPr_of hb
  subst e
  obtain ⟨m, hm, hm2, e⟩ := zMs_of H.wv hb2
  subst e
  have cp : (nI p).toNatClampNeg = p := nI_clamp (by omega)
  have cm : (nI m).toNatClampNeg = m := nI_clamp (by omega)
  have hv : cN C 100 6 ≤ m := by
    have := (Bool.and_eq_true_iff.mp hc).2
    rw [cm, H.now hm] at this
    exact of_decide_eq_true this
  rw [cp, cm]
  rw [yfr, H.n]
  refine congrArg nI (zcB_from H.vs (fun j hj => ?_) (fun j hj1 hj2 => ?_)).symm
  · have hn := H.n150
    have := (H.kv.2 j (by omega)).2
    unfold zmis zcau
    rw [decide_eq_false (show ¬ v (350 + j) = v (350 + m) from fun q => by have := this.mpr (q.trans ((H.kv.2 m hm).2.mp hv)); omega)]
    simp
  · have hn := H.n150
    unfold zmis ymi
    rw [H.prec hj2 hm, (H.pp hp).log (by omega)]
theorem br_inTransit {C : IX} {v : Rw} (h : RG C v) (x : Int32) : (if zPr x then (if yisM C x then nI 0 else nI 2) else nI 1) = (if zPr x then (if zisM v x then nI 0 else nI 2) else nI 1) ∧ ((if zPr x then (if zisM v x then nI 0 else nI 2) else nI 1) = nI 0 → (nI (yfr (ypc C x.toNatClampNeg (-2)) C)) = (if zPr x && zisM v x then nI (zcB (zotw v x.toNatClampNeg) (vN v 44)) else nI 0) ∧ RG C (v)) ∧ ((if zPr x then (if zisM v x then nI 0 else nI 2) else nI 1) ≠ nI 0 → (v) = v) := by
  have H := h.1
  refine ⟨(by rw [H.isM]; cases zPr x <;> rfl), fun hT => ⟨?_, h⟩, fun _ => rfl⟩
  obtain ⟨hb, hc⟩ := t2_0 hT
  have hk : (zPr x && zisM v x) = true := by rw [hb, hc]; rfl
  rw [if_pos hk]
  obtain ⟨p, hp, e⟩ := zPr_of hb
  subst e
  have cp : (nI p).toNatClampNeg = p := nI_clamp (by omega)
  rw [cp]
  rw [yfr, H.n]
  refine congrArg nI (zcB_from H.vs (fun j hj => ?_) (fun j hj1 hj2 => ?_)).symm
  · have := H.now (show j < vN v 44 by have := H.vs; omega)
    rw [decide_eq_false (by omega)] at this
    unfold zotw; rw [this]; rfl
  · exact (H.plc h.2.1 hp hj1 hj2).2.symm
theorem br_disagreements {C : IX} {v : Rw} (h : RG C v) (x y : Int32) : (if zPr x && zPr y then nI 0 else nI 1) = (if zPr x && zPr y then nI 0 else nI 1) ∧ ((if zPr x && zPr y then nI 0 else nI 1) = nI 0 → (nI (yswS C x.toNatClampNeg y.toNatClampNeg (cN C (10 + x.toNatClampNeg) 4))) = (if zPr x && zPr y then nI (zdgO v x.toNatClampNeg y.toNatClampNeg (vN v (1550 + x.toNatClampNeg))) else nI 0) ∧ RG C (v)) ∧ ((if zPr x && zPr y then nI 0 else nI 1) ≠ nI 0 → (v) = v) := by
  have H := h.1
  refine ⟨rfl, fun hT => ⟨?_, h⟩, fun _ => rfl⟩
  have hb := t1_0 hT
  rw [if_pos hb]
  obtain ⟨h1, h2⟩ := Bool.and_eq_true_iff.mp hb
  obtain ⟨p, hp, e⟩ := zPr_of h1
  obtain ⟨q, hq, e2⟩ := zPr_of h2
  have cp : x.toNatClampNeg = p := by rw [e]; exact nI_clamp (by omega)
  have cq : y.toNatClampNeg = q := by rw [e2]; exact nI_clamp (by omega)
  rw [cp, cq, show cN C (10 + p) 4 = vN v (1550 + p) from congrArg Int32.toNatClampNeg (H.pp hp).1]
  exact congrArg nI (H.swap hp hq)
theorem br_known {C : IX} {v : Rw} (h : RG C v) (x y z : Int32) : (if zPr x && zPr y && zPr z then (if yisM C x then nI 0 else nI 2) else nI 1) = (if zPr x && zPr y && zPr z then (if zisM v x then nI 0 else nI 2) else nI 1) ∧ ((if zPr x && zPr y && zPr z then (if zisM v x then nI 0 else nI 2) else nI 1) = nI 0 → (yhrd C x.toNatClampNeg y.toNatClampNeg z.toNatClampNeg) = (if zPr x && zPr y && zPr z && zisM v x then v (4270 + 36 * x.toNatClampNeg + 6 * y.toNatClampNeg + z.toNatClampNeg) else nI 0) ∧ RG C (v)) ∧ ((if zPr x && zPr y && zPr z then (if zisM v x then nI 0 else nI 2) else nI 1) ≠ nI 0 → (v) = v) := by
  have H := h.1
  refine ⟨(by rw [H.isM]; cases zPr x <;> rfl), fun hT => ⟨?_, h⟩, fun _ => rfl⟩
  obtain ⟨hb, hc⟩ := t2_0 hT
  rw [if_pos (show (zPr x && zPr y && zPr z && zisM v x) = true by rw [hb, hc]; rfl)]
  obtain ⟨h0, h3⟩ := Bool.and_eq_true_iff.mp hb
  obtain ⟨h1, h2⟩ := Bool.and_eq_true_iff.mp h0
  obtain ⟨p, hp, e⟩ := zPr_of h1
  obtain ⟨q, hq, e2⟩ := zPr_of h2
  obtain ⟨r, hr, e3⟩ := zPr_of h3
  have cp : x.toNatClampNeg = p := by rw [e]; exact nI_clamp (by omega)
  have cq : y.toNatClampNeg = q := by rw [e2]; exact nI_clamp (by omega)
  have cr : z.toNatClampNeg = r := by rw [e3]; exact nI_clamp (by omega)
  rw [cp, cq, cr]
  exact (H.pp hp).hrd hq hr
theorem br_isStable {C : IX} {v : Rw} (h : RG C v) (x y : Int32) : (if zPr x && yhas C y then (if yisM C x then (if ylog C x.toNatClampNeg y.toNatClampNeg then nI 0 else nI 3) else nI 2) else nI 1) = (if zPr x && zMs v y then (if zisM v x then (if zlog v x.toNatClampNeg y.toNatClampNeg then nI 0 else nI 3) else nI 2) else nI 1) ∧ ((if zPr x && zMs v y then (if zisM v x then (if zlog v x.toNatClampNeg y.toNatClampNeg then nI 0 else nI 3) else nI 2) else nI 1) = nI 0 → (bI (yset C x.toNatClampNeg y.toNatClampNeg)) = (bI (decide ((if zPr x && zMs v y then (if zisM v x then (if zlog v x.toNatClampNeg y.toNatClampNeg then nI 0 else nI 3) else nI 2) else nI 1) = nI 0) && zsafe v x.toNatClampNeg y.toNatClampNeg)) ∧ RG C (v)) ∧ ((if zPr x && zMs v y then (if zisM v x then (if zlog v x.toNatClampNeg y.toNatClampNeg then nI 0 else nI 3) else nI 2) else nI 1) ≠ nI 0 → (v) = v) := by
  have H := h.1
  have eT : (if zPr x && yhas C y then (if yisM C x then (if ylog C x.toNatClampNeg y.toNatClampNeg then nI 0 else nI 3) else nI 2) else nI 1) = (if zPr x && zMs v y then (if zisM v x then (if zlog v x.toNatClampNeg y.toNatClampNeg then nI 0 else nI 3) else nI 2) else nI 1) := by
    rw [H.has, H.isM]
    cases hb : zPr x && zMs v y with
    | false => rfl
    | true =>
      obtain ⟨h1, h2⟩ := Bool.and_eq_true_iff.mp hb
      obtain ⟨p, hp, e⟩ := zPr_of h1
      obtain ⟨m, hm, hm2, e2⟩ := zMs_of H.wv h2
      have cp : x.toNatClampNeg = p := by rw [e]; exact nI_clamp (by omega)
      have cm : y.toNatClampNeg = m := by rw [e2]; exact nI_clamp (by omega)
      rw [h1, cp, cm, (H.pp hp).log hm2, Bool.true_and]
  refine ⟨eT, fun hT => ⟨?_, h⟩, fun _ => rfl⟩
  rw [decide_eq_true hT, Bool.true_and]
  have hbb : (zPr x && zMs v y) = true := by
    cases hb : zPr x && zMs v y with
    | true => rfl
    | false => rw [hb] at hT; exact absurd hT (show ¬ nI 1 = nI 0 by decide)
  obtain ⟨h1, h2⟩ := Bool.and_eq_true_iff.mp hbb
  obtain ⟨p, hp, e⟩ := zPr_of h1
  obtain ⟨m, hm, hm2, e2⟩ := zMs_of H.wv h2
  have cp : x.toNatClampNeg = p := by rw [e]; exact nI_clamp (by omega)
  have cm : y.toNatClampNeg = m := by rw [e2]; exact nI_clamp (by omega)
  rw [cp, cm, H.set hp hm]
theorem br_unstable {C : IX} {v : Rw} (h : RG C v) (x : Int32) : (if zPr x then (if yisM C x then nI 0 else nI 2) else nI 1) = (if zPr x then (if zisM v x then nI 0 else nI 2) else nI 1) ∧ ((if zPr x then (if zisM v x then nI 0 else nI 2) else nI 1) = nI 0 → (nI (yfr (yun C x.toNatClampNeg) C)) = (if zPr x && zisM v x then nI (zcB (zuns v x.toNatClampNeg) (vN v 44)) else nI 0) ∧ RG C (v)) ∧ ((if zPr x then (if zisM v x then nI 0 else nI 2) else nI 1) ≠ nI 0 → (v) = v) := by
  have H := h.1
  refine ⟨(by rw [H.isM]; cases zPr x <;> rfl), fun hT => ⟨?_, h⟩, fun _ => rfl⟩
  obtain ⟨hb, hc⟩ := t2_0 hT
  have hk : (zPr x && zisM v x) = true := by rw [hb, hc]; rfl
  rw [if_pos hk]
  obtain ⟨p, hp, e⟩ := zPr_of hb
  subst e
  have cp : (nI p).toNatClampNeg = p := nI_clamp (by omega)
  rw [cp]
  rw [yfr, H.n]
  refine congrArg nI (zcB_from H.vs (fun j hj => ?_) (fun j hj1 hj2 => ?_)).symm
  · have := H.now (show j < vN v 44 by have := H.vs; omega)
    rw [decide_eq_false (by omega)] at this
    unfold zuns zsafe; rw [this]; simp
  · have hn := H.n150
    unfold zuns yun; rw [H.set hp hj2, (H.pp hp).log (by omega)]
theorem br_isEverywhere {C : IX} {v : Rw} (h : RG C v) (x : Int32) : (if yhas C x then nI 0 else nI 1) = (if zMs v x then nI 0 else nI 1) ∧ ((if zMs v x then nI 0 else nI 1) = nI 0 → (bI (ywa C x.toNatClampNeg)) = (bI (zMs v x && zwith v x.toNatClampNeg)) ∧ RG C (v)) ∧ ((if zMs v x then nI 0 else nI 1) ≠ nI 0 → (v) = v) := by
  have H := h.1
  refine ⟨(by rw [H.has]), fun hT => ⟨?_, h⟩, fun _ => rfl⟩
  have hb := t1_0 hT
  rw [hb, Bool.true_and]
  obtain ⟨m, hm, hm2, e⟩ := zMs_of H.wv hb
  have cm : x.toNatClampNeg = m := by rw [e]; exact nI_clamp (by omega)
  rw [cm]
  rw [H.wa hm]
theorem br_firstUnaware {C : IX} {v : Rw} (h : RG C v) (x : Int32) : (if yhas C x then (if yfn C x.toNatClampNeg = -1 then nI 2 else nI 0) else nI 1) = (if zMs v x then (if zwith v x.toNatClampNeg && decide (zfst (zfuF v x.toNatClampNeg) 6 < 6) then nI 0 else nI 2) else nI 1) ∧ ((if zMs v x then (if zwith v x.toNatClampNeg && decide (zfst (zfuF v x.toNatClampNeg) 6 < 6) then nI 0 else nI 2) else nI 1) = nI 0 → (yfn C x.toNatClampNeg) = (if zMs v x && zwith v x.toNatClampNeg then (if zfst (zfuF v x.toNatClampNeg) 6 < 6 then nI (zfst (zfuF v x.toNatClampNeg) 6) else nI 0) else nI 0) ∧ RG C (v)) ∧ ((if zMs v x then (if zwith v x.toNatClampNeg && decide (zfst (zfuF v x.toNatClampNeg) 6 < 6) then nI 0 else nI 2) else nI 1) ≠ nI 0 → (v) = v) := by
  have H := h.1
  have eT : (if yhas C x then (if yfn C x.toNatClampNeg = -1 then nI 2 else nI 0) else nI 1) = (if zMs v x then (if zwith v x.toNatClampNeg && decide (zfst (zfuF v x.toNatClampNeg) 6 < 6) then nI 0 else nI 2) else nI 1) := by
    rw [H.has]
    cases hb : zMs v x with
    | false => rfl
    | true =>
      obtain ⟨m, hm, hm2, e⟩ := zMs_of H.wv hb
      have cm : x.toNatClampNeg = m := by rw [e]; exact nI_clamp (by omega)
      rw [if_pos rfl, if_pos rfl, cm, yfn, H.wa hm, H.fu hm]
      cases hz : zwith v m && decide (zfst (zfuF v m) 6 < 6) with
      | false =>
        show (if (-1 : Int32) = -1 then nI 2 else nI 0) = nI 2
        exact if_pos rfl
      | true =>
        have h6 := of_decide_eq_true (Bool.and_eq_true_iff.mp hz).2
        rw [if_pos rfl, if_pos rfl, if_neg (nI_nm1 (by omega))]
  refine ⟨eT, fun hT => ⟨?_, h⟩, fun _ => rfl⟩
  obtain ⟨hb, hc⟩ := t2_0 hT
  obtain ⟨h1, h2⟩ := Bool.and_eq_true_iff.mp hc
  rw [if_pos (show (zMs v x && zwith v x.toNatClampNeg) = true by rw [hb, h1]; rfl), if_pos (of_decide_eq_true h2)]
  obtain ⟨m, hm, hm2, e⟩ := zMs_of H.wv hb
  have cm : x.toNatClampNeg = m := by rw [e]; exact nI_clamp (by omega)
  rw [cm] at hc
  rw [cm, yfn, H.wa hm, H.fu hm, if_pos hc]
theorem br_message {C : IX} {v : Rw} (h : RG C v) (x y : Int32) : (if yhas C x then (if zisIn y (nI 0) (nI 3) then nI 0 else nI 2) else nI 1) = (if zMs v x then (if zisIn y (nI 0) (nI 3) then nI 0 else nI 2) else nI 1) ∧ ((if zMs v x then (if zisIn y (nI 0) (nI 3) then nI 0 else nI 2) else nI 1) = nI 0 → ((if y = nI 0 then C 4 x.toNatClampNeg else if y = nI 1 then C 5 x.toNatClampNeg else if y = nI 2 then C 6 x.toNatClampNeg else C 7 x.toNatClampNeg)) = (if zMs v x && zisIn y (nI 0) (nI 3) then zmsg v x.toNatClampNeg y else nI 0) ∧ RG C (v)) ∧ ((if zMs v x then (if zisIn y (nI 0) (nI 3) then nI 0 else nI 2) else nI 1) ≠ nI 0 → (v) = v) := by
  have H := h.1
  refine ⟨(by rw [H.has]), fun hT => ⟨?_, h⟩, fun _ => rfl⟩
  obtain ⟨hb, hc⟩ := t2_0 hT
  rw [if_pos (show (zMs v x && zisIn y (nI 0) (nI 3)) = true by rw [hb, hc]; rfl)]
  obtain ⟨m, hm, hm2, e⟩ := zMs_of H.wv hb
  have cm : x.toNatClampNeg = m := by rw [e]; exact nI_clamp (by omega)
  rw [cm]
  have g := H.m m hm
  unfold zmsg
  rw [g.1, g.2.1, g.2.2.1, g.2.2.2.1, ← i0]
