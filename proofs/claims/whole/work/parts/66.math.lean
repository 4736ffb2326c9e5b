/-! install: forced deliveries -/
theorem zheld_del {v : Rw} {p m i : Nat} {s : Int32} (hp : p < 6) (hi : i < 150) (hm : m < 150) (hl : vN v (1550 + p) < 150) (hne : i ≠ m) : zheld (zdeliv v p m) i s = zheld v i s := by
  unfold zheld
  refine zany_cong (fun q hq => ?_)
  rw [zdeliv_log hp hq hi hm hl, if_neg (fun e => hne e.2)]
theorem force_pair {C : IX} {v : Rw} (h : R0 C v) {p : Nat} (hp : p < 6) (s : Int32) : (zforce v p s).2 = (yup (yFf p s) p (cN C 100 6) C (cN C 2 6 - cN C 100 6)).2 ∧ R0 (yup (yFf p s) p (cN C 100 6) C (cN C 2 6 - cN C 100 6)).1 (zforce v p s).1 := by
  have hu := up_all (F := zFf p s) (G := yFf p s) (P := R0) hp (fun _ _ q => q)
    (fun C v m h hv hm => by
      have hn := h.n150
      unfold yFf zFf ylgA zheld
      rw [h.rdy hp hv hm, Bool.and_comm, zany_cong (fun q hq => by rw [(h.pp hq).log (by omega)])])
    (fun C v m h hv hm hF => by
      have hn := h.n150
      unfold zFf at hF
      obtain ⟨hd, hh⟩ := Bool.and_eq_true_iff.mp hF
      have hl := (zdel_of hd).2.1
      have hlen := h.len hp (show m < 150 by omega) hl
      refine ⟨R0_del h hp hv hm hd, fun i hi hlow => ?_⟩
      unfold zFf
      by_cases e : i = m
      · subst e
        have : zlog (zdeliv v p i) p i = true := by rw [zdeliv_log hp hp (by omega) (by omega) hlen, if_pos ⟨rfl, rfl⟩]
        unfold zdel
        rw [this]; simp
      · have h2 := hlow (by omega)
        unfold zFf at h2
        rw [zheld_del hp (by omega) (by omega) hlen e]
        cases hz : zdel v p i with
        | false => rw [del_mono h hp hv hm hd (by omega) hz]; rfl
        | true => rw [hz, Bool.true_and] at h2; rw [h2, Bool.and_false])
    (j := cN C 100 6) h (Nat.le_refl _) h.vs (fun i hi => by
      have := h.now (show i < vN v 44 by have := h.vs; omega)
      rw [decide_eq_false (by omega)] at this
      unfold zFf zdel; rw [this]; simp)
  rw [h.n]
  exact ⟨hu.1, hu.2.1⟩
theorem fo_pair {C : IX} {v : Rw} (h : R0 C v) (s : Int32) : ∀ {k : Nat}, k ≤ 6 → (zin2 s v k).2 = (yfo C s k).2 ∧ R0 (yfo C s k).1 (zin2 s v k).1
  | 0, _ => ⟨rfl, h⟩
  | k + 1, hk => by
    obtain ⟨i1, i2⟩ := fo_pair h s (k := k) (by omega)
    rcases hE : yfo C s k with ⟨E, c⟩
    rw [hE] at i1 i2
    dsimp only at i1 i2
    cases hz : zbit s (nI k) with
    | false => rw [zin2_f hz, yfo_f hE hz]; exact ⟨i1, i2⟩
    | true =>
      obtain ⟨f1, f2⟩ := force_pair i2 (show k < 6 by omega) s
      rw [zin2_t hz, yfo_t hE hz]
      dsimp only
      exact ⟨by rw [i1, f1], f2⟩
/-! newcomers -/
theorem ycl_at {C : IX} {p : Nat} {g1 g2 g3 : Nat → Int32} (hp : p < 6) : (∀ k, k ≠ 10 + p → k ≠ 20 + p → k ≠ 30 + p → ycl C p g1 g2 g3 k = C k) ∧ ycl C p g1 g2 g3 (10 + p) = upd (upd (C (10 + p)) 4 (g1 4)) 5 (g1 5) ∧ ycl C p g1 g2 g3 (20 + p) = ycy g2 (C (20 + p)) 150 ∧ ycl C p g1 g2 g3 (30 + p) = ycy g3 (C (30 + p)) 150 := by
  refine ⟨fun k h1 h2 h3 => ?_, ?_, ?_, ?_⟩
  · rw [ycl, va_up_ne _ _ h1, ycl3, va_up_ne _ _ h1, ycl2, va_up_ne _ _ h3, ycl1, va_up_ne _ _ h2]
  · rw [ycl, va_up_self, ycl3, va_up_self, ycl2, va_up_ne _ _ (by omega), ycl1, va_up_ne _ _ (by omega)]
  · rw [ycl, va_up_ne _ _ (by omega), ycl3, va_up_ne _ _ (by omega), ycl2, va_up_ne _ _ (by omega), ycl1, va_up_self]
  · rw [ycl, va_up_ne _ _ (by omega), ycl3, va_up_ne _ _ (by omega), ycl2, va_up_self, ycl1, va_up_ne _ _ (by omega)]
theorem cp_pair {C : IX} {v : Rw} (h : R0 C v) {p d : Nat} (hp : p < 6) (hd : d < 6) (hpd : p ≠ d) : R0 (ycl C p (C (10 + d)) (C (20 + d)) (C (30 + d))) (zcp v p d) := by
  obtain ⟨y1, y2, y3, y4⟩ := ycl_at (C := C) (g1 := C (10 + d)) (g2 := C (20 + d)) (g3 := C (30 + d)) hp
  have at_ := zcp_at hp hd hpd v
  have hn := h.n150
  have lo : ∀ k, k < 1550 → zcp v p d k = v k := fun k hk => by rw [at_, if_neg (by omega), if_neg (by omega), if_neg (by omega), if_neg (by omega)]
  have n44 : vN (zcp v p d) 44 = vN v 44 := vN_eq (lo 44 (by omega))
  have ylo : ∀ k, (k < 10 ∨ k = 100) → ycl C p (C (10 + d)) (C (20 + d)) (C (30 + d)) k = C k := fun k hk => y1 k (by omega) (by omega) (by omega)
  have c6 : cN (ycl C p (C (10 + d)) (C (20 + d)) (C (30 + d))) 100 6 = cN C 100 6 := cN_row (ylo 100 (by omega))
  have hck : ∀ a b, a < 6 → b < 6 → zclk (zcp v p d) a b = zclk v a b := fun a b ha hb => by
    unfold zclk
    rw [at_, if_neg (by omega), if_neg (by omega), if_neg (by omega), if_neg (by omega)]
  have hld := h.wv.l150 hd
  have hWC : WC (ycl C p (C (10 + d)) (C (20 + d)) (C (30 + d))) := by
    have hC := h.wc
    refine ⟨?_, ?_, ?_, fun q hq => ?_, fun m hm => ?_, fun q hq => ?_, fun q i hq hi => ?_⟩
    · unfold cN; rw [ylo 100 (by omega)]; exact hC.1
    · unfold cN; rw [ylo 100 (by omega)]; exact hC.2.1
    · unfold cN; rw [ylo 2 (by omega)]; exact hC.2.2.1
    · by_cases e : q = p
      · subst e; rw [y2, upd_at, if_neg (by omega), upd_at, if_neg (by omega)]; exact hC.self hq
      · rw [y1 _ (by omega) (by omega) (by omega)]; exact hC.self hq
    · unfold cN; rw [ylo 4 (by omega)]; exact hC.2.2.2.2.1 m hm
    · by_cases e : q = p
      · subst e; unfold cN; rw [y2, upd_at, if_neg (by omega), upd_at, if_pos rfl]; exact hC.2.2.2.2.2.1 d hd
      · unfold cN; rw [y1 _ (by omega) (by omega) (by omega)]; exact hC.2.2.2.2.2.1 q hq
    · by_cases e : q = p
      · subst e; unfold cN; rw [y3, ycy_in hi]; exact hC.2.2.2.2.2.2 d i hd hi
      · unfold cN; rw [y1 _ (by omega) (by omega) (by omega)]; exact hC.2.2.2.2.2.2 q i hq hi
  refine ⟨⟨hWC, WV_cp h.wv hp hd hpd⟩, RLw_lo h.w h.wc h.wv ylo lo, fun q hq => ?_, fun a b ha hb => ?_, fun k hk1 hk2 => ?_, fun a b h1 h2 h3 => ?_⟩
  · rw [n44]
    by_cases e : q = p
    · subst e
      obtain ⟨g1, g2, g3, g4, g5, g6, g7⟩ := h.pp hd
      obtain ⟨f1, f2, f3, f4, f5, f6, f7⟩ := h.pp hq
      have el : zcp v q d (1550 + q) = v (1550 + d) := by rw [at_, if_neg (by omega), if_neg (by omega), if_neg (by omega), if_pos rfl]
      have nl : vN (zcp v q d) (1550 + q) = vN v (1550 + d) := congrArg Int32.toNatClampNeg el
      have lg : ∀ i, i < 150 → zcp v q d (1560 + 150 * q + i) = v (1560 + 150 * d + i) := fun i hi => by rw [at_, if_pos (by omega), show 1560 + 150 * q + i - (1560 + 150 * q) = i by omega]
      have zl : ∀ j, j < 150 → zlog (zcp v q d) q j = zlog v d j := fun j hj => by
        unfold zlog
        rw [at_, if_neg (by omega), if_pos (by omega), show 2460 + 150 * q + j - (2460 + 150 * q) = j by omega]
      have yl : ∀ j, j < 150 → ylog (ycl C q (C (10 + d)) (C (20 + d)) (C (30 + d))) q j = ylog C d j := fun j hj => by unfold ylog; rw [y4, ycy_in hj]
      refine ⟨?_, ?_, fun i hi => ?_, fun j hj => ?_, fun j hj => ⟨?_, fun hj2 => ⟨?_, ?_⟩⟩, fun i hi => ?_, fun j hj hz => ?_⟩
      · rw [y2, upd_at, if_neg (by omega), upd_at, if_pos rfl, el]; exact g1
      · rw [y2, upd_at, if_pos rfl, at_, if_neg (by omega), if_neg (by omega), if_pos rfl]; exact g2
      · rw [nl] at hi
        rw [y3, ycy_in (by omega), lg i (by omega)]; exact g3 i hi
      · rw [y1 _ (by omega) (by omega) (by omega), at_, if_neg (by omega), if_neg (by omega), if_neg (by omega), if_neg (by omega)]; exact f4 j hj
      · rw [yl j hj, zl j hj]; exact (g5 j hj).1
      · rw [y4, ycy_in hj]; exact ((g5 j hj).2 hj2).1
      · rw [at_, if_neg (by omega), if_neg (by omega), if_neg (by omega), if_neg (by omega)]; exact ((f5 j hj).2 hj2).2
      · rw [nl] at hi
        have e1 : vN (zcp v q d) (1560 + 150 * q + i) = vN v (1560 + 150 * d + i) := congrArg Int32.toNatClampNeg (lg i (by omega))
        rw [e1, y4]
        obtain ⟨k1, k2⟩ := g6 i hi
        rw [ycy_in (by omega)]
        exact ⟨k1, k2⟩
      · rw [zl j (by omega)] at hz
        obtain ⟨i, k1, k2, k3⟩ := g7 j hj hz
        exact ⟨i, by rw [nl]; exact k1, by rw [y4, ycy_in (by omega)]; exact k2, by rw [lg i (by omega)]; exact k3⟩
    · refine PP_cong (h.pp hq) hn (h.wv.l150 hq) ⟨y1 _ (by omega) (by omega) (by omega), y1 _ (by omega) (by omega) (by omega), y1 _ (by omega) (by omega) (by omega), y1 _ (by omega) (by omega) (by omega)⟩ (fun k hk => ?_)
      rw [at_, if_neg (by omega), if_neg (by omega), if_neg (by omega), if_neg (by omega)]
  · rw [hck a b ha hb, hck b b hb hb, lo 44 (by omega)]; exact h.kc a b ha hb
  · rw [c6] at hk1
    rw [n44] at hk2
    have := h.km k hk1 hk2
    have h7 := h.wv.s6 (show k < 150 by omega)
    rw [vN_eq (lo (50 + k) (by omega)), lo (650 + 6 * k + vN v (50 + k)) (by omega), lo (500 + k) (by omega)]
    refine ⟨this.1, fun q hq => ?_⟩
    rw [lo _ (by omega), hck q q hq hq]; exact this.2 q hq
  · rw [c6] at h1
    rw [n44] at h3
    have h7 := h.wv.s6 (show b < 150 by omega)
    rw [vN_eq (lo (50 + b) (by omega)), lo (650 + 6 * a + vN v (50 + b)) (by omega), lo (500 + b) (by omega)]
    exact h.ko a b h1 h2 h3
theorem wel_pair {C : IX} {v : Rw} (h : R0 C v) {d : Nat} (hd : d < 6) (hm : zisM v (nI d) = true) : ∀ {k : Nat}, k ≤ 6 → R0 (ywel (v 43 &&& (zmem v ^^^ (-1))) d C k) (zin3 d v k)
  | 0, _ => h
  | k + 1, hk => by
    have ih := wel_pair h hd hm (k := k) (by omega)
    have lo : ∀ j, j < 1550 → zin3 d v k j = v j := fun j hj => zin3_lo hj k
    have e1 : zskip (zin3 d v k) k = !zbit (v 43 &&& (zmem v ^^^ (-1))) (nI k) := by
      unfold zskip zisM
      rw [lo 43 (by omega), zmem_lo h.wv lo, zbit_0 _ (by omega), zbit_bt _ (by omega), zbit_bt _ (by omega), b_and, b_xor, b_m1 k (by omega)]
      cases bt (v 43) k <;> cases bt (zmem v) k <;> rfl
    cases hz : zbit (v 43 &&& (zmem v ^^^ (-1))) (nI k) with
    | false => rw [hz] at e1; rw [ywel_f rfl hz, zin3_t e1]; exact ih
    | true =>
      rw [hz] at e1
      rw [ywel_t rfl hz, zin3_f e1]
      refine cp_pair ih (by omega) hd (fun e => ?_)
      subst e
      rw [zbit_bt _ (by omega), b_and, b_xor, b_m1 k (by omega)] at hz
      unfold zisM at hm
      rw [zbit_bt _ (by omega)] at hm
      rw [hm] at hz
      simp at hz
theorem ylw_eq {C : IX} {v : Rw} (h : R0 C v) : ylw (ysv C) = zlwN (zsv v) := by
  obtain ⟨-, h2, h3, h4⟩ := h.ws.low
  have e : ysv C = zsv v := by unfold ysv zsv; rw [h.mem, h.hd.2.1]
  unfold ylw
  rw [e]
  by_cases e5 : zlwN (zsv v) = 5
  · rw [e5]; exact zfst_no (fun j hj => h4 j (by omega))
  · exact zfst_at (fun j hj => h4 j hj) h3 (by omega)
theorem RG.yws {C : IX} {v : Rw} (h : RG C v) : yWS C := by
  obtain ⟨-, h2, h3, h4⟩ := h.1.ws.low
  have e : ysv C = zsv v := by unfold ysv zsv; rw [h.1.mem, h.1.hd.2.1]
  unfold yWS
  rw [ylw_eq h.1, e]; exact h3
/-! the new view -/
theorem yff_at {C : IX} : ∀ {n : Nat}, n ≤ 6 → (∀ k, (∀ p, p < n → k ≠ 40 + p) → yffL C n k = C k) ∧ ∀ p, p < n → ∀ j, j < 36 → yffL C n (40 + p) j = nI 0
  | 0, _ => ⟨fun _ _ => rfl, fun p hp => absurd hp (Nat.not_lt_zero _)⟩
  | n + 1, hn => by
    obtain ⟨i1, i2⟩ := yff_at (C := C) (n := n) (by omega)
    refine ⟨fun k hk => ?_, fun p hp j hj => ?_⟩
    · rw [yffL, yff, va_up_ne _ _ (hk n (by omega))]; exact i1 k (fun p hp => hk p (by omega))
    · rw [yffL, yff]
      by_cases e : p = n
      · subst e; rw [va_up_self]; exact if_pos hj
      · rw [va_up_ne _ _ (by omega)]; exact i2 p (by omega) j hj
theorem new_view {C : IX} {v : Rw} (h : R0 C v) (h20 : vN v 42 < 20) (c : Int32) {D : IX}
    (hD : (D 100 4 = nI (vN v 42 + 1) ∧ D 100 5 = C 100 5 ∧ D 100 6 = C 2 6 ∧ D 100 7 = C 100 7) ∧ D 0 = upd (C 0) (vN v 42 + 1) (C 100 5) ∧ D 1 = upd (C 1) (vN v 42 + 1) c ∧ (∀ k, (2 ≤ k ∧ k < 40) → D k = C k) ∧ ∀ p, p < 6 → ∀ j, j < 36 → D (40 + p) j = nI 0) : RG D (zztab (zin4 v c) 216) := by
  obtain ⟨⟨d4, d5, d6, d7⟩, dm, df, dk, dt⟩ := hD
  have hn := h.n150
  have hv := h.wv
  have at4 : ∀ k, zin4 v c k = if k = 21 + (vN v 42 + 1) then c else if k = vN v 42 + 1 then v 43 else if k = 42 then v 42 + nI 1 else v k := by
    intro k
    unfold zin4
    rw [upd_at]
    by_cases e1 : k = 21 + (vN v 42 + 1)
    · rw [if_pos e1, if_pos e1]
    · rw [if_neg e1, if_neg e1, upd_at]
      by_cases e2 : k = vN v 42 + 1
      · rw [if_pos e2, if_pos e2, upd_at, if_neg (by omega)]
      · rw [if_neg e2, if_neg e2, upd_at]
  have atw : ∀ k, zztab (zin4 v c) 216 k = if 4270 ≤ k ∧ k < 4270 + 216 then nI 0 else if k = 21 + (vN v 42 + 1) then c else if k = vN v 42 + 1 then v 43 else if k = 42 then v 42 + nI 1 else v k := by
    intro k
    show (if 4270 ≤ k ∧ k < 4270 + 216 then nI 0 else zin4 v c k) = _
    rw [at4]
  generalize zztab (zin4 v c) 216 = w at atw ⊢
  have mid : ∀ k, (43 ≤ k ∧ k < 4270) → w k = v k := fun k hk => by rw [atw, if_neg (by omega), if_neg (by omega), if_neg (by omega), if_neg (by omega)]
  have w42 : w 42 = nI (vN v 42 + 1) := by rw [atw, if_neg (by omega), if_neg (by omega), if_neg (by omega), if_pos rfl, hv.vw, nI_add]
  have n42 : vN w 42 = vN v 42 + 1 := vN_nI w42 (by omega)
  have n44 : vN w 44 = vN v 44 := vN_eq (mid 44 (by omega))
  have wm : zmem w = v 43 := by unfold zmem; rw [n42, atw, if_neg (by omega), if_neg (by omega), if_pos rfl]
  have w43 : w 43 = v 43 := mid 43 (by omega)
  have ck : ∀ a b, a < 6 → b < 6 → zclk w a b = nI 0 := fun a b ha hb => by unfold zclk; rw [atw, if_pos (by omega)]
  have hWV : WV w := by
    refine ⟨⟨by rw [w42, n42], by rw [n42]; omega⟩, by rw [n44, mid 44 (by omega)]; exact hv.2.1, fun m hm => ?_, fun p hp => ?_, fun p i hp hi => ?_⟩
    · rw [vN_eq (mid (50 + m) (by omega)), mid (50 + m) (by omega)]; exact hv.2.2.1 m hm
    · have e : zmu w p = zmu v p := zcB_cong (fun j hj => by unfold zlog; rw [mid _ (by omega)])
      rw [e, vN_eq (mid (1550 + p) (by omega)), mid (1550 + p) (by omega)]; exact hv.2.2.2.1 p hp
    · rw [vN_eq (mid (1560 + 150 * p + i) (by omega)), mid (1560 + 150 * p + i) (by omega)]; exact hv.2.2.2.2 p i hp hi
  have c6 : cN D 100 6 = vN v 44 := by unfold cN; rw [d6, h.hd.2.2.2]; rfl
  have hWC : WC D := by
    have hC := h.wc
    refine ⟨?_, ?_, ?_, fun q hq => ?_, fun m hm => ?_, fun q hq => ?_, fun q i hq hi => ?_⟩
    · have : cN D 100 4 = vN v 42 + 1 := by unfold cN; rw [d4]; exact nI_clamp (by omega)
      rw [this]; exact ⟨d4, by omega⟩
    · rw [c6, d6, h.hd.2.2.2]; exact ⟨hv.n, hn⟩
    · unfold cN; rw [dk 2 (by omega)]; exact hC.2.2.1
    · rw [dk _ (by omega)]; exact hC.self hq
    · unfold cN; rw [dk 4 (by omega)]; exact hC.2.2.2.2.1 m hm
    · unfold cN; rw [dk _ (by omega)]; exact hC.2.2.2.2.2.1 q hq
    · unfold cN; rw [dk _ (by omega)]; exact hC.2.2.2.2.2.2 q i hq hi
  have hWS : WS w := by
    have hs := h.ws
    unfold WS at hs ⊢
    obtain ⟨a, ha, hz⟩ := zany_of hs
    refine zany_t (k := a) ?_ ha
    have := (zsv_mem ha hz).2
    unfold zsv
    rw [wm, w43, zbit_bt _ (by omega), b_and, ← zbit_bt _ (by omega), this]; rfl
  have e6 : ∀ m, m < vN v 44 → D 6 m = C 6 m ∧ D 4 m = C 4 m ∧ D 7 m = C 7 m := fun m _ => by rw [dk 6 (by omega), dk 4 (by omega), dk 7 (by omega)]; exact ⟨rfl, rfl, rfl⟩
  refine ⟨⟨⟨hWC, hWV⟩, ⟨⟨hWS, by rw [w43]; exact h.ks.1, by rw [wm]; exact h.ks.1⟩, ⟨d4.trans w42.symm, by rw [d5, w43]; exact h.hd.2.1, by rw [d7, mid 45 (by omega)]; exact h.hd.2.2.1, by rw [dk 2 (by omega), mid 44 (by omega)]; exact h.hd.2.2.2⟩, ⟨fun j hj => ?_, ?_⟩, fun m hm => ?_, fun m hm => ?_, ⟨?_, fun m hm => ?_⟩⟩, fun p hp => ?_, fun a b ha hb => ?_, fun m h1 h2 => ?_, fun a b h1 h2 h3 => ?_⟩, fun p m hp h1 h2 => ?_, fun p m hp h1 h2 => ?_⟩
  · rw [n42] at hj
    rw [dm, df, upd_at, upd_at]
    by_cases e : j = vN v 42 + 1
    · rw [if_pos e, if_pos e, atw j, if_neg (by omega), if_neg (by omega), if_pos e, atw (21 + j), if_neg (by omega), if_pos (by omega), h.hd.2.1]
      exact ⟨rfl, rfl⟩
    · rw [if_neg e, if_neg e, atw j, if_neg (by omega), if_neg (by omega), if_neg (by omega), if_neg (by omega), atw (21 + j), if_neg (by omega), if_neg (by omega), if_neg (by omega), if_neg (by omega)]
      exact h.vw.1 j (by omega)
  · rw [atw, if_neg (by omega), if_neg (by omega), if_neg (by omega), if_neg (by omega)]; exact h.vw.2
  · rw [n44] at hm
    have g := h.m m hm
    rw [dk 4 (by omega), dk 5 (by omega), dk 6 (by omega), dk 7 (by omega), dk 9 (by omega), mid (50 + m) (by omega), mid (200 + m) (by omega), mid (350 + m) (by omega), mid (500 + m) (by omega)]
    refine ⟨g.1, g.2.1, g.2.2.1, g.2.2.2.1, fun q hq => ?_⟩
    rw [mid _ (by omega)]; exact g.2.2.2.2 q hq
  · rw [n44] at hm
    have e : ygdb D m m = ygdb C m m := ygdb_cong (fun k hk => by rw [dk 6 (by omega), dk 4 (by omega), dk 7 (by omega)]; exact ⟨rfl, rfl, rfl⟩) (fun q => Or.inl (by rw [dk 9 (by omega)])) (fun k _ => by rw [dk 8 (by omega)]) (fun k hk => h.wc.s6 (by omega)) (Nat.le_refl _)
    rw [dk 8 (by omega), e]; exact h.d m hm
  · rw [c6, n44]; exact Nat.le_refl _
  · rw [n44] at hm
    have g := (h.kv.2 m hm).1
    rw [mid (350 + m) (by omega), w42, c6]
    rw [hv.vw, le_I, nI_toInt (by omega)] at g
    refine ⟨by rw [le_I, nI_toInt (by omega)]; omega, fun q => by omega, fun q => ?_⟩
    rw [eq_I, nI_toInt (by omega)] at q
    omega
  · rw [n44]
    obtain ⟨g1, g2, g3, g4, g5, g6, g7⟩ := h.pp hp
    have nl : vN w (1550 + p) = vN v (1550 + p) := vN_eq (mid _ (by omega))
    have hl := hv.l150 hp
    refine ⟨?_, ?_, fun i hi => ?_, fun j hj => ?_, fun j hj => ⟨?_, fun hj2 => ?_⟩, fun i hi => ?_, fun j hj hz => ?_⟩
    · rw [dk _ (by omega), mid _ (by omega)]; exact g1
    · rw [dk _ (by omega), mid _ (by omega)]; exact g2
    · rw [nl] at hi; rw [dk _ (by omega), mid _ (by omega)]; exact g3 i hi
    · rw [dt p hp j hj, atw, if_pos (by omega)]
    · unfold ylog zlog; rw [dk _ (by omega), mid _ (by omega)]; exact (g5 j hj).1
    · rw [dk _ (by omega), mid _ (by omega)]; exact (g5 j hj).2 hj2
    · rw [nl] at hi; rw [vN_eq (mid _ (by omega)), dk _ (by omega)]; exact g6 i hi
    · have hz2 : zlog v p j = true := by unfold zlog at hz ⊢; rw [mid _ (by omega)] at hz; exact hz
      obtain ⟨i, k1, k2, k3⟩ := g7 j hj hz2
      exact ⟨i, by rw [nl]; exact k1, by rw [dk _ (by omega)]; exact k2, by rw [mid _ (by omega)]; exact k3⟩
  · rw [ck a b ha hb, ck b b hb hb, mid 44 (by omega), hv.n]
    exact ⟨by rw [le_I]; omega, nI_le (by omega) (by omega)⟩
  · rw [c6] at h1; rw [n44] at h2; omega
  · rw [c6] at h1; rw [n44] at h3; omega
  · rw [c6] at h1; rw [n44] at h2; omega
  · rw [c6] at h1; rw [n44] at h2; omega
theorem inst_pair {C : IX} {v : Rw} (h : RG C v) (hT : zinT v = false) : ychN C = zinC v ∧ RG (ych C) (zinV v) := by
  have H := h.1
  have h20 : vN v 42 < 20 := by
    have := H.wv.vw20
    have h2 := of_decide_eq_false hT
    rw [H.wv.vw] at h2
    have : vN v 42 ≠ 20 := fun q => h2 (by rw [q])
    omega
  obtain ⟨-, l2, l3, l4⟩ := H.ws.low
  have es : ysv C = zsv v := by unfold ysv zsv; rw [H.mem, H.hd.2.1]
  obtain ⟨f1, f2⟩ := fo_pair H (zsv v) (k := 6) (by omega)
  have eN : ychN C = zinC v := by unfold ychN zinC; rw [es]; exact f1.symm
  have fm := (zsv_mem l2 l3).1
  have lo2 : ∀ j, j < 1550 → (zin2 (zsv v) v 6).1 j = v j := fun j hj => zin2_lo hj 6
  have fm2 : zisM (zin2 (zsv v) v 6).1 (nI (zlwN (zsv v))) = true := by unfold zisM at fm ⊢; rw [zmem_lo H.wv lo2]; exact fm
  have hw := wel_pair f2 l2 fm2 (k := 6) (by omega)
  have eB : ycB C = ywel ((zin2 (zsv v) v 6).1 43 &&& (zmem (zin2 (zsv v) v 6).1 ^^^ (-1))) (zlwN (zsv v)) (yfo C (zsv v) 6).1 6 := by
    unfold ycB ycA
    rw [ylw_eq H, es, f2.mem, f2.hd.2.1]
  have hR : R0 (ycB C) (zinW v) := by rw [eB]; exact hw
  have n42 := zinW_42 v
  have eC : cN C 100 4 = vN v 42 := H.vn
  refine ⟨eN, ?_⟩
  have hn := new_view hR (by rw [n42]; exact h20) (zinC v) (D := ych C) ?_
  · exact hn
  have clo : ∀ j, (j < 10 ∨ j = 100) → ycB C j = C j := fun j hj => ycB_lo H.wc hj
  obtain ⟨b1, b2⟩ := yff_at (C := va_up (ycE C) 100 (upd (ycE C 100) 6 (ycE C 2 6))) (n := 6) (by omega)
  have hi : ∀ k, (k < 40 ∨ k = 100) → ych C k = va_up (ycE C) 100 (upd (ycE C 100) 6 (ycE C 2 6)) k := fun k hk => b1 k (fun p hp => by omega)
  have e100 : ycE C 100 = upd (ycB C 100) 4 (ycB C 100 4 + nI 1) := by
    rw [ycE, va_up_ne _ _ (by omega), ycD, va_up_ne _ _ (by omega), ycC, va_up_self]
  have eo : ∀ k, k ≠ 100 → k ≠ 0 → k ≠ 1 → ycE C k = ycB C k := fun k h1 h2 h3 => by
    rw [ycE, va_up_ne _ _ h3, ycD, va_up_ne _ _ h2, ycC, va_up_ne _ _ h1]
  rw [n42]
  refine ⟨⟨?_, ?_, ?_, ?_⟩, ?_, ?_, fun k hk => ?_, fun p hp j hj => b2 p hp j hj⟩
  · rw [hi 100 (by omega), va_up_self, upd_at, if_neg (by omega), e100, upd_at, if_pos rfl, hR.hd.1, hR.wv.vw, n42, nI_add]
  · rw [hi 100 (by omega), va_up_self, upd_at, if_neg (by omega), e100, upd_at, if_neg (by omega)]
  · rw [hi 100 (by omega), va_up_self, upd_at, if_pos rfl, eo 2 (by omega) (by omega) (by omega)]
  · rw [hi 100 (by omega), va_up_self, upd_at, if_neg (by omega), e100, upd_at, if_neg (by omega)]
  · rw [hi 0 (by omega), va_up_ne _ _ (by omega), ycE, va_up_ne _ _ (by omega), ycD, va_up_self, ycC, va_up_ne _ _ (by omega), va_up_self, upd_at, if_neg (by omega), eC]
  · rw [hi 1 (by omega), va_up_ne _ _ (by omega), ycE, va_up_self, ycD, va_up_ne _ _ (by omega), ycC, va_up_ne _ _ (by omega), eC, ← eN]
    rfl
  · rw [hi k (by omega), va_up_ne _ _ (by omega), eo k (by omega) (by omega) (by omega)]
