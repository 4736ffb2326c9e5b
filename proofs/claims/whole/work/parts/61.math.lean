/-! arrivals -/
theorem zdel_cong {v w : Rw} {p m : Nat} (hm : m < 150) (h6 : vN v (50 + m) < 6) (lo : ∀ k, k < 1550 → w k = v k) (hl : zlog w p m = zlog v p m) (hc : ∀ q, q < 6 → zclk w p q = zclk v p q) : zdel w p m = zdel v p m := by
  have e1 : znow w m = znow v m := by unfold znow; rw [lo _ (by omega), lo _ (by omega)]
  have e2 : vN w (50 + m) = vN v (50 + m) := vN_eq (lo _ (by omega))
  have e3 : zall (zdq w p m) 6 = zall (zdq v p m) 6 := zall_cong (fun q hq => by unfold zdq; rw [e2, lo _ (by omega), hc q hq])
  unfold zdel
  rw [e1, hl, e3, e2, lo (500 + m) (by omega), hc _ h6]
theorem zbuf_of {v : Rw} {p m : Nat} (h : zbuf v p m = true) : znow v m = true ∧ v (3360 + 150 * p + m) = nI 1 ∧ zlog v p m = false := by
  simp only [zbuf, Bool.and_eq_true, Bool.not_eq_true', decide_eq_true_eq] at h
  exact ⟨h.1.1, h.1.2, h.2⟩
/-- what a place says -/
theorem R0.plc {C : IX} {v : Rw} (h : R0 C v) (ha : RA C v) {p m : Nat} (hp : p < 6) (hv : cN C 100 6 ≤ m) (hm : m < vN v 44) : decide (C (30 + p) m = -1) = zbuf v p m ∧ decide (C (30 + p) m = -2) = zotw v p m := by
  have hn := h.n150
  obtain ⟨a1, a2⟩ := ha p m hp hv hm
  have hnow : znow v m = true := by rw [h.now hm]; exact decide_eq_true hv
  have hlog := (h.pp hp).log (show m < 150 by omega)
  unfold zbuf zotw
  rw [hnow]
  cases hz : zlog v p m with
  | true =>
    rw [hz] at hlog
    unfold ylog at hlog
    have hpos : ¬ C (30 + p) m < 0 := by simpa using hlog
    have e1 : ¬ C (30 + p) m = -1 := fun q => hpos (by rw [q]; decide)
    have e2 : ¬ C (30 + p) m = -2 := fun q => hpos (by rw [q]; decide)
    rw [decide_eq_false e1, decide_eq_false e2]
    refine ⟨by simp, ?_⟩
    rcases a1 hz with q | q
    · rw [decide_eq_true q]; simp
    · rw [q, decide_eq_false (show ¬ nI 1 = 0 by decide)]; simp
  | false =>
    obtain ⟨b1, b2⟩ := a2 hz
    rw [decide_eq_false b1]
    rcases b2 with ⟨c1, c2⟩ | ⟨c1, c2⟩
    · rw [c1, c2, decide_eq_true rfl, decide_eq_true rfl, decide_eq_false (show ¬ (-1 : Int32) = -2 by decide), decide_eq_false (show ¬ nI 1 = 0 by decide)]; exact ⟨rfl, rfl⟩
    · rw [c1, c2, decide_eq_true rfl, decide_eq_false (show ¬ (-2 : Int32) = -1 by decide), decide_eq_false n0n1, decide_eq_true (show nI 0 = 0 from rfl)]; exact ⟨rfl, rfl⟩
/-- while messages are delivered at p after an arrival -/
def RC (p : Nat) (C : IX) (v : Rw) : Prop := R0 C v ∧ RA C v ∧ ∀ q m, q < 6 → q ≠ p → cN C 100 6 ≤ m → m < vN v 44 → zFc q v m = false
theorem RC_del {C : IX} {v : Rw} {p : Nat} (h : RC p C v) {m : Nat} (hp : p < 6) (hv : cN C 100 6 ≤ m) (hm : m < vN v 44) (hF : zFc p v m = true) : RC p (ygdel C p m) (zdeliv v p m) ∧ ∀ i, i ≤ m → (i < m → zFc p v i = false) → zFc p (zdeliv v p m) i = false := by
  obtain ⟨h0, ha, hb⟩ := h
  have hF2 := hF
  simp only [zFc, Bool.and_eq_true] at hF2
  obtain ⟨hbf, hd⟩ := hF2
  have hn := h0.n150
  have hm1 : m < 150 := by omega
  obtain ⟨-, hl, hq, hnum⟩ := zdel_of hd
  have hsp := h0.oth hp hv hm hd
  have h6 := h0.wv.s6 hm1
  have hlen := h0.len hp hm1 hl
  obtain ⟨y1, y2, y3, y4, y5, y6⟩ := ygdel_at (m := m) hp (h0.lenC hp hlen)
  have at_ := zdeliv_at hp hm1 rfl h6 hsp hlen
  have at1 := zdv1_at v (p := p) (m := m) (s := vN v (50 + m)) hp hm1 h6 hlen
  have lo : ∀ k, k < 1550 → zdeliv v p m k = v k := fun k hk => by rw [zdeliv_lo (by omega), zlogs_lo hk]
  have n44 : vN (zdeliv v p m) 44 = vN v 44 := vN_eq (lo 44 (by omega))
  have c6 : cN (ygdel C p m) 100 6 = cN C 100 6 := cN_row (y1 100 (by omega))
  have arr : ∀ q k, q < 6 → k < 150 → zdeliv v p m (3360 + 150 * q + k) = v (3360 + 150 * q + k) := fun q k h1 h2 => by
    rw [at_, if_neg (by omega), at1, if_neg (by omega), if_neg (by omega), if_neg (by omega), if_neg (by omega), if_neg (by omega)]
  have now : ∀ k, k < 150 → znow (zdeliv v p m) k = znow v k := fun k hk => by unfold znow; rw [lo _ (by omega), lo _ (by omega)]
  have zl : ∀ q k, q < 6 → k < 150 → zlog (zdeliv v p m) q k = if q = p ∧ k = m then true else zlog v q k := fun q k h1 h2 => zdeliv_log hp h1 h2 hm1 hlen
  have bf : ∀ q k, q < 6 → k < 150 → ¬ (q = p ∧ k = m) → zbuf (zdeliv v p m) q k = zbuf v q k := fun q k h1 h2 h3 => by unfold zbuf; rw [now k h2, arr q k h1 h2, zl q k h1 h2, if_neg h3]
  refine ⟨⟨R0_del h0 hp hv hm hd, ?_, ?_⟩, ?_⟩
  · intro q k hq hk1 hk2
    rw [c6] at hk1
    rw [n44] at hk2
    rw [zl q k hq (by omega), lo (50 + k) (by omega), arr q k hq (by omega)]
    by_cases e : q = p ∧ k = m
    · obtain ⟨rfl, rfl⟩ := e
      rw [if_pos ⟨rfl, rfl⟩]
      exact ⟨fun _ => Or.inr (zbuf_of hbf).2.1, fun h => by cases h⟩
    · rw [if_neg e]
      have e30 : ygdel C p m (30 + q) k = C (30 + q) k := by
        by_cases eq : q = p
        · subst eq; rw [y5, upd_at, if_neg (fun h => e ⟨rfl, h⟩)]
        · rw [(y2 q hq eq).2.2.1]
      rw [e30]
      exact ha q k hq hk1 hk2
  · intro q k hq hqp hk1 hk2
    rw [c6] at hk1
    rw [n44] at hk2
    have := hb q k hq hqp hk1 hk2
    unfold zFc at this ⊢
    rw [bf q k hq (by omega) (fun h => hqp h.1), zdel_cong (v := v) (by omega) (h0.wv.s6 (by omega)) lo (by rw [zl q k hq (by omega), if_neg (fun h => hqp h.1)]) (fun b hb' => ?_)]
    · exact this
    · unfold zclk
      rw [at_, if_neg (by omega), at1, if_neg (by omega), if_neg (by omega), if_neg (by omega), if_neg (by omega), if_neg (by omega)]
  · intro i hi hlow
    rcases Nat.lt_or_ge i m with q | q
    · have := hlow q
      unfold zFc at this ⊢
      rw [bf p i hp (by omega) (by omega)]
      cases hb1 : zbuf v p i with
      | false => rfl
      | true =>
        rw [hb1] at this
        have : zdel v p i = false := by simpa using this
        rw [del_mono h0 hp hv hm hd q this]; rfl
    · have e : i = m := by omega
      subst e
      unfold zFc zbuf
      rw [zl p i hp hm1, if_pos ⟨rfl, rfl⟩]; simp
/-- an arrival -/
theorem come_pair {C : IX} {v : Rw} (h : RG C v) {p m : Nat} (hp : p < 6) (hv : cN C 100 6 ≤ m) (hm : m < vN v 44) (ho : zotw v p m = true) : (zcome v p m).2 = (yup (yFw p) p m (ywait C p m) (cN C 2 6 - m)).2 ∧ RG (yup (yFw p) p m (ywait C p m) (cN C 2 6 - m)).1 (zcome v p m).1 := by
  obtain ⟨h0, ha, hb⟩ := h
  have hn := h0.n150
  have hm1 : m < 150 := by omega
  have hpl := (h0.plc ha hp hv hm).2
  rw [ho] at hpl
  have hpl : C (30 + p) m = -2 := of_decide_eq_true hpl
  have hzl : zlog v p m = false := by rw [← (h0.pp hp).log hm1, ylog, hpl, decide_eq_true m2lt]; rfl
  have lo : ∀ k, k ≠ 3360 + 150 * p + m → zcomeV v p m k = v k := fun k hk => by rw [zcomeV, upd_at, if_neg hk]
  have at0 : zcomeV v p m (3360 + 150 * p + m) = nI 1 := by rw [zcomeV, upd_at, if_pos rfl]
  have ylo : ∀ k, k ≠ 30 + p → ywait C p m k = C k := fun k hk => va_up_ne _ _ hk
  have y30 : ywait C p m (30 + p) = upd (C (30 + p)) m (-1) := va_up_self _ _ _
  have n44 : vN (zcomeV v p m) 44 = vN v 44 := vN_eq (lo 44 (by omega))
  have c6 : cN (ywait C p m) 100 6 = cN C 100 6 := cN_row (ylo 100 (by omega))
  have zl : ∀ q k, q < 6 → k < 150 → zlog (zcomeV v p m) q k = zlog v q k := fun q k h1 h2 => by unfold zlog; rw [lo _ (by omega)]
  have ck : ∀ a b, a < 6 → b < 6 → zclk (zcomeV v p m) a b = zclk v a b := fun a b h1 h2 => by unfold zclk; rw [lo _ (by omega)]
  have bf : ∀ q k, q < 6 → k < 150 → ¬ (q = p ∧ k = m) → zFc q (zcomeV v p m) k = zFc q v k := fun q k h1 h2 h3 => by
    have e : zbuf (zcomeV v p m) q k = zbuf v q k := by unfold zbuf znow; rw [lo (350 + k) (by omega), lo 42 (by omega), lo (3360 + 150 * q + k) (by omega), zl q k h1 h2]
    unfold zFc
    rw [e, zdel_cong (v := v) h2 (h0.wv.s6 h2) (fun k hk => lo k (by omega)) (zl q k h1 h2) (fun b hb => ck q b h1 hb)]
  have h1 : R0 (ywait C p m) (zcomeV v p m) := by
    refine ⟨⟨WC_ywait h0.wc hp, WV_comeV h0.wv p m⟩, RLw_lo h0.w h0.wc h0.wv (fun k hk => ylo k (by omega)) (fun k hk => lo k (by omega)), ?_, ?_, ?_, ?_⟩
    · intro q hq
      rw [n44]
      by_cases e : q = p
      · subst e
        obtain ⟨g1, g2, g3, g4, g5, g6, g7⟩ := h0.pp hq
        unfold PP
        rw [ylo (10 + q) (by omega), ylo (20 + q) (by omega), ylo (40 + q) (by omega), y30, lo (1550 + q) (by omega), lo (4260 + q) (by omega), vN_eq (lo (1550 + q) (by omega))]
        have hlen := h0.wv.l150 hq
        refine ⟨g1, g2, fun i hi => ?_, fun j hj => ?_, fun j hj => ⟨?_, fun hj2 => ?_⟩, fun i hi => ?_, fun j hj hz => ?_⟩
        · rw [lo _ (by omega)]; exact g3 i hi
        · rw [lo _ (by omega)]; exact g4 j hj
        · rw [zl q j hq hj]
          by_cases ej : j = m
          · subst ej
            unfold ylog
            rw [y30, upd_at, if_pos rfl, decide_eq_true m1lt, hzl]; rfl
          · have := (g5 j hj).1
            unfold ylog at this ⊢
            rw [y30, upd_at, if_neg ej]; exact this
        · rw [upd_at, if_neg (by omega), lo _ (by omega)]; exact (g5 j hj).2 hj2
        · obtain ⟨k1, k2⟩ := g6 i hi
          rw [vN_eq (lo (1560 + 150 * q + i) (by omega)), upd_at, if_neg ?_]
          · exact ⟨k1, k2⟩
          · intro e2
            rw [e2, hpl] at k2
            exact absurd (show (-2 : Int32) < 0 by decide) (by rw [k2]; exact nI_pos (by omega))
        · rw [zl q j hq (by omega)] at hz
          obtain ⟨i, k1, k2, k3⟩ := g7 j hj hz
          refine ⟨i, k1, ?_, by rw [lo _ (by omega)]; exact k3⟩
          rw [upd_at, if_neg (fun e2 => by rw [e2, hzl] at hz; cases hz)]; exact k2
      · exact PP_cong (h0.pp hq) hn (h0.wv.l150 hq) ⟨ylo _ (by omega), ylo _ (by omega), ylo _ (by omega), ylo _ (by omega)⟩ (fun k hk => lo k (by omega))
    · intro a b hqa hqb
      rw [ck a b hqa hqb, ck b b hqb hqb, lo 44 (by omega)]; exact h0.kc a b hqa hqb
    · intro k hk1 hk2
      rw [c6] at hk1
      rw [n44] at hk2
      have h7 := h0.wv.s6 (show k < 150 by omega)
      rw [vN_eq (lo (50 + k) (by omega)), lo (650 + 6 * k + vN v (50 + k)) (by omega), lo (500 + k) (by omega)]
      refine ⟨(h0.km k hk1 hk2).1, fun q hq => ?_⟩
      rw [lo _ (by omega), ck q q hq hq]; exact (h0.km k hk1 hk2).2 q hq
    · intro a b hk1 hk2 hk3
      rw [c6] at hk1
      rw [n44] at hk3
      have h7 := h0.wv.s6 (show b < 150 by omega)
      rw [vN_eq (lo (50 + b) (by omega)), lo (650 + 6 * a + vN v (50 + b)) (by omega), lo (500 + b) (by omega)]
      exact h0.ko a b hk1 hk2 hk3
  have h2 : RC p (ywait C p m) (zcomeV v p m) := by
    refine ⟨h1, ?_, ?_⟩
    · intro q k hq hk1 hk2
      rw [c6] at hk1
      rw [n44] at hk2
      have h8 := ha q k hq hk1 hk2
      rw [zl q k hq (by omega), lo (50 + k) (by omega)]
      by_cases e : q = p ∧ k = m
      · obtain ⟨rfl, rfl⟩ := e
        rw [at0, y30, upd_at, if_pos rfl]
        exact ⟨fun _ => Or.inr rfl, fun hz => ⟨(h8.2 hz).1, Or.inl ⟨rfl, rfl⟩⟩⟩
      · rw [lo _ (by omega)]
        have e30 : ywait C p m (30 + q) k = C (30 + q) k := by
          by_cases eq : q = p
          · subst eq; rw [y30, upd_at, if_neg (fun h => e ⟨rfl, h⟩)]
          · rw [ylo _ (by omega)]
        rw [e30]; exact h8
    · intro q k hq hqp hk1 hk2
      rw [c6] at hk1
      rw [n44] at hk2
      rw [bf q k hq (by omega) (fun h => hqp h.1)]
      exact hb q k hq hk1 hk2
  obtain ⟨u1, u2, u3⟩ := up_all (F := zFc p) (G := yFw p) (P := RC p) hp (fun C v h => h.1) (fun C v m h hv hm => by
      unfold yFw zFc
      rw [(h.1.plc h.2.1 hp hv hm).1, h.1.rdy hp hv hm]) (fun C v m h hv hm hF => RC_del h hp hv hm hF) h2 (by rw [c6]; exact hv) (by rw [n44]; omega) (fun i hi => by
      rcases Nat.lt_or_ge i (cN C 100 6) with q | q
      · unfold zFc zdel
        rw [show znow (zcomeV v p m) i = false by
          have := h1.now (show i < vN (zcomeV v p m) 44 by omega)
          rw [this, c6]; exact decide_eq_false (by omega)]
        simp
      · rw [bf p i hp (by omega) (by omega)]; exact hb p i hp q (by omega))
  rw [n44, ← h0.n] at u1 u2
  rw [n44] at u3
  refine ⟨u1, u2.1, u2.2.1, fun q k hq hk1 hk2 => ?_⟩
  by_cases e : q = p
  · subst e
    have e44 : vN (zcome v q m).1 44 = vN v 44 := by
      rw [← n44]; exact vN_eq (zlo_lo (by omega) _ _ _)
    rw [e44] at hk2
    exact u3 k hk2
  · exact u2.2.2 q k hq e hk1 hk2
/-- the proposed set, or what was counted twice, has changed -/
theorem RG_hd {C D : IX} {v w : Rw} (h : RG C v) (lo : ∀ k, k ≠ 43 → k ≠ 45 → w k = v k) (ylo : ∀ k, k ≠ 100 → D k = C k) (e4 : D 100 4 = C 100 4) (e6 : D 100 6 = C 100 6) (e5 : D 100 5 = w 43) (e7 : D 100 7 = w 45) (hws : WS w) (hsm : Sm (w 43)) : RG D w := by
  obtain ⟨h0, ha, hb⟩ := h
  have c6 : cN D 100 6 = cN C 100 6 := congrArg Int32.toNatClampNeg e6
  have n44 : vN w 44 = vN v 44 := vN_eq (lo 44 (by omega) (by omega))
  have n42 : vN w 42 = vN v 42 := vN_eq (lo 42 (by omega) (by omega))
  have hn := h0.n150
  have h20 := h0.wv.vw20
  have hmem : zmem w = zmem v := by unfold zmem; rw [n42, lo _ (by omega) (by omega)]
  have hv : WV w := by
    refine ⟨?_, ?_, ?_, ?_, ?_⟩
    · rw [n42, lo 42 (by omega) (by omega)]; exact h0.wv.1
    · rw [n44, lo 44 (by omega) (by omega)]; exact h0.wv.2.1
    · intro m hm; rw [vN_eq (lo (50 + m) (by omega) (by omega)), lo (50 + m) (by omega) (by omega)]; exact h0.wv.2.2.1 m hm
    · intro p hp
      have e : zmu w p = zmu v p := zcB_cong (fun j hj => by unfold zlog; rw [lo _ (by omega) (by omega)])
      rw [vN_eq (lo (1550 + p) (by omega) (by omega)), lo (1550 + p) (by omega) (by omega), e]; exact h0.wv.2.2.2.1 p hp
    · intro p i hp hi; rw [vN_eq (lo (1560 + 150 * p + i) (by omega) (by omega)), lo (1560 + 150 * p + i) (by omega) (by omega)]; exact h0.wv.2.2.2.2 p i hp hi
  have zl : ∀ q k, q < 6 → k < 150 → zlog w q k = zlog v q k := fun q k h1 h2 => by unfold zlog; rw [lo _ (by omega) (by omega)]
  have ck : ∀ a b, a < 6 → b < 6 → zclk w a b = zclk v a b := fun a b h1 h2 => by unfold zclk; rw [lo _ (by omega) (by omega)]
  refine ⟨⟨⟨?_, hv⟩, ⟨⟨hws, by unfold KS; rw [hmem]; exact ⟨hsm, h0.ks.2⟩⟩, ?_, ?_, ?_, ?_, ?_⟩, ?_, ?_, ?_, ?_⟩, ?_, ?_⟩
  · have hC := h0.wc
    have n4 : cN D 100 4 = cN C 100 4 := congrArg Int32.toNatClampNeg e4
    refine ⟨?_, ?_, ?_, ?_, ?_, ?_, ?_⟩
    · rw [n4, e4]; exact hC.1
    · rw [c6, e6]; exact hC.2.1
    · unfold cN; rw [ylo 2 (by omega)]; exact hC.2.2.1
    · intro q hq; rw [ylo _ (by omega)]; exact hC.self hq
    · intro m hm; unfold cN; rw [ylo 4 (by omega)]; exact hC.2.2.2.2.1 m hm
    · intro q hq; unfold cN; rw [ylo _ (by omega)]; exact hC.2.2.2.2.2.1 q hq
    · intro q i hq hi; unfold cN; rw [ylo _ (by omega)]; exact hC.2.2.2.2.2.2 q i hq hi
  · unfold RH
    rw [e4, e5, e7, ylo 2 (by omega), lo 42 (by omega) (by omega), lo 44 (by omega) (by omega)]
    exact ⟨h0.hd.1, rfl, rfl, h0.hd.2.2.2⟩
  · refine ⟨fun j hj => ?_, by rw [lo 21 (by omega) (by omega)]; exact h0.vw.2⟩
    rw [n42] at hj
    rw [ylo 0 (by omega), ylo 1 (by omega), lo j (by omega) (by omega), lo (21 + j) (by omega) (by omega)]; exact h0.vw.1 j hj
  · intro m hm
    rw [n44] at hm
    have h8 := h0.m m hm
    rw [ylo 4 (by omega), ylo 5 (by omega), ylo 6 (by omega), ylo 7 (by omega), ylo 9 (by omega), lo (50 + m) (by omega) (by omega), lo (200 + m) (by omega) (by omega), lo (350 + m) (by omega) (by omega), lo (500 + m) (by omega) (by omega)]
    refine ⟨h8.1, h8.2.1, h8.2.2.1, h8.2.2.2.1, fun q hq => ?_⟩
    rw [lo _ (by omega) (by omega)]; exact h8.2.2.2.2 q hq
  · intro m hm
    rw [n44] at hm
    have e : ygdb D m m = ygdb C m m := ygdb_cong (fun k _ => by rw [ylo 6 (by omega), ylo 4 (by omega), ylo 7 (by omega)]; exact ⟨rfl, rfl, rfl⟩) (fun q => Or.inl (by rw [ylo 9 (by omega)])) (fun k _ => by rw [ylo 8 (by omega)]) (fun k hk => h0.wc.s6 (by omega)) (Nat.le_refl _)
    rw [ylo 8 (by omega), e]; exact h0.d m hm
  · refine ⟨by rw [c6, n44]; exact h0.kv.1, fun m hm => ?_⟩
    rw [n44] at hm
    rw [c6, lo (350 + m) (by omega) (by omega), lo 42 (by omega) (by omega)]; exact h0.kv.2 m hm
  · intro p hp
    rw [n44]
    exact PP_cong (h0.pp hp) hn (h0.wv.l150 hp) ⟨ylo _ (by omega), ylo _ (by omega), ylo _ (by omega), ylo _ (by omega)⟩ (fun k hk => lo k (by omega) (by omega))
  · intro a b h1 h2
    rw [ck a b h1 h2, ck b b h2 h2, lo 44 (by omega) (by omega)]; exact h0.kc a b h1 h2
  · intro k hk1 hk2
    rw [c6] at hk1
    rw [n44] at hk2
    have h7 := h0.wv.s6 (show k < 150 by omega)
    rw [vN_eq (lo (50 + k) (by omega) (by omega)), lo (650 + 6 * k + vN v (50 + k)) (by omega) (by omega), lo (500 + k) (by omega) (by omega)]
    refine ⟨(h0.km k hk1 hk2).1, fun q hq => ?_⟩
    rw [lo _ (by omega) (by omega), ck q q hq hq]; exact (h0.km k hk1 hk2).2 q hq
  · intro a b hk1 hk2 hk3
    rw [c6] at hk1
    rw [n44] at hk3
    have h7 := h0.wv.s6 (show b < 150 by omega)
    rw [vN_eq (lo (50 + b) (by omega) (by omega)), lo (650 + 6 * a + vN v (50 + b)) (by omega) (by omega), lo (500 + b) (by omega) (by omega)]
    exact h0.ko a b hk1 hk2 hk3
  · intro q k hq hk1 hk2
    rw [c6] at hk1
    rw [n44] at hk2
    rw [zl q k hq (by omega), lo (50 + k) (by omega) (by omega), lo (3360 + 150 * q + k) (by omega) (by omega), ylo (30 + q) (by omega)]
    exact ha q k hq hk1 hk2
  · intro q k hq hk1 hk2
    rw [c6] at hk1
    rw [n44] at hk2
    have := hb q k hq hk1 hk2
    have e : zbuf w q k = zbuf v q k := by unfold zbuf znow; rw [lo (350 + k) (by omega) (by omega), lo 42 (by omega) (by omega), lo (3360 + 150 * q + k) (by omega) (by omega), zl q k hq (by omega)]
    unfold zFc at this ⊢
    have h7 := h0.wv.s6 (show k < 150 by omega)
    have e1 : znow w k = znow v k := by unfold znow; rw [lo _ (by omega) (by omega), lo _ (by omega) (by omega)]
    have e2 : vN w (50 + k) = vN v (50 + k) := vN_eq (lo _ (by omega) (by omega))
    have e3 : zall (zdq w q k) 6 = zall (zdq v q k) 6 := zall_cong (fun b hb => by unfold zdq; rw [e2, lo _ (by omega) (by omega), ck q b hq hb])
    have e4 : zdel w q k = zdel v q k := by unfold zdel; rw [e1, zl q k hq (by omega), e3, e2, lo _ (by omega) (by omega), ck q _ hq h7]
    rw [e, e4]; exact this
theorem RG_tw {C : IX} {v : Rw} (h : RG C v) : RG (ytw C) (upd v 45 (v 45 + nI 1)) := by
  have lo : ∀ k, k ≠ 45 → upd v 45 (v 45 + nI 1) k = v k := fun k hk => by rw [upd_at, if_neg hk]
  have e100 : ytw C 100 = upd (C 100) 7 (C 100 7 + nI 1) := va_up_self _ _ _
  have h20 := h.1.wv.vw20
  have hmem : zmem (upd v 45 (v 45 + nI 1)) = zmem v := by unfold zmem; rw [vN_eq (lo 42 (by omega)), lo _ (by omega)]
  refine RG_hd h (fun k _ hk => lo k hk) (fun k hk => va_up_ne _ _ hk) (by rw [e100, upd_at, if_neg (by omega)]) (by rw [e100, upd_at, if_neg (by omega)]) (by rw [e100, upd_at, if_neg (by omega), lo 43 (by omega)]; exact h.1.hd.2.1) (by rw [e100, upd_at, if_pos rfl, upd_at, if_pos rfl, h.1.hd.2.2.1]) ?_ (by rw [lo 43 (by omega)]; exact h.1.ks.1)
  have := h.1.ws
  unfold WS zsv at this ⊢
  rw [hmem, lo 43 (by omega)]; exact this
/-! requests -/
theorem b6_join : ∀ k, k < 64 → ∀ p, p < 6 → (let x := nI k ||| (nI 1 <<< (nI p &&& 31)); x = nI x.toNatClampNeg ∧ x.toNatClampNeg < 64 ∧ ybc x = zcnt x 6) := by decide +kernel
theorem b6_left : ∀ k, k < 64 → ∀ p, p < 6 → (let x := nI k &&& ((nI 1 <<< (nI p &&& 31)) ^^^ (-1)); x = nI x.toNatClampNeg ∧ x.toNatClampNeg < 64 ∧ ybc x = zcnt x 6 ∧ (decide (x = nI k) = !zbit (nI k) (nI p))) := by decide +kernel
theorem b6_or : ∀ k, k < 64 → ∀ p, p < 6 → ∀ q, q < 6 → zbit (nI k) (nI q) = true → zbit (nI k ||| (nI 1 <<< (nI p &&& 31))) (nI q) = true := by decide +kernel
theorem b6_any : ∀ k, k < 64 → (decide (nI k = 0) = !zany (fun p => zbit (nI k) (nI p)) 6) := by decide +kernel
theorem zany_at {f : Nat → Bool} {j n : Nat} (hj : j < n) (h : f j = true) : zany f n = true := zany_t h hj
theorem zbit_and {a b : Int32} {p : Nat} (hp : p < 32) : zbit (a &&& b) (nI p) = (zbit a (nI p) && zbit b (nI p)) := by rw [zbit_bt _ hp, zbit_bt _ hp, zbit_bt _ hp, b_and]
theorem Sm_and {a b : Int32} (ha : Sm a) : Sm (a &&& b) := by
  obtain ⟨k, hk, rfl⟩ := ha.ex
  have h1 : (nI k &&& b).toBitVec.toNat ≤ (nI k).toBitVec.toNat := by
    rw [Int32.toBitVec_and, BitVec.toNat_and]; exact Nat.and_le_left
  rw [pk_tn (by omega)] at h1
  have h2 : nI k &&& b = nI (nI k &&& b).toBitVec.toNat := by
    apply Int32.toBitVec_inj.mp
    apply BitVec.eq_of_toNat_eq
    rw [pk_tn (by omega)]
  rw [h2]
  exact Sm_nI (by omega)
theorem RG_join {C : IX} {v : Rw} (h : RG C v) {p : Nat} (hp : p < 6) : RG (va_up C 100 (upd (C 100) 5 (C 100 5 ||| (nI 1 <<< (nI p &&& 31))))) (zjoin v (nI p)) ∧ ybc (C 100 5 ||| (nI 1 <<< (nI p &&& 31))) = zcnt (v 43 ||| (nI 1 <<< (nI p &&& 31))) 6 := by
  have e5 := h.1.hd.2.1
  obtain ⟨k, hk, ek⟩ := h.1.ks.1.ex
  obtain ⟨j1, j2, j3⟩ := b6_join k hk p hp
  have lo : ∀ k, k ≠ 43 → zjoin v (nI p) k = v k := fun k hk => by rw [zjoin, upd_at, if_neg hk]
  have e43 : zjoin v (nI p) 43 = v 43 ||| (nI 1 <<< (nI p &&& 31)) := by rw [zjoin, upd_at, if_pos rfl]
  have h20 := h.1.wv.vw20
  have hmem : zmem (zjoin v (nI p)) = zmem v := by unfold zmem; rw [vN_eq (lo 42 (by omega)), lo _ (by omega)]
  have e100 : va_up C 100 (upd (C 100) 5 (C 100 5 ||| (nI 1 <<< (nI p &&& 31)))) 100 = upd (C 100) 5 (C 100 5 ||| (nI 1 <<< (nI p &&& 31))) := va_up_self _ _ _
  refine ⟨RG_hd h (fun k hk _ => lo k hk) (fun k hk => va_up_ne _ _ hk) (by rw [e100, upd_at, if_neg (by omega)]) (by rw [e100, upd_at, if_neg (by omega)]) (by rw [e100, upd_at, if_pos rfl, e43, e5]) (by rw [e100, upd_at, if_neg (by omega), lo 45 (by omega)]; exact h.1.hd.2.2.1) ?_ ?_, by rw [e5, ek]; exact j3⟩
  · obtain ⟨a, a1, a2⟩ := zany_of h.1.ws
    unfold WS
    refine zany_at a1 ?_
    unfold zsv at a2 ⊢
    rw [hmem, e43, zbit_and (by omega)]
    rw [zbit_and (by omega), Bool.and_eq_true] at a2
    rw [a2.1, ek, b6_or k hk p hp a a1 (by rw [← ek]; exact a2.2)]; rfl
  · rw [e43, ek]; exact ⟨j1, j2⟩
theorem can_quit {C : IX} {v : Rw} (h : R0 C v) {p : Nat} (hp : p < 6) : (zbit (C 100 5) (nI p) && !decide ((ymem C &&& C 100 5) &&& ((nI 1 <<< (nI p &&& 31)) ^^^ (-1)) = 0)) = zlok v (nI p) := by
  obtain ⟨k, hk, ek⟩ := h.ks.1.ex
  obtain ⟨-, -, -, j4⟩ := b6_left k hk p hp
  have e1 : decide (zleft v (nI p) = v 43) = !zbit (v 43) (nI p) := by unfold zleft; rw [ek]; exact j4
  have e2 : (zmem v &&& v 43) &&& ((nI 1 <<< (nI p &&& 31)) ^^^ (-1)) = zleft v (nI p) &&& zmem v := by
    unfold zleft
    rw [Int32.and_assoc, Int32.and_comm]
  unfold zlok
  rw [h.hd.2.1, h.mem, e1, e2, Bool.not_not]
theorem RG_leave {C : IX} {v : Rw} (h : RG C v) {p : Nat} (hp : p < 6) (ok : zlok v (nI p) = true) : RG (va_up C 100 (upd (C 100) 5 (C 100 5 &&& ((nI 1 <<< (nI p &&& 31)) ^^^ (-1))))) (upd v 43 (zleft v (nI p))) ∧ ybc (C 100 5 &&& ((nI 1 <<< (nI p &&& 31)) ^^^ (-1))) = zcnt (zleft v (nI p)) 6 := by
  have e5 := h.1.hd.2.1
  obtain ⟨k, hk, ek⟩ := h.1.ks.1.ex
  obtain ⟨j1, j2, j3, -⟩ := b6_left k hk p hp
  have lo : ∀ k, k ≠ 43 → upd v 43 (zleft v (nI p)) k = v k := fun k hk => by rw [upd_at, if_neg hk]
  have e43 : upd v 43 (zleft v (nI p)) 43 = zleft v (nI p) := by rw [upd_at, if_pos rfl]
  have h20 := h.1.wv.vw20
  have hmem : zmem (upd v 43 (zleft v (nI p))) = zmem v := by unfold zmem; rw [vN_eq (lo 42 (by omega)), lo _ (by omega)]
  have e100 : va_up C 100 (upd (C 100) 5 (C 100 5 &&& ((nI 1 <<< (nI p &&& 31)) ^^^ (-1)))) 100 = upd (C 100) 5 (C 100 5 &&& ((nI 1 <<< (nI p &&& 31)) ^^^ (-1))) := va_up_self _ _ _
  refine ⟨RG_hd h (fun k hk _ => lo k hk) (fun k hk => va_up_ne _ _ hk) (by rw [e100, upd_at, if_neg (by omega)]) (by rw [e100, upd_at, if_neg (by omega)]) (by rw [e100, upd_at, if_pos rfl, e43, e5]; rfl) (by rw [e100, upd_at, if_neg (by omega), lo 45 (by omega)]; exact h.1.hd.2.2.1) ?_ ?_, by rw [e5]; unfold zleft; rw [ek]; exact j3⟩
  · unfold WS zsv
    rw [hmem, e43]
    have h1 : Sm (zmem v &&& zleft v (nI p)) := Sm_and h.1.ks.2
    obtain ⟨a, ha, ea⟩ := h1.ex
    have h2 := b6_any a ha
    unfold zlok at ok
    simp only [Bool.and_eq_true, Bool.not_eq_true', decide_eq_false_iff_not] at ok
    have h3 : ¬ nI a = 0 := by rw [← ea, Int32.and_comm]; exact ok.2
    rw [decide_eq_false h3] at h2
    rw [ea]
    simpa using h2.symm
  · rw [e43]; unfold zleft; rw [ek]; exact ⟨j1, j2⟩
/-- arrive -/
theorem rcv_pair {C : IX} {v : Rw} (h : RG C v) {p m : Nat} (hp : p < 6) (hv : cN C 100 6 ≤ m) (hm : m < vN v 44) : (zaV v p m).2 = (yrcv C p m).2 ∧ RG (yrcv C p m).1 (zaV v p m).1 := by
  have hpl := (h.1.plc h.2.1 hp hv hm).2
  cases ho : zotw v p m with
  | true =>
    rw [ho] at hpl
    rw [zaV, if_pos ho, yrcv_t (of_decide_eq_true hpl)]
    exact come_pair h hp hv hm ho
  | false =>
    rw [ho] at hpl
    rw [zaV, if_neg (by rw [ho]; decide), yrcv_f (of_decide_eq_false hpl)]
    exact ⟨rfl, RG_tw h⟩
/-- arriveAll -/
theorem zalL_low {C : IX} {v : Rw} (h : R0 C v) {p : Nat} : ∀ {k : Nat}, k ≤ cN C 100 6 → zalL p v k = (v, nI 0)
  | 0, _ => rfl
  | k + 1, hk => by
    have hvs := h.vs
    have e : zotw v p k = false := by
      unfold zotw
      rw [show znow v k = false by rw [h.now (by omega)]; exact decide_eq_false (by omega)]; rfl
    rw [zalL, zalL_low h (by omega), if_neg (by rw [e]; decide), add0_I]
theorem rest_pair {C : IX} {v : Rw} (h : RG C v) {p : Nat} (hp : p < 6) : ∀ {k : Nat}, cN C 100 6 + k ≤ vN v 44 → (zalL p v (cN C 100 6 + k)).2 = (yrr C p k).2 ∧ RG (yrr C p k).1 (zalL p v (cN C 100 6 + k)).1 ∧ cN (yrr C p k).1 100 6 = cN C 100 6
  | 0, _ => by rw [Nat.add_zero, zalL_low h.1 (Nat.le_refl _)]; exact ⟨rfl, h, rfl⟩
  | k + 1, hk => by
    obtain ⟨i1, i2, i3⟩ := rest_pair h hp (k := k) (by omega)
    rw [← Nat.add_assoc, zalL]
    generalize zalL p v (cN C 100 6 + k) = z at i1 i2
    rcases hE : yrr C p k with ⟨E, c⟩
    rw [hE] at i1 i2 i3
    dsimp only at i1 i2 i3
    have n44 : vN z.1 44 = vN v 44 := by
      rw [← i2.1.n, ← h.1.n]
      have := (yrr_wc h.1.wc hp (k := k) (Or.inl (by rw [h.1.n]; omega))).2
      rw [hE] at this; exact this
    have hpl := (i2.1.plc i2.2.1 hp (m := cN C 100 6 + k) (by omega) (by omega)).2
    cases ho : zotw z.1 p (cN C 100 6 + k) with
    | true =>
      rw [ho] at hpl
      have hpl := of_decide_eq_true hpl
      obtain ⟨j1, j2⟩ := come_pair i2 hp (m := cN C 100 6 + k) (by omega) (by omega) ho
      rw [if_pos rfl, yrr_t hE hpl, yrcv_t hpl]
      refine ⟨by dsimp only; rw [i1, j1], j2, ?_⟩
      dsimp only
      rw [← i3]
      refine cN_row ?_
      rw [yup_lo hp (by omega), ywait_lo (by omega) hp]
    | false =>
      rw [ho] at hpl
      rw [if_neg (by decide), yrr_f hE (of_decide_eq_false hpl)]
      exact ⟨by dsimp only; rw [add0_I]; exact i1, i2, i3⟩
