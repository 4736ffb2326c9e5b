/-! rows that agree where it counts -/
theorem ycy_in {f g : Nat → Int32} {n j : Nat} (h : j < n) : ycy f g n j = f j := by
  have h2 := pk_cpy_in (f := f) (g := g) (sp := 0) (dp := 0) (n := n) (j := j) (Nat.zero_le _) (by omega)
  exact h2.trans (congrArg f (by omega))
def Agr (C D : IX) : Prop := (D 100 4 = C 100 4 ∧ D 100 5 = C 100 5 ∧ D 100 6 = C 100 6 ∧ D 100 7 = C 100 7 ∧ D 2 6 = C 2 6) ∧ (∀ j, j < 21 → D 0 j = C 0 j ∧ D 1 j = C 1 j) ∧ (∀ j, j < 150 → D 4 j = C 4 j ∧ D 5 j = C 5 j ∧ D 6 j = C 6 j ∧ D 7 j = C 7 j ∧ D 8 j = C 8 j) ∧ (∀ j, j < 900 → D 9 j = C 9 j) ∧
  ∀ p, p < 6 → D (10 + p) 0 = nI p ∧ D (10 + p) 4 = C (10 + p) 4 ∧ D (10 + p) 5 = C (10 + p) 5 ∧ (∀ j, j < 150 → D (20 + p) j = C (20 + p) j ∧ D (30 + p) j = C (30 + p) j) ∧ ∀ j, j < 36 → D (40 + p) j = C (40 + p) j
theorem Agr.wc {C D : IX} (h : Agr C D) (hC : WC C) : WC D := by
  obtain ⟨⟨a1, a2, a3, a4, a5⟩, b1, c1, d1, p1⟩ := h
  refine ⟨?_, ?_, ?_, fun p hp => (p1 p hp).1, ?_, ?_, ?_⟩
  · unfold cN; rw [a1]; exact hC.1
  · unfold cN; rw [a3]; exact hC.2.1
  · unfold cN; rw [a5]; exact hC.2.2.1
  · intro m hm; unfold cN; rw [(c1 m hm).1]; exact hC.2.2.2.2.1 m hm
  · intro p hp; unfold cN; rw [(p1 p hp).2.1]; exact hC.2.2.2.2.2.1 p hp
  · intro p i hp hi; unfold cN; rw [((p1 p hp).2.2.2.1 i hi).1]; exact hC.2.2.2.2.2.2 p i hp hi
theorem WV_cong {v w : Rw} (hv : WV v) (lo : ∀ k, k < 4486 → w k = v k) : WV w := WV_hi hv (fun k hk => lo k (by omega))
set_option maxRecDepth 100000 in
theorem RG_cong {C D : IX} {v w : Rw} (h : RG C v) (hA : Agr C D) (lo : ∀ k, k < 4486 → w k = v k) : RG D w := by
  obtain ⟨h0, ha, hb⟩ := h
  have hwc := hA.wc h0.wc
  obtain ⟨⟨a1, a2, a3, a4, a5⟩, b1, c1, d1, p1⟩ := hA
  have n44 : vN w 44 = vN v 44 := vN_eq (lo 44 (by omega))
  have n42 : vN w 42 = vN v 42 := vN_eq (lo 42 (by omega))
  have hn := h0.n150
  have h20 := h0.wv.vw20
  have hlo : ∀ j, j < 1550 → w j = v j := fun j hj => lo j (by omega)
  have c6 : cN D 100 6 = cN C 100 6 := congrArg Int32.toNatClampNeg a3
  have zl : ∀ q k, q < 6 → k < 150 → zlog w q k = zlog v q k := fun q k h1 h2 => by unfold zlog; rw [lo (2460 + 150 * q + k) (by omega)]
  have ck : ∀ x y, x < 6 → y < 6 → zclk w x y = zclk v x y := fun x y h1 h2 => by unfold zclk; rw [lo (4270 + 36 * x + 6 * x + y) (by omega)]
  refine ⟨⟨⟨hwc, WV_cong h0.wv lo⟩, ⟨⟨(WS_lo h0.wv hlo).2 h0.ws, ?_⟩, ?_, ?_, ?_, ?_, ?_⟩, ?_, ?_, ?_, ?_⟩, ?_, ?_⟩
  · unfold KS; rw [hlo 43 (by omega), zmem_lo h0.wv hlo]; exact h0.ks
  · unfold RH; rw [a1, a2, a4, a5, hlo 42 (by omega), hlo 43 (by omega), hlo 45 (by omega), hlo 44 (by omega)]; exact h0.hd
  · refine ⟨fun j hj => ?_, by rw [hlo 21 (by omega)]; exact h0.vw.2⟩
    rw [n42] at hj
    rw [(b1 j (by omega)).1, (b1 j (by omega)).2, hlo j (by omega), hlo (21 + j) (by omega)]; exact h0.vw.1 j hj
  · intro m hm
    rw [n44] at hm
    obtain ⟨g1, g2, g3, g4, g5⟩ := h0.m m hm
    obtain ⟨r1, r2, r3, r4, r5⟩ := c1 m (by omega)
    rw [r1, r2, r3, r4, hlo (50 + m) (by omega), hlo (200 + m) (by omega), hlo (350 + m) (by omega), hlo (500 + m) (by omega)]
    refine ⟨g1, g2, g3, g4, fun q hq => ?_⟩
    rw [d1 _ (by omega), hlo (650 + 6 * m + q) (by omega)]; exact g5 q hq
  · intro m hm
    rw [n44] at hm
    have e : ygdb D m m = ygdb C m m := ygdb_cong (fun k hk => by
        obtain ⟨r1, r2, r3, r4, r5⟩ := c1 k (by omega)
        exact ⟨r3, r1, r4⟩) (fun q => (Nat.lt_or_ge q 6).elim (fun hq => Or.inl (d1 _ (by omega))) Or.inr) (fun k hk => (c1 k (by omega)).2.2.2.2) (fun k hk => h0.wc.s6 (by omega)) (Nat.le_refl _)
    rw [(c1 m (by omega)).2.2.2.2, e]; exact h0.d m hm
  · refine ⟨by rw [c6, n44]; exact h0.kv.1, fun m hm => ?_⟩
    rw [n44] at hm
    rw [c6, hlo (350 + m) (by omega), hlo 42 (by omega)]; exact h0.kv.2 m hm
  · intro p hp
    obtain ⟨g1, g2, g3, g4, g5, g6, g7⟩ := h0.pp hp
    obtain ⟨r0, r1, r2, r3, r4⟩ := p1 p hp
    have hl := h0.wv.l150 hp
    unfold PP
    rw [n44, r1, r2, lo (1550 + p) (by omega), lo (4260 + p) (by omega), vN_eq (lo (1550 + p) (by omega))]
    refine ⟨g1, g2, fun i hi => ?_, fun j hj => ?_, fun j hj => ⟨?_, fun hj2 => ?_⟩, fun i hi => ?_, fun j hj hz => ?_⟩
    · rw [(r3 i (by omega)).1, lo (1560 + 150 * p + i) (by omega)]; exact g3 i hi
    · rw [r4 j hj, lo (4270 + 36 * p + j) (by omega)]; exact g4 j hj
    · rw [zl p j hp hj]
      have h9 := (g5 j hj).1
      unfold ylog at h9 ⊢
      rw [(r3 j hj).2]; exact h9
    · rw [(r3 j hj).2, lo (3360 + 150 * p + j) (by omega)]; exact (g5 j hj).2 hj2
    · obtain ⟨k1, k2⟩ := g6 i hi
      rw [vN_eq (lo (1560 + 150 * p + i) (by omega)), (r3 _ (by omega)).2]; exact ⟨k1, k2⟩
    · rw [zl p j hp (by omega)] at hz
      obtain ⟨i, k1, k2, k3⟩ := g7 j hj hz
      exact ⟨i, k1, by rw [(r3 j (by omega)).2]; exact k2, by rw [lo (1560 + 150 * p + i) (by omega)]; exact k3⟩
  · intro x y h1 h2
    rw [ck x y h1 h2, ck y y h2 h2, hlo 44 (by omega)]; exact h0.kc x y h1 h2
  · intro k hk1 hk2
    rw [c6] at hk1
    rw [n44] at hk2
    have h7 := h0.wv.s6 (show k < 150 by omega)
    rw [vN_eq (hlo (50 + k) (by omega)), hlo (650 + 6 * k + vN v (50 + k)) (by omega), hlo (500 + k) (by omega)]
    refine ⟨(h0.km k hk1 hk2).1, fun q hq => ?_⟩
    rw [hlo (650 + 6 * k + q) (by omega), ck q q hq hq]; exact (h0.km k hk1 hk2).2 q hq
  · intro x y hk1 hk2 hk3
    rw [c6] at hk1
    rw [n44] at hk3
    have h7 := h0.wv.s6 (show y < 150 by omega)
    rw [vN_eq (hlo (50 + y) (by omega)), hlo (650 + 6 * x + vN v (50 + y)) (by omega), hlo (500 + y) (by omega)]
    exact h0.ko x y hk1 hk2 hk3
  · intro q k hq hk1 hk2
    rw [c6] at hk1
    rw [n44] at hk2
    rw [zl q k hq (by omega), hlo (50 + k) (by omega), lo (3360 + 150 * q + k) (by omega), ((p1 q hq).2.2.2.1 k (by omega)).2]
    exact ha q k hq hk1 hk2
  · intro q k hq hk1 hk2
    rw [c6] at hk1
    rw [n44] at hk2
    have h9 := hb q k hq hk1 hk2
    have e : zbuf w q k = zbuf v q k := by unfold zbuf znow; rw [hlo (350 + k) (by omega), hlo 42 (by omega), lo (3360 + 150 * q + k) (by omega), zl q k hq (by omega)]
    unfold zFc at h9 ⊢
    rw [e, zdel_cong (v := v) (by omega) (h0.wv.s6 (by omega)) hlo (zl q k hq (by omega)) (fun y hy => ck q y hq hy)]
    exact h9
/-! copies -/
theorem ycm_at {C : IX} {g : Nat → Nat → Int32} : ∀ {n : Nat}, n ≤ 6 → (∀ k, (∀ j, j < n → k ≠ 4 + j) → ycm C g n k = C k) ∧ ∀ j, j < n → ∀ i, i < (if j = 5 then 900 else 150) → ycm C g n (4 + j) i = g j i
  | 0, _ => ⟨fun _ _ => rfl, fun j hj => absurd hj (Nat.not_lt_zero _)⟩
  | n + 1, hn => by
    obtain ⟨u1, u2⟩ := ycm_at (C := C) (g := g) (n := n) (by omega)
    rw [ycm]
    refine ⟨fun k hk => ?_, fun j hj i hi => ?_⟩
    · rw [va_up_ne _ _ (hk n (by omega))]; exact u1 k (fun j hj => hk j (by omega))
    · by_cases hjn : j = n
      · subst hjn
        rw [va_up_self]; exact ycy_in hi
      · rw [va_up_ne _ _ (by omega)]; exact u2 j (by omega) i hi
theorem ycf_at {C : IX} {p : Nat} {g1 g2 g3 g4 : Nat → Int32} (hp : p < 6) : (∀ k, k ≠ 10 + p → k ≠ 20 + p → k ≠ 30 + p → k ≠ 40 + p → ycf C p g1 g2 g3 g4 k = C k) ∧ ycf C p g1 g2 g3 g4 (10 + p) 0 = C (10 + p) 0 ∧ ycf C p g1 g2 g3 g4 (10 + p) 4 = g1 4 ∧ ycf C p g1 g2 g3 g4 (10 + p) 5 = g1 5 ∧ (∀ j, j < 150 → ycf C p g1 g2 g3 g4 (20 + p) j = g2 j ∧ ycf C p g1 g2 g3 g4 (30 + p) j = g3 j) ∧ ∀ j, j < 36 → ycf C p g1 g2 g3 g4 (40 + p) j = g4 j := by
  have e10 : ycf C p g1 g2 g3 g4 (10 + p) = upd (upd (C (10 + p)) 4 (g1 4)) 5 (g1 5) := by
    rw [ycf, va_up_ne _ _ (by omega), ycl, va_up_self, ycl3, va_up_self, ycl2, va_up_ne _ _ (by omega), ycl1, va_up_ne _ _ (by omega)]
  refine ⟨fun k k1 k2 k3 k4 => ?_, ?_, ?_, ?_, fun j hj => ⟨?_, ?_⟩, fun j hj => ?_⟩
  · rw [ycf, va_up_ne _ _ k4, ycl, va_up_ne _ _ k1, ycl3, va_up_ne _ _ k1, ycl2, va_up_ne _ _ k3, ycl1, va_up_ne _ _ k2]
  · rw [e10, upd_at, if_neg (by omega), upd_at, if_neg (by omega)]
  · rw [e10, upd_at, if_neg (by omega), upd_at, if_pos rfl]
  · rw [e10, upd_at, if_pos rfl]
  · rw [ycf, va_up_ne _ _ (by omega), ycl, va_up_ne _ _ (by omega), ycl3, va_up_ne _ _ (by omega), ycl2, va_up_ne _ _ (by omega), ycl1, va_up_self]; exact ycy_in hj
  · rw [ycf, va_up_ne _ _ (by omega), ycl, va_up_ne _ _ (by omega), ycl3, va_up_ne _ _ (by omega), ycl2, va_up_self]; exact ycy_in hj
  · rw [ycf, va_up_self]; exact ycy_in hj
theorem ygL_at {C E : IX} : ∀ {n : Nat}, n ≤ 6 → (∀ k, (k < 10 ∨ k = 100) → ygL C E n k = yg3 C E k) ∧ (∀ p, p < 6 → ygL C E n (10 + p) 0 = C (10 + p) 0) ∧ ∀ p, p < n → ygL C E n (10 + p) 4 = E (10 + p) 4 ∧ ygL C E n (10 + p) 5 = E (10 + p) 5 ∧ (∀ j, j < 150 → ygL C E n (20 + p) j = E (20 + p) j ∧ ygL C E n (30 + p) j = E (30 + p) j) ∧ ∀ j, j < 36 → ygL C E n (40 + p) j = E (40 + p) j
  | 0, _ => ⟨fun _ _ => rfl, fun p hp => by
      show yg3 C E (10 + p) 0 = _
      rw [yg3, ycmF, va_up_ne _ _ (by omega), (ycm_at (Nat.le_refl _)).1 _ (fun j hj => by omega), yg2, va_up_ne _ _ (by omega), va_up_ne _ _ (by omega)], fun p hp => absurd hp (Nat.not_lt_zero _)⟩
  | n + 1, hn => by
    obtain ⟨u1, u2, u3⟩ := ygL_at (C := C) (E := E) (n := n) (by omega)
    obtain ⟨f1, f2, f3, f4, f5, f6⟩ := ycf_at (C := ygL C E n) (p := n) (g1 := E (10 + n)) (g2 := E (20 + n)) (g3 := E (30 + n)) (g4 := E (40 + n)) (by omega)
    rw [ygL]
    refine ⟨fun k hk => by rw [f1 k (by omega) (by omega) (by omega) (by omega)]; exact u1 k hk, fun p hp => ?_, fun p hp => ?_⟩
    · by_cases hpn : p = n
      · subst hpn; rw [f2]; exact u2 p hp
      · rw [f1 _ (by omega) (by omega) (by omega) (by omega)]; exact u2 p hp
    · by_cases hpn : p = n
      · subst hpn; exact ⟨f3, f4, f5, f6⟩
      · rw [f1 _ (by omega) (by omega) (by omega) (by omega), f1 (20 + p) (by omega) (by omega) (by omega) (by omega), f1 (30 + p) (by omega) (by omega) (by omega) (by omega), f1 (40 + p) (by omega) (by omega) (by omega) (by omega)]; exact u3 p (by omega)
theorem ygc_agr {C E : IX} (hC : ∀ p, p < 6 → C (10 + p) 0 = nI p) : Agr E (ygc C E) := by
  obtain ⟨u1, u2, u3⟩ := ygL_at (C := C) (E := E) (n := 6) (Nat.le_refl _)
  obtain ⟨m1, m2⟩ := ycm_at (C := yg2 C E) (g := fun j => E (4 + j)) (n := 6) (Nat.le_refl _)
  have hi : ∀ k, k ≠ 100 → ygc C E k = ygL C E 6 k := fun k hk => by rw [ygc, va_up_ne _ _ hk, yg6, va_up_ne _ _ hk, yg5, va_up_ne _ _ hk, yg4, va_up_ne _ _ hk]
  have e100 : ygc C E 100 = upd (upd (upd (upd (ygL C E 6 100) 4 (E 100 4)) 5 (E 100 5)) 6 (E 100 6)) 7 (E 100 7) := by rw [ygc, va_up_self, yg6, va_up_self, yg5, va_up_self, yg4, va_up_self]
  have lo : ∀ k, k < 10 → ygc C E k = yg3 C E k := fun k hk => by rw [hi k (by omega)]; exact u1 k (by omega)
  have em : ∀ k, k ≠ 2 → yg3 C E k = ycm (yg2 C E) (fun j => E (4 + j)) 6 k := fun k hk => by rw [yg3, ycmF, va_up_ne _ _ hk]
  have m3 : ∀ j, j < 6 → ∀ i, i < (if j = 5 then 900 else 150) → ygc C E (4 + j) i = E (4 + j) i := fun j hj i hi2 => by rw [lo _ (by omega), em _ (by omega)]; exact m2 j hj i hi2
  refine ⟨⟨?_, ?_, ?_, ?_, ?_⟩, fun j hj => ⟨?_, ?_⟩, fun j hj => ⟨m3 0 (by omega) j hj, m3 1 (by omega) j hj, m3 2 (by omega) j hj, m3 3 (by omega) j hj, m3 4 (by omega) j hj⟩, fun j hj => m3 5 (by omega) j hj, fun p hp => ?_⟩
  · rw [e100]; simp [upd_at]
  · rw [e100]; simp [upd_at]
  · rw [e100]; simp [upd_at]
  · rw [e100]; simp [upd_at]
  · rw [lo 2 (by omega), yg3, ycmF, va_up_self, upd_at, if_pos rfl]
  · rw [lo 0 (by omega), em 0 (by omega), m1 0 (fun j hj => by omega), yg2, va_up_ne _ _ (by omega), va_up_self]; exact ycy_in hj
  · rw [lo 1 (by omega), em 1 (by omega), m1 1 (fun j hj => by omega), yg2, va_up_self]; exact ycy_in hj
  · rw [hi _ (by omega), hi (20 + p) (by omega), hi (30 + p) (by omega), hi (40 + p) (by omega)]
    exact ⟨(u2 p hp).trans (hC p hp), u3 p hp⟩
theorem RG_copy {C E : IX} {v : Rw} (h : RG E v) (hC : ∀ p, p < 6 → C (10 + p) 0 = nI p) : RG (ygc C E) v := RG_cong h (ygc_agr hC) (fun _ _ => rfl)
theorem RG.self {C : IX} {v : Rw} (h : RG C v) : ∀ p, p < 6 → C (10 + p) 0 = nI p := fun _ hp => h.1.wc.self hp
theorem RG_v {C : IX} {v w : Rw} (h : RG C v) (lo : ∀ k, k < 4486 → w k = v k) : RG C w := RG_cong h ⟨⟨rfl, rfl, rfl, rfl, rfl⟩, fun _ _ => ⟨rfl, rfl⟩, fun _ _ => ⟨rfl, rfl, rfl, rfl, rfl⟩, fun _ _ => rfl, fun p hp => ⟨h.self p hp, rfl, rfl, fun _ _ => ⟨rfl, rfl⟩, fun _ _ => rfl⟩⟩ lo
/-! anew -/
theorem ysa_at {C : IX} {p : Nat} (hp : p < 6) : (∀ k, k ≠ 10 + p → k ≠ 30 + p → k ≠ 40 + p → ysa C p k = C k) ∧ ysa C p (10 + p) = upd (upd (C (10 + p)) 4 (nI 0)) 5 (nI 0) ∧ ysa C p (30 + p) = yfil (C (30 + p)) 150 (-2) ∧ ysa C p (40 + p) = yfil (C (40 + p)) 36 (nI 0) := by
  refine ⟨fun k k1 k2 k3 => ?_, ?_, ?_, ?_⟩
  · rw [ysa, yff, va_up_ne _ _ k3, ysa3, va_up_ne _ _ k1, ysa2, va_up_ne _ _ k1, ysa1, va_up_ne _ _ k2]
  · rw [ysa, yff, va_up_ne _ _ (by omega), ysa3, va_up_self, ysa2, va_up_self, ysa1, va_up_ne _ _ (by omega)]
  · rw [ysa, yff, va_up_ne _ _ (by omega), ysa3, va_up_ne _ _ (by omega), ysa2, va_up_ne _ _ (by omega), ysa1, va_up_self]
  · rw [ysa, yff, va_up_self, ysa3, va_up_ne _ _ (by omega), ysa2, va_up_ne _ _ (by omega), ysa1, va_up_ne _ _ (by omega)]
theorem ysaL_at {C : IX} : ∀ {n : Nat}, n ≤ 6 → (∀ k, (∀ p, p < n → k ≠ 10 + p ∧ k ≠ 30 + p ∧ k ≠ 40 + p) → ysaL C n k = C k) ∧ ∀ p, p < n → ysaL C n (10 + p) = upd (upd (C (10 + p)) 4 (nI 0)) 5 (nI 0) ∧ ysaL C n (30 + p) = yfil (C (30 + p)) 150 (-2) ∧ ysaL C n (40 + p) = yfil (C (40 + p)) 36 (nI 0)
  | 0, _ => ⟨fun _ _ => rfl, fun p hp => absurd hp (Nat.not_lt_zero _)⟩
  | n + 1, hn => by
    obtain ⟨u1, u2⟩ := ysaL_at (C := C) (n := n) (by omega)
    obtain ⟨f1, f2, f3, f4⟩ := ysa_at (C := ysaL C n) (p := n) (by omega)
    rw [ysaL]
    refine ⟨fun k hk => ?_, fun p hp => ?_⟩
    · have h1 := hk n (by omega)
      rw [f1 k h1.1 h1.2.1 h1.2.2]; exact u1 k (fun p hp => hk p (by omega))
    · by_cases hpn : p = n
      · subst hpn
        rw [f2, f3, f4, u1 (10 + p) (fun q hq => by omega), u1 (30 + p) (fun q hq => by omega), u1 (40 + p) (fun q hq => by omega)]; exact ⟨rfl, rfl, rfl⟩
      · rw [f1 _ (by omega) (by omega) (by omega), f1 (30 + p) (by omega) (by omega) (by omega), f1 (40 + p) (by omega) (by omega) (by omega)]; exact u2 p (by omega)
theorem ysn_at {C : IX} {x : Int32} : (ysn C x 100 4 = nI 0 ∧ ysn C x 100 5 = x ∧ ysn C x 100 6 = nI 0 ∧ ysn C x 100 7 = nI 0 ∧ ysn C x 2 6 = nI 0) ∧ (ysn C x 0 0 = x ∧ ysn C x 1 = C 1 ∧ ysn C x 4 = C 4) ∧ ∀ p, p < 6 → ysn C x (20 + p) = C (20 + p) ∧ ysn C x (10 + p) = upd (upd (C (10 + p)) 4 (nI 0)) 5 (nI 0) ∧ ysn C x (30 + p) = yfil (C (30 + p)) 150 (-2) ∧ ysn C x (40 + p) = yfil (C (40 + p)) 36 (nI 0) := by
  obtain ⟨u1, u2⟩ := ysaL_at (C := va_up C 2 (upd (C 2) 6 (nI 0))) (n := 6) (Nat.le_refl _)
  have hi : ∀ k, k ≠ 100 → k ≠ 0 → ysn C x k = ysn1 C k := fun k k1 k2 => by rw [ysn, va_up_ne _ _ k1, ysn5, va_up_ne _ _ k1, ysn4, va_up_ne _ _ k1, ysn3, va_up_ne _ _ k2, ysn2, va_up_ne _ _ k1]
  have e100 : ysn C x 100 = upd (upd (upd (upd (ysn1 C 100) 4 (nI 0)) 5 x) 6 (nI 0)) 7 (nI 0) := by
    rw [ysn, va_up_self, ysn5, va_up_self, ysn4, va_up_self, ysn3, va_up_ne _ _ (by omega), ysn2, va_up_self]
  have e0 : ysn C x 0 = upd (ysn2 C 0) 0 x := by rw [ysn, va_up_ne _ _ (by omega), ysn5, va_up_ne _ _ (by omega), ysn4, va_up_ne _ _ (by omega), ysn3, va_up_self]
  have lo : ∀ k, k < 10 → k ≠ 0 → k ≠ 2 → ysn C x k = C k := fun k k1 k2 k3 => by rw [hi k (by omega) k2, ysn1, u1 k (fun p hp => by omega), va_up_ne _ _ k3]
  refine ⟨⟨?_, ?_, ?_, ?_, ?_⟩, ⟨?_, lo 1 (by omega) (by omega) (by omega), lo 4 (by omega) (by omega) (by omega)⟩, fun p hp => ⟨?_, ?_, ?_, ?_⟩⟩
  · rw [e100]; simp [upd_at]
  · rw [e100]; simp [upd_at]
  · rw [e100]; simp [upd_at]
  · rw [e100]; simp [upd_at]
  · rw [hi 2 (by omega) (by omega), ysn1, u1 2 (fun p hp => by omega), va_up_self, upd_at, if_pos rfl]
  · rw [e0, upd_at, if_pos rfl]
  · rw [hi _ (by omega) (by omega), ysn1, u1 _ (fun q hq => by omega), va_up_ne _ _ (by omega)]
  · rw [hi _ (by omega) (by omega), ysn1, (u2 p hp).1, va_up_ne _ _ (by omega)]
  · rw [hi _ (by omega) (by omega), ysn1, (u2 p hp).2.1, va_up_ne _ _ (by omega)]
  · rw [hi _ (by omega) (by omega), ysn1, (u2 p hp).2.2, va_up_ne _ _ (by omega)]
/-- what a group has before it begins anew -/
def PreG (C : IX) : Prop := (∀ p, p < 6 → C (10 + p) 0 = nI p) ∧ (∀ m, m < 150 → C 4 m = nI (cN C 4 m) ∧ cN C 4 m < 6) ∧ (∀ p i, p < 6 → i < 150 → C (20 + p) i = nI (cN C (20 + p) i) ∧ cN C (20 + p) i < 150) ∧ C 1 0 = nI 0
theorem RG.pre {C : IX} {v : Rw} (h : RG C v) : PreG C := ⟨h.self, h.1.wc.2.2.2.2.1, h.1.wc.2.2.2.2.2.2, ((h.1.vw.1 0 (Nat.zero_le _)).2).trans h.1.vw.2⟩
theorem cl0 : (nI 0).toNatClampNeg = 0 := nI_clamp (by omega)
theorem RG_anew {C : IX} (hC : PreG C) {k : Nat} (hk1 : 1 ≤ k) (hk2 : k < 64) {w : Rw} (hw : ∀ j, j < 4486 → w j = if j = 43 ∨ j = 0 then nI k else nI 0) : RG (ysn C (nI k)) w := by
  obtain ⟨s1, s2, s3, s4⟩ := hC
  obtain ⟨⟨a1, a2, a3, a4, a5⟩, ⟨b1, b2, b3⟩, p1⟩ := ysn_at (C := C) (x := nI k)
  have z : ∀ j, j < 4486 → j ≠ 43 → j ≠ 0 → w j = nI 0 := fun j h1 h2 h3 => by rw [hw j h1, if_neg (by omega)]
  have zn : ∀ j, j < 4486 → j ≠ 43 → j ≠ 0 → vN w j = 0 := fun j h1 h2 h3 => by unfold vN; rw [z j h1 h2 h3]; exact cl0
  have w43 : w 43 = nI k := by rw [hw 43 (by omega), if_pos (Or.inl rfl)]
  have w0 : w 0 = nI k := by rw [hw 0 (by omega), if_pos (Or.inr rfl)]
  have n44 : vN w 44 = 0 := zn 44 (by omega) (by omega) (by omega)
  have n42 : vN w 42 = 0 := zn 42 (by omega) (by omega) (by omega)
  have c6 : cN (ysn C (nI k)) 100 6 = 0 := by unfold cN; rw [a3]; exact cl0
  have hmem : zmem w = nI k := by unfold zmem; rw [n42]; exact w0
  have zl : ∀ q j, q < 6 → j < 150 → zlog w q j = false := fun q j h1 h2 => by unfold zlog; rw [z (2460 + 150 * q + j) (by omega) (by omega) (by omega)]; exact decide_eq_false n0n1
  have ln : ∀ p, p < 6 → vN w (1550 + p) = 0 := fun p hp => zn _ (by omega) (by omega) (by omega)
  have l0 : ∀ p, p < 6 → ysn C (nI k) (10 + p) 4 = nI 0 := fun p hp => by rw [(p1 p hp).2.1, upd_at, if_neg (by omega), upd_at, if_pos rfl]
  refine ⟨⟨⟨?_, ?_⟩, ⟨⟨?_, ?_⟩, ?_, ?_, ?_, ?_, ?_⟩, ?_, ?_, ?_, ?_⟩, ?_, ?_⟩
  · refine ⟨?_, ?_, ?_, fun p hp => ?_, ?_, fun p hp => ?_, ?_⟩
    · unfold cN; rw [a1, cl0]; exact ⟨rfl, by omega⟩
    · unfold cN; rw [a3, cl0]; exact ⟨rfl, by omega⟩
    · unfold cN; rw [a5, cl0]; exact ⟨rfl, by omega⟩
    · rw [(p1 p hp).2.1, upd_at, if_neg (by omega), upd_at, if_neg (by omega)]; exact s1 p hp
    · intro m hm; unfold cN; rw [b3]; exact s2 m hm
    · unfold cN; rw [l0 p hp, cl0]; exact ⟨rfl, by omega⟩
    · intro p i hp hi; unfold cN; rw [(p1 p hp).1]; exact s3 p i hp hi
  · refine ⟨?_, ?_, fun m hm => ?_, fun p hp => ?_, fun p i hp hi => ?_⟩
    · rw [n42, z 42 (by omega) (by omega) (by omega)]; exact ⟨rfl, by omega⟩
    · rw [n44, z 44 (by omega) (by omega) (by omega)]; exact ⟨rfl, by omega⟩
    · rw [zn (50 + m) (by omega) (by omega) (by omega), z (50 + m) (by omega) (by omega) (by omega)]; exact ⟨rfl, by omega⟩
    · rw [ln p hp, z (1550 + p) (by omega) (by omega) (by omega)]
      have hmu : zmu w p = 150 := zcB_every (fun j hj => by rw [zl p j hp hj]; rfl)
      rw [hmu]; exact ⟨rfl, rfl⟩
    · rw [zn (1560 + 150 * p + i) (by omega) (by omega) (by omega), z (1560 + 150 * p + i) (by omega) (by omega) (by omega)]; exact ⟨rfl, by omega⟩
  · unfold WS zsv
    rw [hmem, w43, Int32.and_self]
    have h9 := b6_any k hk2
    rw [decide_eq_false (nI_ne0 (by omega) (by omega))] at h9
    simpa using h9.symm
  · unfold KS; rw [hmem, w43]; exact ⟨Sm_nI hk2, Sm_nI hk2⟩
  · unfold RH
    rw [a1, a2, a4, a5, z 42 (by omega) (by omega) (by omega), w43, z 45 (by omega) (by omega) (by omega), z 44 (by omega) (by omega) (by omega)]; exact ⟨rfl, rfl, rfl, rfl⟩
  · refine ⟨fun j hj => ?_, z 21 (by omega) (by omega) (by omega)⟩
    rw [n42] at hj
    have hj0 : j = 0 := by omega
    subst hj0
    rw [b1, b2, s4, w0, z (21 + 0) (by omega) (by omega) (by omega)]; exact ⟨rfl, rfl⟩
  · intro m hm; rw [n44] at hm; exact absurd hm (Nat.not_lt_zero _)
  · intro m hm; rw [n44] at hm; exact absurd hm (Nat.not_lt_zero _)
  · refine ⟨by rw [c6, n44]; exact Nat.le_refl _, fun m hm => ?_⟩
    rw [n44] at hm; exact absurd hm (Nat.not_lt_zero _)
  · intro p hp
    obtain ⟨q1, q2, q3, q4⟩ := p1 p hp
    refine ⟨?_, ?_, fun i hi => ?_, fun j hj => ?_, fun j hj => ⟨?_, fun _ => ⟨?_, ?_⟩⟩, fun i hi => ?_, fun j hj => ?_⟩
    · rw [l0 p hp, z (1550 + p) (by omega) (by omega) (by omega)]
    · rw [q2, upd_at, if_pos rfl, z (4260 + p) (by omega) (by omega) (by omega)]
    · rw [ln p hp] at hi; exact absurd hi (Nat.not_lt_zero _)
    · rw [q4, z (4270 + 36 * p + j) (by omega) (by omega) (by omega)]; exact if_pos hj
    · rw [zl p j hp hj]
      unfold ylog
      rw [q3, show yfil (C (30 + p)) 150 (-2) j = -2 from if_pos hj, decide_eq_true m2lt]; rfl
    · rw [q3]; exact if_pos hj
    · exact z _ (by omega) (by omega) (by omega)
    · rw [ln p hp] at hi; exact absurd hi (Nat.not_lt_zero _)
    · rw [n44] at hj; exact absurd hj (Nat.not_lt_zero _)
  · intro x y h1 h2
    unfold zclk
    rw [z (4270 + 36 * x + 6 * x + y) (by omega) (by omega) (by omega), z (4270 + 36 * y + 6 * y + y) (by omega) (by omega) (by omega), z 44 (by omega) (by omega) (by omega)]
    exact ⟨by decide, by decide⟩
  · intro m h1 hm; rw [n44] at hm; exact absurd hm (Nat.not_lt_zero _)
  · intro x y h1 h2 hm; rw [n44] at hm; exact absurd hm (Nat.not_lt_zero _)
  · intro q m h1 h2 hm; rw [n44] at hm; exact absurd hm (Nat.not_lt_zero _)
  · intro q m h1 h2 hm; rw [n44] at hm; exact absurd hm (Nat.not_lt_zero _)
theorem zreset_at (v : Rw) (x : Int32) : ∀ j, j < 4486 → zreset v x j = if j = 43 ∨ j = 0 then x else nI 0 := fun j hj => by
  rw [zreset, upd_at, upd_at]
  by_cases h1 : j = 43
  · rw [if_pos h1, if_pos (Or.inl h1)]
  · rw [if_neg h1]
    by_cases h2 : j = 0
    · rw [if_pos h2, if_pos (Or.inr h2)]
    · rw [if_neg h2, if_neg (by omega)]; exact if_pos hj
