/-! a message is sent -/
theorem zbL_at {p n : Nat} (hp : p < 6) (hn : n < 150) {w : Rw} : ∀ {q : Nat}, q ≤ 6 → ∀ k, zbL p n w q k = if 650 + 6 * n ≤ k ∧ k < 650 + 6 * n + q then zclk w p (k - (650 + 6 * n)) else w k
  | 0, _, k => by rw [if_neg (by omega)]; rfl
  | q + 1, hq, k => by
    have ih := zbL_at hp hn (w := w) (q := q) (by omega)
    have e : zclk (zbL p n w q) p q = zclk w p q := by unfold zclk; rw [ih, if_neg (by omega)]
    rw [zbL, upd_at, e]
    by_cases h : k = 650 + 6 * n + q
    · subst h; rw [if_pos rfl, if_pos (by omega), show 650 + 6 * n + q - (650 + 6 * n) = q by omega]
    · rw [if_neg h, ih]
      by_cases h2 : 650 + 6 * n ≤ k ∧ k < 650 + 6 * n + q
      · rw [if_pos h2, if_pos (by omega)]
      · rw [if_neg h2, if_neg (by omega)]
theorem zbV_at {C : IX} {v : Rw} (h : R0 C v) {p : Nat} (hp : p < 6) (y : Int32) (hn : vN v 44 < 150) (k : Nat) : zbV v p y k =
    if 650 + 6 * vN v 44 ≤ k ∧ k < 650 + 6 * vN v 44 + 6 then (if k = 650 + 6 * vN v 44 + p then zclk v p p + nI 1 else zclk v p (k - (650 + 6 * vN v 44)))
    else if k = 4270 + 42 * p + p then zclk v p p + nI 1 else if k = 4260 + p then nI 31 * v (4260 + p) + y else if k = 2460 + 150 * p + vN v 44 then nI 1 else if k = 1550 + p then v (1550 + p) + nI 1 else if k = 1560 + 150 * p + vN v (1550 + p) then nI (vN v 44)
    else if k = 500 + vN v 44 then zclk v p p + nI 1 else if k = 350 + vN v 44 then v 42 else if k = 200 + vN v 44 then y else if k = 50 + vN v 44 then nI p else if k = 44 then v 44 + nI 1 else v k := by
  have at4 := zb4_at v (p := p) y hn
  have hlog := (h.pp hp).logN hn (Nat.le_refl _)
  have hlen := h.len hp hn hlog
  have hi : ∀ k, 650 ≤ k → zb4 v p y k = v k := fun k hk => by rw [at4, if_neg (by omega), if_neg (by omega), if_neg (by omega), if_neg (by omega), if_neg (by omega)]
  have hl4 : vN (zb4 v p y) (1550 + p) = vN v (1550 + p) := vN_eq (hi _ (by omega))
  have s4 : vN (zb4 v p y) (50 + vN v 44) = p := vN_nI (by rw [at4, if_neg (by omega), if_neg (by omega), if_neg (by omega), if_pos rfl]) (by omega)
  have p4 : zb4 v p y (200 + vN v 44) = y := by rw [at4, if_neg (by omega), if_neg (by omega), if_pos rfl]
  have ed : ∀ k, zdeliv (zb4 v p y) p (vN v 44) k = if k = 4270 + 42 * p + p then v (4270 + 42 * p + p) + nI 1 else if k = 4260 + p then nI 31 * v (4260 + p) + y else if k = 2460 + 150 * p + vN v 44 then nI 1 else if k = 1550 + p then v (1550 + p) + nI 1 else if k = 1560 + 150 * p + vN v (1550 + p) then nI (vN v 44) else zb4 v p y k := fun k => by
    rw [zdeliv, s4, if_pos rfl, zdv1_at _ hp hn hp (by rw [hl4]; exact hlen), hl4, p4, hi (4270 + 42 * p + p) (by omega), hi (4260 + p) (by omega), hi (1550 + p) (by omega)]
  have ec : ∀ q, q < 6 → zclk (zdeliv (zb4 v p y) p (vN v 44)) p q = if q = p then zclk v p p + nI 1 else zclk v p q := fun q hq => by
    unfold zclk
    rw [ed]
    by_cases e : q = p
    · subst e; rw [if_pos (by omega), if_pos rfl, show 4270 + 42 * q + q = 4270 + 36 * q + 6 * q + q by omega]
    · rw [if_neg (by omega), if_neg (by omega), if_neg (by omega), if_neg (by omega), if_neg (by omega), if_neg e, hi _ (by omega)]
  rw [zbV, zbL_at hp hn (Nat.le_refl _)]
  by_cases h1 : 650 + 6 * vN v 44 ≤ k ∧ k < 650 + 6 * vN v 44 + 6
  · rw [if_pos h1, if_pos h1, ec _ (by omega)]
    by_cases e : k = 650 + 6 * vN v 44 + p
    · rw [if_pos (by omega), if_pos e]
    · rw [if_neg (by omega), if_neg e]
  · have e2 : v (4270 + 42 * p + p) = zclk v p p := congrArg v (by omega)
    rw [if_neg h1, if_neg h1, ed, at4, e2]
theorem yaL_at {p n : Nat} {C : IX} : ∀ {q : Nat}, q ≤ 6 → ∀ j, yaL p n C q 9 j = if n * 6 ≤ j ∧ j < n * 6 + q then yclk C p (j - n * 6) else C 9 j
  | 0, _, j => by rw [if_neg (by omega)]; rfl
  | q + 1, hq, j => by
    have ih := yaL_at (p := p) (n := n) (C := C) (q := q) (by omega)
    have e : yclk (yaL p n C q) p q = yclk C p q := by unfold yclk yhrd; rw [yaL_lo (by omega)]
    rw [yaL, va_up_self, upd_at, e]
    by_cases h : j = n * 6 + q
    · subst h; rw [if_pos rfl, if_pos (by omega), show n * 6 + q - n * 6 = q by omega]
    · rw [if_neg h, ih]
      by_cases h2 : n * 6 ≤ j ∧ j < n * 6 + q
      · rw [if_pos h2, if_pos (by omega)]
      · rw [if_neg h2, if_neg (by omega)]
theorem yadd_hi {D : IX} {p : Nat} {y z : Int32} {k : Nat} (hk : k < 2 ∨ 10 ≤ k) : yadd D p y z k = D k := by
  rw [yadd, va_up_ne _ _ (by omega), ya6, va_up_ne _ _ (by omega), ya5, yaL_lo (by omega), ya4_lo (by omega)]
theorem yadd_2 {D : IX} {p : Nat} {y z : Int32} : yadd D p y z 2 = upd (D 2) 6 (D 2 6 + nI 1) := by rw [yadd, va_up_self, ya6_n]
theorem yadd_4 {D : IX} {p : Nat} {y z : Int32} : yadd D p y z 4 = upd (D 4) (cN D 2 6) (nI p) := by
  rw [yadd, va_up_ne _ _ (by omega), ya6, va_up_ne _ _ (by omega), ya5, yaL_lo (by omega), ya4_4]
theorem yadd_5 {D : IX} {p : Nat} {y z : Int32} : yadd D p y z 5 = upd (D 5) (cN D 2 6) y := by
  rw [yadd, va_up_ne _ _ (by omega), ya6, va_up_ne _ _ (by omega), ya5, yaL_lo (by omega), ya4, va_up_ne _ _ (by omega), ya3, va_up_ne _ _ (by omega), ya2, va_up_self, ya1, va_up_ne _ _ (by omega)]
theorem yadd_6 {D : IX} {p : Nat} {y z : Int32} : yadd D p y z 6 = upd (D 6) (cN D 2 6) z := by
  rw [yadd, va_up_ne _ _ (by omega), ya6, va_up_ne _ _ (by omega), ya5, yaL_lo (by omega), ya4, va_up_ne _ _ (by omega), ya3, va_up_self, ya2, va_up_ne _ _ (by omega), ya1, va_up_ne _ _ (by omega)]
theorem ya3_clk {D : IX} {p q : Nat} {y z : Int32} : yclk (ya3 D p y z) p q = yclk D p q := by
  unfold yclk yhrd; rw [ya3, va_up_ne _ _ (by omega), ya2, va_up_ne _ _ (by omega), ya1, va_up_ne _ _ (by omega)]
theorem yadd_7 {D : IX} {p : Nat} {y z : Int32} : yadd D p y z 7 = upd (D 7) (cN D 2 6) (yclk D p p) := by
  rw [yadd, va_up_ne _ _ (by omega), ya6, va_up_ne _ _ (by omega), ya5, yaL_lo (by omega), ya4, va_up_self, ya3_clk, ya3, va_up_ne _ _ (by omega), ya2, va_up_ne _ _ (by omega), ya1, va_up_ne _ _ (by omega)]
theorem yadd_9 {D : IX} {p : Nat} {y z : Int32} (j : Nat) : yadd D p y z 9 j = if cN D 2 6 * 6 ≤ j ∧ j < cN D 2 6 * 6 + 6 then yclk D p (j - cN D 2 6 * 6) else D 9 j := by
  have hck : ∀ q, yclk (ya4 D p y z) p q = yclk D p q := fun q => by unfold yclk yhrd; rw [ya4_lo (by omega)]
  rw [yadd, va_up_ne _ _ (by omega), ya6, va_up_ne _ _ (by omega), ya5, yaL_at (Nat.le_refl _), ya4_lo (by omega), hck]
theorem ya5_8 {D : IX} {p : Nat} {y z : Int32} : ya5 D p y z 8 = D 8 := by rw [ya5, yaL_lo (by omega), ya4_lo (by omega)]
theorem yadd_5e {D : IX} {p : Nat} {y z : Int32} {k : Nat} (h1 : k ≠ 8) (h2 : k ≠ 2) : yadd D p y z k = ya5 D p y z k := by rw [yadd, va_up_ne _ _ h2, ya6, va_up_ne _ _ h1]
theorem yadd_8' {D : IX} {p : Nat} {y z : Int32} : yadd D p y z 8 = upd (D 8) (cN D 2 6) (nI 1 + ygdb (ya5 D p y z) (cN D 2 6) (cN D 2 6)) := by
  rw [yadd, va_up_ne _ _ (by omega), ya6, va_up_self, ya5_8]
theorem yadd_gdb {D : IX} {p : Nat} {y z : Int32} : ∀ {j : Nat}, j ≤ cN D 2 6 → ygdb (yadd D p y z) (cN D 2 6) j = ygdb (ya5 D p y z) (cN D 2 6) j
  | 0, _ => rfl
  | j + 1, hj => by
    have hp2 : yprec (yadd D p y z) j (cN D 2 6) = yprec (ya5 D p y z) j (cN D 2 6) := by
      unfold yprec yent cN
      rw [yadd_5e (show (6 : Nat) ≠ 8 by omega) (by omega), yadd_5e (show (9 : Nat) ≠ 8 by omega) (by omega), yadd_5e (show (4 : Nat) ≠ 8 by omega) (by omega), yadd_5e (show (7 : Nat) ≠ 8 by omega) (by omega)]
    have h8 : yadd D p y z 8 j = ya5 D p y z 8 j := by rw [yadd_8', upd_at, if_neg (by omega), ya5_8]
    rw [ygdb, ygdb, yadd_gdb (by omega), hp2, h8]
theorem yadd_8 {D : IX} {p : Nat} {y z : Int32} : yadd D p y z 8 = upd (D 8) (cN D 2 6) (nI 1 + ygdb (yadd D p y z) (cN D 2 6) (cN D 2 6)) := by rw [yadd_gdb (Nat.le_refl _)]; exact yadd_8'
theorem ysend_at {C : IX} {p : Nat} (hp : p < 6) (hl : C (10 + p) 4 < nI 150) (y : Int32) : (ysend C p y 0 = C 0 ∧ ysend C p y 1 = C 1 ∧ ysend C p y 100 = C 100 ∧ ysend C p y 2 = upd (C 2) 6 (C 2 6 + nI 1)) ∧ (ysend C p y 4 = upd (C 4) (cN C 2 6) (nI p) ∧ ysend C p y 5 = upd (C 5) (cN C 2 6) y ∧ ysend C p y 6 = upd (C 6) (cN C 2 6) (C 100 4) ∧ ysend C p y 7 = upd (C 7) (cN C 2 6) (yclk C p p + nI 1)) ∧
    (∀ j, ysend C p y 9 j = if cN C 2 6 * 6 ≤ j ∧ j < cN C 2 6 * 6 + 6 then (if j = cN C 2 6 * 6 + p then yclk C p p + nI 1 else yclk C p (j - cN C 2 6 * 6)) else C 9 j) ∧ ysend C p y 8 = upd (C 8) (cN C 2 6) (nI 1 + ygdb (ysend C p y) (cN C 2 6) (cN C 2 6)) ∧
    (∀ q, q < 6 → q ≠ p → ysend C p y (10 + q) = C (10 + q) ∧ ysend C p y (20 + q) = C (20 + q) ∧ ysend C p y (30 + q) = C (30 + q) ∧ ysend C p y (40 + q) = C (40 + q)) ∧
    ysend C p y (10 + p) = upd (upd (C (10 + p)) 4 (C (10 + p) 4 + nI 1)) 5 (nI 31 * C (10 + p) 5 + y) ∧ ysend C p y (20 + p) = upd (C (20 + p)) (cN C (10 + p) 4) (nI (cN C 2 6)) ∧ ysend C p y (30 + p) = upd (C (30 + p)) (cN C 2 6) (C (10 + p) 4) ∧ ysend C p y (40 + p) = upd (C (40 + p)) (p * 6 + p) (C (40 + p) (p * 6 + p) + nI 1) := by
  have hat := ydl5_at C hp (cN C 2 6) p y
  have e0 : ydl C p (cN C 2 6) p y = ydl5 C p (cN C 2 6) p y := ydl_t hl
  have es0 : ysend C p y = yadd (ydl5 C p (cN C 2 6) p y) p y (ydl5 C p (cN C 2 6) p y 100 4) := by rw [ysend, e0]
  generalize ydl5 C p (cN C 2 6) p y = D at hat es0
  have dl : ∀ k, (k < 10 ∨ k = 100) → D k = C k := fun k hk => by rw [hat, if_neg (by omega), if_neg (by omega), if_neg (by omega), if_neg (by omega)]
  have dn : cN D 2 6 = cN C 2 6 := cN_row (dl 2 (by omega))
  have es : ysend C p y = yadd D p y (C 100 4) := by rw [es0, dl 100 (by omega)]
  rw [es]
  clear es es0 e0
  have hck : ∀ q, yclk D p q = if q = p then yclk C p p + nI 1 else yclk C p q := fun q => by
    unfold yclk yhrd
    rw [hat, if_pos rfl, upd_at]
    by_cases hq : q = p
    · subst hq; rw [if_pos rfl, if_pos rfl]
    · rw [if_neg (by omega), if_neg hq]
  have h8 := yadd_8 (D := D) (p := p) (y := y) (z := C 100 4)
  rw [dn, dl 8 (by omega)] at h8
  refine ⟨⟨?_, ?_, ?_, ?_⟩, ⟨?_, ?_, ?_, ?_⟩, fun j => ?_, h8, fun q hq hqp => ⟨?_, ?_, ?_, ?_⟩, ?_, ?_, ?_, ?_⟩
  · rw [yadd_hi (by omega), dl 0 (by omega)]
  · rw [yadd_hi (by omega), dl 1 (by omega)]
  · rw [yadd_hi (by omega), dl 100 (by omega)]
  · rw [yadd_2, dl 2 (by omega)]
  · rw [yadd_4, dn, dl 4 (by omega)]
  · rw [yadd_5, dn, dl 5 (by omega)]
  · rw [yadd_6, dn, dl 6 (by omega)]
  · rw [yadd_7, dn, dl 7 (by omega), hck, if_pos rfl]
  · rw [yadd_9, dn, dl 9 (by omega), hck]
    by_cases hj : cN C 2 6 * 6 ≤ j ∧ j < cN C 2 6 * 6 + 6
    · rw [if_pos hj, if_pos hj]
      by_cases hjp : j = cN C 2 6 * 6 + p
      · rw [if_pos hjp, if_pos (by omega)]
      · rw [if_neg hjp, if_neg (by omega)]
    · rw [if_neg hj, if_neg hj]
  · rw [yadd_hi (by omega), hat, if_neg (by omega), if_neg (by omega), if_neg (by omega), if_neg (by omega)]
  · rw [yadd_hi (by omega), hat, if_neg (by omega), if_neg (by omega), if_neg (by omega), if_neg (by omega)]
  · rw [yadd_hi (by omega), hat, if_neg (by omega), if_neg (by omega), if_neg (by omega), if_neg (by omega)]
  · rw [yadd_hi (by omega), hat, if_neg (by omega), if_neg (by omega), if_neg (by omega), if_neg (by omega)]
  · rw [yadd_hi (by omega), hat, if_neg (by omega), if_pos rfl]
  · rw [yadd_hi (by omega), hat, if_neg (by omega), if_neg (by omega), if_neg (by omega), if_pos rfl]
  · rw [yadd_hi (by omega), hat, if_neg (by omega), if_neg (by omega), if_pos rfl]
  · rw [yadd_hi (by omega), hat, if_pos rfl]
theorem ygdb_nI {C : IX} {m : Nat} (hm : m < 1000) : ∀ {j : Nat}, j ≤ m → (∀ k, k < j → ∃ d, C 8 k = nI d ∧ 1 ≤ d ∧ d ≤ k + 1) → ∃ g, ygdb C m j = nI g ∧ g ≤ j
  | 0, _, _ => ⟨0, rfl, Nat.le_refl _⟩
  | j + 1, hj, h => by
    obtain ⟨g, e, hg⟩ := ygdb_nI (C := C) hm (j := j) (by omega) (fun k hk => h k (by omega))
    obtain ⟨d, ed, d1, d2⟩ := h j (by omega)
    rw [ygdb, e, ed]
    split
    · unfold ymx
      split
      · exact ⟨d, rfl, d2⟩
      · exact ⟨g, rfl, by omega⟩
    · exact ⟨g, rfl, by omega⟩
theorem send_pair {C : IX} {v : Rw} (h : RG C v) {p : Nat} (hp : p < 6) (y : Int32) (hn : vN v 44 < 150) : RG (ysend C p y) (zbV v p y) := by
  obtain ⟨h0, ha, hb⟩ := h
  have hN := h0.n
  have hlog := (h0.pp hp).logN hn (Nat.le_refl _)
  have hlen := h0.len hp hn hlog
  obtain ⟨⟨y0, y1, y100, y2⟩, ⟨y4, y5, y6, y7⟩, y9, y8, yo, y10, y20, y30, y40⟩ := ysend_at hp (h0.lenC hp hlen) y
  rw [hN] at y4 y5 y6 y7 y9 y8 y20 y30
  have at_ := zbV_at h0 hp y hn
  generalize hw : zbV v p y = w at at_
  generalize hD : ysend C p y = D at y0 y1 y100 y2 y4 y5 y6 y7 y9 y8 yo y10 y20 y30 y40
  have h20 := h0.wv.vw20
  have v44 := h0.v44
  have hcl : ∀ a b, a < 6 → b < 6 → (zclk v a b).toInt ≤ 150 := fun a b h1 h2 => by have := h0.clk h1 h2; omega
  -- low rows
  have lo : ∀ k, k < 1550 → k ≠ 44 → k ≠ 50 + vN v 44 → k ≠ 200 + vN v 44 → k ≠ 350 + vN v 44 → k ≠ 500 + vN v 44 → ¬ (650 + 6 * vN v 44 ≤ k ∧ k < 650 + 6 * vN v 44 + 6) → w k = v k := fun k h1 h2 h3 h4 h5 h6 h7 => by
    rw [at_, if_neg h7, if_neg (by omega), if_neg (by omega), if_neg (by omega), if_neg (by omega), if_neg (by omega), if_neg h6, if_neg h5, if_neg h4, if_neg h3, if_neg h2]
  have w44 : w 44 = v 44 + nI 1 := by rw [at_, if_neg (by omega), if_neg (by omega), if_neg (by omega), if_neg (by omega), if_neg (by omega), if_neg (by omega), if_neg (by omega), if_neg (by omega), if_neg (by omega), if_neg (by omega), if_pos rfl]
  have w44' : w 44 = nI (vN v 44 + 1) := by rw [w44, h0.wv.n, nI_add]
  have n44 : vN w 44 = vN v 44 + 1 := vN_nI w44' (by omega)
  have t44 : (w 44).toInt = (v 44).toInt + 1 := by rw [w44, add1_I (by omega)]
  have w42 : w 42 = v 42 := lo 42 (by omega) (by omega) (by omega) (by omega) (by omega) (by omega) (by omega)
  have w43 : w 43 = v 43 := lo 43 (by omega) (by omega) (by omega) (by omega) (by omega) (by omega) (by omega)
  have w45 : w 45 = v 45 := lo 45 (by omega) (by omega) (by omega) (by omega) (by omega) (by omega) (by omega)
  have n42 : vN w 42 = vN v 42 := vN_eq w42
  have wlo : ∀ k, k < 42 → w k = v k := fun k hk => lo k (by omega) (by omega) (by omega) (by omega) (by omega) (by omega) (by omega)
  have hmem : zmem w = zmem v := by unfold zmem; rw [n42, wlo _ (by omega)]
  have ws : w (50 + vN v 44) = nI p := by rw [at_, if_neg (by omega), if_neg (by omega), if_neg (by omega), if_neg (by omega), if_neg (by omega), if_neg (by omega), if_neg (by omega), if_neg (by omega), if_neg (by omega), if_pos rfl]
  have wp : w (200 + vN v 44) = y := by rw [at_, if_neg (by omega), if_neg (by omega), if_neg (by omega), if_neg (by omega), if_neg (by omega), if_neg (by omega), if_neg (by omega), if_neg (by omega), if_pos rfl]
  have wo : w (350 + vN v 44) = v 42 := by rw [at_, if_neg (by omega), if_neg (by omega), if_neg (by omega), if_neg (by omega), if_neg (by omega), if_neg (by omega), if_neg (by omega), if_pos rfl]
  have wn : w (500 + vN v 44) = zclk v p p + nI 1 := by rw [at_, if_neg (by omega), if_neg (by omega), if_neg (by omega), if_neg (by omega), if_neg (by omega), if_neg (by omega), if_pos rfl]
  have wc : ∀ q, q < 6 → w (650 + 6 * vN v 44 + q) = if q = p then zclk v p p + nI 1 else zclk v p q := fun q hq => by
    rw [at_, if_pos (by omega)]
    by_cases e : q = p
    · rw [if_pos (by omega), if_pos e]
    · rw [if_neg (by omega), if_neg e, show 650 + 6 * vN v 44 + q - (650 + 6 * vN v 44) = q by omega]
  have vsd : vN w (50 + vN v 44) = p := vN_nI ws (by omega)
  have om : ∀ m, m < vN v 44 → w (50 + m) = v (50 + m) ∧ w (200 + m) = v (200 + m) ∧ w (350 + m) = v (350 + m) ∧ w (500 + m) = v (500 + m) ∧ ∀ q, q < 6 → w (650 + 6 * m + q) = v (650 + 6 * m + q) := fun m hm => ⟨lo _ (by omega) (by omega) (by omega) (by omega) (by omega) (by omega) (by omega), lo _ (by omega) (by omega) (by omega) (by omega) (by omega) (by omega) (by omega), lo _ (by omega) (by omega) (by omega) (by omega) (by omega) (by omega) (by omega), lo _ (by omega) (by omega) (by omega) (by omega) (by omega) (by omega) (by omega), fun q hq => lo _ (by omega) (by omega) (by omega) (by omega) (by omega) (by omega) (by omega)⟩
  have osd : ∀ m, m < vN v 44 → vN w (50 + m) = vN v (50 + m) := fun m hm => vN_eq (om m hm).1
  have ck : ∀ a b, a < 6 → b < 6 → zclk w a b = if a = p ∧ b = p then zclk v p p + nI 1 else zclk v a b := fun a b h1 h2 => by
    unfold zclk
    rw [at_, if_neg (by omega)]
    by_cases e : a = p ∧ b = p
    · obtain ⟨rfl, rfl⟩ := e
      rw [if_pos (by omega), if_pos ⟨rfl, rfl⟩]; rfl
    · rw [if_neg (by omega), if_neg (by omega), if_neg (by omega), if_neg (by omega), if_neg (by omega), if_neg (by omega), if_neg (by omega), if_neg (by omega), if_neg (by omega), if_neg (by omega), if_neg e]
  have cd : ∀ b, b < 6 → (zclk v b b).toInt ≤ (zclk w b b).toInt := fun b hb => by
    rw [ck b b hb hb]
    split
    · rename_i e
      rw [e.1, add1_I (by have := hcl p p hp hp; omega)]; omega
    · omega
  have zl : ∀ q k, q < 6 → k < 150 → zlog w q k = if q = p ∧ k = vN v 44 then true else zlog v q k := fun q k h1 h2 => by
    unfold zlog
    rw [at_, if_neg (by omega), if_neg (by omega), if_neg (by omega)]
    by_cases e : q = p ∧ k = vN v 44
    · rw [if_pos (by omega), if_pos e]; rfl
    · rw [if_neg (by omega), if_neg (by omega), if_neg (by omega), if_neg (by omega), if_neg (by omega), if_neg (by omega), if_neg (by omega), if_neg (by omega), if_neg e]
  have arr : ∀ q k, q < 6 → k < 150 → w (3360 + 150 * q + k) = v (3360 + 150 * q + k) := fun q k h1 h2 => by
    rw [at_, if_neg (by omega), if_neg (by omega), if_neg (by omega), if_neg (by omega), if_neg (by omega), if_neg (by omega), if_neg (by omega), if_neg (by omega), if_neg (by omega), if_neg (by omega), if_neg (by omega)]
  have c6 : cN D 100 6 = cN C 100 6 := cN_row y100
  have hvs := h0.vs
  have hnow : ∀ k, k < vN v 44 → znow w k = znow v k := fun k hk => by unfold znow; rw [(om k hk).2.2.1, w42]
  have hwv : WV w := by
    obtain ⟨b1, b2⟩ := zb4_wv h0.wv hp y hn
    have b3 := (WV_deliv b1 hp hn (by
      have e : zlog (zb4 v p y) p (vN v 44) = zlog v p (vN v 44) := by unfold zlog; rw [zb4_at v y hn, if_neg (by omega), if_neg (by omega), if_neg (by omega), if_neg (by omega), if_neg (by omega)]
      rw [e]; exact hlog)).1
    rw [← hw, zbV]
    have e : ∀ k, ¬ (650 + 6 * vN v 44 ≤ k ∧ k < 650 + 6 * vN v 44 + 6) → zbL p (vN v 44) (zdeliv (zb4 v p y) p (vN v 44)) 6 k = zdeliv (zb4 v p y) p (vN v 44) k := fun k hk => by rw [zbL_at hp hn (Nat.le_refl _), if_neg hk]
    refine ⟨?_, ?_, ?_, ?_, ?_⟩
    · rw [vN_eq (e 42 (by omega)), e 42 (by omega)]; exact b3.1
    · rw [vN_eq (e 44 (by omega)), e 44 (by omega)]; exact b3.2.1
    · intro m hm; rw [vN_eq (e (50 + m) (by omega)), e (50 + m) (by omega)]; exact b3.2.2.1 m hm
    · intro q hq
      have ez : zmu (zbL p (vN v 44) (zdeliv (zb4 v p y) p (vN v 44)) 6) q = zmu (zdeliv (zb4 v p y) p (vN v 44)) q := zcB_cong (fun j hj => by unfold zlog; rw [e _ (by omega)])
      rw [vN_eq (e (1550 + q) (by omega)), e (1550 + q) (by omega), ez]; exact b3.2.2.2.1 q hq
    · intro q i hq hi; rw [vN_eq (e (1560 + 150 * q + i) (by omega)), e (1560 + 150 * q + i) (by omega)]; exact b3.2.2.2.2 q i hq hi
  have hwc : WC D := by
    rw [← hD, ysend]
    have h2 : cN (ydl C p (cN C 2 6) p y) 2 6 = cN C 2 6 := cN_row (ydl_lo hp (by omega))
    exact WC_yadd (WC_ydl h0.wc hp (by omega) y) hp y _ (by omega)
  refine ⟨⟨⟨hwc, hwv⟩, ⟨⟨?_, ?_⟩, ?_, ?_, ?_, ?_, ?_⟩, ?_, ?_, ?_, ?_⟩, ?_, ?_⟩
  · have := h0.ws
    unfold WS zsv at this ⊢
    rw [hmem, w43]; exact this
  · unfold KS; rw [w43, hmem]; exact h0.ks
  · unfold RH
    rw [y100, y2, upd_at, if_pos rfl, w42, w43, w45, w44, h0.hd.2.2.2]
    exact ⟨h0.hd.1, h0.hd.2.1, h0.hd.2.2.1, rfl⟩
  · refine ⟨fun j hj => ?_, by rw [wlo 21 (by omega)]; exact h0.vw.2⟩
    rw [n42] at hj
    rw [y0, y1, wlo j (by omega), wlo (21 + j) (by omega)]; exact h0.vw.1 j hj
  · intro m hm
    rw [n44] at hm
    rw [y4, y5, y6, y7, upd_at, upd_at, upd_at, upd_at]
    by_cases e : m = vN v 44
    · subst e
      rw [if_pos rfl, if_pos rfl, if_pos rfl, if_pos rfl, ws, wp, wo, wn]
      refine ⟨rfl, rfl, h0.hd.1, by rw [(h0.pp hp).clk hp hp], fun q hq => ?_⟩
      rw [y9, if_pos (by omega), wc q hq]
      by_cases e : q = p
      · rw [if_pos (by omega), if_pos e, (h0.pp hp).clk hp hp]
      · rw [if_neg (by omega), if_neg e, show vN v 44 * 6 + q - vN v 44 * 6 = q by omega, (h0.pp hp).clk hp hq]
    · have hm2 : m < vN v 44 := by omega
      obtain ⟨o1, o2, o3, o4, o5⟩ := om m hm2
      obtain ⟨g1, g2, g3, g4, g5⟩ := h0.m m hm2
      rw [if_neg e, if_neg e, if_neg e, if_neg e, o1, o2, o3, o4]
      refine ⟨g1, g2, g3, g4, fun q hq => ?_⟩
      rw [y9, if_neg (by omega), o5 q hq]; exact g5 q hq
  · have hd8 : ∀ k, k < vN v 44 → D 8 k = C 8 k := fun k hk => by rw [y8, upd_at, if_neg (by omega)]
    intro m hm
    rw [n44] at hm
    by_cases e : m = vN v 44
    · subst e
      have e1 : D 8 (vN v 44) = nI 1 + ygdb D (vN v 44) (vN v 44) := by
        have := congrFun y8 (vN v 44)
        rw [upd_at, if_pos rfl] at this; exact this
      refine ⟨e1, ?_⟩
      obtain ⟨g, eg, hg⟩ := ygdb_nI (C := D) (m := vN v 44) (by omega) (Nat.le_refl _) (fun k hk => by rw [hd8 k hk]; exact (h0.d k hk).2)
      exact ⟨1 + g, by rw [e1, eg, nI_add], by omega, by omega⟩
    · have hm2 : m < vN v 44 := by omega
      have eg : ygdb D m m = ygdb C m m := ygdb_cong (fun k hk => by
          rw [y6, y4, y7, upd_at, upd_at, upd_at, if_neg (by omega), if_neg (by omega), if_neg (by omega)]; exact ⟨rfl, rfl, rfl⟩) (fun q => (Nat.lt_or_ge q 6).elim (fun hq => Or.inl (by rw [y9, if_neg (by omega)])) Or.inr) (fun k hk => hd8 k (by omega)) (fun k hk => h0.wc.s6 (by omega)) (Nat.le_refl _)
      rw [hd8 m hm2, eg]; exact h0.d m hm2
  · refine ⟨by rw [c6, n44]; omega, fun m hm => ?_⟩
    rw [n44] at hm
    rw [c6, w42]
    by_cases e : m = vN v 44
    · subst e
      rw [wo]
      exact ⟨by rw [le_I]; omega, ⟨fun _ => rfl, fun _ => hvs⟩⟩
    · rw [(om m (by omega)).2.2.1]; exact h0.kv.2 m (by omega)
  · intro q hq
    rw [n44]
    by_cases e : q = p
    · subst e
      obtain ⟨g1, g2, g3, g4, g5, g6, g7⟩ := h0.pp hp
      have el : w (1550 + q) = v (1550 + q) + nI 1 := by rw [at_, if_neg (by omega), if_neg (by omega), if_neg (by omega), if_neg (by omega), if_pos rfl]
      have el2 : w (1550 + q) = nI (vN v (1550 + q) + 1) := by rw [el, h0.wv.l hp, nI_add]
      have nl : vN w (1550 + q) = vN v (1550 + q) + 1 := vN_nI el2 (by omega)
      have cl : cN C (10 + q) 4 = vN v (1550 + q) := congrArg Int32.toNatClampNeg g1
      rw [cl] at y20
      have lgs : ∀ i, i < 150 → w (1560 + 150 * q + i) = if i = vN v (1550 + q) then nI (vN v 44) else v (1560 + 150 * q + i) := fun i hi => by
        rw [at_, if_neg (by omega), if_neg (by omega), if_neg (by omega), if_neg (by omega), if_neg (by omega)]
        by_cases e : i = vN v (1550 + q)
        · rw [if_pos (by omega), if_pos e]
        · rw [if_neg (by omega), if_neg (by omega), if_neg (by omega), if_neg (by omega), if_neg (by omega), if_neg (by omega), if_neg e]
      have gl : C (10 + q) 4 = nI (vN v (1550 + q)) := by rw [g1]; exact h0.wv.l hp
      refine ⟨?_, ?_, fun i hi => ?_, fun j hj => ?_, fun j hj => ⟨?_, fun hj2 => ?_⟩, fun i hi => ?_, fun j hj hz => ?_⟩
      · rw [y10, upd_at, if_neg (by omega), upd_at, if_pos rfl, el, g1]
      · rw [y10, upd_at, if_pos rfl, at_, if_neg (by omega), if_neg (by omega), if_pos rfl, g2]
      · rw [nl] at hi
        rw [y20, upd_at, lgs i (by omega)]
        by_cases e : i = vN v (1550 + q)
        · rw [if_pos e, if_pos e]
        · rw [if_neg e, if_neg e]; exact g3 i (by omega)
      · rw [y40, upd_at]
        by_cases e : j = q * 6 + q
        · rw [if_pos e, at_, if_neg (by omega), if_pos (by omega), g4 _ (by omega)]
          unfold zclk
          rw [show 4270 + 36 * q + (q * 6 + q) = 4270 + 36 * q + 6 * q + q by omega]
        · rw [if_neg e, at_, if_neg (by omega), if_neg (by omega), if_neg (by omega), if_neg (by omega), if_neg (by omega), if_neg (by omega), if_neg (by omega), if_neg (by omega), if_neg (by omega), if_neg (by omega), if_neg (by omega)]; exact g4 j hj
      · rw [zl q j hp hj]
        unfold ylog
        rw [y30, upd_at]
        by_cases e : j = vN v 44
        · rw [if_pos e, if_pos ⟨rfl, e⟩, gl, decide_eq_false (nI_pos (by omega))]; rfl
        · rw [if_neg e, if_neg (fun z => e z.2)]; exact (g5 j hj).1
      · rw [y30, upd_at, if_neg (by omega), arr q j hp hj]; exact (g5 j hj).2 (by omega)
      · rw [nl] at hi
        by_cases e : i = vN v (1550 + q)
        · have e1 : w (1560 + 150 * q + i) = nI (vN v 44) := by rw [lgs i (by omega), if_pos e]
          rw [show vN w (1560 + 150 * q + i) = vN v 44 from vN_nI e1 (by omega), y30, upd_at, if_pos rfl, gl, e]
          exact ⟨by omega, rfl⟩
        · have e1 : w (1560 + 150 * q + i) = v (1560 + 150 * q + i) := by rw [lgs i (by omega), if_neg e]
          obtain ⟨k1, k2⟩ := g6 i (by omega)
          rw [vN_eq e1, y30, upd_at, if_neg (by omega)]
          exact ⟨by omega, k2⟩
      · rw [nl]
        by_cases e : j = vN v 44
        · subst e
          exact ⟨vN v (1550 + q), by omega, by rw [y30, upd_at, if_pos rfl, gl], by rw [lgs _ (by omega), if_pos rfl]⟩
        · rw [zl q j hp (by omega), if_neg (fun z => e z.2)] at hz
          obtain ⟨i, k1, k2, k3⟩ := g7 j (by omega) hz
          exact ⟨i, by omega, by rw [y30, upd_at, if_neg e]; exact k2, by rw [lgs i (by omega), if_neg (by omega)]; exact k3⟩
    · have h1 := PP_cong (D := D) (w := w) (h0.pp hq) h0.n150 (h0.wv.l150 hq) (yo q hq e) (fun k hk => by
        rw [at_, if_neg (by omega), if_neg (by omega), if_neg (by omega), if_neg (by omega), if_neg (by omega), if_neg (by omega), if_neg (by omega), if_neg (by omega), if_neg (by omega), if_neg (by omega), if_neg (by omega)])
      obtain ⟨g1, g2, g3, g4, g5, g6, g7⟩ := h1
      refine ⟨g1, g2, g3, g4, fun m hm => ⟨(g5 m hm).1, fun hm2 => (g5 m hm).2 (by omega)⟩, fun i hi => ⟨by have := (g6 i hi).1; omega, (g6 i hi).2⟩, fun m hm hz => ?_⟩
      by_cases em : m = vN v 44
      · rw [zl q m hq (by omega), if_neg (fun z => e z.1), em, (h0.pp hq).logN hn (Nat.le_refl _)] at hz
        cases hz
      · exact g7 m (by omega) hz
  · intro a b h1 h2
    have k1 := h0.clk h1 h2
    have k2 := le_I.mp (h0.kc b b h2 h2).2
    have k3 := cd b h2
    refine ⟨?_, ?_⟩
    · rw [le_I, ck a b h1 h2]
      split
      · rename_i e
        rw [e.2, ck p p hp hp, if_pos ⟨rfl, rfl⟩]; exact Int.le_refl _
      · omega
    · rw [le_I, t44, ck b b h2 h2]
      split
      · rename_i e
        rw [add1_I (by have := hcl p p hp hp; omega)]
        obtain ⟨rfl, -⟩ := e
        omega
      · omega
  · intro m hm1 hm2
    rw [c6] at hm1
    rw [n44] at hm2
    by_cases e : m = vN v 44
    · subst e
      rw [vsd, wc p hp, if_pos rfl, wn]
      refine ⟨rfl, fun q hq => ?_⟩
      rw [wc q hq]
      by_cases e : q = p
      · subst e; rw [if_pos rfl, ck q q hq hq, if_pos ⟨rfl, rfl⟩]; rw [le_I]; omega
      · rw [if_neg e, ck q q hq hq, if_neg (fun z => e z.1)]; exact (h0.kc p q hp hq).1
    · have hm3 : m < vN v 44 := by omega
      have h7 := h0.wv.s6 (show m < 150 by omega)
      rw [osd m hm3, (om m hm3).2.2.2.2 _ h7, (om m hm3).2.2.2.1]
      refine ⟨(h0.km m hm1 hm3).1, fun q hq => ?_⟩
      rw [(om m hm3).2.2.2.2 q hq, le_I]
      have k1 := le_I.mp ((h0.km m hm1 hm3).2 q hq)
      have k2 := cd q hq
      omega
  · intro a b h1 h2 h3
    rw [c6] at h1
    rw [n44] at h3
    by_cases e : b = vN v 44
    · subst e
      rw [vsd, (om a h2).2.2.2.2 p hp, wn, lt_I, add1_I (by have := hcl p p hp hp; omega)]
      have := le_I.mp ((h0.km a h1 h2).2 p hp)
      omega
    · have h7 := h0.wv.s6 (show b < 150 by omega)
      rw [osd b (by omega), (om a (by omega)).2.2.2.2 _ h7, (om b (by omega)).2.2.2.1]
      exact h0.ko a b h1 h2 (by omega)
  · intro q k hq hk1 hk2
    rw [c6] at hk1
    rw [n44] at hk2
    rw [zl q k hq (by omega), arr q k hq (by omega)]
    by_cases e : k = vN v 44
    · subst e
      rw [ws]
      by_cases e2 : q = p
      · subst e2
        rw [if_pos ⟨rfl, rfl⟩]
        exact ⟨fun _ => Or.inl rfl, fun z => by cases z⟩
      · rw [if_neg (fun z => e2 z.1), (yo q hq e2).2.2.1]
        have hf := (h0.pp hq).far hn (Nat.le_refl _)
        refine ⟨fun z => ?_, fun _ => ⟨fun z => e2 ?_, Or.inr ⟨hf.2, hf.1⟩⟩⟩
        · rw [(h0.pp hq).logN hn (Nat.le_refl _)] at z; cases z
        · exact (nI_eq' z (by omega) (by omega)).symm
    · rw [if_neg (fun z => e z.2), (om k (by omega)).1]
      have e30 : D (30 + q) k = C (30 + q) k := by
        by_cases e2 : q = p
        · subst e2; rw [y30, upd_at, if_neg e]
        · rw [(yo q hq e2).2.2.1]
      rw [e30]
      exact ha q k hq hk1 (by omega)
  · intro q k hq hk1 hk2
    rw [c6] at hk1
    rw [n44] at hk2
    by_cases e : k = vN v 44
    · subst e
      unfold zFc zbuf
      rw [arr q _ hq hn, ((h0.pp hq).far hn (Nat.le_refl _)).2, decide_eq_false n0n1]; simp
    · have hk3 : k < vN v 44 := by omega
      have hold := hb q k hq hk1 hk3
      cases hF : zFc q w k with
      | false => rfl
      | true =>
        exfalso
        simp only [zFc, Bool.and_eq_true] at hF
        obtain ⟨f1, f2⟩ := hF
        obtain ⟨b1, b2, b3⟩ := zbuf_of f1
        obtain ⟨d1, d2, d3, d4⟩ := zdel_of f2
        rw [hnow k hk3] at b1
        rw [arr q k hq (by omega)] at b2
        rw [zl q k hq (by omega), if_neg (fun z => e z.2)] at b3
        have hs6 := h0.wv.s6 (show k < 150 by omega)
        have hsn : v (50 + k) ≠ nI q := ((ha q k hq hk1 hk3).2 b3).1
        have hsq : vN v (50 + k) ≠ q := fun z => hsn (by rw [h0.wv.s (show k < 150 by omega), z])
        rw [osd k hk3] at d3 d4
        have hz : zdel v q k = true := by
          refine zdel_mk b1 b3 (fun r hr hne => ?_) ?_
          · have := d3 r hr hne
            rw [(om k hk3).2.2.2.2 r hr, ck q r hq hr] at this
            by_cases e2 : q = p ∧ r = p
            · rw [e2.1, e2.2]
              exact (h0.km k hk1 hk3).2 p hp
            · rw [if_neg e2] at this; exact this
          · rw [(om k hk3).2.2.2.1, ck q _ hq hs6, if_neg (fun z => hsq (by rw [z.2, z.1]))] at d4
            exact d4
        have hbf : zbuf v q k = true := by unfold zbuf; rw [b1, b2, b3]; rfl
        unfold zFc at hold
        rw [hbf, hz] at hold
        cases hold
