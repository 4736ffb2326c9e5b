/-! gossip -/
def ginc (to : Nat) (a b : Nat → Int32) (j : Nat) : Bool := !decide (j / 6 = to) && !decide (a j ≤ b j)
theorem ylt_at {C : IX} {p p2 : Nat} (hp : p < 6) (hp2 : p2 < 6) (hne : p ≠ p2) : ∀ {i : Nat}, (yltL C p p2 i).2 = nI (zcB (ginc p (C (40 + p2)) (C (40 + p))) i) ∧ (∀ k, k ≠ 40 + p → (yltL C p p2 i).1 k = C k) ∧ ∀ j, (yltL C p p2 i).1 (40 + p) j = if j < i ∧ ginc p (C (40 + p2)) (C (40 + p)) j = true then C (40 + p2) j else C (40 + p) j
  | 0 => ⟨rfl, fun _ _ => rfl, fun j => by rw [if_neg (by omega)]; rfl⟩
  | i + 1 => by
    obtain ⟨i1, i2, i3⟩ := ylt_at (C := C) hp hp2 hne (i := i)
    rcases hE : yltL C p p2 i with ⟨E, c⟩
    rw [hE] at i1 i2 i3
    dsimp only at i1 i2 i3
    have e1 : E (40 + p2) i = C (40 + p2) i := by rw [i2 _ (by omega)]
    have e2 : E (40 + p) i = C (40 + p) i := by rw [i3, if_neg (by omega)]
    cases hg : ginc p (C (40 + p2)) (C (40 + p)) i with
    | false =>
      have hc : i / 6 = p ∨ E (40 + p2) i ≤ E (40 + p) i := by
        simp only [ginc, Bool.and_eq_false_iff, Bool.not_eq_false', decide_eq_true_eq] at hg
        rw [e1, e2]; exact hg
      rw [yltL_t hE hc]
      refine ⟨by rw [zcB, hg]; exact i1, i2, fun j => ?_⟩
      show E (40 + p) j = _
      rw [i3]
      by_cases h : j < i ∧ ginc p (C (40 + p2)) (C (40 + p)) j = true
      · rw [if_pos h, if_pos ⟨by omega, h.2⟩]
      · rw [if_neg h, if_neg (fun q => h ⟨(Nat.lt_or_ge j i).elim id (fun r => by rw [show j = i by omega, hg] at q; exact absurd q.2 (by decide)), q.2⟩)]
    | true =>
      have hg2 := hg
      simp only [ginc, Bool.and_eq_true, Bool.not_eq_true', decide_eq_false_iff_not] at hg2
      rw [yltL_f hE hg2.1 (by rw [e1, e2]; exact hg2.2)]
      refine ⟨by rw [zcB, hg, i1, nI_add]; rfl, fun k hk => by dsimp only; rw [va_up_ne _ _ hk]; exact i2 k hk, fun j => ?_⟩
      dsimp only
      rw [va_up_self, upd_at, e1, i3]
      by_cases h : j = i
      · subst h; rw [if_pos rfl, if_pos ⟨by omega, hg⟩]
      · rw [if_neg h]
        by_cases h2 : j < i ∧ ginc p (C (40 + p2)) (C (40 + p)) j = true
        · rw [if_pos h2, if_pos ⟨by omega, h2.2⟩]
        · rw [if_neg h2, if_neg (fun q => h2 ⟨by omega, q.2⟩)]
theorem zgI_at {fr to q : Nat} (hf : fr < 6) (ht : to < 6) (hne : fr ≠ to) (hq : q < 6) {w : Rw} {c : Int32} : ∀ {n : Nat}, n ≤ 6 → (zgI fr to q w c n).2 = c + nI (zcB (fun s => !decide (w (4270 + 36 * fr + 6 * q + s) ≤ w (4270 + 36 * to + 6 * q + s))) n) ∧ ∀ k, (zgI fr to q w c n).1 k = if (4270 + 36 * to + 6 * q ≤ k ∧ k < 4270 + 36 * to + 6 * q + n) ∧ ¬ w (4270 + 36 * fr + 6 * q + (k - (4270 + 36 * to + 6 * q))) ≤ w k then w (4270 + 36 * fr + 6 * q + (k - (4270 + 36 * to + 6 * q))) else w k
  | 0, _ => ⟨by rw [zgI, zcB, add0_I], fun k => by rw [if_neg (by omega)]; rfl⟩
  | n + 1, hn => by
    obtain ⟨i1, i2⟩ := zgI_at hf ht hne hq (w := w) (c := c) (n := n) (by omega)
    have e1 : (zgI fr to q w c n).1 (4270 + 36 * fr + 6 * q + n) = w (4270 + 36 * fr + 6 * q + n) := by rw [i2, if_neg (by omega)]
    have e2 : (zgI fr to q w c n).1 (4270 + 36 * to + 6 * q + n) = w (4270 + 36 * to + 6 * q + n) := by rw [i2, if_neg (by omega)]
    by_cases hc : w (4270 + 36 * fr + 6 * q + n) ≤ w (4270 + 36 * to + 6 * q + n)
    · rw [zgI_t (by rw [e1, e2]; exact hc)]
      refine ⟨by rw [zcB, decide_eq_true hc]; exact i1, fun k => ?_⟩
      rw [i2]
      by_cases h : (4270 + 36 * to + 6 * q ≤ k ∧ k < 4270 + 36 * to + 6 * q + n) ∧ ¬ w (4270 + 36 * fr + 6 * q + (k - (4270 + 36 * to + 6 * q))) ≤ w k
      · rw [if_pos h, if_pos ⟨by omega, h.2⟩]
      · rw [if_neg h, if_neg ?_]
        intro z
        by_cases hk : k = 4270 + 36 * to + 6 * q + n
        · subst hk
          rw [show 4270 + 36 * to + 6 * q + n - (4270 + 36 * to + 6 * q) = n by omega] at z
          exact z.2 hc
        · exact h ⟨by omega, z.2⟩
    · rw [zgI_f (by rw [e1, e2]; exact hc)]
      refine ⟨?_, fun k => ?_⟩
      · show (zgI fr to q w c n).2 + nI 1 = _
        rw [i1, zcB, decide_eq_false hc, Int32.add_assoc, nI_add]; rfl
      · show upd (zgI fr to q w c n).1 (4270 + 36 * to + 6 * q + n) ((zgI fr to q w c n).1 (4270 + 36 * fr + 6 * q + n)) k = _
        rw [upd_at, e1, i2]
        by_cases hk : k = 4270 + 36 * to + 6 * q + n
        · subst hk
          rw [if_pos rfl, show 4270 + 36 * to + 6 * q + n - (4270 + 36 * to + 6 * q) = n by omega, if_pos ⟨by omega, hc⟩]
        · rw [if_neg hk]
          by_cases h : (4270 + 36 * to + 6 * q ≤ k ∧ k < 4270 + 36 * to + 6 * q + n) ∧ ¬ w (4270 + 36 * fr + 6 * q + (k - (4270 + 36 * to + 6 * q))) ≤ w k
          · rw [if_pos h, if_pos ⟨by omega, h.2⟩]
          · rw [if_neg h, if_neg (fun z => h ⟨by omega, z.2⟩)]
theorem zgO_at {fr to : Nat} (hf : fr < 6) (ht : to < 6) (hne : fr ≠ to) {v : Rw} : ∀ {n : Nat}, n ≤ 6 → (zgO fr to v n).2 = nI (zcB (ginc to (fun j => v (4270 + 36 * fr + j)) (fun j => v (4270 + 36 * to + j))) (6 * n)) ∧ ∀ k, (zgO fr to v n).1 k = if (4270 + 36 * to ≤ k ∧ k < 4270 + 36 * to + 6 * n) ∧ ginc to (fun j => v (4270 + 36 * fr + j)) (fun j => v (4270 + 36 * to + j)) (k - (4270 + 36 * to)) = true then v (4270 + 36 * fr + (k - (4270 + 36 * to))) else v k
  | 0, _ => ⟨rfl, fun k => by rw [if_neg (by omega)]; rfl⟩
  | n + 1, hn => by
    obtain ⟨i1, i2⟩ := zgO_at hf ht hne (v := v) (n := n) (by omega)
    have hdiv : ∀ s, s < 6 → (6 * n + s) / 6 = n := fun s hs => by omega
    rw [zgO]
    by_cases hq : n = to
    · subst hq
      rw [if_pos rfl]
      have hnone : ∀ s, s < 6 → ginc n (fun j => v (4270 + 36 * fr + j)) (fun j => v (4270 + 36 * n + j)) (6 * n + s) = false := fun s hs => by unfold ginc; rw [hdiv s hs, decide_eq_true rfl]; rfl
      refine ⟨?_, fun k => ?_⟩
      · rw [i1, show 6 * (n + 1) = 6 * n + 6 by omega, zcB_add, zcB_none (n := 6) hnone]; rfl
      · rw [i2]
        by_cases h : (4270 + 36 * n ≤ k ∧ k < 4270 + 36 * n + 6 * n) ∧ ginc n (fun j => v (4270 + 36 * fr + j)) (fun j => v (4270 + 36 * n + j)) (k - (4270 + 36 * n)) = true
        · rw [if_pos h, if_pos ⟨by omega, h.2⟩]
        · rw [if_neg h, if_neg ?_]
          intro z
          by_cases hk : k < 4270 + 36 * n + 6 * n
          · exact h ⟨by omega, z.2⟩
          · have := hnone (k - (4270 + 36 * n) - 6 * n) (by omega)
            rw [show 6 * n + (k - (4270 + 36 * n) - 6 * n) = k - (4270 + 36 * n) by omega] at this
            rw [this] at z; exact absurd z.2 (by decide)
    · rw [if_neg hq]
      obtain ⟨j1, j2⟩ := zgI_at hf ht hne (q := n) (by omega) (w := (zgO fr to v n).1) (c := (zgO fr to v n).2) (n := 6) (Nat.le_refl _)
      have ef : ∀ s, s < 6 → (zgO fr to v n).1 (4270 + 36 * fr + 6 * n + s) = v (4270 + 36 * fr + (6 * n + s)) := fun s hs => by rw [i2, if_neg (by omega), Nat.add_assoc]
      have et : ∀ s, s < 6 → (zgO fr to v n).1 (4270 + 36 * to + 6 * n + s) = v (4270 + 36 * to + (6 * n + s)) := fun s hs => by rw [i2, if_neg (by omega), Nat.add_assoc]
      have eg : ∀ s, s < 6 → ginc to (fun j => v (4270 + 36 * fr + j)) (fun j => v (4270 + 36 * to + j)) (6 * n + s) = !decide (v (4270 + 36 * fr + (6 * n + s)) ≤ v (4270 + 36 * to + (6 * n + s))) := fun s hs => by unfold ginc; rw [hdiv s hs, decide_eq_false hq]; rfl
      refine ⟨?_, fun k => ?_⟩
      · have e6 : zcB (fun s => !decide ((zgO fr to v n).1 (4270 + 36 * fr + 6 * n + s) ≤ (zgO fr to v n).1 (4270 + 36 * to + 6 * n + s))) 6 = zcB (fun i => ginc to (fun j => v (4270 + 36 * fr + j)) (fun j => v (4270 + 36 * to + j)) (6 * n + i)) 6 := zcB_cong (fun s hs => by rw [eg s hs, ef s hs, et s hs])
        rw [j1, i1, nI_add, e6, show 6 * (n + 1) = 6 * n + 6 by omega, zcB_add]
      · rw [j2]
        by_cases hk : 4270 + 36 * to + 6 * n ≤ k ∧ k < 4270 + 36 * to + 6 * n + 6
        · have e1 := ef (k - (4270 + 36 * to + 6 * n)) (by omega)
          have e2 := et (k - (4270 + 36 * to + 6 * n)) (by omega)
          have e3 := eg (k - (4270 + 36 * to + 6 * n)) (by omega)
          rw [show 4270 + 36 * to + 6 * n + (k - (4270 + 36 * to + 6 * n)) = k by omega, show 4270 + 36 * to + (6 * n + (k - (4270 + 36 * to + 6 * n))) = k by omega] at e2
          rw [show 6 * n + (k - (4270 + 36 * to + 6 * n)) = k - (4270 + 36 * to) by omega] at e1 e3
          rw [show 4270 + 36 * to + (k - (4270 + 36 * to)) = k by omega] at e3
          rw [e1, e2]
          by_cases hc : v (4270 + 36 * fr + (k - (4270 + 36 * to))) ≤ v k
          · rw [decide_eq_true hc] at e3
            rw [if_neg (fun z => z.2 hc), if_neg (fun z => by rw [e3] at z; exact absurd z.2 (by decide))]
          · rw [decide_eq_false hc] at e3
            rw [if_pos ⟨hk, hc⟩, if_pos ⟨by omega, e3⟩]
        · rw [if_neg (fun z => hk z.1), i2]
          by_cases h : (4270 + 36 * to ≤ k ∧ k < 4270 + 36 * to + 6 * n) ∧ ginc to (fun j => v (4270 + 36 * fr + j)) (fun j => v (4270 + 36 * to + j)) (k - (4270 + 36 * to)) = true
          · rw [if_pos h, if_pos ⟨by omega, h.2⟩]
          · rw [if_neg h, if_neg (fun z => h ⟨by omega, z.2⟩)]
theorem gos_pair {C : IX} {v : Rw} (h : RG C v) {fr to : Nat} (hf : fr < 6) (ht : to < 6) (hne : fr ≠ to) : (zgO fr to v 6).2 = (yltL C to fr 36).2 ∧ RG (yltL C to fr 36).1 (zgO fr to v 6).1 := by
  obtain ⟨h0, ha, hb⟩ := h
  obtain ⟨y1, y2, y3⟩ := ylt_at (C := C) ht hf (Ne.symm hne) (i := 36)
  obtain ⟨z1, z2⟩ := zgO_at hf ht hne (v := v) (n := 6) (Nat.le_refl _)
  have hn := h0.n150
  have tf := (h0.pp hf).2.2.2.1
  have tt := (h0.pp ht).2.2.2.1
  have eg : ∀ j, j < 36 → ginc to (C (40 + fr)) (C (40 + to)) j = ginc to (fun j => v (4270 + 36 * fr + j)) (fun j => v (4270 + 36 * to + j)) j := fun j hj => by unfold ginc; rw [tf j hj, tt j hj]
  have lo : ∀ k, k < 4270 ∨ 4486 ≤ k → (zgO fr to v 6).1 k = v k := fun k hk => by rw [z2, if_neg (by omega)]
  have n44 : vN (zgO fr to v 6).1 44 = vN v 44 := vN_eq (lo 44 (by omega))
  have c6 : cN (yltL C to fr 36).1 100 6 = cN C 100 6 := cN_row (y2 100 (by omega))
  have zl : ∀ q k, q < 6 → k < 150 → zlog (zgO fr to v 6).1 q k = zlog v q k := fun q k h1 h2 => by unfold zlog; rw [lo (2460 + 150 * q + k) (by omega)]
  have ck : ∀ a b, a < 6 → b < 6 → zclk (zgO fr to v 6).1 a b = zclk v a b := fun a b h1 h2 => by
    unfold zclk
    rw [z2]
    by_cases e : a = to
    · subst e
      rw [if_neg ?_]
      intro z
      have h3 := z.2
      unfold ginc at h3
      rw [decide_eq_true (show (4270 + 36 * a + 6 * a + b - (4270 + 36 * a)) / 6 = a by omega)] at h3
      cases h3
    · rw [if_neg (by omega)]
  refine ⟨by rw [z1, y1]; congr 1; exact zcB_cong (fun j hj => (eg j hj).symm), ⟨⟨WC_tab h0.wc (fun k hk => y2 k (by omega)), WV_hi h0.wv (fun k hk => lo k (by omega))⟩, RLw_lo h0.w h0.wc h0.wv (fun k hk => y2 k (by omega)) (fun k hk => lo k (by omega)), ?_, ?_, ?_, ?_⟩, ?_, ?_⟩
  · intro p hp
    rw [n44]
    by_cases e : p = to
    · subst e
      obtain ⟨g1, g2, g3, g4, g5, g6, g7⟩ := h0.pp hp
      have hl := h0.wv.l150 hp
      unfold PP
      rw [y2 (10 + p) (by omega), y2 (20 + p) (by omega), y2 (30 + p) (by omega), lo (1550 + p) (by omega), lo (4260 + p) (by omega), vN_eq (lo (1550 + p) (by omega))]
      refine ⟨g1, g2, fun i hi => ?_, fun j hj => ?_, fun j hj => ⟨?_, fun hj2 => ?_⟩, fun i hi => ?_, fun j hj hz => ?_⟩
      · rw [lo _ (by omega)]; exact g3 i hi
      · rw [y3, z2, show 4270 + 36 * p + j - (4270 + 36 * p) = j by omega, tf j hj, g4 j hj]
        by_cases hg : ginc p (fun j => v (4270 + 36 * fr + j)) (fun j => v (4270 + 36 * p + j)) j = true
        · rw [if_pos ⟨hj, by rw [eg j hj]; exact hg⟩, if_pos ⟨by omega, hg⟩]
        · rw [if_neg (fun z => hg (by rw [← eg j hj]; exact z.2)), if_neg (fun z => hg z.2)]
      · rw [zl p j hp hj]
        have := (g5 j hj).1
        unfold ylog at this ⊢
        rw [y2 (30 + p) (by omega)]; exact this
      · rw [lo _ (by omega)]; exact (g5 j hj).2 hj2
      · rw [vN_eq (lo (1560 + 150 * p + i) (by omega))]; exact g6 i hi
      · rw [zl p j hp (by omega)] at hz
        obtain ⟨i, k1, k2, k3⟩ := g7 j hj hz
        exact ⟨i, k1, k2, by rw [lo _ (by omega)]; exact k3⟩
    · refine PP_cong (h0.pp hp) hn (h0.wv.l150 hp) ⟨y2 _ (by omega), y2 _ (by omega), y2 _ (by omega), y2 _ (by omega)⟩ (fun k hk => ?_)
      rw [z2, if_neg (by omega)]
  · intro a b h1 h2
    rw [ck a b h1 h2, ck b b h2 h2, lo 44 (by omega)]; exact h0.kc a b h1 h2
  · intro k hk1 hk2
    rw [c6] at hk1
    rw [n44] at hk2
    have h7 := h0.wv.s6 (show k < 150 by omega)
    rw [vN_eq (lo (50 + k) (by omega)), lo (650 + 6 * k + vN v (50 + k)) (by omega), lo (500 + k) (by omega)]
    refine ⟨(h0.km k hk1 hk2).1, fun q hq => ?_⟩
    rw [lo _ (by omega), ck q q hq hq]; exact (h0.km k hk1 hk2).2 q hq
  · intro a b hk1 hk2 hk3
    rw [c6] at hk1
    rw [n44] at hk3
    have h7 := h0.wv.s6 (show b < 150 by omega)
    rw [vN_eq (lo (50 + b) (by omega)), lo (650 + 6 * a + vN v (50 + b)) (by omega), lo (500 + b) (by omega)]
    exact h0.ko a b hk1 hk2 hk3
  · intro q k hq hk1 hk2
    rw [c6] at hk1
    rw [n44] at hk2
    rw [zl q k hq (by omega), lo (50 + k) (by omega), lo (3360 + 150 * q + k) (by omega), y2 (30 + q) (by omega)]
    exact ha q k hq hk1 hk2
  · intro q k hq hk1 hk2
    rw [c6] at hk1
    rw [n44] at hk2
    have := hb q k hq hk1 hk2
    have e : zbuf (zgO fr to v 6).1 q k = zbuf v q k := by unfold zbuf znow; rw [lo (350 + k) (by omega), lo 42 (by omega), lo (3360 + 150 * q + k) (by omega), zl q k hq (by omega)]
    unfold zFc at this ⊢
    rw [e, zdel_cong (v := v) (by omega) (h0.wv.s6 (by omega)) (fun k hk => lo k (by omega)) (zl q k hq (by omega)) (fun b hb => ck q b hq hb)]
    exact this
