/-! questions over the messages of the current view -/
abbrev yfr (F : Nat → Bool) (C : IX) : Nat := zcB (fun k => F (cN C 100 6 + k)) (cN C 2 6 - cN C 100 6)
def ypc (C : IX) (p : Nat) (x : Int32) (m : Nat) : Bool := decide (C (30 + p) m = x)
def ymi (C : IX) (p m k : Nat) : Bool := yprec C k m && !ylog C p k
def ysq (C : IX) (p m q : Nat) : Bool := !yisM C (nI q) || !decide (yhrd C p q (cN C 4 m) < C 7 m)
def yset (C : IX) (p m : Nat) : Bool := !decide (C 100 6 ≤ nI m) || zall (ysq C p m) 6
def yun (C : IX) (p k : Nat) : Bool := ylog C p k && !yset C p k
def ywq (C : IX) (m p : Nat) : Bool := !yisM C (nI p) || ylog C p m
def ywa (C : IX) (m : Nat) : Bool := zall (ywq C m) 6
def yfu (C : IX) (m p : Nat) : Bool := yisM C (nI p) && !yset C p m
def ywtF (C : IX) (p : Nat) (x : Int32) (k : Nat) : Bool := ypc C p (-1) (cN C 100 6 + k) && decide (nI (zcB (fun k => ypc C p (-1) (cN C 100 6 + k)) k) = x)
def ywt (C : IX) (p : Nat) (x : Int32) : Int32 := if zfst (ywtF C p x) (cN C 2 6 - cN C 100 6) < cN C 2 6 - cN C 100 6 then nI (cN C 100 6 + zfst (ywtF C p x) (cN C 2 6 - cN C 100 6)) else -1
def yfn (C : IX) (m : Nat) : Int32 := if ywa C m && decide (zfst (yfu C m) 6 < 6) then nI (zfst (yfu C m) 6) else -1
def yswG (C : IX) (p q s i : Nat) : Bool := !decide (ypl C p q i < 0) && !decide (ypl C p q s ≤ ypl C p q i)
def yswB (C : IX) (p q s : Nat) : Nat := zcB (fun k => yswG C p q s (s + 1 + k)) (cN C (10 + p) 4 - (s + 1))
def yswS (C : IX) (p q : Nat) : Nat → Nat
  | 0 => 0
  | k + 1 => yswS C p q k + (if yshF C p q k then yswB C p q k else 0)
theorem yswS_t {C : IX} {p q k c : Nat} (hc : c = yswS C p q k) (h : yshF C p q k = true) : c + yswB C p q k = yswS C p q (k + 1) := by rw [yswS, if_pos h, hc]
theorem yswS_f {C : IX} {p q k c : Nat} (hc : c = yswS C p q k) (h : yshF C p q k = false) : c = yswS C p q (k + 1) := by rw [yswS, h, hc]; rfl
theorem lt_s' {f : Nat → Bool} {k : Nat} (h : ∀ j, j < k → f j = false) (h2 : f k = false) : ∀ j, j < k + 1 → f j = false := fun j hj => (Nat.lt_or_ge j k).elim (h j) (fun q => by rw [show j = k by omega]; exact h2)
/-! rows that keep the bounds -/
theorem WC_of {C D : IX} (hC : WC C) (h : ∀ k, (k = 100 ∨ k = 2 ∨ (10 ≤ k ∧ k < 16) ∨ (20 ≤ k ∧ k < 26)) → D k = C k) (h4 : ∀ m, m < 150 → D 4 m = nI (cN D 4 m) ∧ cN D 4 m < 6) : WC D := by
  refine ⟨?_, ?_, ?_, ?_, h4, ?_, ?_⟩
  · unfold cN; rw [h 100 (by omega)]; exact hC.1
  · unfold cN; rw [h 100 (by omega)]; exact hC.2.1
  · unfold cN; rw [h 2 (by omega)]; exact hC.2.2.1
  · intro p hp; rw [h _ (by omega)]; exact hC.self hp
  · intro p hp; unfold cN; rw [h _ (by omega)]; exact hC.2.2.2.2.2.1 p hp
  · intro p i hp hi; unfold cN; rw [h _ (by omega)]; exact hC.2.2.2.2.2.2 p i hp hi
theorem WC_of4 {C D : IX} (hC : WC C) (h : ∀ k, (k = 100 ∨ k = 2 ∨ k = 4 ∨ (10 ≤ k ∧ k < 16) ∨ (20 ≤ k ∧ k < 26)) → D k = C k) : WC D := WC_of hC (fun k hk => h k (by omega)) (fun m hm => by unfold cN; rw [h 4 (by omega)]; exact hC.2.2.2.2.1 m hm)
theorem yhas_of {C : IX} (hC : WC C) {y : Int32} (h : yhas C y = true) : ∃ m, m < cN C 2 6 ∧ m < 150 ∧ y = nI m := by
  simp only [yhas, Bool.and_eq_true, Bool.not_eq_true', decide_eq_false_iff_not] at h
  obtain ⟨k, hk, e⟩ := nI_of (x := y) h.1
  have h2 := h.2
  rw [e, hC.n] at h2
  have hn := hC.n150
  have h3 : k < cN C 2 6 := nI_nge h2 hk (by omega)
  exact ⟨k, h3, by omega, e⟩
theorem ynf {C : IX} (hC : WC C) (h : (!yfull C) = true) : cN C 2 6 < 150 := by
  simp only [yfull, Bool.not_not, decide_eq_true_eq] at h
  rw [hC.n] at h
  exact (nI_ltI (by have := hC.n150; omega) (by omega)).mp h
/-! what changes -/
def ya1 (C : IX) (p : Nat) : IX := va_up C 4 (upd (C 4) (cN C 2 6) (nI p))
def ya2 (C : IX) (p : Nat) (y : Int32) : IX := va_up (ya1 C p) 5 (upd (ya1 C p 5) (cN C 2 6) y)
def ya3 (C : IX) (p : Nat) (y z : Int32) : IX := va_up (ya2 C p y) 6 (upd (ya2 C p y 6) (cN C 2 6) z)
def ya4 (C : IX) (p : Nat) (y z : Int32) : IX := va_up (ya3 C p y z) 7 (upd (ya3 C p y z 7) (cN C 2 6) (yclk (ya3 C p y z) p p))
def yaL (p n : Nat) (C : IX) : Nat → IX
  | 0 => C
  | q + 1 => va_up (yaL p n C q) 9 (upd (yaL p n C q 9) (n * 6 + q) (yclk (yaL p n C q) p q))
def ya5 (C : IX) (p : Nat) (y z : Int32) : IX := yaL p (cN C 2 6) (ya4 C p y z) 6
def ya6 (C : IX) (p : Nat) (y z : Int32) : IX := va_up (ya5 C p y z) 8 (upd (ya5 C p y z 8) (cN C 2 6) (nI 1 + ygdb (ya5 C p y z) (cN C 2 6) (cN C 2 6)))
def yadd (C : IX) (p : Nat) (y z : Int32) : IX := va_up (ya6 C p y z) 2 (upd (ya6 C p y z 2) 6 (ya6 C p y z 2 6 + nI 1))
theorem yaL_lo {p n k : Nat} {C : IX} (hk : k ≠ 9) : ∀ q, yaL p n C q k = C k
  | 0 => rfl
  | q + 1 => by rw [yaL, va_up_ne _ _ hk, yaL_lo hk q]
theorem ya4_lo {C : IX} {p : Nat} {y z : Int32} {k : Nat} (hk : k < 4 ∨ 8 ≤ k) : ya4 C p y z k = C k := by
  rw [ya4, va_up_ne _ _ (by omega), ya3, va_up_ne _ _ (by omega), ya2, va_up_ne _ _ (by omega), ya1, va_up_ne _ _ (by omega)]
theorem ya4_4 {C : IX} {p : Nat} {y z : Int32} : ya4 C p y z 4 = upd (C 4) (cN C 2 6) (nI p) := by
  rw [ya4, va_up_ne _ _ (by omega), ya3, va_up_ne _ _ (by omega), ya2, va_up_ne _ _ (by omega), ya1, va_up_self]
theorem ya_s {C E : IX} (hC : WC C) {p : Nat} (hp : p < 6) (e : E 4 = upd (C 4) (cN C 2 6) (nI p)) : ∀ m, m < 150 → E 4 m = nI (cN E 4 m) ∧ cN E 4 m < 6 := by
  intro m hm
  unfold cN
  rw [e, upd_at]
  split
  · rw [nI_clamp (n := p) (by omega)]; exact ⟨rfl, hp⟩
  · exact hC.2.2.2.2.1 m hm
theorem WC_ya1 {C : IX} (hC : WC C) {p : Nat} (hp : p < 6) : WC (ya1 C p) := WC_of hC (fun k hk => va_up_ne _ _ (by omega)) (ya_s hC hp (va_up_self _ _ _))
theorem WC_ya2 {C : IX} (hC : WC C) {p : Nat} (hp : p < 6) (y : Int32) : WC (ya2 C p y) := WC_of4 (WC_ya1 hC hp) (fun k hk => va_up_ne _ _ (by omega))
theorem WC_ya3 {C : IX} (hC : WC C) {p : Nat} (hp : p < 6) (y z : Int32) : WC (ya3 C p y z) := WC_of4 (WC_ya2 hC hp y) (fun k hk => va_up_ne _ _ (by omega))
theorem WC_ya4 {C : IX} (hC : WC C) {p : Nat} (hp : p < 6) (y z : Int32) : WC (ya4 C p y z) := WC_of4 (WC_ya3 hC hp y z) (fun k hk => va_up_ne _ _ (by omega))
theorem WC_yaL {C : IX} (hC : WC C) {p n : Nat} (q : Nat) : WC (yaL p n C q) := WC_of4 hC (fun k hk => yaL_lo (by omega) q)
theorem WC_ya5 {C : IX} (hC : WC C) {p : Nat} (hp : p < 6) (y z : Int32) : WC (ya5 C p y z) := WC_yaL (WC_ya4 hC hp y z) 6
theorem WC_ya6 {C : IX} (hC : WC C) {p : Nat} (hp : p < 6) (y z : Int32) : WC (ya6 C p y z) := WC_of4 (WC_ya5 hC hp y z) (fun k hk => va_up_ne _ _ (by omega))
theorem ya6_n {C : IX} {p : Nat} {y z : Int32} : ya6 C p y z 2 = C 2 := by rw [ya6, va_up_ne _ _ (by omega), ya5, yaL_lo (by omega), ya4_lo (by omega)]
theorem WC_yadd {C : IX} (hC : WC C) {p : Nat} (hp : p < 6) (y z : Int32) (hn : cN C 2 6 < 150) : WC (yadd C p y z) := by
  have h6 := WC_ya6 hC hp y z
  have e : yadd C p y z 2 = upd (C 2) 6 (C 2 6 + nI 1) := by rw [yadd, va_up_self, ya6_n]
  have lo : ∀ k, k ≠ 2 → yadd C p y z k = ya6 C p y z k := fun k hk => va_up_ne _ _ hk
  have e6 : yadd C p y z 2 6 = nI (cN C 2 6 + 1) := by rw [e, upd_at, if_pos rfl, hC.n, nI_add]
  have e7 : cN (yadd C p y z) 2 6 = cN C 2 6 + 1 := vN_nI e6 (by omega)
  refine ⟨?_, ?_, ?_, ?_, ?_, ?_, ?_⟩
  · unfold cN; rw [lo 100 (by omega)]; exact h6.1
  · unfold cN; rw [lo 100 (by omega)]; exact h6.2.1
  · rw [e7]; exact ⟨e6, by omega⟩
  · intro q hq; rw [lo _ (by omega)]; exact h6.self hq
  · intro m hm; unfold cN; rw [lo 4 (by omega)]; exact h6.2.2.2.2.1 m hm
  · intro q hq; unfold cN; rw [lo _ (by omega)]; exact h6.2.2.2.2.2.1 q hq
  · intro q i hq hi; unfold cN; rw [lo _ (by omega)]; exact h6.2.2.2.2.2.2 q i hq hi
def ysend (C : IX) (p : Nat) (y : Int32) : IX := yadd (ydl C p (cN C 2 6) p y) p y (ydl C p (cN C 2 6) p y 100 4)
def ywait (C : IX) (p m : Nat) : IX := va_up C (30 + p) (upd (C (30 + p)) m (-1))
theorem WC_ywait {C : IX} (hC : WC C) {p m : Nat} (hp : p < 6) : WC (ywait C p m) := WC_of4 hC (fun k hk => va_up_ne _ _ (by omega))
theorem ywait_lo {C : IX} {p m k : Nat} (hk : k < 10 ∨ k = 100) (hp : p < 6) : ywait C p m k = C k := va_up_ne _ _ (by omega)
def ytw (C : IX) : IX := va_up C 100 (upd (C 100) 7 (C 100 7 + nI 1))
theorem WC_ytw {C : IX} (hC : WC C) : WC (ytw C) := by
  have e : ytw C 100 = upd (C 100) 7 (C 100 7 + nI 1) := va_up_self _ _ _
  have lo : ∀ k, k ≠ 100 → ytw C k = C k := fun k hk => va_up_ne _ _ hk
  refine ⟨?_, ?_, ?_, ?_, ?_, ?_, ?_⟩
  · unfold cN; rw [e, upd_at, if_neg (by omega)]; exact hC.1
  · unfold cN; rw [e, upd_at, if_neg (by omega)]; exact hC.2.1
  · unfold cN; rw [lo 2 (by omega)]; exact hC.2.2.1
  · intro q hq; rw [lo _ (by omega)]; exact hC.self hq
  · intro m hm; unfold cN; rw [lo 4 (by omega)]; exact hC.2.2.2.2.1 m hm
  · intro q hq; unfold cN; rw [lo _ (by omega)]; exact hC.2.2.2.2.2.1 q hq
  · intro q i hq hi; unfold cN; rw [lo _ (by omega)]; exact hC.2.2.2.2.2.2 q i hq hi
def yrcv (C : IX) (p m : Nat) : IX × Int32 := if C (30 + p) m = -2 then yup (yFw p) p m (ywait C p m) (cN C 2 6 - m) else (ytw C, nI 0)
theorem yrcv_t {C : IX} {p m : Nat} (h : C (30 + p) m = -2) : yrcv C p m = yup (yFw p) p m (ywait C p m) (cN C 2 6 - m) := by rw [yrcv, if_pos h]
theorem yrcv_f {C : IX} {p m : Nat} (h : ¬ C (30 + p) m = -2) : yrcv C p m = (ytw C, nI 0) := by rw [yrcv, if_neg h]
theorem cN_row {C D : IX} {k j : Nat} (h : D k = C k) : cN D k j = cN C k j := by unfold cN; rw [h]
theorem ywait_n {C : IX} {p m : Nat} (hp : p < 6) : cN (ywait C p m) 2 6 = cN C 2 6 := cN_row (ywait_lo (by omega) hp)
theorem WC_yrcv {C : IX} (hC : WC C) {p m : Nat} (hp : p < 6) (hm : m < cN C 2 6) : WC (yrcv C p m).1 := by
  have hn := hC.n150
  by_cases h : C (30 + p) m = -2
  · rw [yrcv_t h]; exact WC_yup hp (WC_ywait hC hp) (by omega)
  · rw [yrcv_f h]; exact WC_ytw hC
theorem yrcv_lo {C : IX} {p m k : Nat} (hp : p < 6) (hk : k < 10) : (yrcv C p m).1 k = C k := by
  by_cases h : C (30 + p) m = -2
  · rw [yrcv_t h, yup_lo hp (by omega), ywait_lo (by omega) hp]
  · rw [yrcv_f h]; exact va_up_ne _ _ (by omega)
def yrr (C : IX) (p : Nat) : Nat → IX × Int32
  | 0 => (C, nI 0)
  | k + 1 => if (yrr C p k).1 (30 + p) (cN C 100 6 + k) = -2 then ((yrcv (yrr C p k).1 p (cN C 100 6 + k)).1, (yrr C p k).2 + (yrcv (yrr C p k).1 p (cN C 100 6 + k)).2) else yrr C p k
theorem yrr_t {C E : IX} {c : Int32} {p k : Nat} (e : yrr C p k = (E, c)) (h : E (30 + p) (cN C 100 6 + k) = -2) : yrr C p (k + 1) = ((yrcv E p (cN C 100 6 + k)).1, c + (yrcv E p (cN C 100 6 + k)).2) := by rw [yrr, e, if_pos h]
theorem yrr_f {C E : IX} {c : Int32} {p k : Nat} (e : yrr C p k = (E, c)) (h : ¬ E (30 + p) (cN C 100 6 + k) = -2) : yrr C p (k + 1) = (E, c) := by rw [yrr, e, if_neg h]
theorem yrr_wc {C : IX} (hC : WC C) {p : Nat} (hp : p < 6) : ∀ {k : Nat}, (cN C 100 6 + k ≤ cN C 2 6 ∨ k = 0) → WC (yrr C p k).1 ∧ cN (yrr C p k).1 2 6 = cN C 2 6
  | 0, _ => ⟨hC, rfl⟩
  | k + 1, hk => by
    have ih := yrr_wc hC hp (k := k) (by omega)
    rcases h2 : yrr C p k with ⟨E, c⟩
    rw [h2] at ih
    dsimp only at ih
    by_cases h3 : E (30 + p) (cN C 100 6 + k) = -2
    · rw [yrr_t h2 h3]; dsimp only; exact ⟨WC_yrcv ih.1 hp (by have := ih.2; omega), (cN_row (yrcv_lo hp (by omega))).trans ih.2⟩
    · rw [yrr_f h2 h3]; exact ih
/-! anew -/
def yff (C : IX) (p : Nat) : IX := va_up C (40 + p) (yfil (C (40 + p)) 36 (nI 0))
def ysa1 (C : IX) (p : Nat) : IX := va_up C (30 + p) (yfil (C (30 + p)) 150 (-2))
def ysa2 (C : IX) (p : Nat) : IX := va_up (ysa1 C p) (10 + p) (upd (ysa1 C p (10 + p)) 4 (nI 0))
def ysa3 (C : IX) (p : Nat) : IX := va_up (ysa2 C p) (10 + p) (upd (ysa2 C p (10 + p)) 5 (nI 0))
def ysa (C : IX) (p : Nat) : IX := yff (ysa3 C p) p
def ysaL (C : IX) : Nat → IX
  | 0 => C
  | k + 1 => ysa (ysaL C k) k
def yffL (C : IX) : Nat → IX
  | 0 => C
  | k + 1 => yff (yffL C k) k
def ysn1 (C : IX) : IX := ysaL (va_up C 2 (upd (C 2) 6 (nI 0))) 6
def ysn2 (C : IX) : IX := va_up (ysn1 C) 100 (upd (ysn1 C 100) 4 (nI 0))
def ysn3 (C : IX) (x : Int32) : IX := va_up (ysn2 C) 0 (upd (ysn2 C 0) 0 x)
def ysn4 (C : IX) (x : Int32) : IX := va_up (ysn3 C x) 100 (upd (ysn3 C x 100) 5 x)
def ysn5 (C : IX) (x : Int32) : IX := va_up (ysn4 C x) 100 (upd (ysn4 C x 100) 6 (nI 0))
def ysn (C : IX) (x : Int32) : IX := va_up (ysn5 C x) 100 (upd (ysn5 C x 100) 7 (nI 0))
def ybv (C : IX) : IX := yffL (va_up C 100 (upd (C 100) 6 (C 2 6))) 6
/-! copies -/
abbrev ycy (f g : Nat → Int32) (n : Nat) : Nat → Int32 := va_cpy f g 0 0 n
def ycl1 (C : IX) (p : Nat) (g2 : Nat → Int32) : IX := va_up C (20 + p) (ycy g2 (C (20 + p)) 150)
def ycl2 (C : IX) (p : Nat) (g2 g3 : Nat → Int32) : IX := va_up (ycl1 C p g2) (30 + p) (ycy g3 (ycl1 C p g2 (30 + p)) 150)
def ycl3 (C : IX) (p : Nat) (g1 g2 g3 : Nat → Int32) : IX := va_up (ycl2 C p g2 g3) (10 + p) (upd (ycl2 C p g2 g3 (10 + p)) 4 (g1 4))
def ycl (C : IX) (p : Nat) (g1 g2 g3 : Nat → Int32) : IX := va_up (ycl3 C p g1 g2 g3) (10 + p) (upd (ycl3 C p g1 g2 g3 (10 + p)) 5 (g1 5))
def ycf (C : IX) (p : Nat) (g1 g2 g3 g4 : Nat → Int32) : IX := va_up (ycl C p g1 g2 g3) (40 + p) (ycy g4 (ycl C p g1 g2 g3 (40 + p)) 36)
/-- another replica's shape -/
def RO (σ : SH) (o a1 a2 a3 : Nat) : Prop := (o ∈ shL σ ∧ shK σ o = 2) ∧ (shR σ o 1 = some a1 ∧ a1 ∈ shL σ ∧ shK σ a1 = 11 ∧ shN σ a1 = 150) ∧ (shR σ o 2 = some a2 ∧ a2 ∈ shL σ ∧ shK σ a2 = 11 ∧ shN σ a2 = 150) ∧ (shR σ o 3 = some a3 ∧ a3 ∈ shL σ ∧ shK σ a3 = 11 ∧ shN σ a3 = 36)
theorem GS.ro {σ : SH} {ad : Nat → Nat} (h : GS σ ad) {p : Nat} (hp : p < 6) : RO σ (ad (10 + p)) (ad (20 + p)) (ad (30 + p)) (ad (40 + p)) := ⟨h.rp hp, ⟨h.p1 hp, h.al hp⟩, ⟨h.p2 hp, h.ap hp⟩, ⟨h.p3 hp, h.at hp⟩⟩
/-- a row outside -/
theorem put_o {ids : List Nat} {ad : Nat → Nat} (h : Inj ids ad) {I C : IX} {k a : Nat} {f g : Nat → Int32} (hk : k ∈ ids) (ha : a ≠ ad k) (e : put ids I ad C a = g) : put ids I ad (va_up C k f) a = g := by
  rw [← put_up h hk, va_up_ne _ _ ha]; exact e
theorem put_ycl {σ : SH} {ad : Nat → Nat} (hG : GS σ ad) {X C : IX} {p a : Nat} (hp : p < 6) {g1 g2 g3 g : Nat → Int32} (h1 : a ≠ ad (20 + p)) (h2 : a ≠ ad (30 + p)) (e : put idX X ad C a = g) : put idX X ad (ycl C p g1 g2 g3) a = g := by
  have n10 : 10 + p ∉ idX := nX_of _ (mem_rp hp)
  rw [ycl, put_skip n10, ycl3, put_skip n10, ycl2]
  refine put_o hG.jX (mem_pl hp) h2 ?_
  rw [ycl1]
  exact put_o hG.jX (mem_lg hp) h1 e
theorem GS.ne {σ : SH} {ad : Nat → Nat} (h : GS σ ad) {i j : Nat} (hi : i ∈ idI ++ idX) (hj : j ∈ idI ++ idX) (hn : i ≠ j) : ad i ≠ ad j := fun q => hn (h.1 i j hi hj q)
theorem mem_a {k : Nat} (h : k ∈ idI) : k ∈ idI ++ idX := List.mem_append_left _ h
theorem mem_b {k : Nat} (h : k ∈ idX) : k ∈ idI ++ idX := List.mem_append_right _ h
/-- other messages' shape -/
def MO (σ : SH) (o : Nat) (b : Nat → Nat) : Prop := (o ∈ shL σ ∧ shK σ o = 1) ∧ ∀ j, j < 6 → shR σ o j = some (b j) ∧ b j ∈ shL σ ∧ shK σ (b j) = 11 ∧ shN σ (b j) = if j = 5 then 900 else 150
theorem GS.mo {σ : SH} {ad : Nat → Nat} (h : GS σ ad) : MO σ (ad 2) (fun j => ad (4 + j)) := by
  refine ⟨h.m, fun j hj => ⟨h.mr j hj, ?_⟩⟩
  rcases (by omega : j = 0 ∨ j = 1 ∨ j = 2 ∨ j = 3 ∨ j = 4 ∨ j = 5) with rfl | rfl | rfl | rfl | rfl | rfl
  · exact h.a4
  · exact h.a5
  · exact h.a6
  · exact h.a7
  · exact h.a8
  · exact h.a9
def ycm (C : IX) (g : Nat → Nat → Int32) : Nat → IX
  | 0 => C
  | j + 1 => va_up (ycm C g j) (4 + j) (ycy (g j) (ycm C g j (4 + j)) (if j = 5 then 900 else 150))
def ycmF (C : IX) (g : Nat → Nat → Int32) (gm : Nat → Int32) : IX := va_up (ycm C g 6) 2 (upd (ycm C g 6 2) 6 (gm 6))
theorem mem_ms {j : Nat} (h : j < 6) : 4 + j ∈ idX := (by decide : ∀ j, j < 6 → 4 + j ∈ idX) j h
theorem put_ycm {σ : SH} {ad : Nat → Nat} (hG : GS σ ad) {X C : IX} {g : Nat → Nat → Int32} {a : Nat} {f : Nat → Int32} (ha : ∀ i, i < 6 → a ≠ ad (4 + i)) (e : put idX X ad C a = f) : ∀ n, n ≤ 6 → put idX X ad (ycm C g n) a = f
  | 0, _ => e
  | n + 1, hn => by
    rw [ycm]
    exact put_o hG.jX (mem_ms (by omega)) (ha n (by omega)) (put_ycm hG ha e n (by omega))
theorem put_ycmI {ad : Nat → Nat} {I C : IX} {g : Nat → Nat → Int32} {a : Nat} {f : Nat → Int32} (e : put idI I ad C a = f) : ∀ n, n ≤ 6 → put idI I ad (ycm C g n) a = f
  | 0, _ => e
  | n + 1, hn => by
    rw [ycm, put_skip (nI_of' _ (mem_ms (by omega)))]
    exact put_ycmI e n (by omega)
def yg2 (C E : IX) : IX := va_up (va_up C 0 (ycy (E 0) (C 0) 21)) 1 (ycy (E 1) (va_up C 0 (ycy (E 0) (C 0) 21) 1) 21)
def yg3 (C E : IX) : IX := ycmF (yg2 C E) (fun j => E (4 + j)) (E 2)
def ygL (C E : IX) : Nat → IX
  | 0 => yg3 C E
  | k + 1 => ycf (ygL C E k) k (E (10 + k)) (E (20 + k)) (E (30 + k)) (E (40 + k))
def yg4 (C E : IX) : IX := va_up (ygL C E 6) 100 (upd (ygL C E 6 100) 4 (E 100 4))
def yg5 (C E : IX) : IX := va_up (yg4 C E) 100 (upd (yg4 C E 100) 5 (E 100 5))
def yg6 (C E : IX) : IX := va_up (yg5 C E) 100 (upd (yg5 C E 100) 6 (E 100 6))
def ygc (C E : IX) : IX := va_up (yg6 C E) 100 (upd (yg6 C E 100) 7 (E 100 7))
/-! views -/
abbrev ylw (s : Int32) : Nat := zfst (fun p => zbit s (nI p)) 5
def ysv (C : IX) : Int32 := ymem C &&& C 100 5
def yWS (C : IX) : Prop := zbit (ysv C) (nI (ylw (ysv C))) = true
theorem zfst_le (f : Nat → Bool) : ∀ n, zfst f n ≤ n
  | 0 => Nat.le_refl _
  | n + 1 => by
    have := zfst_le f n
    rw [zfst]
    split
    · omega
    · split <;> omega
def yfo (C : IX) (s : Int32) : Nat → IX × Int32
  | 0 => (C, nI 0)
  | k + 1 => if zbit s (nI k) then ((yup (yFf k s) k (cN (yfo C s k).1 100 6) (yfo C s k).1 (cN (yfo C s k).1 2 6 - cN (yfo C s k).1 100 6)).1, (yfo C s k).2 + (yup (yFf k s) k (cN (yfo C s k).1 100 6) (yfo C s k).1 (cN (yfo C s k).1 2 6 - cN (yfo C s k).1 100 6)).2) else yfo C s k
theorem yfo_t {C E : IX} {s c : Int32} {k : Nat} (e : yfo C s k = (E, c)) (h : zbit s (nI k) = true) : yfo C s (k + 1) = ((yup (yFf k s) k (cN E 100 6) E (cN E 2 6 - cN E 100 6)).1, c + (yup (yFf k s) k (cN E 100 6) E (cN E 2 6 - cN E 100 6)).2) := by rw [yfo, e, if_pos h]
theorem yfo_f {C E : IX} {s c : Int32} {k : Nat} (e : yfo C s k = (E, c)) (h : zbit s (nI k) = false) : yfo C s (k + 1) = (E, c) := by rw [yfo, e, h]; rfl
theorem yfo_wc {C : IX} (hC : WC C) {s : Int32} : ∀ {k : Nat}, k ≤ 6 → WC (yfo C s k).1 ∧ ∀ j, (j < 10 ∨ j = 100) → (yfo C s k).1 j = C j
  | 0, _ => ⟨hC, fun _ _ => rfl⟩
  | k + 1, hk => by
    have ih := yfo_wc hC (s := s) (k := k) (by omega)
    rcases h2 : yfo C s k with ⟨E, c⟩
    rw [h2] at ih
    dsimp only at ih
    have hvs := ih.1.vs150
    have hn := ih.1.n150
    cases h3 : zbit s (nI k) with
    | true =>
      rw [yfo_t h2 h3]
      dsimp only
      refine ⟨?_, fun j hj => (yup_lo (by omega) hj _).trans (ih.2 j hj)⟩
      exact WC_yup (by omega) ih.1 (by omega)
    | false => rw [yfo_f h2 h3]; exact ih
theorem y_wd {a b : Int32} {d : Nat} (hd : d < 6) (h : zbit (a &&& b) (nI d) = true) : zbit (b &&& (a ^^^ (-1))) (nI d) = false := by
  rw [zbit_bt _ (by omega), b_and] at h
  rw [zbit_bt _ (by omega), b_and, b_xor, b_m1 d (by omega)]
  cases h1 : bt a d <;> simp_all
def ywel (w : Int32) (d : Nat) (C : IX) : Nat → IX
  | 0 => C
  | k + 1 => if zbit w (nI k) then ycl (ywel w d C k) k (ywel w d C k (10 + d)) (ywel w d C k (20 + d)) (ywel w d C k (30 + d)) else ywel w d C k
theorem ywel_t {w : Int32} {d k : Nat} {C E : IX} (e : ywel w d C k = E) (h : zbit w (nI k) = true) : ywel w d C (k + 1) = ycl E k (E (10 + d)) (E (20 + d)) (E (30 + d)) := by rw [ywel, e, if_pos h]
theorem ywel_f {w : Int32} {d k : Nat} {C E : IX} (e : ywel w d C k = E) (h : zbit w (nI k) = false) : ywel w d C (k + 1) = E := by rw [ywel, e, h]; rfl
theorem ycl_lo {C : IX} {p k : Nat} {g1 g2 g3 : Nat → Int32} (hp : p < 6) (hk : k < 10 ∨ k = 100 ∨ 40 ≤ k) : ycl C p g1 g2 g3 k = C k := by
  rw [ycl, va_up_ne _ _ (by omega), ycl3, va_up_ne _ _ (by omega), ycl2, va_up_ne _ _ (by omega), ycl1, va_up_ne _ _ (by omega)]
theorem ywel_lo {w : Int32} {d j : Nat} {C : IX} (hj : j < 10 ∨ j = 100 ∨ 40 ≤ j) : ∀ k, k ≤ 6 → ywel w d C k j = C j
  | 0, _ => rfl
  | k + 1, hk => by
    cases h : zbit w (nI k) with
    | true => rw [ywel_t rfl h, ycl_lo (by omega) hj, ywel_lo hj k (by omega)]
    | false => rw [ywel_f rfl h, ywel_lo hj k (by omega)]
def ycA (C : IX) : IX := (yfo C (ysv C) 6).1
def ycB (C : IX) : IX := ywel (ycA C 100 5 &&& (ymem (ycA C) ^^^ (-1))) (ylw (ysv C)) (ycA C) 6
def ycC (C : IX) : IX := va_up (ycB C) 100 (upd (ycB C 100) 4 (ycB C 100 4 + nI 1))
def ycD (C : IX) : IX := va_up (ycC C) 0 (upd (ycC C 0) (cN C 100 4 + 1) (ycC C 100 5))
def ycE (C : IX) : IX := va_up (ycD C) 1 (upd (ycD C 1) (cN C 100 4 + 1) (yfo C (ysv C) 6).2)
def ych (C : IX) : IX := ybv (ycE C)
def ychN (C : IX) : Int32 := (yfo C (ysv C) 6).2
theorem ycB_lo {C : IX} (hC : WC C) {j : Nat} (hj : j < 10 ∨ j = 100) : ycB C j = C j := by
  rw [ycB, ywel_lo (by omega) 6 (by omega)]
  exact (yfo_wc hC (by omega)).2 j hj
theorem ycC_v {C : IX} (hC : WC C) : ycC C 100 4 = nI (cN C 100 4 + 1) := by
  rw [ycC, va_up_self, upd_at, if_pos rfl, ycB_lo hC (by omega), hC.vw, nI_add]
theorem ycD_v {C : IX} (hC : WC C) : ycD C 100 4 = nI (cN C 100 4 + 1) := by
  rw [ycD, va_up_ne _ _ (by omega)]; exact ycC_v hC
section VK
variable {pp : Program} {l : Launch} {ee : Env} {R : Room} {ss : State} {mm : MethodId} {args : Array Value} {below : List Frame} {meth : Method} {kc : Code} {D : va_G} {cy sa sv : Nat → Nat} {A : Nat → Prop} {Q : State → Prop} {nL : Nat} {cells slots : Nat} {σ : SH} {I X C : IX} {ad : Nat → Nat} {pc : Nat} {lv : List (Nat × Value)} {st : List Value}
theorem V.upP {k : Nat} {f : Nat → Int32} (hG : GS σ ad) (hk : k ∈ idX) (kk : V pp l ee R ss mm args below meth kc D cy A Q nL cells slots σ (put idI I ad (va_up C k f)) (put idX X ad (va_up C k f)) pc lv st) : V pp l ee R ss mm args below meth kc D cy A Q nL cells slots σ (put idI I ad C) (va_up (put idX X ad C) (ad k) f) pc lv st := by
  rw [put_up hG.jX hk]
  rw [put_skip (nI_of' k hk)] at kk
  exact kk
theorem V.cpP {k a n : Nat} {g : Nat → Int32} (hG : GS σ ad) (hk : k ∈ idX) (hg : put idX X ad C a = g) (kk : V pp l ee R ss mm args below meth kc D cy A Q nL cells slots σ (put idI I ad (va_up C k (ycy g (C k) n))) (put idX X ad (va_up C k (ycy g (C k) n))) pc lv st) : V pp l ee R ss mm args below meth kc D cy A Q nL cells slots σ (put idI I ad C) (va_up (put idX X ad C) (ad k) (ycy (put idX X ad C a) (put idX X ad C (ad k)) n)) pc lv st := by
  rw [hg, put_at hG.jX hk]
  exact V.upP hG hk kk
end VK

section MD
variable {l : Launch} {D : va_G} {cy sa sv : Nat → Nat}
set_option maxRecDepth 20000 in
theorem ct_X0_countPlaced (hst : l.stackTraces = false) (σ : SH) (I X : IX) (ad : Nat → Nat) (hG : GS σ ad) (C : IX) (hC : WC C) (p : Nat) (hp : p < 6) (x : Int32) : Ct l D cy sa sv yX0_countPlaced cX0_countPlaced 5 (some .int) 0 0 0 [.ref (ad 100), .int (nI p), .int x] σ (put idI I ad C) (put idX X ad C) (pR (some (.int (nI (yfr (ypc C p x) C)))) σ (put idI I ad C) (put idX X ad C)) noX := by
  refine Ct.of (by decide) hst (Nat.le_of_ble_eq_true rfl) ?_
  intro pp ee ss mm args below meth kc A hF hnm hout
  have hvs := hC.vs150
  have hn150 := hC.n150
  refine V.iconst (v := nI 0) hF dX0_countPlaced_0 (by decide) ?_
  refine V.istore_n hF dX0_countPlaced_1 (by decide) ?_
  refine V.aload_n hF dX0_countPlaced_2 rfl ?_
  refine V.getIP hF dX0_countPlaced_3 fl_X0_38 hG.g rfl hG (by decide) ?_
  refine V.topi (y := nI (cN C 100 6)) hC.vs ?_
  refine V.istore hF dX0_countPlaced_6 (by decide) ?_
  have L8 : ∀ (n8 : Nat) (k c : Nat), cN C 2 6 - (cN C 100 6 + k) < n8 → (cN C 100 6 + k ≤ cN C 2 6 ∨ k = 0) → c = zcB (fun k => ypc C p x (cN C 100 6 + k)) k → V pp l ee (Rm 0 0 0) ss mm args below meth kc D cy A (QM below args ss D cy A (pR (some (.int (nI (yfr (ypc C p x) C)))) σ (put idI I ad C) (put idX X ad C)) noX 0 0) 5 0 0 σ (put idI I ad C) (put idX X ad C) 8 [(0, .ref (ad 100)), (1, .int (nI p)), (2, .int x), (3, .int (nI c)), (4, .int (nI (cN C 100 6 + k)))] [] := by
    intro n8
    induction n8 with
    | zero => intro k c hlt8; exact absurd hlt8 (Nat.not_lt_zero _)
    | succ n8 ih8 =>
      intro k c hlt8 hk hc
      refine V.iload hF dX0_countPlaced_8 rfl ?_
      refine V.aload_n hF dX0_countPlaced_10 rfl ?_
      refine V.getRP (i := 2) hF dX0_countPlaced_11 fl_X0_21 hG.g rfl hG.r2 ?_
      refine V.getIP hF dX0_countPlaced_14 fl_X0_50 hG.m rfl hG (by decide) ?_
      refine V.topi (y := nI (cN C 2 6)) hC.n ?_
      refine V.icmp_ge (tgt := 45) hF dX0_countPlaced_17 (by decide) (fun h17 => ?_) (fun h17 => ?_)
      · have hk6 := nI_ge' h17 (by omega) (by omega)
        have hk7 : k = cN C 2 6 - cN C 100 6 := by omega
        refine V.iload_n hF dX0_countPlaced_45 rfl ?_
        refine V.iret hF dX0_countPlaced_46 (Nat.le_refl _) (Nat.le_refl _) ?_
        exact pR.i (by rw [hc, hk7])
      · have hk6 : cN C 100 6 + k < cN C 2 6 := nI_nge h17 (by omega) (by omega)
        refine V.aload_n hF dX0_countPlaced_20 rfl ?_
        refine V.getRP (i := 3) hF dX0_countPlaced_21 fl_X0_27 hG.g rfl hG.r3 ?_
        refine V.iload_n hF dX0_countPlaced_24 rfl ?_
        refine V.aaload (j := p) hF dX0_countPlaced_25 hG.ym hG.yk rfl (hG.yl (by omega)) hG.ys (hG.y (by omega)) ?_
        refine V.getRP (i := (30 + p)) hF dX0_countPlaced_26 fl_X0_175 (hG.rp hp) rfl (hG.p2 hp) ?_
        refine V.iload hF dX0_countPlaced_29 rfl ?_
        refine V.ialoadP (j := (cN C 100 6 + k)) hF dX0_countPlaced_31 (hG.ap hp) rfl (by omega) (by decide) hG (mem_pl hp) ?_
        refine V.iload_n hF dX0_countPlaced_32 rfl ?_
        refine V.icmp_ne (tgt := 39) hF dX0_countPlaced_33 (by decide) (fun h33 => ?_) (fun h33 => ?_)
        · refine V.iinc (v := nI ((cN C 100 6 + k) + 1)) hF dX0_countPlaced_39 rfl (by exact nI_1 _) (by decide) ?_
          refine V.goto (tgt := 8) hF dX0_countPlaced_42 (by decide) ?_
          refine V.relv [0, 1, 2, 3, 4] rfl ?_
          exact ih8 (k + 1) _ (by omega) (Or.inl (by omega)) (by simp [zcB, ypc, hc, *])
        · refine V.iinc (v := nI (c + 1)) hF dX0_countPlaced_36 rfl (by exact nI_1 _) (by decide) ?_
          refine V.iinc (v := nI ((cN C 100 6 + k) + 1)) hF dX0_countPlaced_39 rfl (by exact nI_1 _) (by decide) ?_
          refine V.goto (tgt := 8) hF dX0_countPlaced_42 (by decide) ?_
          refine V.relv [0, 1, 2, 3, 4] rfl ?_
          exact ih8 (k + 1) _ (by omega) (Or.inl (by omega)) (by simp [zcB, ypc, hc, *])
  refine V.relv [0, 1, 2, 3, 4] rfl ?_
  exact L8 _ 0 0 (Nat.lt_succ_self _) (Or.inr rfl) rfl
set_option maxRecDepth 20000 in
theorem ct_X0_waitingAt (hst : l.stackTraces = false) (σ : SH) (I X : IX) (ad : Nat → Nat) (hG : GS σ ad) (C : IX) (hC : WC C) (p : Nat) (hp : p < 6) (x : Int32) : Ct l D cy sa sv yX0_waitingAt cX0_waitingAt 5 (some .int) 0 0 0 [.ref (ad 100), .int (nI p), .int x] σ (put idI I ad C) (put idX X ad C) (pR (some (.int (ywt C p x))) σ (put idI I ad C) (put idX X ad C)) noX := by
  refine Ct.of (by decide) hst (Nat.le_of_ble_eq_true rfl) ?_
  intro pp ee ss mm args below meth kc A hF hnm hout
  have hvs := hC.vs150
  have hn150 := hC.n150
  refine V.iconst (v := nI 0) hF dX0_waitingAt_0 (by decide) ?_
  refine V.istore_n hF dX0_waitingAt_1 (by decide) ?_
  refine V.aload_n hF dX0_waitingAt_2 rfl ?_
  refine V.getIP hF dX0_waitingAt_3 fl_X0_38 hG.g rfl hG (by decide) ?_
  refine V.topi (y := nI (cN C 100 6)) hC.vs ?_
  refine V.istore hF dX0_waitingAt_6 (by decide) ?_
  have L8 : ∀ (n8 : Nat) (k c : Nat), cN C 2 6 - (cN C 100 6 + k) < n8 → (cN C 100 6 + k ≤ cN C 2 6 ∨ k = 0) → c = zcB (fun k => ypc C p (-1) (cN C 100 6 + k)) k → (∀ j, j < k → ywtF C p x j = false) → V pp l ee (Rm 0 0 0) ss mm args below meth kc D cy A (QM below args ss D cy A (pR (some (.int (ywt C p x))) σ (put idI I ad C) (put idX X ad C)) noX 0 0) 5 0 0 σ (put idI I ad C) (put idX X ad C) 8 [(0, .ref (ad 100)), (1, .int (nI p)), (2, .int x), (3, .int (nI c)), (4, .int (nI (cN C 100 6 + k)))] [] := by
    intro n8
    induction n8 with
    | zero => intro k c hlt8; exact absurd hlt8 (Nat.not_lt_zero _)
    | succ n8 ih8 =>
      intro k c hlt8 hk hc ha
      refine V.iload hF dX0_waitingAt_8 rfl ?_
      refine V.aload_n hF dX0_waitingAt_10 rfl ?_
      refine V.getRP (i := 2) hF dX0_waitingAt_11 fl_X0_21 hG.g rfl hG.r2 ?_
      refine V.getIP hF dX0_waitingAt_14 fl_X0_50 hG.m rfl hG (by decide) ?_
      refine V.topi (y := nI (cN C 2 6)) hC.n ?_
      refine V.icmp_ge (tgt := 53) hF dX0_waitingAt_17 (by decide) (fun h17 => ?_) (fun h17 => ?_)
      · have hk6 := nI_ge' h17 (by omega) (by omega)
        have hk7 : k = cN C 2 6 - cN C 100 6 := by omega
        refine V.iconst (v := -1) hF dX0_waitingAt_53 (by decide) ?_
        refine V.iret hF dX0_waitingAt_54 (Nat.le_refl _) (Nat.le_refl _) ?_
        rw [hk7] at ha
        exact pR.i (by rw [ywt, zfst_no ha, if_neg (by omega)])
      · have hk6 : cN C 100 6 + k < cN C 2 6 := nI_nge h17 (by omega) (by omega)
        refine V.aload_n hF dX0_waitingAt_20 rfl ?_
        refine V.getRP (i := 3) hF dX0_waitingAt_21 fl_X0_27 hG.g rfl hG.r3 ?_
        refine V.iload_n hF dX0_waitingAt_24 rfl ?_
        refine V.aaload (j := p) hF dX0_waitingAt_25 hG.ym hG.yk rfl (hG.yl (by omega)) hG.ys (hG.y (by omega)) ?_
        refine V.getRP (i := (30 + p)) hF dX0_waitingAt_26 fl_X0_175 (hG.rp hp) rfl (hG.p2 hp) ?_
        refine V.iload hF dX0_waitingAt_29 rfl ?_
        refine V.ialoadP (j := (cN C 100 6 + k)) hF dX0_waitingAt_31 (hG.ap hp) rfl (by omega) (by decide) hG (mem_pl hp) ?_
        refine V.iconst (v := -1) hF dX0_waitingAt_32 (by decide) ?_
        refine V.icmp_ne (tgt := 47) hF dX0_waitingAt_33 (by decide) (fun h33 => ?_) (fun h33 => ?_)
        · have hz : ywtF C p x k = false := by simp [ywtF, ypc, h33]
          refine V.iinc (v := nI ((cN C 100 6 + k) + 1)) hF dX0_waitingAt_47 rfl (by exact nI_1 _) (by decide) ?_
          refine V.goto (tgt := 8) hF dX0_waitingAt_50 (by decide) ?_
          refine V.relv [0, 1, 2, 3, 4] rfl ?_
          exact ih8 (k + 1) _ (by omega) (Or.inl (by omega)) (by simp [zcB, ypc, hc, *]) (lt_s' ha hz)
        · refine V.iload_n hF dX0_waitingAt_36 rfl ?_
          refine V.iload_n hF dX0_waitingAt_37 rfl ?_
          refine V.icmp_ne (tgt := 44) hF dX0_waitingAt_38 (by decide) (fun h38 => ?_) (fun h38 => ?_)
          · have hz : ywtF C p x k = false := by rw [hc] at h38; simp [ywtF, h38]
            refine V.iinc (v := nI (c + 1)) hF dX0_waitingAt_44 rfl (by exact nI_1 _) (by decide) ?_
            refine V.iinc (v := nI ((cN C 100 6 + k) + 1)) hF dX0_waitingAt_47 rfl (by exact nI_1 _) (by decide) ?_
            refine V.goto (tgt := 8) hF dX0_waitingAt_50 (by decide) ?_
            refine V.relv [0, 1, 2, 3, 4] rfl ?_
            exact ih8 (k + 1) _ (by omega) (Or.inl (by omega)) (by simp [zcB, ypc, hc, *]) (lt_s' ha hz)
          · have hz : ywtF C p x k = true := by rw [hc] at h38; exact Bool.and_eq_true_iff.mpr ⟨decide_eq_true h33, decide_eq_true h38⟩
            refine V.iload hF dX0_waitingAt_41 rfl ?_
            refine V.iret hF dX0_waitingAt_43 (Nat.le_refl _) (Nat.le_refl _) ?_
            have e := zfst_at ha hz (show k < cN C 2 6 - cN C 100 6 by omega)
            exact pR.i (by rw [ywt, e, if_pos (by omega)])
  refine V.relv [0, 1, 2, 3, 4] rfl ?_
  exact L8 _ 0 0 (Nat.lt_succ_self _) (Or.inr rfl) rfl (fun j h => absurd h (Nat.not_lt_zero _))
set_option maxRecDepth 20000 in
theorem ct_X0_countMissing (hst : l.stackTraces = false) (σ : SH) (I X : IX) (ad : Nat → Nat) (hG : GS σ ad) (C : IX) (hC : WC C) (p : Nat) (hp : p < 6) (m : Nat) (hm : m < 150) : Ct l D cy sa sv yX0_countMissing cX0_countMissing 5 (some .int) 2 0 0 [.ref (ad 100), .int (nI p), .int (nI m)] σ (put idI I ad C) (put idX X ad C) (pR (some (.int (nI (yfr (ymi C p m) C)))) σ (put idI I ad C) (put idX X ad C)) noX := by
  refine Ct.of (by decide) hst (Nat.le_of_ble_eq_true rfl) ?_
  intro pp ee ss mm args below meth kc A hF hnm hout
  have hvs := hC.vs150
  have hn150 := hC.n150
  refine V.iconst (v := nI 0) hF dX0_countMissing_0 (by decide) ?_
  refine V.istore_n hF dX0_countMissing_1 (by decide) ?_
  refine V.aload_n hF dX0_countMissing_2 rfl ?_
  refine V.getIP hF dX0_countMissing_3 fl_X0_38 hG.g rfl hG (by decide) ?_
  refine V.topi (y := nI (cN C 100 6)) hC.vs ?_
  refine V.istore hF dX0_countMissing_6 (by decide) ?_
  have L8 : ∀ (n8 : Nat) (k c : Nat), cN C 2 6 - (cN C 100 6 + k) < n8 → (cN C 100 6 + k ≤ cN C 2 6 ∨ k = 0) → c = zcB (fun k => ymi C p m (cN C 100 6 + k)) k → V pp l ee (Rm 2 0 0) ss mm args below meth kc D cy A (QM below args ss D cy A (pR (some (.int (nI (yfr (ymi C p m) C)))) σ (put idI I ad C) (put idX X ad C)) noX 0 0) 5 0 0 σ (put idI I ad C) (put idX X ad C) 8 [(0, .ref (ad 100)), (1, .int (nI p)), (2, .int (nI m)), (3, .int (nI c)), (4, .int (nI (cN C 100 6 + k)))] [] := by
    intro n8
    induction n8 with
    | zero => intro k c hlt8; exact absurd hlt8 (Nat.not_lt_zero _)
    | succ n8 ih8 =>
      intro k c hlt8 hk hc
      refine V.iload hF dX0_countMissing_8 rfl ?_
      refine V.aload_n hF dX0_countMissing_10 rfl ?_
      refine V.getRP (i := 2) hF dX0_countMissing_11 fl_X0_21 hG.g rfl hG.r2 ?_
      refine V.getIP hF dX0_countMissing_14 fl_X0_50 hG.m rfl hG (by decide) ?_
      refine V.topi (y := nI (cN C 2 6)) hC.n ?_
      refine V.icmp_ge (tgt := 56) hF dX0_countMissing_17 (by decide) (fun h17 => ?_) (fun h17 => ?_)
      · have hk6 := nI_ge' h17 (by omega) (by omega)
        have hk7 : k = cN C 2 6 - cN C 100 6 := by omega
        refine V.iload_n hF dX0_countMissing_56 rfl ?_
        refine V.iret hF dX0_countMissing_57 (Nat.le_refl _) (Nat.le_refl _) ?_
        exact pR.i (by rw [hc, hk7])
      · have hk6 : cN C 100 6 + k < cN C 2 6 := nI_nge h17 (by omega) (by omega)
        refine V.aload_n hF dX0_countMissing_20 rfl ?_
        refine V.getRP (i := 2) hF dX0_countMissing_21 fl_X0_21 hG.g rfl hG.r2 ?_
        refine V.iload hF dX0_countMissing_24 rfl ?_
        refine V.iload_n hF dX0_countMissing_26 rfl ?_
        refine V.vI hF dX0_countMissing_27 (ct_X1_precedes hst _ _ _ _ hG _ hC (cN C 100 6 + k) m (by omega) (by omega)) lk_X0_195 sl_X1_precedes hG.m.1 hG.m.2 rfl (Nat.le_of_ble_eq_true rfl) (fit_of rfl) (Nat.le_of_ble_eq_true rfl) rfl ?_
        refine V.if_eqB (tgt := 50) hF dX0_countMissing_30 (by decide) (fun h30 => ?_) (fun h30 => ?_)
        · refine V.iinc (v := nI ((cN C 100 6 + k) + 1)) hF dX0_countMissing_50 rfl (by exact nI_1 _) (by decide) ?_
          refine V.goto (tgt := 8) hF dX0_countMissing_53 (by decide) ?_
          refine V.relv [0, 1, 2, 3, 4] rfl ?_
          exact ih8 (k + 1) _ (by omega) (Or.inl (by omega)) (by simp [zcB, ymi, hc, *])
        · refine V.aload_n hF dX0_countMissing_33 rfl ?_
          refine V.getRP (i := 3) hF dX0_countMissing_34 fl_X0_27 hG.g rfl hG.r3 ?_
          refine V.iload_n hF dX0_countMissing_37 rfl ?_
          refine V.aaload (j := p) hF dX0_countMissing_38 hG.ym hG.yk rfl (hG.yl (by omega)) hG.ys (hG.y (by omega)) ?_
          refine V.iload hF dX0_countMissing_39 rfl ?_
          refine V.vI hF dX0_countMissing_41 (ct_X2_hasLogged hst _ _ _ _ hG _ p hp (cN C 100 6 + k) (by omega)) lk_X0_150 sl_X2_hasLogged (hG.rp hp).1 (hG.rp hp).2 rfl (Nat.le_of_ble_eq_true rfl) (fit_of rfl) (Nat.le_of_ble_eq_true rfl) rfl ?_
          refine V.if_neB (tgt := 50) hF dX0_countMissing_44 (by decide) (fun h44 => ?_) (fun h44 => ?_)
          · refine V.iinc (v := nI ((cN C 100 6 + k) + 1)) hF dX0_countMissing_50 rfl (by exact nI_1 _) (by decide) ?_
            refine V.goto (tgt := 8) hF dX0_countMissing_53 (by decide) ?_
            refine V.relv [0, 1, 2, 3, 4] rfl ?_
            exact ih8 (k + 1) _ (by omega) (Or.inl (by omega)) (by simp [zcB, ymi, hc, *])
          · refine V.iinc (v := nI (c + 1)) hF dX0_countMissing_47 rfl (by exact nI_1 _) (by decide) ?_
            refine V.iinc (v := nI ((cN C 100 6 + k) + 1)) hF dX0_countMissing_50 rfl (by exact nI_1 _) (by decide) ?_
            refine V.goto (tgt := 8) hF dX0_countMissing_53 (by decide) ?_
            refine V.relv [0, 1, 2, 3, 4] rfl ?_
            exact ih8 (k + 1) _ (by omega) (Or.inl (by omega)) (by simp [zcB, ymi, hc, *])
  refine V.relv [0, 1, 2, 3, 4] rfl ?_
  exact L8 _ 0 0 (Nat.lt_succ_self _) (Or.inr rfl) rfl
set_option maxRecDepth 20000 in
theorem ct_X0_isSettled (hst : l.stackTraces = false) (σ : SH) (I X : IX) (ad : Nat → Nat) (hG : GS σ ad) (C : IX) (hC : WC C) (p : Nat) (hp : p < 6) (m : Nat) (hm : m < 150) : Ct l D cy sa sv yX0_isSettled cX0_isSettled 5 (some .boolean) 2 0 0 [.ref (ad 100), .int (nI p), .int (nI m)] σ (put idI I ad C) (put idX X ad C) (pR (some (.int (bI (yset C p m)))) σ (put idI I ad C) (put idX X ad C)) noX := by
  refine Ct.of (by decide) hst (Nat.le_of_ble_eq_true rfl) ?_
  intro pp ee ss mm args below meth kc A hF hnm hout
  have hs6 := hC.s6 hm
  refine V.iload_n hF dX0_isSettled_0 rfl ?_
  refine V.aload_n hF dX0_isSettled_1 rfl ?_
  refine V.getIP hF dX0_isSettled_2 fl_X0_38 hG.g rfl hG (by decide) ?_
  refine V.icmp_ge (tgt := 10) hF dX0_isSettled_5 (by decide) (fun h5 => ?_) (fun h5 => ?_)
  · refine V.aload_n hF dX0_isSettled_10 rfl ?_
    refine V.getRP (i := 2) hF dX0_isSettled_11 fl_X0_21 hG.g rfl hG.r2 ?_
    refine V.getRP (i := 4) hF dX0_isSettled_14 fl_X0_181 hG.m rfl (hG.mr 0 (by decide)) ?_
    refine V.iload_n hF dX0_isSettled_17 rfl ?_
    refine V.ialoadP (j := m) hF dX0_isSettled_18 hG.a4 rfl (by omega) (by decide) hG (by decide) ?_
    refine V.topi (y := nI (cN C 4 m)) (hC.s hm) ?_
    refine V.istore_n hF dX0_isSettled_19 (by decide) ?_
    refine V.iconst (v := nI 0) hF dX0_isSettled_20 (by decide) ?_
    refine V.istore hF dX0_isSettled_21 (by decide) ?_
    have L23 : ∀ (n23 : Nat) (q : Nat), 6 - q < n23 → q ≤ 6 → zall (ysq C p m) q = true → V pp l ee (Rm 2 0 0) ss mm args below meth kc D cy A (QM below args ss D cy A (pR (some (.int (bI (yset C p m)))) σ (put idI I ad C) (put idX X ad C)) noX 0 0) 5 0 0 σ (put idI I ad C) (put idX X ad C) 23 [(0, .ref (ad 100)), (1, .int (nI p)), (2, .int (nI m)), (3, .int (nI (cN C 4 m))), (4, .int (nI q))] [] := by
      intro n23
      induction n23 with
      | zero => intro q hlt23; exact absurd hlt23 (Nat.not_lt_zero _)
      | succ n23 ih23 =>
        intro q hlt23 hq ha
        refine V.iload hF dX0_isSettled_23 rfl ?_
        refine V.bipush (v := nI 6) hF dX0_isSettled_25 (by decide) ?_
        refine V.icmp_ge (tgt := 71) hF dX0_isSettled_27 (by decide) (fun h27 => ?_) (fun h27 => ?_)
        · have hq6 : q = 6 := by have := nI_ge' h27 (by omega) (by omega); omega
          subst hq6
          refine V.iconst (v := nI 1) hF dX0_isSettled_71 (by decide) ?_
          refine V.zret hF dX0_isSettled_72 (Or.inr rfl) (Nat.le_refl _) (Nat.le_refl _) ?_
          exact pR.i (bI_e1 (by rw [yset, ha]; simp))
        · have hq6 : q < 6 := nI_nge h27 (by omega) (by omega)
          refine V.aload_n hF dX0_isSettled_30 rfl ?_
          refine V.iload hF dX0_isSettled_31 rfl ?_
          refine V.vI hF dX0_isSettled_33 (ct_X0_isMember hst _ _ _ _ hG _ hC _) lk_X0_159 sl_X0_isMember hG.g.1 hG.g.2 rfl (Nat.le_of_ble_eq_true rfl) (fit_of rfl) (Nat.le_of_ble_eq_true rfl) rfl ?_
          refine V.if_eqB (tgt := 65) hF dX0_isSettled_36 (by decide) (fun h36 => ?_) (fun h36 => ?_)
          · have hz : ysq C p m q = true := by simp [ysq, h36]
            refine V.iinc (v := nI (q + 1)) hF dX0_isSettled_65 rfl (by exact nI_1 _) (by decide) ?_
            refine V.goto (tgt := 23) hF dX0_isSettled_68 (by decide) ?_
            refine V.relv [0, 1, 2, 3, 4] rfl ?_
            exact ih23 (q + 1) (by omega) (by omega) (zall_t ha hz)
          · refine V.aload_n hF dX0_isSettled_39 rfl ?_
            refine V.getRP (i := 3) hF dX0_isSettled_40 fl_X0_27 hG.g rfl hG.r3 ?_
            refine V.iload_n hF dX0_isSettled_43 rfl ?_
            refine V.aaload (j := p) hF dX0_isSettled_44 hG.ym hG.yk rfl (hG.yl (by omega)) hG.ys (hG.y (by omega)) ?_
            refine V.iload hF dX0_isSettled_45 rfl ?_
            refine V.iload_n hF dX0_isSettled_47 rfl ?_
            refine V.vI hF dX0_isSettled_48 (ct_X2_heard hst _ _ _ _ hG _ p hp q (cN C 4 m) (by omega) (by omega)) lk_X0_198 sl_X2_heard (hG.rp hp).1 (hG.rp hp).2 rfl (Nat.le_of_ble_eq_true rfl) (fit_of rfl) (Nat.le_of_ble_eq_true rfl) rfl ?_
            refine V.aload_n hF dX0_isSettled_51 rfl ?_
            refine V.getRP (i := 2) hF dX0_isSettled_52 fl_X0_21 hG.g rfl hG.r2 ?_
            refine V.getRP (i := 7) hF dX0_isSettled_55 fl_X0_201 hG.m rfl (hG.mr 3 (by decide)) ?_
            refine V.iload_n hF dX0_isSettled_58 rfl ?_
            refine V.ialoadP (j := m) hF dX0_isSettled_59 hG.a7 rfl (by omega) (by decide) hG (by decide) ?_
            refine V.icmp_ge (tgt := 65) hF dX0_isSettled_60 (by decide) (fun h60 => ?_) (fun h60 => ?_)
            · have hz : ysq C p m q = true := by simp [ysq, le_nlt h60]
              refine V.iinc (v := nI (q + 1)) hF dX0_isSettled_65 rfl (by exact nI_1 _) (by decide) ?_
              refine V.goto (tgt := 23) hF dX0_isSettled_68 (by decide) ?_
              refine V.relv [0, 1, 2, 3, 4] rfl ?_
              exact ih23 (q + 1) (by omega) (by omega) (zall_t ha hz)
            · have hz : ysq C p m q = false := by simp [ysq, h36, nle_lt h60]
              refine V.iconst (v := nI 0) hF dX0_isSettled_63 (by decide) ?_
              refine V.zret hF dX0_isSettled_64 (Or.inl rfl) (Nat.le_refl _) (Nat.le_refl _) ?_
              exact pR.i (bI_e0 (by rw [yset, zall_f hz hq6, decide_eq_true h5]; rfl))
    refine V.relv [0, 1, 2, 3, 4] rfl ?_
    exact L23 _ 0 (Nat.lt_succ_self _) (by omega) rfl
  · refine V.iconst (v := nI 1) hF dX0_isSettled_8 (by decide) ?_
    refine V.zret hF dX0_isSettled_9 (Or.inr rfl) (Nat.le_refl _) (Nat.le_refl _) ?_
    exact pR.i (bI_e1 (by simp [yset, h5]))
set_option maxRecDepth 20000 in
theorem ct_X0_countUnsettled (hst : l.stackTraces = false) (σ : SH) (I X : IX) (ad : Nat → Nat) (hG : GS σ ad) (C : IX) (hC : WC C) (p : Nat) (hp : p < 6) : Ct l D cy sa sv yX0_countUnsettled cX0_countUnsettled 4 (some .int) 3 0 0 [.ref (ad 100), .int (nI p)] σ (put idI I ad C) (put idX X ad C) (pR (some (.int (nI (yfr (yun C p) C)))) σ (put idI I ad C) (put idX X ad C)) noX := by
  refine Ct.of (by decide) hst (Nat.le_of_ble_eq_true rfl) ?_
  intro pp ee ss mm args below meth kc A hF hnm hout
  have hvs := hC.vs150
  have hn150 := hC.n150
  refine V.iconst (v := nI 0) hF dX0_countUnsettled_0 (by decide) ?_
  refine V.istore_n hF dX0_countUnsettled_1 (by decide) ?_
  refine V.aload_n hF dX0_countUnsettled_2 rfl ?_
  refine V.getIP hF dX0_countUnsettled_3 fl_X0_38 hG.g rfl hG (by decide) ?_
  refine V.topi (y := nI (cN C 100 6)) hC.vs ?_
  refine V.istore_n hF dX0_countUnsettled_6 (by decide) ?_
  have L7 : ∀ (n7 : Nat) (k c : Nat), cN C 2 6 - (cN C 100 6 + k) < n7 → (cN C 100 6 + k ≤ cN C 2 6 ∨ k = 0) → c = zcB (fun k => yun C p (cN C 100 6 + k)) k → V pp l ee (Rm 3 0 0) ss mm args below meth kc D cy A (QM below args ss D cy A (pR (some (.int (nI (yfr (yun C p) C)))) σ (put idI I ad C) (put idX X ad C)) noX 0 0) 4 0 0 σ (put idI I ad C) (put idX X ad C) 7 [(0, .ref (ad 100)), (1, .int (nI p)), (2, .int (nI c)), (3, .int (nI (cN C 100 6 + k)))] [] := by
    intro n7
    induction n7 with
    | zero => intro k c hlt7; exact absurd hlt7 (Nat.not_lt_zero _)
    | succ n7 ih7 =>
      intro k c hlt7 hk hc
      refine V.iload_n hF dX0_countUnsettled_7 rfl ?_
      refine V.aload_n hF dX0_countUnsettled_8 rfl ?_
      refine V.getRP (i := 2) hF dX0_countUnsettled_9 fl_X0_21 hG.g rfl hG.r2 ?_
      refine V.getIP hF dX0_countUnsettled_12 fl_X0_50 hG.m rfl hG (by decide) ?_
      refine V.topi (y := nI (cN C 2 6)) hC.n ?_
      refine V.icmp_ge (tgt := 49) hF dX0_countUnsettled_15 (by decide) (fun h15 => ?_) (fun h15 => ?_)
      · have hk6 := nI_ge' h15 (by omega) (by omega)
        have hk7 : k = cN C 2 6 - cN C 100 6 := by omega
        refine V.iload_n hF dX0_countUnsettled_49 rfl ?_
        refine V.iret hF dX0_countUnsettled_50 (Nat.le_refl _) (Nat.le_refl _) ?_
        exact pR.i (by rw [hc, hk7])
      · have hk6 : cN C 100 6 + k < cN C 2 6 := nI_nge h15 (by omega) (by omega)
        refine V.aload_n hF dX0_countUnsettled_18 rfl ?_
        refine V.getRP (i := 3) hF dX0_countUnsettled_19 fl_X0_27 hG.g rfl hG.r3 ?_
        refine V.iload_n hF dX0_countUnsettled_22 rfl ?_
        refine V.aaload (j := p) hF dX0_countUnsettled_23 hG.ym hG.yk rfl (hG.yl (by omega)) hG.ys (hG.y (by omega)) ?_
        refine V.iload_n hF dX0_countUnsettled_24 rfl ?_
        refine V.vI hF dX0_countUnsettled_25 (ct_X2_hasLogged hst _ _ _ _ hG _ p hp (cN C 100 6 + k) (by omega)) lk_X0_150 sl_X2_hasLogged (hG.rp hp).1 (hG.rp hp).2 rfl (Nat.le_of_ble_eq_true rfl) (fit_of rfl) (Nat.le_of_ble_eq_true rfl) rfl ?_
        refine V.if_eqB (tgt := 43) hF dX0_countUnsettled_28 (by decide) (fun h28 => ?_) (fun h28 => ?_)
        · refine V.iinc (v := nI ((cN C 100 6 + k) + 1)) hF dX0_countUnsettled_43 rfl (by exact nI_1 _) (by decide) ?_
          refine V.goto (tgt := 7) hF dX0_countUnsettled_46 (by decide) ?_
          refine V.relv [0, 1, 2, 3] rfl ?_
          exact ih7 (k + 1) _ (by omega) (Or.inl (by omega)) (by simp [zcB, yun, hc, *])
        · refine V.aload_n hF dX0_countUnsettled_31 rfl ?_
          refine V.iload_n hF dX0_countUnsettled_32 rfl ?_
          refine V.iload_n hF dX0_countUnsettled_33 rfl ?_
          refine V.vI hF dX0_countUnsettled_34 (ct_X0_isSettled hst _ _ _ _ hG _ hC p (by omega) (cN C 100 6 + k) (by omega)) lk_X0_204 sl_X0_isSettled hG.g.1 hG.g.2 rfl (Nat.le_of_ble_eq_true rfl) (fit_of rfl) (Nat.le_of_ble_eq_true rfl) rfl ?_
          refine V.if_neB (tgt := 43) hF dX0_countUnsettled_37 (by decide) (fun h37 => ?_) (fun h37 => ?_)
          · refine V.iinc (v := nI ((cN C 100 6 + k) + 1)) hF dX0_countUnsettled_43 rfl (by exact nI_1 _) (by decide) ?_
            refine V.goto (tgt := 7) hF dX0_countUnsettled_46 (by decide) ?_
            refine V.relv [0, 1, 2, 3] rfl ?_
            exact ih7 (k + 1) _ (by omega) (Or.inl (by omega)) (by simp [zcB, yun, hc, *])
          · refine V.iinc (v := nI (c + 1)) hF dX0_countUnsettled_40 rfl (by exact nI_1 _) (by decide) ?_
            refine V.iinc (v := nI ((cN C 100 6 + k) + 1)) hF dX0_countUnsettled_43 rfl (by exact nI_1 _) (by decide) ?_
            refine V.goto (tgt := 7) hF dX0_countUnsettled_46 (by decide) ?_
            refine V.relv [0, 1, 2, 3] rfl ?_
            exact ih7 (k + 1) _ (by omega) (Or.inl (by omega)) (by simp [zcB, yun, hc, *])
  refine V.relv [0, 1, 2, 3] rfl ?_
  exact L7 _ 0 0 (Nat.lt_succ_self _) (Or.inr rfl) rfl
set_option maxRecDepth 20000 in
theorem ct_X0_isWithAll (hst : l.stackTraces = false) (σ : SH) (I X : IX) (ad : Nat → Nat) (hG : GS σ ad) (C : IX) (hC : WC C) (m : Nat) (hm : m < 150) : Ct l D cy sa sv yX0_isWithAll cX0_isWithAll 3 (some .boolean) 2 0 0 [.ref (ad 100), .int (nI m)] σ (put idI I ad C) (put idX X ad C) (pR (some (.int (bI (ywa C m)))) σ (put idI I ad C) (put idX X ad C)) noX := by
  refine Ct.of (by decide) hst (Nat.le_of_ble_eq_true rfl) ?_
  intro pp ee ss mm args below meth kc A hF hnm hout
  refine V.iconst (v := nI 0) hF dX0_isWithAll_0 (by decide) ?_
  refine V.istore_n hF dX0_isWithAll_1 (by decide) ?_
  have L2 : ∀ (n2 : Nat) (p : Nat), 6 - p < n2 → p ≤ 6 → zall (ywq C m) p = true → V pp l ee (Rm 2 0 0) ss mm args below meth kc D cy A (QM below args ss D cy A (pR (some (.int (bI (ywa C m)))) σ (put idI I ad C) (put idX X ad C)) noX 0 0) 3 0 0 σ (put idI I ad C) (put idX X ad C) 2 [(0, .ref (ad 100)), (1, .int (nI m)), (2, .int (nI p))] [] := by
    intro n2
    induction n2 with
    | zero => intro p hlt2; exact absurd hlt2 (Nat.not_lt_zero _)
    | succ n2 ih2 =>
      intro p hlt2 hpp ha
      refine V.iload_n hF dX0_isWithAll_2 rfl ?_
      refine V.bipush (v := nI 6) hF dX0_isWithAll_3 (by decide) ?_
      refine V.icmp_ge (tgt := 37) hF dX0_isWithAll_5 (by decide) (fun h5 => ?_) (fun h5 => ?_)
      · have hp : p = 6 := by have := nI_ge' h5 (by omega) (by omega); omega
        subst hp
        refine V.iconst (v := nI 1) hF dX0_isWithAll_37 (by decide) ?_
        refine V.zret hF dX0_isWithAll_38 (Or.inr rfl) (Nat.le_refl _) (Nat.le_refl _) ?_
        exact pR.i (bI_e1 ha)
      · have hp : p < 6 := nI_nge h5 (by omega) (by omega)
        refine V.aload_n hF dX0_isWithAll_8 rfl ?_
        refine V.iload_n hF dX0_isWithAll_9 rfl ?_
        refine V.vI hF dX0_isWithAll_10 (ct_X0_isMember hst _ _ _ _ hG _ hC _) lk_X0_159 sl_X0_isMember hG.g.1 hG.g.2 rfl (Nat.le_of_ble_eq_true rfl) (fit_of rfl) (Nat.le_of_ble_eq_true rfl) rfl ?_
        refine V.if_eqB (tgt := 31) hF dX0_isWithAll_13 (by decide) (fun h13 => ?_) (fun h13 => ?_)
        · refine V.iinc (v := nI (p + 1)) hF dX0_isWithAll_31 rfl (by exact nI_1 _) (by decide) ?_
          refine V.goto (tgt := 2) hF dX0_isWithAll_34 (by decide) ?_
          refine V.relv [0, 1, 2] rfl ?_
          exact ih2 (p + 1) (by omega) (by omega) (zall_t ha (by simp [ywq, *]))
        · refine V.aload_n hF dX0_isWithAll_16 rfl ?_
          refine V.getRP (i := 3) hF dX0_isWithAll_17 fl_X0_27 hG.g rfl hG.r3 ?_
          refine V.iload_n hF dX0_isWithAll_20 rfl ?_
          refine V.aaload (j := p) hF dX0_isWithAll_21 hG.ym hG.yk rfl (hG.yl (by omega)) hG.ys (hG.y (by omega)) ?_
          refine V.iload_n hF dX0_isWithAll_22 rfl ?_
          refine V.vI hF dX0_isWithAll_23 (ct_X2_hasLogged hst _ _ _ _ hG _ p hp m (by omega)) lk_X0_150 sl_X2_hasLogged (hG.rp hp).1 (hG.rp hp).2 rfl (Nat.le_of_ble_eq_true rfl) (fit_of rfl) (Nat.le_of_ble_eq_true rfl) rfl ?_
          refine V.if_neB (tgt := 31) hF dX0_isWithAll_26 (by decide) (fun h26 => ?_) (fun h26 => ?_)
          · refine V.iinc (v := nI (p + 1)) hF dX0_isWithAll_31 rfl (by exact nI_1 _) (by decide) ?_
            refine V.goto (tgt := 2) hF dX0_isWithAll_34 (by decide) ?_
            refine V.relv [0, 1, 2] rfl ?_
            exact ih2 (p + 1) (by omega) (by omega) (zall_t ha (by simp [ywq, *]))
          · refine V.iconst (v := nI 0) hF dX0_isWithAll_29 (by decide) ?_
            refine V.zret hF dX0_isWithAll_30 (Or.inl rfl) (Nat.le_refl _) (Nat.le_refl _) ?_
            exact pR.i (bI_e0 (zall_f (by simp [ywq, *]) hp))
  refine V.relv [0, 1, 2] rfl ?_
  exact L2 _ 0 (Nat.lt_succ_self _) (by omega) rfl
set_option maxRecDepth 20000 in
theorem ct_X0_findUnaware (hst : l.stackTraces = false) (σ : SH) (I X : IX) (ad : Nat → Nat) (hG : GS σ ad) (C : IX) (hC : WC C) (m : Nat) (hm : m < 150) : Ct l D cy sa sv yX0_findUnaware cX0_findUnaware 3 (some .int) 3 0 0 [.ref (ad 100), .int (nI m)] σ (put idI I ad C) (put idX X ad C) (pR (some (.int (yfn C m))) σ (put idI I ad C) (put idX X ad C)) noX := by
  refine Ct.of (by decide) hst (Nat.le_of_ble_eq_true rfl) ?_
  intro pp ee ss mm args below meth kc A hF hnm hout
  refine V.aload_n hF dX0_findUnaware_0 rfl ?_
  refine V.iload_n hF dX0_findUnaware_1 rfl ?_
  refine V.vI hF dX0_findUnaware_2 (ct_X0_isWithAll hst _ _ _ _ hG _ hC m (by omega)) lk_X0_207 sl_X0_isWithAll hG.g.1 hG.g.2 rfl (Nat.le_of_ble_eq_true rfl) (fit_of rfl) (Nat.le_of_ble_eq_true rfl) rfl ?_
  refine V.if_neB (tgt := 10) hF dX0_findUnaware_5 (by decide) (fun h5 => ?_) (fun h5 => ?_)
  · refine V.iconst (v := nI 0) hF dX0_findUnaware_10 (by decide) ?_
    refine V.istore_n hF dX0_findUnaware_11 (by decide) ?_
    have L12 : ∀ (n12 : Nat) (p : Nat), 6 - p < n12 → p ≤ 6 → (∀ j, j < p → yfu C m j = false) → V pp l ee (Rm 3 0 0) ss mm args below meth kc D cy A (QM below args ss D cy A (pR (some (.int (yfn C m))) σ (put idI I ad C) (put idX X ad C)) noX 0 0) 3 0 0 σ (put idI I ad C) (put idX X ad C) 12 [(0, .ref (ad 100)), (1, .int (nI m)), (2, .int (nI p))] [] := by
      intro n12
      induction n12 with
      | zero => intro p hlt12; exact absurd hlt12 (Nat.not_lt_zero _)
      | succ n12 ih12 =>
        intro p hlt12 hpp ha
        refine V.iload_n hF dX0_findUnaware_12 rfl ?_
        refine V.bipush (v := nI 6) hF dX0_findUnaware_13 (by decide) ?_
        refine V.icmp_ge (tgt := 43) hF dX0_findUnaware_15 (by decide) (fun h15 => ?_) (fun h15 => ?_)
        · have hp : p = 6 := by have := nI_ge' h15 (by omega) (by omega); omega
          subst hp
          refine V.iconst (v := -1) hF dX0_findUnaware_43 (by decide) ?_
          refine V.iret hF dX0_findUnaware_44 (Nat.le_refl _) (Nat.le_refl _) ?_
          have e := zfst_no ha
          exact pR.i (by rw [yfn, e]; simp)
        · have hp : p < 6 := nI_nge h15 (by omega) (by omega)
          refine V.aload_n hF dX0_findUnaware_18 rfl ?_
          refine V.iload_n hF dX0_findUnaware_19 rfl ?_
          refine V.vI hF dX0_findUnaware_20 (ct_X0_isMember hst _ _ _ _ hG _ hC _) lk_X0_159 sl_X0_isMember hG.g.1 hG.g.2 rfl (Nat.le_of_ble_eq_true rfl) (fit_of rfl) (Nat.le_of_ble_eq_true rfl) rfl ?_
          refine V.if_eqB (tgt := 37) hF dX0_findUnaware_23 (by decide) (fun h23 => ?_) (fun h23 => ?_)
          · refine V.iinc (v := nI (p + 1)) hF dX0_findUnaware_37 rfl (by exact nI_1 _) (by decide) ?_
            refine V.goto (tgt := 12) hF dX0_findUnaware_40 (by decide) ?_
            refine V.relv [0, 1, 2] rfl ?_
            exact ih12 (p + 1) (by omega) (by omega) (lt_s' ha (by simp [yfu, *]))
          · refine V.aload_n hF dX0_findUnaware_26 rfl ?_
            refine V.iload_n hF dX0_findUnaware_27 rfl ?_
            refine V.iload_n hF dX0_findUnaware_28 rfl ?_
            refine V.vI hF dX0_findUnaware_29 (ct_X0_isSettled hst _ _ _ _ hG _ hC p (by omega) m (by omega)) lk_X0_204 sl_X0_isSettled hG.g.1 hG.g.2 rfl (Nat.le_of_ble_eq_true rfl) (fit_of rfl) (Nat.le_of_ble_eq_true rfl) rfl ?_
            refine V.if_neB (tgt := 37) hF dX0_findUnaware_32 (by decide) (fun h32 => ?_) (fun h32 => ?_)
            · refine V.iinc (v := nI (p + 1)) hF dX0_findUnaware_37 rfl (by exact nI_1 _) (by decide) ?_
              refine V.goto (tgt := 12) hF dX0_findUnaware_40 (by decide) ?_
              refine V.relv [0, 1, 2] rfl ?_
              exact ih12 (p + 1) (by omega) (by omega) (lt_s' ha (by simp [yfu, *]))
            · refine V.iload_n hF dX0_findUnaware_35 rfl ?_
              refine V.iret hF dX0_findUnaware_36 (Nat.le_refl _) (Nat.le_refl _) ?_
              have e := zfst_at ha (show yfu C m p = true by simp [yfu, *]) hp
              exact pR.i (by rw [yfn, h5, e, decide_eq_true hp]; rfl)
    refine V.relv [0, 1, 2] rfl ?_
    exact L12 _ 0 (Nat.lt_succ_self _) (by omega) (fun j h => absurd h (Nat.not_lt_zero _))
  · refine V.iconst (v := -1) hF dX0_findUnaware_8 (by decide) ?_
    refine V.iret hF dX0_findUnaware_9 (Nat.le_refl _) (Nat.le_refl _) ?_
    exact pR.i (by rw [yfn, h5]; rfl)
set_option maxRecDepth 20000 in
theorem ct_X2_countSwappedBehind (hst : l.stackTraces = false) (σ : SH) (I X : IX) (ad : Nat → Nat) (hG : GS σ ad) (C : IX) (hC : WC C) (p : Nat) (hp : p < 6) (q s : Nat) (hq : q < 6) (hs : s < cN C (10 + p) 4) : Ct l D cy sa sv yX2_countSwappedBehind cX2_countSwappedBehind 7 (some .int) 0 0 0 [.ref (ad (10 + p)), .int (nI s), .ref (ad (10 + q))] σ (put idI I ad C) (put idX X ad C) (pR (some (.int (nI (yswB C p q s)))) σ (put idI I ad C) (put idX X ad C)) noX := by
  refine Ct.of (by decide) hst (Nat.le_of_ble_eq_true rfl) ?_
  intro pp ee ss mm args below meth kc A hF hnm hout
  have hl150 := hC.l150 hp
  have hgs := hC.g150 hp (show s < 150 by omega)
  refine V.aload_n hF dX2_countSwappedBehind_0 rfl ?_
  refine V.getRP (i := (30 + q)) hF dX2_countSwappedBehind_1 fl_X2_15 (hG.rp hq) rfl (hG.p2 hq) ?_
  refine V.aload_n hF dX2_countSwappedBehind_4 rfl ?_
  refine V.getRP (i := (20 + p)) hF dX2_countSwappedBehind_5 fl_X2_9 (hG.rp hp) rfl (hG.p1 hp) ?_
  refine V.iload_n hF dX2_countSwappedBehind_8 rfl ?_
  refine V.ialoadP (j := s) hF dX2_countSwappedBehind_9 (hG.al hp) rfl (by omega) (by decide) hG (mem_lg hp) ?_
  refine V.topi (y := nI (cN C (20 + p) s)) (hC.g hp (by omega)) ?_
  refine V.ialoadP (j := (cN C (20 + p) s)) hF dX2_countSwappedBehind_10 (hG.ap hq) rfl (by omega) (by decide) hG (mem_pl hq) ?_
  refine V.istore_n hF dX2_countSwappedBehind_11 (by decide) ?_
  refine V.iconst (v := nI 0) hF dX2_countSwappedBehind_12 (by decide) ?_
  refine V.istore hF dX2_countSwappedBehind_13 (by decide) ?_
  refine V.iload_n hF dX2_countSwappedBehind_15 rfl ?_
  refine V.iconst (v := nI 1) hF dX2_countSwappedBehind_16 (by decide) ?_
  refine V.iadd hF dX2_countSwappedBehind_17 ?_
  refine V.topi (y := nI (s + 1)) (by simp only [nI_add, pk_mul, Nat.zero_add, Nat.add_zero]) ?_
  refine V.istore hF dX2_countSwappedBehind_18 (by decide) ?_
  have L20 : ∀ (n20 : Nat) (k c : Nat), cN C (10 + p) 4 - (s + 1 + k) < n20 → s + 1 + k ≤ cN C (10 + p) 4 → c = zcB (fun k => yswG C p q s (s + 1 + k)) k → V pp l ee (Rm 0 0 0) ss mm args below meth kc D cy A (QM below args ss D cy A (pR (some (.int (nI (yswB C p q s)))) σ (put idI I ad C) (put idX X ad C)) noX 0 0) 7 0 0 σ (put idI I ad C) (put idX X ad C) 20 [(0, .ref (ad (10 + p))), (1, .int (nI s)), (2, .ref (ad (10 + q))), (3, .int (ypl C p q s)), (4, .int (nI c)), (5, .int (nI (s + 1 + k)))] [] := by
    intro n20
    induction n20 with
    | zero => intro k c hlt20; exact absurd hlt20 (Nat.not_lt_zero _)
    | succ n20 ih20 =>
      intro k c hlt20 hk hc
      refine V.iload hF dX2_countSwappedBehind_20 rfl ?_
      refine V.aload_n hF dX2_countSwappedBehind_22 rfl ?_
      refine V.getIP hF dX2_countSwappedBehind_23 fl_X2_21 (hG.rp hp) rfl hG (mem_rp hp) ?_
      refine V.topi (y := nI (cN C (10 + p) 4)) (hC.l hp) ?_
      refine V.icmp_ge (tgt := 63) hF dX2_countSwappedBehind_26 (by decide) (fun h26 => ?_) (fun h26 => ?_)
      · have hk6 := nI_ge' h26 (by omega) (by omega)
        have hk7 : k = cN C (10 + p) 4 - (s + 1) := by omega
        refine V.iload hF dX2_countSwappedBehind_63 rfl ?_
        refine V.iret hF dX2_countSwappedBehind_65 (Nat.le_refl _) (Nat.le_refl _) ?_
        exact pR.i (by rw [hc, hk7, yswB])
      · have hk6 : s + 1 + k < cN C (10 + p) 4 := nI_nge h26 (by omega) (by omega)
        have hg150 := hC.g150 hp (show s + 1 + k < 150 by omega)
        refine V.aload_n hF dX2_countSwappedBehind_29 rfl ?_
        refine V.getRP (i := (30 + q)) hF dX2_countSwappedBehind_30 fl_X2_15 (hG.rp hq) rfl (hG.p2 hq) ?_
        refine V.aload_n hF dX2_countSwappedBehind_33 rfl ?_
        refine V.getRP (i := (20 + p)) hF dX2_countSwappedBehind_34 fl_X2_9 (hG.rp hp) rfl (hG.p1 hp) ?_
        refine V.iload hF dX2_countSwappedBehind_37 rfl ?_
        refine V.ialoadP (j := (s + 1 + k)) hF dX2_countSwappedBehind_39 (hG.al hp) rfl (by omega) (by decide) hG (mem_lg hp) ?_
        refine V.topi (y := nI (cN C (20 + p) (s + 1 + k))) (hC.g hp (by omega)) ?_
        refine V.ialoadP (j := (cN C (20 + p) (s + 1 + k))) hF dX2_countSwappedBehind_40 (hG.ap hq) rfl (by omega) (by decide) hG (mem_pl hq) ?_
        refine V.istore hF dX2_countSwappedBehind_41 (by decide) ?_
        refine V.iload hF dX2_countSwappedBehind_43 rfl ?_
        refine V.if_lt (tgt := 57) hF dX2_countSwappedBehind_45 (by decide) (fun h45 => ?_) (fun h45 => ?_)
        · have hz : yswG C p q s (s + 1 + k) = false := by have h : ypl C p q (s + 1 + k) < 0 := h45; simp [yswG, h]
          refine V.iinc (v := nI ((s + 1 + k) + 1)) hF dX2_countSwappedBehind_57 rfl (by exact nI_1 _) (by decide) ?_
          refine V.goto (tgt := 20) hF dX2_countSwappedBehind_60 (by decide) ?_
          refine V.relv [0, 1, 2, 3, 4, 5] rfl ?_
          exact ih20 (k + 1) _ (by omega) (by omega) (by simp [zcB, hc, hz])
        · refine V.iload hF dX2_countSwappedBehind_48 rfl ?_
          refine V.iload_n hF dX2_countSwappedBehind_50 rfl ?_
          refine V.icmp_ge (tgt := 57) hF dX2_countSwappedBehind_51 (by decide) (fun h51 => ?_) (fun h51 => ?_)
          · have hz : yswG C p q s (s + 1 + k) = false := by have h : ypl C p q s ≤ ypl C p q (s + 1 + k) := h51; simp [yswG, h]
            refine V.iinc (v := nI ((s + 1 + k) + 1)) hF dX2_countSwappedBehind_57 rfl (by exact nI_1 _) (by decide) ?_
            refine V.goto (tgt := 20) hF dX2_countSwappedBehind_60 (by decide) ?_
            refine V.relv [0, 1, 2, 3, 4, 5] rfl ?_
            exact ih20 (k + 1) _ (by omega) (by omega) (by simp [zcB, hc, hz])
          · have hz : yswG C p q s (s + 1 + k) = true := by have h : ¬ ypl C p q s ≤ ypl C p q (s + 1 + k) := h51; have g : ¬ ypl C p q (s + 1 + k) < 0 := h45; rw [yswG, decide_eq_false h, decide_eq_false g]; rfl
            refine V.iinc (v := nI (c + 1)) hF dX2_countSwappedBehind_54 rfl (by exact nI_1 _) (by decide) ?_
            refine V.iinc (v := nI ((s + 1 + k) + 1)) hF dX2_countSwappedBehind_57 rfl (by exact nI_1 _) (by decide) ?_
            refine V.goto (tgt := 20) hF dX2_countSwappedBehind_60 (by decide) ?_
            refine V.relv [0, 1, 2, 3, 4, 5] rfl ?_
            exact ih20 (k + 1) _ (by omega) (by omega) (by simp [zcB, hc, hz])
  refine V.relv [0, 1, 2, 3, 4, 5] rfl ?_
  exact L20 _ 0 0 (Nat.lt_succ_self _) (by omega) rfl
set_option maxRecDepth 20000 in
theorem ct_X2_countSwapped (hst : l.stackTraces = false) (σ : SH) (I X : IX) (ad : Nat → Nat) (hG : GS σ ad) (C : IX) (hC : WC C) (p : Nat) (hp : p < 6) (q : Nat) (hq : q < 6) : Ct l D cy sa sv yX2_countSwapped cX2_countSwapped 4 (some .int) 1 0 0 [.ref (ad (10 + p)), .ref (ad (10 + q))] σ (put idI I ad C) (put idX X ad C) (pR (some (.int (nI (yswS C p q (cN C (10 + p) 4))))) σ (put idI I ad C) (put idX X ad C)) noX := by
  refine Ct.of (by decide) hst (Nat.le_of_ble_eq_true rfl) ?_
  intro pp ee ss mm args below meth kc A hF hnm hout
  have hl150 := hC.l150 hp
  refine V.iconst (v := nI 0) hF dX2_countSwapped_0 (by decide) ?_
  refine V.istore_n hF dX2_countSwapped_1 (by decide) ?_
  refine V.iconst (v := nI 0) hF dX2_countSwapped_2 (by decide) ?_
  refine V.istore_n hF dX2_countSwapped_3 (by decide) ?_
  have L4 : ∀ (n4 : Nat) (k c : Nat), cN C (10 + p) 4 - k < n4 → k ≤ cN C (10 + p) 4 → c = yswS C p q k → V pp l ee (Rm 1 0 0) ss mm args below meth kc D cy A (QM below args ss D cy A (pR (some (.int (nI (yswS C p q (cN C (10 + p) 4))))) σ (put idI I ad C) (put idX X ad C)) noX 0 0) 4 0 0 σ (put idI I ad C) (put idX X ad C) 4 [(0, .ref (ad (10 + p))), (1, .ref (ad (10 + q))), (2, .int (nI c)), (3, .int (nI k))] [] := by
    intro n4
    induction n4 with
    | zero => intro k c hlt4; exact absurd hlt4 (Nat.not_lt_zero _)
    | succ n4 ih4 =>
      intro k c hlt4 hk hc
      refine V.iload_n hF dX2_countSwapped_4 rfl ?_
      refine V.aload_n hF dX2_countSwapped_5 rfl ?_
      refine V.getIP hF dX2_countSwapped_6 fl_X2_21 (hG.rp hp) rfl hG (mem_rp hp) ?_
      refine V.topi (y := nI (cN C (10 + p) 4)) (hC.l hp) ?_
      refine V.icmp_ge (tgt := 40) hF dX2_countSwapped_9 (by decide) (fun h9 => ?_) (fun h9 => ?_)
      · have hk6 : k = cN C (10 + p) 4 := by have := nI_ge' h9 (by omega) (by omega); omega
        subst hk6
        refine V.iload_n hF dX2_countSwapped_40 rfl ?_
        refine V.iret hF dX2_countSwapped_41 (Nat.le_refl _) (Nat.le_refl _) ?_
        exact pR.i (by rw [hc])
      · have hk6 : k < cN C (10 + p) 4 := nI_nge h9 (by omega) (by omega)
        have hg150 := hC.g150 hp (show k < 150 by omega)
        refine V.aload_n hF dX2_countSwapped_12 rfl ?_
        refine V.aload_n hF dX2_countSwapped_13 rfl ?_
        refine V.getRP (i := (20 + p)) hF dX2_countSwapped_14 fl_X2_9 (hG.rp hp) rfl (hG.p1 hp) ?_
        refine V.iload_n hF dX2_countSwapped_17 rfl ?_
        refine V.ialoadP (j := k) hF dX2_countSwapped_18 (hG.al hp) rfl (by omega) (by decide) hG (mem_lg hp) ?_
        refine V.topi (y := nI (cN C (20 + p) k)) (hC.g hp (by omega)) ?_
        refine V.vI hF dX2_countSwapped_19 (ct_X2_hasLogged hst _ _ _ _ hG _ q hq (cN C (20 + p) k) (by omega)) lk_X2_49 sl_X2_hasLogged (hG.rp hq).1 (hG.rp hq).2 rfl (Nat.le_of_ble_eq_true rfl) (fit_of rfl) (Nat.le_of_ble_eq_true rfl) rfl ?_
        refine V.if_eqB (tgt := 34) hF dX2_countSwapped_22 (by decide) (fun h22 => ?_) (fun h22 => ?_)
        · have hz := yswS_f hc (show yshF C p q k = false from h22)
          refine V.iinc (v := nI (k + 1)) hF dX2_countSwapped_34 rfl (by exact nI_1 _) (by decide) ?_
          refine V.goto (tgt := 4) hF dX2_countSwapped_37 (by decide) ?_
          refine V.relv [0, 1, 2, 3] rfl ?_
          exact ih4 (k + 1) _ (by omega) (by omega) hz
        · have hz := yswS_t hc (show yshF C p q k = true from h22)
          refine V.iload_n hF dX2_countSwapped_25 rfl ?_
          refine V.aload_n hF dX2_countSwapped_26 rfl ?_
          refine V.iload_n hF dX2_countSwapped_27 rfl ?_
          refine V.aload_n hF dX2_countSwapped_28 rfl ?_
          refine V.vI hF dX2_countSwapped_29 (ct_X2_countSwappedBehind hst _ _ _ _ hG _ hC p hp q k hq (by omega)) lk_X2_62 sl_X2_countSwappedBehind (hG.rp hp).1 (hG.rp hp).2 rfl (Nat.le_of_ble_eq_true rfl) (fit_of rfl) (Nat.le_of_ble_eq_true rfl) rfl ?_
          refine V.iadd hF dX2_countSwapped_32 ?_
          refine V.topi (y := nI (c + (yswB C p q k))) (by simp only [nI_add, pk_mul, Nat.zero_add, Nat.add_zero]) ?_
          refine V.istore_n hF dX2_countSwapped_33 (by decide) ?_
          refine V.iinc (v := nI (k + 1)) hF dX2_countSwapped_34 rfl (by exact nI_1 _) (by decide) ?_
          refine V.goto (tgt := 4) hF dX2_countSwapped_37 (by decide) ?_
          refine V.relv [0, 1, 2, 3] rfl ?_
          exact ih4 (k + 1) _ (by omega) (by omega) hz
  refine V.relv [0, 1, 2, 3] rfl ?_
  exact L4 _ 0 0 (Nat.lt_succ_self _) (by omega) rfl
set_option maxRecDepth 20000 in
theorem ct_X4_copyRow (hst : l.stackTraces = false) (σ : SH) (I X : IX) (a b n : Nat) (hma : a ∈ shL σ) (hKa : shK σ a = 11) (hNa : shN σ a = n) (hmb : b ∈ shL σ) (hKb : shK σ b = 11) (hNb : shN σ b = n) (hn : n ≤ 4486) : Ct l D cy sa sv yX4_copyRow cX4_copyRow 2 none 1 0 0 [.ref a, .ref b] σ I X (pR none σ I (va_up X b (ycy (X a) (X b) n))) noX := by
  refine Ct.of (by decide) hst (Nat.le_of_ble_eq_true rfl) ?_
  intro pp ee ss mm args below meth kc A hF hnm hout
  refine V.aload_n hF dX4_copyRow_0 rfl ?_
  refine V.iconst (v := nI 0) hF dX4_copyRow_1 (by decide) ?_
  refine V.aload_n hF dX4_copyRow_2 rfl ?_
  refine V.iconst (v := nI 0) hF dX4_copyRow_3 (by decide) ?_
  refine V.aload_n hF dX4_copyRow_4 rfl ?_
  refine V.arraylength hF dX4_copyRow_5 hma hKa hNa ?_
  refine V.aload_n hF dX4_copyRow_6 rfl ?_
  refine V.arraylength hF dX4_copyRow_7 hmb hKb hNb ?_
  refine V.mmin hF dX4_copyRow_8 wm_323 (Nat.le_of_ble_eq_true rfl) (Nat.le_of_ble_eq_true rfl) (Nat.le_of_ble_eq_true rfl) (Nat.le_of_ble_eq_true rfl) ?_
  refine V.topi (y := nI n) (ite_self _) ?_
  refine V.copyi (n := n) hF dX4_copyRow_11 wa_328 hma hKa hNa hmb hKb hNb (Nat.le_refl _) (Nat.le_refl _) hn rfl rfl (Nat.le_of_ble_eq_true rfl) (Nat.le_of_ble_eq_true rfl) ?_
  refine V.vret hF dX4_copyRow_14 (Nat.le_refl _) (Nat.le_refl _) ?_
  exact pR.v
set_option maxRecDepth 20000 in
theorem ct_X2_forgetTable (hst : l.stackTraces = false) (σ : SH) (I X : IX) (ad : Nat → Nat) (hG : GS σ ad) (C : IX) (p : Nat) (hp : p < 6) : Ct l D cy sa sv yX2_forgetTable cX2_forgetTable 1 none 1 0 0 [.ref (ad (10 + p))] σ (put idI I ad C) (put idX X ad C) (pR none σ (put idI I ad (yff C p)) (put idX X ad (yff C p))) noX := by
  refine Ct.of (by decide) hst (Nat.le_of_ble_eq_true rfl) ?_
  intro pp ee ss mm args below meth kc A hF hnm hout
  refine V.aload_n hF dX2_forgetTable_0 rfl ?_
  refine V.getRP (i := (40 + p)) hF dX2_forgetTable_1 fl_X2_18 (hG.rp hp) rfl (hG.p3 hp) ?_
  refine V.iconst (v := nI 0) hF dX2_forgetTable_4 (by decide) ?_
  refine V.sV hF dX2_forgetTable_5 (ct_J7_fill_53178 hst _ _ _ _ 36 (hG.at hp).1 (hG.at hp).2.1 (hG.at hp).2.2 (by decide) _ (put_at hG.jX (mem_tb hp)) _) lk_X2_31 (fit_of rfl) (Nat.le_of_ble_eq_true rfl) rfl ?_
  refine V.upP hG (mem_tb hp) ?_
  refine V.vret hF dX2_forgetTable_8 (Nat.le_refl _) (Nat.le_refl _) ?_
  exact pR.v
set_option maxRecDepth 20000 in
theorem ct_X2_startAnew (hst : l.stackTraces = false) (σ : SH) (I X : IX) (ad : Nat → Nat) (hG : GS σ ad) (C : IX) (p : Nat) (hp : p < 6) : Ct l D cy sa sv yX2_startAnew cX2_startAnew 1 none 2 0 0 [.ref (ad (10 + p))] σ (put idI I ad C) (put idX X ad C) (pR none σ (put idI I ad (ysa C p)) (put idX X ad (ysa C p))) noX := by
  refine Ct.of (by decide) hst (Nat.le_of_ble_eq_true rfl) ?_
  intro pp ee ss mm args below meth kc A hF hnm hout
  refine V.aload_n hF dX2_startAnew_0 rfl ?_
  refine V.getRP (i := (30 + p)) hF dX2_startAnew_1 fl_X2_15 (hG.rp hp) rfl (hG.p2 hp) ?_
  refine V.bipush (v := -2) hF dX2_startAnew_4 (by decide) ?_
  refine V.sV hF dX2_startAnew_6 (ct_J7_fill_53178 hst _ _ _ _ 150 (hG.ap hp).1 (hG.ap hp).2.1 (hG.ap hp).2.2 (by decide) _ (put_at hG.jX (mem_pl hp)) _) lk_X2_31 (fit_of rfl) (Nat.le_of_ble_eq_true rfl) rfl ?_
  refine V.upP hG (mem_pl hp) ?_
  refine V.aload_n hF dX2_startAnew_9 rfl ?_
  refine V.iconst (v := nI 0) hF dX2_startAnew_10 (by decide) ?_
  refine V.putIP hF dX2_startAnew_11 fl_X2_21 (hG.rp hp) rfl rfl rfl hG (mem_rp hp) ?_
  refine V.aload_n hF dX2_startAnew_14 rfl ?_
  refine V.iconst (v := nI 0) hF dX2_startAnew_15 (by decide) ?_
  refine V.putIP hF dX2_startAnew_16 fl_X2_25 (hG.rp hp) rfl rfl rfl hG (mem_rp hp) ?_
  refine V.aload_n hF dX2_startAnew_19 rfl ?_
  refine V.vV hF dX2_startAnew_20 (ct_X2_forgetTable hst _ _ _ _ hG _ p hp) lk_X2_37 sl_X2_forgetTable (hG.rp hp).1 (hG.rp hp).2 rfl (Nat.le_of_ble_eq_true rfl) (fit_of rfl) (Nat.le_of_ble_eq_true rfl) rfl ?_
  refine V.vret hF dX2_startAnew_23 (Nat.le_refl _) (Nat.le_refl _) ?_
  exact pR.v
set_option maxRecDepth 20000 in
theorem ct_X0_startAnew (hst : l.stackTraces = false) (σ : SH) (I X : IX) (ad : Nat → Nat) (hG : GS σ ad) (C : IX) (x : Int32) : Ct l D cy sa sv yX0_startAnew cX0_startAnew 3 none 3 0 0 [.ref (ad 100), .int x] σ (put idI I ad C) (put idX X ad C) (pR none σ (put idI I ad (ysn C x)) (put idX X ad (ysn C x))) noX := by
  refine Ct.of (by decide) hst (Nat.le_of_ble_eq_true rfl) ?_
  intro pp ee ss mm args below meth kc A hF hnm hout
  refine V.aload_n hF dX0_startAnew_0 rfl ?_
  refine V.getRP (i := 2) hF dX0_startAnew_1 fl_X0_21 hG.g rfl hG.r2 ?_
  refine V.iconst (v := nI 0) hF dX0_startAnew_4 (by decide) ?_
  refine V.putIP hF dX0_startAnew_5 fl_X0_50 hG.m rfl rfl rfl hG (by decide) ?_
  refine V.iconst (v := nI 0) hF dX0_startAnew_8 (by decide) ?_
  refine V.istore_n hF dX0_startAnew_9 (by decide) ?_
  have L10 : ∀ (n10 : Nat) (k : Nat) (E : IX), 6 - k < n10 → k ≤ 6 → ysaL (va_up C 2 (upd (C 2) 6 (nI 0))) k = E → V pp l ee (Rm 3 0 0) ss mm args below meth kc D cy A (QM below args ss D cy A (pR none σ (put idI I ad (ysn C x)) (put idX X ad (ysn C x))) noX 0 0) 3 0 0 σ (put idI I ad E) (put idX X ad E) 10 [(0, .ref (ad 100)), (1, .int x), (2, .int (nI k))] [] := by
    intro n10
    induction n10 with
    | zero => intro k E hlt10; exact absurd hlt10 (Nat.not_lt_zero _)
    | succ n10 ih10 =>
      intro k E hlt10 hk hE
      refine V.iload_n hF dX0_startAnew_10 rfl ?_
      refine V.bipush (v := nI 6) hF dX0_startAnew_11 (by decide) ?_
      refine V.icmp_ge (tgt := 31) hF dX0_startAnew_13 (by decide) (fun h13 => ?_) (fun h13 => ?_)
      · have hk6 : k = 6 := by have := nI_ge' h13 (by omega) (by omega); omega
        subst hk6
        subst hE
        refine V.aload_n hF dX0_startAnew_31 rfl ?_
        refine V.iconst (v := nI 0) hF dX0_startAnew_32 (by decide) ?_
        refine V.putIP hF dX0_startAnew_33 fl_X0_31 hG.g rfl rfl rfl hG (by decide) ?_
        refine V.aload_n hF dX0_startAnew_36 rfl ?_
        refine V.getRP (i := 0) hF dX0_startAnew_37 fl_X0_9 hG.g rfl hG.r0 ?_
        refine V.iconst (v := nI 0) hF dX0_startAnew_40 (by decide) ?_
        refine V.iload_n hF dX0_startAnew_41 rfl ?_
        refine V.iastoreP (j := 0) hF dX0_startAnew_42 hG.a0 rfl (lt_of rfl) (by decide) hG (by decide) ?_
        refine V.aload_n hF dX0_startAnew_43 rfl ?_
        refine V.iload_n hF dX0_startAnew_44 rfl ?_
        refine V.putIP hF dX0_startAnew_45 fl_X0_35 hG.g rfl rfl rfl hG (by decide) ?_
        refine V.aload_n hF dX0_startAnew_48 rfl ?_
        refine V.iconst (v := nI 0) hF dX0_startAnew_49 (by decide) ?_
        refine V.putIP hF dX0_startAnew_50 fl_X0_38 hG.g rfl rfl rfl hG (by decide) ?_
        refine V.aload_n hF dX0_startAnew_53 rfl ?_
        refine V.iconst (v := nI 0) hF dX0_startAnew_54 (by decide) ?_
        refine V.putIP hF dX0_startAnew_55 fl_X0_41 hG.g rfl rfl rfl hG (by decide) ?_
        refine V.vret hF dX0_startAnew_58 (Nat.le_refl _) (Nat.le_refl _) ?_
        exact pR.v
      · have hk : k < 6 := nI_nge h13 (by omega) (by omega)
        refine V.aload_n hF dX0_startAnew_16 rfl ?_
        refine V.getRP (i := 3) hF dX0_startAnew_17 fl_X0_27 hG.g rfl hG.r3 ?_
        refine V.iload_n hF dX0_startAnew_20 rfl ?_
        refine V.aaload (j := k) hF dX0_startAnew_21 hG.ym hG.yk rfl (hG.yl (by omega)) hG.ys (hG.y (by omega)) ?_
        refine V.vV hF dX0_startAnew_22 (ct_X2_startAnew hst _ _ _ _ hG _ k hk) lk_X0_53 sl_X2_startAnew (hG.rp hk).1 (hG.rp hk).2 rfl (Nat.le_of_ble_eq_true rfl) (fit_of rfl) (Nat.le_of_ble_eq_true rfl) rfl ?_
        refine V.iinc (v := nI (k + 1)) hF dX0_startAnew_25 rfl (by exact nI_1 _) (by decide) ?_
        refine V.goto (tgt := 10) hF dX0_startAnew_28 (by decide) ?_
        refine V.relv [0, 1, 2] rfl ?_
        exact ih10 (k + 1) _ (by omega) (by omega) (by rw [ysaL, hE])
  refine V.relv [0, 1, 2] rfl ?_
  exact L10 _ 0 _ (Nat.lt_succ_self _) (by omega) rfl
set_option maxRecDepth 20000 in
theorem ct_X0_beginView (hst : l.stackTraces = false) (σ : SH) (I X : IX) (ad : Nat → Nat) (hG : GS σ ad) (C : IX) : Ct l D cy sa sv yX0_beginView cX0_beginView 2 none 2 0 0 [.ref (ad 100)] σ (put idI I ad C) (put idX X ad C) (pR none σ (put idI I ad (ybv C)) (put idX X ad (ybv C))) noX := by
  refine Ct.of (by decide) hst (Nat.le_of_ble_eq_true rfl) ?_
  intro pp ee ss mm args below meth kc A hF hnm hout
  refine V.aload_n hF dX0_beginView_0 rfl ?_
  refine V.aload_n hF dX0_beginView_1 rfl ?_
  refine V.getRP (i := 2) hF dX0_beginView_2 fl_X0_21 hG.g rfl hG.r2 ?_
  refine V.getIP hF dX0_beginView_5 fl_X0_50 hG.m rfl hG (by decide) ?_
  refine V.putIP hF dX0_beginView_8 fl_X0_38 hG.g rfl rfl rfl hG (by decide) ?_
  refine V.iconst (v := nI 0) hF dX0_beginView_11 (by decide) ?_
  refine V.istore_n hF dX0_beginView_12 (by decide) ?_
  have L13 : ∀ (n13 : Nat) (k : Nat) (E : IX), 6 - k < n13 → k ≤ 6 → yffL (va_up C 100 (upd (C 100) 6 (C 2 6))) k = E → V pp l ee (Rm 2 0 0) ss mm args below meth kc D cy A (QM below args ss D cy A (pR none σ (put idI I ad (ybv C)) (put idX X ad (ybv C))) noX 0 0) 2 0 0 σ (put idI I ad E) (put idX X ad E) 13 [(0, .ref (ad 100)), (1, .int (nI k))] [] := by
    intro n13
    induction n13 with
    | zero => intro k E hlt13; exact absurd hlt13 (Nat.not_lt_zero _)
    | succ n13 ih13 =>
      intro k E hlt13 hk hE
      refine V.iload_n hF dX0_beginView_13 rfl ?_
      refine V.bipush (v := nI 6) hF dX0_beginView_14 (by decide) ?_
      refine V.icmp_ge (tgt := 34) hF dX0_beginView_16 (by decide) (fun h16 => ?_) (fun h16 => ?_)
      · have hk6 : k = 6 := by have := nI_ge' h16 (by omega) (by omega); omega
        subst hk6
        subst hE
        refine V.vret hF dX0_beginView_34 (Nat.le_refl _) (Nat.le_refl _) ?_
        exact pR.v
      · have hk : k < 6 := nI_nge h16 (by omega) (by omega)
        refine V.aload_n hF dX0_beginView_19 rfl ?_
        refine V.getRP (i := 3) hF dX0_beginView_20 fl_X0_27 hG.g rfl hG.r3 ?_
        refine V.iload_n hF dX0_beginView_23 rfl ?_
        refine V.aaload (j := k) hF dX0_beginView_24 hG.ym hG.yk rfl (hG.yl (by omega)) hG.ys (hG.y (by omega)) ?_
        refine V.vV hF dX0_beginView_25 (ct_X2_forgetTable hst _ _ _ _ hG _ k hk) lk_X0_153 sl_X2_forgetTable (hG.rp hk).1 (hG.rp hk).2 rfl (Nat.le_of_ble_eq_true rfl) (fit_of rfl) (Nat.le_of_ble_eq_true rfl) rfl ?_
        refine V.iinc (v := nI (k + 1)) hF dX0_beginView_28 rfl (by exact nI_1 _) (by decide) ?_
        refine V.goto (tgt := 13) hF dX0_beginView_31 (by decide) ?_
        refine V.relv [0, 1] rfl ?_
        exact ih13 (k + 1) _ (by omega) (by omega) (by rw [yffL, hE])
  refine V.relv [0, 1] rfl ?_
  exact L13 _ 0 _ (Nat.lt_succ_self _) (by omega) rfl
set_option maxRecDepth 20000 in
theorem ct_X2_copyLogAndState (hst : l.stackTraces = false) (σ : SH) (I X : IX) (ad : Nat → Nat) (hG : GS σ ad) (C : IX) (p : Nat) (hp : p < 6) (o a1 a2 a3 : Nat) (hO : RO σ o a1 a2 a3) (g1 g2 g3 : Nat → Int32) (h1 : put idI I ad C o = g1) (h2 : put idX X ad C a1 = g2) (h3 : put idX X ad C a2 = g3) (hn1 : o ≠ ad (10 + p)) (hn2 : a2 ≠ ad (20 + p)) : Ct l D cy sa sv yX2_copyLogAndState cX2_copyLogAndState 2 none 2 0 0 [.ref (ad (10 + p)), .ref o] σ (put idI I ad C) (put idX X ad C) (pR none σ (put idI I ad (ycl C p g1 g2 g3)) (put idX X ad (ycl C p g1 g2 g3))) noX := by
  refine Ct.of (by decide) hst (Nat.le_of_ble_eq_true rfl) ?_
  intro pp ee ss mm args below meth kc A hF hnm hout
  refine V.aload_n hF dX2_copyLogAndState_0 rfl ?_
  refine V.getR hF dX2_copyLogAndState_1 fl_X2_9 hO.1.1 hO.1.2 rfl hO.2.1.1 ?_
  refine V.aload_n hF dX2_copyLogAndState_4 rfl ?_
  refine V.getRP (i := (20 + p)) hF dX2_copyLogAndState_5 fl_X2_9 (hG.rp hp) rfl (hG.p1 hp) ?_
  refine V.sV hF dX2_copyLogAndState_8 (ct_X4_copyRow hst _ _ _ _ _ 150 hO.2.1.2.1 hO.2.1.2.2.1 hO.2.1.2.2.2 (hG.al hp).1 (hG.al hp).2.1 (hG.al hp).2.2 (by decide)) lk_X2_66 (fit_of rfl) (Nat.le_of_ble_eq_true rfl) rfl ?_
  refine V.cpP hG (mem_lg hp) h2 ?_
  refine V.aload_n hF dX2_copyLogAndState_11 rfl ?_
  refine V.getR hF dX2_copyLogAndState_12 fl_X2_15 hO.1.1 hO.1.2 rfl hO.2.2.1.1 ?_
  refine V.aload_n hF dX2_copyLogAndState_15 rfl ?_
  refine V.getRP (i := (30 + p)) hF dX2_copyLogAndState_16 fl_X2_15 (hG.rp hp) rfl (hG.p2 hp) ?_
  refine V.sV hF dX2_copyLogAndState_19 (ct_X4_copyRow hst _ _ _ _ _ 150 hO.2.2.1.2.1 hO.2.2.1.2.2.1 hO.2.2.1.2.2.2 (hG.ap hp).1 (hG.ap hp).2.1 (hG.ap hp).2.2 (by decide)) lk_X2_66 (fit_of rfl) (Nat.le_of_ble_eq_true rfl) rfl ?_
  refine V.cpP hG (mem_pl hp) (put_o hG.jX (mem_lg hp) hn2 h3) ?_
  refine V.aload_n hF dX2_copyLogAndState_22 rfl ?_
  refine V.aload_n hF dX2_copyLogAndState_23 rfl ?_
  refine V.getIF hF dX2_copyLogAndState_24 fl_X2_21 hO.1.1 hO.1.2 rfl ((congrFun ((put_skip (nI_of' _ (mem_pl hp)) _).trans (put_skip (nI_of' _ (mem_lg hp)) _)) _).trans h1) ?_
  refine V.putIP hF dX2_copyLogAndState_27 fl_X2_21 (hG.rp hp) rfl rfl rfl hG (mem_rp hp) ?_
  refine V.aload_n hF dX2_copyLogAndState_30 rfl ?_
  refine V.aload_n hF dX2_copyLogAndState_31 rfl ?_
  refine V.getIF hF dX2_copyLogAndState_32 fl_X2_25 hO.1.1 hO.1.2 rfl (put_o hG.jI (mem_rp hp) hn1 ((congrFun ((put_skip (nI_of' _ (mem_pl hp)) _).trans (put_skip (nI_of' _ (mem_lg hp)) _)) _).trans h1)) ?_
  refine V.putIP hF dX2_copyLogAndState_35 fl_X2_25 (hG.rp hp) rfl rfl rfl hG (mem_rp hp) ?_
  refine V.vret hF dX2_copyLogAndState_38 (Nat.le_refl _) (Nat.le_refl _) ?_
  exact pR.v
set_option maxRecDepth 20000 in
theorem ct_X2_copyFrom (hst : l.stackTraces = false) (σ : SH) (I X : IX) (ad : Nat → Nat) (hG : GS σ ad) (C : IX) (p : Nat) (hp : p < 6) (o a1 a2 a3 : Nat) (hO : RO σ o a1 a2 a3) (g1 g2 g3 : Nat → Int32) (h1 : put idI I ad C o = g1) (h2 : put idX X ad C a1 = g2) (h3 : put idX X ad C a2 = g3) (hn1 : o ≠ ad (10 + p)) (hn2 : a2 ≠ ad (20 + p)) (g4 : Nat → Int32) (h4 : put idX X ad C a3 = g4) (hn3 : a3 ≠ ad (20 + p)) (hn4 : a3 ≠ ad (30 + p)) : Ct l D cy sa sv yX2_copyFrom cX2_copyFrom 2 none 3 0 0 [.ref (ad (10 + p)), .ref o] σ (put idI I ad C) (put idX X ad C) (pR none σ (put idI I ad (ycf C p g1 g2 g3 g4)) (put idX X ad (ycf C p g1 g2 g3 g4))) noX := by
  refine Ct.of (by decide) hst (Nat.le_of_ble_eq_true rfl) ?_
  intro pp ee ss mm args below meth kc A hF hnm hout
  refine V.aload_n hF dX2_copyFrom_0 rfl ?_
  refine V.aload_n hF dX2_copyFrom_1 rfl ?_
  refine V.vV hF dX2_copyFrom_2 (ct_X2_copyLogAndState hst _ _ _ _ hG _ p hp _ _ _ _ hO _ _ _ h1 h2 h3 hn1 hn2) lk_X2_70 sl_X2_copyLogAndState (hG.rp hp).1 (hG.rp hp).2 rfl (Nat.le_of_ble_eq_true rfl) (fit_of rfl) (Nat.le_of_ble_eq_true rfl) rfl ?_
  refine V.aload_n hF dX2_copyFrom_5 rfl ?_
  refine V.getR hF dX2_copyFrom_6 fl_X2_18 hO.1.1 hO.1.2 rfl hO.2.2.2.1 ?_
  refine V.aload_n hF dX2_copyFrom_9 rfl ?_
  refine V.getRP (i := (40 + p)) hF dX2_copyFrom_10 fl_X2_18 (hG.rp hp) rfl (hG.p3 hp) ?_
  refine V.sV hF dX2_copyFrom_13 (ct_X4_copyRow hst _ _ _ _ _ 36 hO.2.2.2.2.1 hO.2.2.2.2.2.1 hO.2.2.2.2.2.2 (hG.at hp).1 (hG.at hp).2.1 (hG.at hp).2.2 (by decide)) lk_X2_66 (fit_of rfl) (Nat.le_of_ble_eq_true rfl) rfl ?_
  refine V.cpP hG (mem_tb hp) (put_ycl hG hp hn3 hn4 h4) ?_
  refine V.vret hF dX2_copyFrom_16 (Nat.le_refl _) (Nat.le_refl _) ?_
  exact pR.v
set_option maxRecDepth 20000 in
theorem ct_X1_copyFrom (hst : l.stackTraces = false) (σ : SH) (I X : IX) (ad : Nat → Nat) (hG : GS σ ad) (C : IX) (o : Nat) (b : Nat → Nat) (hO : MO σ o b) (g : Nat → Nat → Int32) (hg : ∀ j, j < 6 → put idX X ad C (b j) = g j) (gm : Nat → Int32) (hgm : put idI I ad C o = gm) (hd : ∀ j, j < 6 → ∀ i, i < 6 → b j ≠ ad (4 + i)) : Ct l D cy sa sv yX1_copyFrom cX1_copyFrom 2 none 2 0 0 [.ref (ad 2), .ref o] σ (put idI I ad C) (put idX X ad C) (pR none σ (put idI I ad (ycmF C g gm)) (put idX X ad (ycmF C g gm))) noX := by
  refine Ct.of (by decide) hst (Nat.le_of_ble_eq_true rfl) ?_
  intro pp ee ss mm args below meth kc A hF hnm hout
  refine V.eqC (C' := ycm C g 0) rfl ?_
  refine V.aload_n hF dX1_copyFrom_0 rfl ?_
  refine V.getR hF dX1_copyFrom_1 fl_X1_9 hO.1.1 hO.1.2 rfl (hO.2 0 (by decide)).1 ?_
  refine V.aload_n hF dX1_copyFrom_4 rfl ?_
  refine V.getRP (i := 4) hF dX1_copyFrom_5 fl_X1_9 hG.m rfl (hG.mr 0 (by decide)) ?_
  refine V.sV hF dX1_copyFrom_8 (ct_X4_copyRow hst _ _ _ _ _ 150 (hO.2 0 (by decide)).2.1 (hO.2 0 (by decide)).2.2.1 (hO.2 0 (by decide)).2.2.2 hG.a4.1 hG.a4.2.1 hG.a4.2.2 (by decide)) lk_X1_62 (fit_of rfl) (Nat.le_of_ble_eq_true rfl) rfl ?_
  refine V.cpP hG (by decide) (put_ycm hG (hd 0 (by decide)) (hg 0 (by decide)) 0 (by decide)) ?_
  refine V.eqC (C' := ycm C g 1) rfl ?_
  refine V.aload_n hF dX1_copyFrom_11 rfl ?_
  refine V.getR hF dX1_copyFrom_12 fl_X1_15 hO.1.1 hO.1.2 rfl (hO.2 1 (by decide)).1 ?_
  refine V.aload_n hF dX1_copyFrom_15 rfl ?_
  refine V.getRP (i := 5) hF dX1_copyFrom_16 fl_X1_15 hG.m rfl (hG.mr 1 (by decide)) ?_
  refine V.sV hF dX1_copyFrom_19 (ct_X4_copyRow hst _ _ _ _ _ 150 (hO.2 1 (by decide)).2.1 (hO.2 1 (by decide)).2.2.1 (hO.2 1 (by decide)).2.2.2 hG.a5.1 hG.a5.2.1 hG.a5.2.2 (by decide)) lk_X1_62 (fit_of rfl) (Nat.le_of_ble_eq_true rfl) rfl ?_
  refine V.cpP hG (by decide) (put_ycm hG (hd 1 (by decide)) (hg 1 (by decide)) 1 (by decide)) ?_
  refine V.eqC (C' := ycm C g 2) rfl ?_
  refine V.aload_n hF dX1_copyFrom_22 rfl ?_
  refine V.getR hF dX1_copyFrom_23 fl_X1_18 hO.1.1 hO.1.2 rfl (hO.2 2 (by decide)).1 ?_
  refine V.aload_n hF dX1_copyFrom_26 rfl ?_
  refine V.getRP (i := 6) hF dX1_copyFrom_27 fl_X1_18 hG.m rfl (hG.mr 2 (by decide)) ?_
  refine V.sV hF dX1_copyFrom_30 (ct_X4_copyRow hst _ _ _ _ _ 150 (hO.2 2 (by decide)).2.1 (hO.2 2 (by decide)).2.2.1 (hO.2 2 (by decide)).2.2.2 hG.a6.1 hG.a6.2.1 hG.a6.2.2 (by decide)) lk_X1_62 (fit_of rfl) (Nat.le_of_ble_eq_true rfl) rfl ?_
  refine V.cpP hG (by decide) (put_ycm hG (hd 2 (by decide)) (hg 2 (by decide)) 2 (by decide)) ?_
  refine V.eqC (C' := ycm C g 3) rfl ?_
  refine V.aload_n hF dX1_copyFrom_33 rfl ?_
  refine V.getR hF dX1_copyFrom_34 fl_X1_21 hO.1.1 hO.1.2 rfl (hO.2 3 (by decide)).1 ?_
  refine V.aload_n hF dX1_copyFrom_37 rfl ?_
  refine V.getRP (i := 7) hF dX1_copyFrom_38 fl_X1_21 hG.m rfl (hG.mr 3 (by decide)) ?_
  refine V.sV hF dX1_copyFrom_41 (ct_X4_copyRow hst _ _ _ _ _ 150 (hO.2 3 (by decide)).2.1 (hO.2 3 (by decide)).2.2.1 (hO.2 3 (by decide)).2.2.2 hG.a7.1 hG.a7.2.1 hG.a7.2.2 (by decide)) lk_X1_62 (fit_of rfl) (Nat.le_of_ble_eq_true rfl) rfl ?_
  refine V.cpP hG (by decide) (put_ycm hG (hd 3 (by decide)) (hg 3 (by decide)) 3 (by decide)) ?_
  refine V.eqC (C' := ycm C g 4) rfl ?_
  refine V.aload_n hF dX1_copyFrom_44 rfl ?_
  refine V.getR hF dX1_copyFrom_45 fl_X1_24 hO.1.1 hO.1.2 rfl (hO.2 4 (by decide)).1 ?_
  refine V.aload_n hF dX1_copyFrom_48 rfl ?_
  refine V.getRP (i := 8) hF dX1_copyFrom_49 fl_X1_24 hG.m rfl (hG.mr 4 (by decide)) ?_
  refine V.sV hF dX1_copyFrom_52 (ct_X4_copyRow hst _ _ _ _ _ 150 (hO.2 4 (by decide)).2.1 (hO.2 4 (by decide)).2.2.1 (hO.2 4 (by decide)).2.2.2 hG.a8.1 hG.a8.2.1 hG.a8.2.2 (by decide)) lk_X1_62 (fit_of rfl) (Nat.le_of_ble_eq_true rfl) rfl ?_
  refine V.cpP hG (by decide) (put_ycm hG (hd 4 (by decide)) (hg 4 (by decide)) 4 (by decide)) ?_
  refine V.eqC (C' := ycm C g 5) rfl ?_
  refine V.aload_n hF dX1_copyFrom_55 rfl ?_
  refine V.getR hF dX1_copyFrom_56 fl_X1_27 hO.1.1 hO.1.2 rfl (hO.2 5 (by decide)).1 ?_
  refine V.aload_n hF dX1_copyFrom_59 rfl ?_
  refine V.getRP (i := 9) hF dX1_copyFrom_60 fl_X1_27 hG.m rfl (hG.mr 5 (by decide)) ?_
  refine V.sV hF dX1_copyFrom_63 (ct_X4_copyRow hst _ _ _ _ _ 900 (hO.2 5 (by decide)).2.1 (hO.2 5 (by decide)).2.2.1 (hO.2 5 (by decide)).2.2.2 hG.a9.1 hG.a9.2.1 hG.a9.2.2 (by decide)) lk_X1_62 (fit_of rfl) (Nat.le_of_ble_eq_true rfl) rfl ?_
  refine V.cpP hG (by decide) (put_ycm hG (hd 5 (by decide)) (hg 5 (by decide)) 5 (by decide)) ?_
  refine V.eqC (C' := ycm C g 6) rfl ?_
  refine V.aload_n hF dX1_copyFrom_66 rfl ?_
  refine V.aload_n hF dX1_copyFrom_67 rfl ?_
  refine V.getIF hF dX1_copyFrom_68 fl_X1_30 hO.1.1 hO.1.2 rfl (put_ycmI hgm 6 (by decide)) ?_
  refine V.putIP hF dX1_copyFrom_71 fl_X1_30 hG.m rfl rfl rfl hG (by decide) ?_
  refine V.vret hF dX1_copyFrom_74 (Nat.le_refl _) (Nat.le_refl _) ?_
  exact pR.v
set_option maxRecDepth 20000 in
theorem ct_X0_copyFrom (hst : l.stackTraces = false) (σ : SH) (I X : IX) (ad : Nat → Nat) (hG : GS σ ad) (C : IX) (bd : Nat → Nat) (hB : GS σ bd) (hd : ∀ i j, i ∈ idI ++ idX → j ∈ idI ++ idX → bd j ≠ ad i) (E : IX) (hE1 : ∀ k, k ∈ idI → I (bd k) = E k) (hE2 : ∀ k, k ∈ idX → X (bd k) = E k) : Ct l D cy sa sv yX0_copyFrom cX0_copyFrom 3 none 4 0 0 [.ref (ad 100), .ref (bd 100)] σ (put idI I ad C) (put idX X ad C) (pR none σ (put idI I ad (ygc C E)) (put idX X ad (ygc C E))) noX := by
  refine Ct.of (by decide) hst (Nat.le_of_ble_eq_true rfl) ?_
  intro pp ee ss mm args below meth kc A hF hnm hout
  have hbI : ∀ (C : IX) (k : Nat), k ∈ idI → put idI I ad C (bd k) = E k := fun C k hk => (put_off (fun i hi q => hd i k (mem_a hi) (mem_a hk) q.symm)).trans (hE1 k hk)
  have hbX : ∀ (C : IX) (k : Nat), k ∈ idX → put idX X ad C (bd k) = E k := fun C k hk => (put_off (fun i hi q => hd i k (mem_b hi) (mem_b hk) q.symm)).trans (hE2 k hk)
  refine V.aload_n hF dX0_copyFrom_0 rfl ?_
  refine V.getR hF dX0_copyFrom_1 fl_X0_9 hB.g.1 hB.g.2 rfl hB.r0 ?_
  refine V.aload_n hF dX0_copyFrom_4 rfl ?_
  refine V.getRP (i := 0) hF dX0_copyFrom_5 fl_X0_9 hG.g rfl hG.r0 ?_
  refine V.sV hF dX0_copyFrom_8 (ct_X4_copyRow hst _ _ _ _ _ 21 hB.a0.1 hB.a0.2.1 hB.a0.2.2 hG.a0.1 hG.a0.2.1 hG.a0.2.2 (by decide)) lk_X0_55 (fit_of rfl) (Nat.le_of_ble_eq_true rfl) rfl ?_
  refine V.cpP hG (by decide) (hbX _ 0 (by decide)) ?_
  refine V.aload_n hF dX0_copyFrom_11 rfl ?_
  refine V.getR hF dX0_copyFrom_12 fl_X0_15 hB.g.1 hB.g.2 rfl hB.r1 ?_
  refine V.aload_n hF dX0_copyFrom_15 rfl ?_
  refine V.getRP (i := 1) hF dX0_copyFrom_16 fl_X0_15 hG.g rfl hG.r1 ?_
  refine V.sV hF dX0_copyFrom_19 (ct_X4_copyRow hst _ _ _ _ _ 21 hB.a1.1 hB.a1.2.1 hB.a1.2.2 hG.a1.1 hG.a1.2.1 hG.a1.2.2 (by decide)) lk_X0_55 (fit_of rfl) (Nat.le_of_ble_eq_true rfl) rfl ?_
  refine V.cpP hG (by decide) (hbX _ 1 (by decide)) ?_
  refine V.aload_n hF dX0_copyFrom_22 rfl ?_
  refine V.getRP (i := 2) hF dX0_copyFrom_23 fl_X0_21 hG.g rfl hG.r2 ?_
  refine V.aload_n hF dX0_copyFrom_26 rfl ?_
  refine V.getR hF dX0_copyFrom_27 fl_X0_21 hB.g.1 hB.g.2 rfl hB.r2 ?_
  refine V.vV hF dX0_copyFrom_30 (ct_X1_copyFrom hst _ _ _ _ hG _ (bd 2) (fun j => bd (4 + j)) hB.mo (fun j => E (4 + j)) (fun j hj => hbX _ _ (mem_ms hj)) (E 2) (hbI _ 2 (by decide)) (fun j hj i hi => hd _ _ (mem_b (mem_ms hi)) (mem_b (mem_ms hj)))) lk_X0_59 sl_X1_copyFrom hG.m.1 hG.m.2 rfl (Nat.le_of_ble_eq_true rfl) (fit_of rfl) (Nat.le_of_ble_eq_true rfl) rfl ?_
  refine V.iconst (v := nI 0) hF dX0_copyFrom_33 (by decide) ?_
  refine V.istore_n hF dX0_copyFrom_34 (by decide) ?_
  have L35 : ∀ (n35 : Nat) (k : Nat) (F : IX), 6 - k < n35 → k ≤ 6 → ygL C E k = F → V pp l ee (Rm 4 0 0) ss mm args below meth kc D cy A (QM below args ss D cy A (pR none σ (put idI I ad (ygc C E)) (put idX X ad (ygc C E))) noX 0 0) 3 0 0 σ (put idI I ad F) (put idX X ad F) 35 [(0, .ref (ad 100)), (1, .ref (bd 100)), (2, .int (nI k))] [] := by
    intro n35
    induction n35 with
    | zero => intro k F hlt35; exact absurd hlt35 (Nat.not_lt_zero _)
    | succ n35 ih35 =>
      intro k F hlt35 hk hF2
      refine V.iload_n hF dX0_copyFrom_35 rfl ?_
      refine V.bipush (v := nI 6) hF dX0_copyFrom_36 (by decide) ?_
      refine V.icmp_ge (tgt := 62) hF dX0_copyFrom_38 (by decide) (fun h38 => ?_) (fun h38 => ?_)
      · have hk6 : k = 6 := by have := nI_ge' h38 (by omega) (by omega); omega
        subst hk6
        subst hF2
        refine V.aload_n hF dX0_copyFrom_62 rfl ?_
        refine V.aload_n hF dX0_copyFrom_63 rfl ?_
        refine V.getIF hF dX0_copyFrom_64 fl_X0_31 hB.g.1 hB.g.2 rfl (hbI _ 100 (by decide)) ?_
        refine V.putIP hF dX0_copyFrom_67 fl_X0_31 hG.g rfl rfl rfl hG (by decide) ?_
        refine V.aload_n hF dX0_copyFrom_70 rfl ?_
        refine V.aload_n hF dX0_copyFrom_71 rfl ?_
        refine V.getIF hF dX0_copyFrom_72 fl_X0_35 hB.g.1 hB.g.2 rfl (hbI _ 100 (by decide)) ?_
        refine V.putIP hF dX0_copyFrom_75 fl_X0_35 hG.g rfl rfl rfl hG (by decide) ?_
        refine V.aload_n hF dX0_copyFrom_78 rfl ?_
        refine V.aload_n hF dX0_copyFrom_79 rfl ?_
        refine V.getIF hF dX0_copyFrom_80 fl_X0_38 hB.g.1 hB.g.2 rfl (hbI _ 100 (by decide)) ?_
        refine V.putIP hF dX0_copyFrom_83 fl_X0_38 hG.g rfl rfl rfl hG (by decide) ?_
        refine V.aload_n hF dX0_copyFrom_86 rfl ?_
        refine V.aload_n hF dX0_copyFrom_87 rfl ?_
        refine V.getIF hF dX0_copyFrom_88 fl_X0_41 hB.g.1 hB.g.2 rfl (hbI _ 100 (by decide)) ?_
        refine V.putIP hF dX0_copyFrom_91 fl_X0_41 hG.g rfl rfl rfl hG (by decide) ?_
        refine V.vret hF dX0_copyFrom_94 (Nat.le_refl _) (Nat.le_refl _) ?_
        exact pR.v
      · have hk : k < 6 := nI_nge h38 (by omega) (by omega)
        refine V.aload_n hF dX0_copyFrom_41 rfl ?_
        refine V.getRP (i := 3) hF dX0_copyFrom_42 fl_X0_27 hG.g rfl hG.r3 ?_
        refine V.iload_n hF dX0_copyFrom_45 rfl ?_
        refine V.aaload (j := k) hF dX0_copyFrom_46 hG.ym hG.yk rfl (hG.yl (by omega)) hG.ys (hG.y (by omega)) ?_
        refine V.aload_n hF dX0_copyFrom_47 rfl ?_
        refine V.getR hF dX0_copyFrom_48 fl_X0_27 hB.g.1 hB.g.2 rfl hB.r3 ?_
        refine V.iload_n hF dX0_copyFrom_51 rfl ?_
        refine V.aaload (j := k) hF dX0_copyFrom_52 hB.ym hB.yk rfl (hB.yl (by omega)) hB.ys (hB.y (by omega)) ?_
        refine V.vV hF dX0_copyFrom_53 (ct_X2_copyFrom hst _ _ _ _ hG _ k hk (bd (10 + k)) (bd (20 + k)) (bd (30 + k)) (bd (40 + k)) (hB.ro hk) _ _ _ (hbI _ _ (mem_rp hk)) (hbX _ _ (mem_lg hk)) (hbX _ _ (mem_pl hk)) (hd _ _ (mem_a (mem_rp hk)) (mem_a (mem_rp hk))) (hd _ _ (mem_b (mem_lg hk)) (mem_b (mem_pl hk))) _ (hbX _ _ (mem_tb hk)) (hd _ _ (mem_b (mem_lg hk)) (mem_b (mem_tb hk))) (hd _ _ (mem_b (mem_pl hk)) (mem_b (mem_tb hk)))) lk_X0_63 sl_X2_copyFrom (hG.rp hk).1 (hG.rp hk).2 rfl (Nat.le_of_ble_eq_true rfl) (fit_of rfl) (Nat.le_of_ble_eq_true rfl) rfl ?_
        refine V.iinc (v := nI (k + 1)) hF dX0_copyFrom_56 rfl (by exact nI_1 _) (by decide) ?_
        refine V.goto (tgt := 35) hF dX0_copyFrom_59 (by decide) ?_
        refine V.relv [0, 1, 2] rfl ?_
        exact ih35 (k + 1) _ (by omega) (by omega) (by rw [ygL, hF2])
  refine V.relv [0, 1, 2] rfl ?_
  exact L35 _ 0 _ (Nat.lt_succ_self _) (by omega) rfl
set_option maxRecDepth 20000 in
theorem ct_X1_add (hst : l.stackTraces = false) (σ : SH) (I X : IX) (ad : Nat → Nat) (hG : GS σ ad) (C : IX) (hC : WC C) (p : Nat) (hp : p < 6) (y z : Int32) (hn : cN C 2 6 < 150) : Ct l D cy sa sv yX1_add cX1_add 6 none 3 0 0 [.ref (ad 2), .ref (ad (10 + p)), .int y, .int z] σ (put idI I ad C) (put idX X ad C) (pR none σ (put idI I ad (yadd C p y z)) (put idX X ad (yadd C p y z))) noX := by
  refine Ct.of (by decide) hst (Nat.le_of_ble_eq_true rfl) ?_
  intro pp ee ss mm args below meth kc A hF hnm hout
  have hfl : yfull C = false := by rw [yfull, hC.n, decide_eq_true ((nI_ltI (by omega) (by omega)).mpr hn)]; rfl
  refine V.aload_n hF dX1_add_0 rfl ?_
  refine V.vI hF dX1_add_1 (ct_X1_isFull hst _ _ _ _ hG _) lk_X1_34 sl_X1_isFull hG.m.1 hG.m.2 rfl (Nat.le_of_ble_eq_true rfl) (fit_of rfl) (Nat.le_of_ble_eq_true rfl) rfl ?_
  refine V.if_eqB (tgt := 8) hF dX1_add_4 (by decide) (fun h4 => ?_) (fun h4 => ?_)
  · refine V.aload_n hF dX1_add_8 rfl ?_
    refine V.getIP hF dX1_add_9 fl_X1_30 hG.m rfl hG (by decide) ?_
    refine V.topi (y := nI (cN C 2 6)) hC.n ?_
    refine V.istore hF dX1_add_12 (by decide) ?_
    refine V.aload_n hF dX1_add_14 rfl ?_
    refine V.getRP (i := 4) hF dX1_add_15 fl_X1_9 hG.m rfl (hG.mr 0 (by decide)) ?_
    refine V.iload hF dX1_add_18 rfl ?_
    refine V.aload_n hF dX1_add_20 rfl ?_
    refine V.getIP hF dX1_add_21 fl_X1_38 (hG.rp hp) rfl hG (mem_rp hp) ?_
    refine V.topi (y := nI p) (hC.self hp) ?_
    refine V.iastoreP (j := (cN C 2 6)) hF dX1_add_24 hG.a4 rfl (by omega) (by decide) hG (by decide) ?_
    refine V.aload_n hF dX1_add_25 rfl ?_
    refine V.getRP (i := 5) hF dX1_add_26 fl_X1_15 hG.m rfl (hG.mr 1 (by decide)) ?_
    refine V.iload hF dX1_add_29 rfl ?_
    refine V.iload_n hF dX1_add_31 rfl ?_
    refine V.iastoreP (j := (cN C 2 6)) hF dX1_add_32 hG.a5 rfl (by omega) (by decide) hG (by decide) ?_
    refine V.aload_n hF dX1_add_33 rfl ?_
    refine V.getRP (i := 6) hF dX1_add_34 fl_X1_18 hG.m rfl (hG.mr 2 (by decide)) ?_
    refine V.iload hF dX1_add_37 rfl ?_
    refine V.iload_n hF dX1_add_39 rfl ?_
    refine V.iastoreP (j := (cN C 2 6)) hF dX1_add_40 hG.a6 rfl (by omega) (by decide) hG (by decide) ?_
    refine V.aload_n hF dX1_add_41 rfl ?_
    refine V.getRP (i := 7) hF dX1_add_42 fl_X1_21 hG.m rfl (hG.mr 3 (by decide)) ?_
    refine V.iload hF dX1_add_45 rfl ?_
    refine V.aload_n hF dX1_add_47 rfl ?_
    refine V.aload_n hF dX1_add_48 rfl ?_
    refine V.getIP hF dX1_add_49 fl_X1_38 (hG.rp hp) rfl hG (mem_rp hp) ?_
    refine V.topi (y := nI p) ((WC_ya3 hC hp y z).self hp) ?_
    refine V.vI hF dX1_add_52 (ct_X2_entry hst _ _ _ _ hG _ (WC_ya3 hC hp y z) p hp p (by omega)) lk_X1_43 sl_X2_entry (hG.rp hp).1 (hG.rp hp).2 rfl (Nat.le_of_ble_eq_true rfl) (fit_of rfl) (Nat.le_of_ble_eq_true rfl) rfl ?_
    refine V.iastoreP (j := (cN C 2 6)) hF dX1_add_55 hG.a7 rfl (by omega) (by decide) hG (by decide) ?_
    refine V.iconst (v := nI 0) hF dX1_add_56 (by decide) ?_
    refine V.istore hF dX1_add_57 (by decide) ?_
    have L59 : ∀ (n59 : Nat) (q : Nat) (E : IX), 6 - q < n59 → q ≤ 6 → yaL p (cN C 2 6) (ya4 C p y z) q = E → V pp l ee (Rm 3 0 0) ss mm args below meth kc D cy A (QM below args ss D cy A (pR none σ (put idI I ad (yadd C p y z)) (put idX X ad (yadd C p y z))) noX 0 0) 6 0 0 σ (put idI I ad E) (put idX X ad E) 59 [(0, .ref (ad 2)), (1, .ref (ad (10 + p))), (4, .int (nI (cN C 2 6))), (5, .int (nI q))] [] := by
      intro n59
      induction n59 with
      | zero => intro q E hlt59; exact absurd hlt59 (Nat.not_lt_zero _)
      | succ n59 ih59 =>
        intro q E hlt59 hq hE
        have hCE : WC E := by rw [← hE]; exact WC_yaL (WC_ya4 hC hp y z) q
        refine V.iload hF dX1_add_59 rfl ?_
        refine V.bipush (v := nI 6) hF dX1_add_61 (by decide) ?_
        refine V.icmp_ge (tgt := 91) hF dX1_add_63 (by decide) (fun h63 => ?_) (fun h63 => ?_)
        · have hq6 : q = 6 := by have := nI_ge' h63 (by omega) (by omega); omega
          subst hq6
          refine V.aload_n hF dX1_add_91 rfl ?_
          refine V.getRP (i := 8) hF dX1_add_92 fl_X1_24 hG.m rfl (hG.mr 4 (by decide)) ?_
          refine V.iload hF dX1_add_95 rfl ?_
          refine V.iconst (v := nI 1) hF dX1_add_97 (by decide) ?_
          refine V.aload_n hF dX1_add_98 rfl ?_
          refine V.iload hF dX1_add_99 rfl ?_
          refine V.vI hF dX1_add_101 (ct_X1_greatestDepthBefore hst _ _ _ _ hG _ hCE (cN C 2 6) (by omega)) lk_X1_47 sl_X1_greatestDepthBefore hG.m.1 hG.m.2 rfl (Nat.le_of_ble_eq_true rfl) (fit_of rfl) (Nat.le_of_ble_eq_true rfl) rfl ?_
          refine V.iadd hF dX1_add_104 ?_
          refine V.iastoreP (j := (cN C 2 6)) hF dX1_add_105 hG.a8 rfl (by omega) (by decide) hG (by decide) ?_
          refine V.aload_n hF dX1_add_106 rfl ?_
          refine V.dup hF dX1_add_107 rfl ?_
          refine V.getIP hF dX1_add_108 fl_X1_30 hG.m rfl hG (by decide) ?_
          refine V.iconst (v := nI 1) hF dX1_add_111 (by decide) ?_
          refine V.iadd hF dX1_add_112 ?_
          refine V.putIP hF dX1_add_113 fl_X1_30 hG.m rfl rfl rfl hG (by decide) ?_
          refine V.vret hF dX1_add_116 (Nat.le_refl _) (Nat.le_refl _) ?_
          subst hE
          exact pR.v
        · have hq6 : q < 6 := nI_nge h63 (by omega) (by omega)
          refine V.aload_n hF dX1_add_66 rfl ?_
          refine V.getRP (i := 9) hF dX1_add_67 fl_X1_27 hG.m rfl (hG.mr 5 (by decide)) ?_
          refine V.iload hF dX1_add_70 rfl ?_
          refine V.bipush (v := nI 6) hF dX1_add_72 (by decide) ?_
          refine V.imul hF dX1_add_74 ?_
          refine V.iload hF dX1_add_75 rfl ?_
          refine V.iadd hF dX1_add_77 ?_
          refine V.aload_n hF dX1_add_78 rfl ?_
          refine V.iload hF dX1_add_79 rfl ?_
          refine V.vI hF dX1_add_81 (ct_X2_entry hst _ _ _ _ hG _ hCE p hp q (by omega)) lk_X1_43 sl_X2_entry (hG.rp hp).1 (hG.rp hp).2 rfl (Nat.le_of_ble_eq_true rfl) (fit_of rfl) (Nat.le_of_ble_eq_true rfl) rfl ?_
          refine V.iastoreP (j := (((cN C 2 6) * 6) + q)) hF dX1_add_84 hG.a9 (by simp only [nI_add, pk_mul, Nat.zero_add, Nat.add_zero]) (by omega) (by decide) hG (by decide) ?_
          refine V.iinc (v := nI (q + 1)) hF dX1_add_85 rfl (by exact nI_1 _) (by decide) ?_
          refine V.goto (tgt := 59) hF dX1_add_88 (by decide) ?_
          refine V.relv [0, 1, 4, 5] rfl ?_
          exact ih59 (q + 1) _ (by omega) (by omega) (by rw [yaL, hE])
    refine V.relv [0, 1, 4, 5] rfl ?_
    exact L59 _ 0 _ (Nat.lt_succ_self _) (by omega) rfl
  · exact absurd (h4.symm.trans hfl) (by decide)
set_option maxRecDepth 20000 in
theorem ct_X0_send (hst : l.stackTraces = false) (σ : SH) (I X : IX) (ad : Nat → Nat) (hG : GS σ ad) (C : IX) (hC : WC C) (p : Nat) (hp : p < 6) (y : Int32) (hn : cN C 2 6 < 150) : Ct l D cy sa sv yX0_send cX0_send 4 (some .int) 4 0 0 [.ref (ad 100), .int (nI p), .int y] σ (put idI I ad C) (put idX X ad C) (pR (some (.int (nI (cN C 2 6)))) σ (put idI I ad (ysend C p y)) (put idX X ad (ysend C p y))) noX := by
  refine Ct.of (by decide) hst (Nat.le_of_ble_eq_true rfl) ?_
  intro pp ee ss mm args below meth kc A hF hnm hout
  refine V.aload_n hF dX0_send_0 rfl ?_
  refine V.getRP (i := 2) hF dX0_send_1 fl_X0_21 hG.g rfl hG.r2 ?_
  refine V.getIP hF dX0_send_4 fl_X0_50 hG.m rfl hG (by decide) ?_
  refine V.topi (y := nI (cN C 2 6)) hC.n ?_
  refine V.istore_n hF dX0_send_7 (by decide) ?_
  refine V.aload_n hF dX0_send_8 rfl ?_
  refine V.getRP (i := 3) hF dX0_send_9 fl_X0_27 hG.g rfl hG.r3 ?_
  refine V.iload_n hF dX0_send_12 rfl ?_
  refine V.aaload (j := p) hF dX0_send_13 hG.ym hG.yk rfl (hG.yl (by omega)) hG.ys (hG.y (by omega)) ?_
  refine V.iload_n hF dX0_send_14 rfl ?_
  refine V.iload_n hF dX0_send_15 rfl ?_
  refine V.iload_n hF dX0_send_16 rfl ?_
  refine V.vV hF dX0_send_17 (ct_X2_deliver hst _ _ _ _ hG _ hC p hp (cN C 2 6) p (by omega) (by omega) _) lk_X0_165 sl_X2_deliver (hG.rp hp).1 (hG.rp hp).2 rfl (Nat.le_of_ble_eq_true rfl) (fit_of rfl) (Nat.le_of_ble_eq_true rfl) rfl ?_
  refine V.aload_n hF dX0_send_20 rfl ?_
  refine V.getRP (i := 2) hF dX0_send_21 fl_X0_21 hG.g rfl hG.r2 ?_
  refine V.aload_n hF dX0_send_24 rfl ?_
  refine V.getRP (i := 3) hF dX0_send_25 fl_X0_27 hG.g rfl hG.r3 ?_
  refine V.iload_n hF dX0_send_28 rfl ?_
  refine V.aaload (j := p) hF dX0_send_29 hG.ym hG.yk rfl (hG.yl (by omega)) hG.ys (hG.y (by omega)) ?_
  refine V.iload_n hF dX0_send_30 rfl ?_
  refine V.aload_n hF dX0_send_31 rfl ?_
  refine V.getIP hF dX0_send_32 fl_X0_31 hG.g rfl hG (by decide) ?_
  refine V.vV hF dX0_send_35 (ct_X1_add hst _ _ _ _ hG _ (WC_ydl hC hp (by omega) _) p hp _ _ (by rw [cN_row (ydl_lo hp (by omega))]; exact hn)) lk_X0_168 sl_X1_add hG.m.1 hG.m.2 rfl (Nat.le_of_ble_eq_true rfl) (fit_of rfl) (Nat.le_of_ble_eq_true rfl) rfl ?_
  refine V.iload_n hF dX0_send_38 rfl ?_
  refine V.iret hF dX0_send_39 (Nat.le_refl _) (Nat.le_refl _) ?_
  exact pR.i rfl
set_option maxRecDepth 20000 in
theorem ct_X0_receive (hst : l.stackTraces = false) (σ : SH) (I X : IX) (ad : Nat → Nat) (hG : GS σ ad) (C : IX) (hC : WC C) (p : Nat) (hp : p < 6) (m : Nat) (hm : m < cN C 2 6) : Ct l D cy sa sv yX0_receive cX0_receive 3 (some .int) 4 0 0 [.ref (ad 100), .int (nI p), .int (nI m)] σ (put idI I ad C) (put idX X ad C) (pR (some (.int ((yrcv C p m).2))) σ (put idI I ad (yrcv C p m).1) (put idX X ad (yrcv C p m).1)) noX := by
  refine Ct.of (by decide) hst (Nat.le_of_ble_eq_true rfl) ?_
  intro pp ee ss mm args below meth kc A hF hnm hout
  have hn150 := hC.n150
  refine V.aload_n hF dX0_receive_0 rfl ?_
  refine V.getRP (i := 3) hF dX0_receive_1 fl_X0_27 hG.g rfl hG.r3 ?_
  refine V.iload_n hF dX0_receive_4 rfl ?_
  refine V.aaload (j := p) hF dX0_receive_5 hG.ym hG.yk rfl (hG.yl (by omega)) hG.ys (hG.y (by omega)) ?_
  refine V.getRP (i := (30 + p)) hF dX0_receive_6 fl_X0_175 (hG.rp hp) rfl (hG.p2 hp) ?_
  refine V.iload_n hF dX0_receive_9 rfl ?_
  refine V.ialoadP (j := m) hF dX0_receive_10 (hG.ap hp) rfl (by omega) (by decide) hG (mem_pl hp) ?_
  refine V.bipush (v := -2) hF dX0_receive_11 (by decide) ?_
  refine V.icmp_eq (tgt := 28) hF dX0_receive_13 (by decide) (fun h13 => ?_) (fun h13 => ?_)
  · refine V.aload_n hF dX0_receive_28 rfl ?_
    refine V.getRP (i := 3) hF dX0_receive_29 fl_X0_27 hG.g rfl hG.r3 ?_
    refine V.iload_n hF dX0_receive_32 rfl ?_
    refine V.aaload (j := p) hF dX0_receive_33 hG.ym hG.yk rfl (hG.yl (by omega)) hG.ys (hG.y (by omega)) ?_
    refine V.getRP (i := (30 + p)) hF dX0_receive_34 fl_X0_175 (hG.rp hp) rfl (hG.p2 hp) ?_
    refine V.iload_n hF dX0_receive_37 rfl ?_
    refine V.iconst (v := -1) hF dX0_receive_38 (by decide) ?_
    refine V.iastoreP (j := m) hF dX0_receive_39 (hG.ap hp) rfl (by omega) (by decide) hG (mem_pl hp) ?_
    refine V.aload_n hF dX0_receive_40 rfl ?_
    refine V.iload_n hF dX0_receive_41 rfl ?_
    refine V.iload_n hF dX0_receive_42 rfl ?_
    refine V.vI hF dX0_receive_43 (ct_X0_deliverWaiting hst _ _ _ _ hG _ (WC_ywait hC hp) p (by omega) m (by omega)) lk_X0_178 sl_X0_deliverWaiting hG.g.1 hG.g.2 rfl (Nat.le_of_ble_eq_true rfl) (fit_of rfl) (Nat.le_of_ble_eq_true rfl) rfl ?_
    refine V.iret hF dX0_receive_46 (Nat.le_refl _) (Nat.le_refl _) ?_
    rw [yrcv_t h13, ← ywait_n (C := C) (m := m) hp]
    exact pR.i rfl
  · refine V.aload_n hF dX0_receive_16 rfl ?_
    refine V.dup hF dX0_receive_17 rfl ?_
    refine V.getIP hF dX0_receive_18 fl_X0_41 hG.g rfl hG (by decide) ?_
    refine V.iconst (v := nI 1) hF dX0_receive_21 (by decide) ?_
    refine V.iadd hF dX0_receive_22 ?_
    refine V.putIP hF dX0_receive_23 fl_X0_41 hG.g rfl rfl rfl hG (by decide) ?_
    refine V.iconst (v := nI 0) hF dX0_receive_26 (by decide) ?_
    refine V.iret hF dX0_receive_27 (Nat.le_refl _) (Nat.le_refl _) ?_
    rw [yrcv_f h13]
    exact pR.i rfl
set_option maxRecDepth 20000 in
theorem ct_X0_receiveRest (hst : l.stackTraces = false) (σ : SH) (I X : IX) (ad : Nat → Nat) (hG : GS σ ad) (C : IX) (hC : WC C) (p : Nat) (hp : p < 6) : Ct l D cy sa sv yX0_receiveRest cX0_receiveRest 4 (some .int) 5 0 0 [.ref (ad 100), .int (nI p)] σ (put idI I ad C) (put idX X ad C) (pR (some (.int ((yrr C p (cN C 2 6 - cN C 100 6)).2))) σ (put idI I ad (yrr C p (cN C 2 6 - cN C 100 6)).1) (put idX X ad (yrr C p (cN C 2 6 - cN C 100 6)).1)) noX := by
  refine Ct.of (by decide) hst (Nat.le_of_ble_eq_true rfl) ?_
  intro pp ee ss mm args below meth kc A hF hnm hout
  have hvs := hC.vs150
  have hn150 := hC.n150
  refine V.iconst (v := nI 0) hF dX0_receiveRest_0 (by decide) ?_
  refine V.istore_n hF dX0_receiveRest_1 (by decide) ?_
  refine V.aload_n hF dX0_receiveRest_2 rfl ?_
  refine V.getIP hF dX0_receiveRest_3 fl_X0_38 hG.g rfl hG (by decide) ?_
  refine V.topi (y := nI (cN C 100 6)) hC.vs ?_
  refine V.istore_n hF dX0_receiveRest_6 (by decide) ?_
  have L7 : ∀ (n7 : Nat) (k : Nat) (E : IX) (c : Int32), cN C 2 6 - (cN C 100 6 + k) < n7 → (cN C 100 6 + k ≤ cN C 2 6 ∨ k = 0) → yrr C p k = (E, c) → V pp l ee (Rm 5 0 0) ss mm args below meth kc D cy A (QM below args ss D cy A (pR (some (.int ((yrr C p (cN C 2 6 - cN C 100 6)).2))) σ (put idI I ad (yrr C p (cN C 2 6 - cN C 100 6)).1) (put idX X ad (yrr C p (cN C 2 6 - cN C 100 6)).1)) noX 0 0) 4 0 0 σ (put idI I ad E) (put idX X ad E) 7 [(0, .ref (ad 100)), (1, .int (nI p)), (2, .int c), (3, .int (nI (cN C 100 6 + k)))] [] := by
    intro n7
    induction n7 with
    | zero => intro k E c hlt7; exact absurd hlt7 (Nat.not_lt_zero _)
    | succ n7 ih7 =>
      intro k E c hlt7 hk hE
      have hw := yrr_wc hC hp hk
      rw [hE] at hw
      have hCE : WC E := hw.1
      have hn2 : cN E 2 6 = cN C 2 6 := hw.2
      refine V.iload_n hF dX0_receiveRest_7 rfl ?_
      refine V.aload_n hF dX0_receiveRest_8 rfl ?_
      refine V.getRP (i := 2) hF dX0_receiveRest_9 fl_X0_21 hG.g rfl hG.r2 ?_
      refine V.getIP hF dX0_receiveRest_12 fl_X0_50 hG.m rfl hG (by decide) ?_
      refine V.topi (y := nI (cN C 2 6)) (by rw [hCE.n, hn2]) ?_
      refine V.icmp_ge (tgt := 49) hF dX0_receiveRest_15 (by decide) (fun h15 => ?_) (fun h15 => ?_)
      · have hk6 := nI_ge' h15 (by omega) (by omega)
        have hk7 : k = cN C 2 6 - cN C 100 6 := by omega
        refine V.iload_n hF dX0_receiveRest_49 rfl ?_
        refine V.iret hF dX0_receiveRest_50 (Nat.le_refl _) (Nat.le_refl _) ?_
        rw [← hk7, hE]
        exact pR.i rfl
      · have hk6 : cN C 100 6 + k < cN C 2 6 := nI_nge h15 (by omega) (by omega)
        refine V.aload_n hF dX0_receiveRest_18 rfl ?_
        refine V.getRP (i := 3) hF dX0_receiveRest_19 fl_X0_27 hG.g rfl hG.r3 ?_
        refine V.iload_n hF dX0_receiveRest_22 rfl ?_
        refine V.aaload (j := p) hF dX0_receiveRest_23 hG.ym hG.yk rfl (hG.yl (by omega)) hG.ys (hG.y (by omega)) ?_
        refine V.getRP (i := (30 + p)) hF dX0_receiveRest_24 fl_X0_175 (hG.rp hp) rfl (hG.p2 hp) ?_
        refine V.iload_n hF dX0_receiveRest_27 rfl ?_
        refine V.ialoadP (j := (cN C 100 6 + k)) hF dX0_receiveRest_28 (hG.ap hp) rfl (by omega) (by decide) hG (mem_pl hp) ?_
        refine V.bipush (v := -2) hF dX0_receiveRest_29 (by decide) ?_
        refine V.icmp_ne (tgt := 43) hF dX0_receiveRest_31 (by decide) (fun h31 => ?_) (fun h31 => ?_)
        · have hz := yrr_f hE h31
          refine V.iinc (v := nI ((cN C 100 6 + k) + 1)) hF dX0_receiveRest_43 rfl (by exact nI_1 _) (by decide) ?_
          refine V.goto (tgt := 7) hF dX0_receiveRest_46 (by decide) ?_
          refine V.relv [0, 1, 2, 3] rfl ?_
          exact ih7 (k + 1) _ _ (by omega) (Or.inl (by omega)) hz
        · have hz := yrr_t hE h31
          refine V.iload_n hF dX0_receiveRest_34 rfl ?_
          refine V.aload_n hF dX0_receiveRest_35 rfl ?_
          refine V.iload_n hF dX0_receiveRest_36 rfl ?_
          refine V.iload_n hF dX0_receiveRest_37 rfl ?_
          refine V.vI hF dX0_receiveRest_38 (ct_X0_receive hst _ _ _ _ hG _ hCE p (by omega) (cN C 100 6 + k) (by omega)) lk_X0_74 sl_X0_receive hG.g.1 hG.g.2 rfl (Nat.le_of_ble_eq_true rfl) (fit_of rfl) (Nat.le_of_ble_eq_true rfl) rfl ?_
          refine V.iadd hF dX0_receiveRest_41 ?_
          refine V.istore_n hF dX0_receiveRest_42 (by decide) ?_
          refine V.iinc (v := nI ((cN C 100 6 + k) + 1)) hF dX0_receiveRest_43 rfl (by exact nI_1 _) (by decide) ?_
          refine V.goto (tgt := 7) hF dX0_receiveRest_46 (by decide) ?_
          refine V.relv [0, 1, 2, 3] rfl ?_
          exact ih7 (k + 1) _ _ (by omega) (Or.inl (by omega)) hz
  refine V.relv [0, 1, 2, 3] rfl ?_
  exact L7 _ 0 _ _ (Nat.lt_succ_self _) (Or.inr rfl) rfl
set_option maxRecDepth 20000 in
theorem ct_X0_tell (hst : l.stackTraces = false) (σ : SH) (I X : IX) (ad : Nat → Nat) (hG : GS σ ad) (C : IX) (hC : WC C) (p : Nat) (hp : p < 6) (q : Nat) (hq : q < 6) : Ct l D cy sa sv yX0_tell cX0_tell 3 (some .int) 1 0 0 [.ref (ad 100), .int (nI p), .int (nI q)] σ (put idI I ad C) (put idX X ad C) (pR (some (.int ((yltL C q p 36).2))) σ (put idI I ad (yltL C q p 36).1) (put idX X ad (yltL C q p 36).1)) noX := by
  refine Ct.of (by decide) hst (Nat.le_of_ble_eq_true rfl) ?_
  intro pp ee ss mm args below meth kc A hF hnm hout
  refine V.aload_n hF dX0_tell_0 rfl ?_
  refine V.getRP (i := 3) hF dX0_tell_1 fl_X0_27 hG.g rfl hG.r3 ?_
  refine V.iload_n hF dX0_tell_4 rfl ?_
  refine V.aaload (j := q) hF dX0_tell_5 hG.ym hG.yk rfl (hG.yl (by omega)) hG.ys (hG.y (by omega)) ?_
  refine V.aload_n hF dX0_tell_6 rfl ?_
  refine V.getRP (i := 3) hF dX0_tell_7 fl_X0_27 hG.g rfl hG.r3 ?_
  refine V.iload_n hF dX0_tell_10 rfl ?_
  refine V.aaload (j := p) hF dX0_tell_11 hG.ym hG.yk rfl (hG.yl (by omega)) hG.ys (hG.y (by omega)) ?_
  refine V.vI hF dX0_tell_12 (ct_X2_learnFromTable hst _ _ _ _ hG _ hC q hq p hp) lk_X0_191 sl_X2_learnFromTable (hG.rp hq).1 (hG.rp hq).2 rfl (Nat.le_of_ble_eq_true rfl) (fit_of rfl) (Nat.le_of_ble_eq_true rfl) rfl ?_
  refine V.iret hF dX0_tell_15 (Nat.le_refl _) (Nat.le_refl _) ?_
  exact pR.i rfl
set_option maxRecDepth 20000 in
theorem ct_X0_welcome (hst : l.stackTraces = false) (σ : SH) (I X : IX) (ad : Nat → Nat) (hG : GS σ ad) (C : IX) (w : Int32) (d : Nat) (hd : d < 6) (hwd : zbit w (nI d) = false) : Ct l D cy sa sv yX0_welcome cX0_welcome 4 none 3 0 0 [.ref (ad 100), .int w, .ref (ad (10 + d))] σ (put idI I ad C) (put idX X ad C) (pR none σ (put idI I ad (ywel w d C 6)) (put idX X ad (ywel w d C 6))) noX := by
  refine Ct.of (by decide) hst (Nat.le_of_ble_eq_true rfl) ?_
  intro pp ee ss mm args below meth kc A hF hnm hout
  refine V.iconst (v := nI 0) hF dX0_welcome_0 (by decide) ?_
  refine V.istore_n hF dX0_welcome_1 (by decide) ?_
  have L2 : ∀ (n2 : Nat) (k : Nat) (E : IX), 6 - k < n2 → k ≤ 6 → ywel w d C k = E → V pp l ee (Rm 3 0 0) ss mm args below meth kc D cy A (QM below args ss D cy A (pR none σ (put idI I ad (ywel w d C 6)) (put idX X ad (ywel w d C 6))) noX 0 0) 4 0 0 σ (put idI I ad E) (put idX X ad E) 2 [(0, .ref (ad 100)), (1, .int w), (2, .ref (ad (10 + d))), (3, .int (nI k))] [] := by
    intro n2
    induction n2 with
    | zero => intro k E hlt2; exact absurd hlt2 (Nat.not_lt_zero _)
    | succ n2 ih2 =>
      intro k E hlt2 hk hE
      refine V.iload_n hF dX0_welcome_2 rfl ?_
      refine V.bipush (v := nI 6) hF dX0_welcome_3 (by decide) ?_
      refine V.icmp_ge (tgt := 32) hF dX0_welcome_5 (by decide) (fun h5 => ?_) (fun h5 => ?_)
      · have hk6 : k = 6 := by have := nI_ge' h5 (by omega) (by omega); omega
        subst hk6
        subst hE
        refine V.vret hF dX0_welcome_32 (Nat.le_refl _) (Nat.le_refl _) ?_
        exact pR.v
      · have hk : k < 6 := nI_nge h5 (by omega) (by omega)
        refine V.iload_n hF dX0_welcome_8 rfl ?_
        refine V.iload_n hF dX0_welcome_9 rfl ?_
        refine V.sI hF dX0_welcome_10 (ct_X4_contains hst _ _ _ _ _) lk_X0_118 (fit_of rfl) (Nat.le_of_ble_eq_true rfl) rfl ?_
        refine V.if_eqB (tgt := 26) hF dX0_welcome_13 (by decide) (fun h13 => ?_) (fun h13 => ?_)
        · have hz := ywel_f hE h13
          refine V.iinc (v := nI (k + 1)) hF dX0_welcome_26 rfl (by exact nI_1 _) (by decide) ?_
          refine V.goto (tgt := 2) hF dX0_welcome_29 (by decide) ?_
          refine V.relv [0, 1, 2, 3] rfl ?_
          exact ih2 (k + 1) _ (by omega) (by omega) hz
        · have hz := ywel_t hE h13
          have hkd : k ≠ d := fun q => by rw [q, hwd] at h13; cases h13
          refine V.aload_n hF dX0_welcome_16 rfl ?_
          refine V.getRP (i := 3) hF dX0_welcome_17 fl_X0_27 hG.g rfl hG.r3 ?_
          refine V.iload_n hF dX0_welcome_20 rfl ?_
          refine V.aaload (j := k) hF dX0_welcome_21 hG.ym hG.yk rfl (hG.yl (by omega)) hG.ys (hG.y (by omega)) ?_
          refine V.aload_n hF dX0_welcome_22 rfl ?_
          refine V.vV hF dX0_welcome_23 (ct_X2_copyLogAndState hst _ _ _ _ hG _ k hk _ _ _ _ (hG.ro hd) _ _ _ (put_at hG.jI (mem_rp hd)) (put_at hG.jX (mem_lg hd)) (put_at hG.jX (mem_pl hd)) (hG.ne (mem_a (mem_rp hd)) (mem_a (mem_rp hk)) (by omega)) (hG.ne (mem_b (mem_pl hd)) (mem_b (mem_lg hk)) (by omega))) lk_X0_156 sl_X2_copyLogAndState (hG.rp hk).1 (hG.rp hk).2 rfl (Nat.le_of_ble_eq_true rfl) (fit_of rfl) (Nat.le_of_ble_eq_true rfl) rfl ?_
          refine V.iinc (v := nI (k + 1)) hF dX0_welcome_26 rfl (by exact nI_1 _) (by decide) ?_
          refine V.goto (tgt := 2) hF dX0_welcome_29 (by decide) ?_
          refine V.relv [0, 1, 2, 3] rfl ?_
          exact ih2 (k + 1) _ (by omega) (by omega) hz
  refine V.relv [0, 1, 2, 3] rfl ?_
  exact L2 _ 0 _ (Nat.lt_succ_self _) (by omega) rfl
set_option maxRecDepth 20000 in
theorem ct_X0_changeView (hst : l.stackTraces = false) (σ : SH) (I X : IX) (ad : Nat → Nat) (hG : GS σ ad) (C : IX) (hC : WC C) (hS : yWS C) (hv20 : cN C 100 4 < 20) : Ct l D cy sa sv yX0_changeView cX0_changeView 4 (some .int) 4 0 0 [.ref (ad 100)] σ (put idI I ad C) (put idX X ad C) (pR (some (.int (ychN C))) σ (put idI I ad (ych C)) (put idX X ad (ych C))) noX := by
  refine Ct.of (by decide) hst (Nat.le_of_ble_eq_true rfl) ?_
  intro pp ee ss mm args below meth kc A hF hnm hout
  refine V.aload_n hF dX0_changeView_0 rfl ?_
  refine V.vI hF dX0_changeView_1 (ct_X0_members hst _ _ _ _ hG _ hC) lk_X0_115 sl_X0_members hG.g.1 hG.g.2 rfl (Nat.le_of_ble_eq_true rfl) (fit_of rfl) (Nat.le_of_ble_eq_true rfl) rfl ?_
  refine V.aload_n hF dX0_changeView_4 rfl ?_
  refine V.getIP hF dX0_changeView_5 fl_X0_35 hG.g rfl hG (by decide) ?_
  refine V.iand hF dX0_changeView_8 ?_
  refine V.istore_n hF dX0_changeView_9 (by decide) ?_
  refine V.iconst (v := nI 0) hF dX0_changeView_10 (by decide) ?_
  refine V.istore_n hF dX0_changeView_11 (by decide) ?_
  refine V.iconst (v := nI 0) hF dX0_changeView_12 (by decide) ?_
  refine V.istore_n hF dX0_changeView_13 (by decide) ?_
  have L14 : ∀ (n14 : Nat) (k : Nat) (E : IX) (c : Int32), 6 - k < n14 → k ≤ 6 → yfo C (ysv C) k = (E, c) → V pp l ee (Rm 4 0 0) ss mm args below meth kc D cy A (QM below args ss D cy A (pR (some (.int (ychN C))) σ (put idI I ad (ych C)) (put idX X ad (ych C))) noX 0 0) 4 0 0 σ (put idI I ad E) (put idX X ad E) 14 [(0, .ref (ad 100)), (1, .int (ysv C)), (2, .int c), (3, .int (nI k))] [] := by
    intro n14
    induction n14 with
    | zero => intro k E c hlt14; exact absurd hlt14 (Nat.not_lt_zero _)
    | succ n14 ih14 =>
      intro k E c hlt14 hk hE
      have hw := yfo_wc hC (s := ysv C) hk
      rw [hE] at hw
      dsimp only at hw
      have hCE : WC E := hw.1
      refine V.iload_n hF dX0_changeView_14 rfl ?_
      refine V.bipush (v := nI 6) hF dX0_changeView_15 (by decide) ?_
      refine V.icmp_ge (tgt := 43) hF dX0_changeView_17 (by decide) (fun h17 => ?_) (fun h17 => ?_)
      · have hk6 : k = 6 := by have := nI_ge' h17 (by omega) (by omega); omega
        subst hk6
        have hEA : E = ycA C := by rw [ycA, hE]
        have hcN : c = ychN C := by rw [ychN, hE]
        subst hEA
        subst hcN
        have hd : ylw (ysv C) < 6 := Nat.lt_of_le_of_lt (zfst_le _ 5) (by decide)
        have hwd : zbit (ycA C 100 5 &&& (ymem (ycA C) ^^^ (-1))) (nI (ylw (ysv C))) = false := y_wd hd (by rw [show ymem (ycA C) = ymem C by unfold ymem cN; rw [hw.2 0 (by omega), hw.2 100 (by omega)], hw.2 100 (by omega)]; exact hS)
        refine V.aload_n hF dX0_changeView_43 rfl ?_
        refine V.aload_n hF dX0_changeView_44 rfl ?_
        refine V.getIP hF dX0_changeView_45 fl_X0_35 hG.g rfl hG (by decide) ?_
        refine V.aload_n hF dX0_changeView_48 rfl ?_
        refine V.vI hF dX0_changeView_49 (ct_X0_members hst _ _ _ _ hG _ hCE) lk_X0_115 sl_X0_members hG.g.1 hG.g.2 rfl (Nat.le_of_ble_eq_true rfl) (fit_of rfl) (Nat.le_of_ble_eq_true rfl) rfl ?_
        refine V.iconst (v := -1) hF dX0_changeView_52 (by decide) ?_
        refine V.ixor hF dX0_changeView_53 ?_
        refine V.iand hF dX0_changeView_54 ?_
        refine V.aload_n hF dX0_changeView_55 rfl ?_
        refine V.getRP (i := 3) hF dX0_changeView_56 fl_X0_27 hG.g rfl hG.r3 ?_
        refine V.iload_n hF dX0_changeView_59 rfl ?_
        refine V.sI hF dX0_changeView_60 (ct_X4_lowestOf hst _ _ _ _) lk_X0_129 (fit_of rfl) (Nat.le_of_ble_eq_true rfl) rfl ?_
        refine V.aaload (j := (ylw (ysv C))) hF dX0_changeView_63 hG.ym hG.yk rfl (hG.yl (by omega)) hG.ys (hG.y (by omega)) ?_
        refine V.vV hF dX0_changeView_64 (ct_X0_welcome hst _ _ _ _ hG _ _ (ylw (ysv C)) hd hwd) lk_X0_132 sl_X0_welcome hG.g.1 hG.g.2 rfl (Nat.le_of_ble_eq_true rfl) (fit_of rfl) (Nat.le_of_ble_eq_true rfl) rfl ?_
        refine V.aload_n hF dX0_changeView_67 rfl ?_
        refine V.dup hF dX0_changeView_68 rfl ?_
        refine V.getIP hF dX0_changeView_69 fl_X0_31 hG.g rfl hG (by decide) ?_
        refine V.iconst (v := nI 1) hF dX0_changeView_72 (by decide) ?_
        refine V.iadd hF dX0_changeView_73 ?_
        refine V.putIP hF dX0_changeView_74 fl_X0_31 hG.g rfl rfl rfl hG (by decide) ?_
        refine V.aload_n hF dX0_changeView_77 rfl ?_
        refine V.getRP (i := 0) hF dX0_changeView_78 fl_X0_9 hG.g rfl hG.r0 ?_
        refine V.aload_n hF dX0_changeView_81 rfl ?_
        refine V.getIP hF dX0_changeView_82 fl_X0_31 hG.g rfl hG (by decide) ?_
        refine V.topi (y := nI (cN C 100 4 + 1)) (ycC_v hC) ?_
        refine V.aload_n hF dX0_changeView_85 rfl ?_
        refine V.getIP hF dX0_changeView_86 fl_X0_35 hG.g rfl hG (by decide) ?_
        refine V.iastoreP (j := (cN C 100 4 + 1)) hF dX0_changeView_89 hG.a0 rfl (by omega) (by decide) hG (by decide) ?_
        refine V.aload_n hF dX0_changeView_90 rfl ?_
        refine V.getRP (i := 1) hF dX0_changeView_91 fl_X0_15 hG.g rfl hG.r1 ?_
        refine V.aload_n hF dX0_changeView_94 rfl ?_
        refine V.getIP hF dX0_changeView_95 fl_X0_31 hG.g rfl hG (by decide) ?_
        refine V.topi (y := nI (cN C 100 4 + 1)) (ycD_v hC) ?_
        refine V.iload_n hF dX0_changeView_98 rfl ?_
        refine V.iastoreP (j := (cN C 100 4 + 1)) hF dX0_changeView_99 hG.a1 rfl (by omega) (by decide) hG (by decide) ?_
        refine V.aload_n hF dX0_changeView_100 rfl ?_
        refine V.vV hF dX0_changeView_101 (ct_X0_beginView hst _ _ _ _ hG _) lk_X0_136 sl_X0_beginView hG.g.1 hG.g.2 rfl (Nat.le_of_ble_eq_true rfl) (fit_of rfl) (Nat.le_of_ble_eq_true rfl) rfl ?_
        refine V.iload_n hF dX0_changeView_104 rfl ?_
        refine V.iret hF dX0_changeView_105 (Nat.le_refl _) (Nat.le_refl _) ?_
        exact pR.i rfl
      · have hk : k < 6 := nI_nge h17 (by omega) (by omega)
        refine V.iload_n hF dX0_changeView_20 rfl ?_
        refine V.iload_n hF dX0_changeView_21 rfl ?_
        refine V.sI hF dX0_changeView_22 (ct_X4_contains hst _ _ _ _ _) lk_X0_118 (fit_of rfl) (Nat.le_of_ble_eq_true rfl) rfl ?_
        refine V.if_eqB (tgt := 37) hF dX0_changeView_25 (by decide) (fun h25 => ?_) (fun h25 => ?_)
        · have hz := yfo_f hE h25
          refine V.iinc (v := nI (k + 1)) hF dX0_changeView_37 rfl (by exact nI_1 _) (by decide) ?_
          refine V.goto (tgt := 14) hF dX0_changeView_40 (by decide) ?_
          refine V.relv [0, 1, 2, 3] rfl ?_
          exact ih14 (k + 1) _ _ (by omega) (by omega) hz
        · have hz := yfo_t hE h25
          refine V.iload_n hF dX0_changeView_28 rfl ?_
          refine V.aload_n hF dX0_changeView_29 rfl ?_
          refine V.iload_n hF dX0_changeView_30 rfl ?_
          refine V.iload_n hF dX0_changeView_31 rfl ?_
          refine V.vI hF dX0_changeView_32 (ct_X0_force hst _ _ _ _ hG _ hCE k (by omega) _) lk_X0_126 sl_X0_force hG.g.1 hG.g.2 rfl (Nat.le_of_ble_eq_true rfl) (fit_of rfl) (Nat.le_of_ble_eq_true rfl) rfl ?_
          refine V.iadd hF dX0_changeView_35 ?_
          refine V.istore_n hF dX0_changeView_36 (by decide) ?_
          refine V.iinc (v := nI (k + 1)) hF dX0_changeView_37 rfl (by exact nI_1 _) (by decide) ?_
          refine V.goto (tgt := 14) hF dX0_changeView_40 (by decide) ?_
          refine V.relv [0, 1, 2, 3] rfl ?_
          exact ih14 (k + 1) _ _ (by omega) (by omega) hz
  refine V.relv [0, 1, 2, 3] rfl ?_
  exact L14 _ 0 _ _ (Nat.lt_succ_self _) (by omega) rfl
set_option maxRecDepth 20000 in
theorem ct_X0_canPerform_98 (hst : l.stackTraces = false) (σ : SH) (I X : IX) (ad : Nat → Nat) (hG : GS σ ad) (C : IX) (hC : WC C) (x y : Int32) : Ct l D cy sa sv yX0_canPerform cX0_canPerform 4 (some .boolean) 3 0 0 [.ref (ad 100), .int (nI 98), .int x, .int y] σ (put idI I ad C) (put idX X ad C) (pR (some (.int (bI (yisM C x && !yfull C)))) σ (put idI I ad C) (put idX X ad C)) noX := by
  refine Ct.of (by decide) hst (Nat.le_of_ble_eq_true rfl) ?_
  intro pp ee ss mm args below meth kc A hF hnm hout
  refine V.iload_n hF dX0_canPerform_0 rfl ?_
  refine V.tableIn (tgt := 64) hF dX0_canPerform_1 (by decide) (by decide) rfl (by decide) ?_
  refine V.aload_n hF dX0_canPerform_64 rfl ?_
  refine V.iload_n hF dX0_canPerform_65 rfl ?_
  refine V.vI hF dX0_canPerform_66 (ct_X0_canSend hst _ _ _ _ hG _ hC _) lk_X0_91 sl_X0_canSend hG.g.1 hG.g.2 rfl (Nat.le_of_ble_eq_true rfl) (fit_of rfl) (Nat.le_of_ble_eq_true rfl) rfl ?_
  refine V.zret hF dX0_canPerform_69 (bI_01 _) (Nat.le_refl _) (Nat.le_refl _) ?_
  exact pR.i rfl
set_option maxRecDepth 20000 in
theorem ct_X0_perform_98 (hst : l.stackTraces = false) (σ : SH) (I X : IX) (ad : Nat → Nat) (hG : GS σ ad) (C : IX) (hC : WC C) (x y : Int32) : Ct l D cy sa sv yX0_perform cX0_perform 4 (some .boolean) 5 0 0 [.ref (ad 100), .int (nI 98), .int x, .int y] σ (put idI I ad C) (put idX X ad C) (pR (some (.int (bI (yisM C x && !yfull C)))) σ (put idI I ad (if yisM C x && !yfull C then (ysend C x.toNatClampNeg y) else C)) (put idX X ad (if yisM C x && !yfull C then (ysend C x.toNatClampNeg y) else C))) noX := by
  refine Ct.of (by decide) hst (Nat.le_of_ble_eq_true rfl) ?_
  intro pp ee ss mm args below meth kc A hF hnm hout
  refine V.aload_n hF dX0_perform_0 rfl ?_
  refine V.iload_n hF dX0_perform_1 rfl ?_
  refine V.iload_n hF dX0_perform_2 rfl ?_
  refine V.iload_n hF dX0_perform_3 rfl ?_
  refine V.vI hF dX0_perform_4 (ct_X0_canPerform_98 hst _ _ _ _ hG _ hC _ _) lk_X0_66 sl_X0_canPerform hG.g.1 hG.g.2 rfl (Nat.le_of_ble_eq_true rfl) (fit_of rfl) (Nat.le_of_ble_eq_true rfl) rfl ?_
  refine V.if_neB (tgt := 12) hF dX0_perform_7 (by decide) (fun h7 => ?_) (fun h7 => ?_)
  · have hx : zPr x = true := by simp only [yisM, Bool.and_eq_true] at h7; exact h7.1.1
    obtain ⟨p, hp, rfl⟩ := zPr_of hx
    have hn : cN C 2 6 < 150 := ynf hC (by simp only [Bool.and_eq_true] at h7; exact h7.2)
    refine V.iload_n hF dX0_perform_12 rfl ?_
    refine V.tableIn (tgt := 76) hF dX0_perform_13 (by decide) (by decide) rfl (by decide) ?_
    refine V.aload_n hF dX0_perform_76 rfl ?_
    refine V.iload_n hF dX0_perform_77 rfl ?_
    refine V.iload_n hF dX0_perform_78 rfl ?_
    refine V.vI hF dX0_perform_79 (ct_X0_send hst _ _ _ _ hG _ hC p (by omega) _ (by omega)) lk_X0_70 sl_X0_send hG.g.1 hG.g.2 rfl (Nat.le_of_ble_eq_true rfl) (fit_of rfl) (Nat.le_of_ble_eq_true rfl) rfl ?_
    refine V.pop hF dX0_perform_82 rfl ?_
    refine V.goto (tgt := 129) hF dX0_perform_83 (by decide) ?_
    refine V.iconst (v := nI 1) hF dX0_perform_129 (by decide) ?_
    refine V.zret hF dX0_perform_130 (Or.inr rfl) (Nat.le_refl _) (Nat.le_refl _) ?_
    rw [h7, if_pos rfl, nI_clamp (n := p) (by omega)]
    exact pR.i rfl
  · refine V.iconst (v := nI 0) hF dX0_perform_10 (by decide) ?_
    refine V.zret hF dX0_perform_11 (Or.inl rfl) (Nat.le_refl _) (Nat.le_refl _) ?_
    rw [h7]
    exact pR.i rfl
set_option maxRecDepth 20000 in
theorem ct_X0_canPerform_97 (hst : l.stackTraces = false) (σ : SH) (I X : IX) (ad : Nat → Nat) (hG : GS σ ad) (C : IX) (hC : WC C) (x y : Int32) : Ct l D cy sa sv yX0_canPerform cX0_canPerform 4 (some .boolean) 3 0 0 [.ref (ad 100), .int (nI 97), .int x, .int y] σ (put idI I ad C) (put idX X ad C) (pR (some (.int (bI (yisM C x && yhas C y && !decide (y < C 100 6))))) σ (put idI I ad C) (put idX X ad C)) noX := by
  refine Ct.of (by decide) hst (Nat.le_of_ble_eq_true rfl) ?_
  intro pp ee ss mm args below meth kc A hF hnm hout
  refine V.iload_n hF dX0_canPerform_0 rfl ?_
  refine V.tableIn (tgt := 70) hF dX0_canPerform_1 (by decide) (by decide) rfl (by decide) ?_
  refine V.aload_n hF dX0_canPerform_70 rfl ?_
  refine V.iload_n hF dX0_canPerform_71 rfl ?_
  refine V.iload_n hF dX0_canPerform_72 rfl ?_
  refine V.vI hF dX0_canPerform_73 (ct_X0_canReceive hst _ _ _ _ hG _ hC _ _) lk_X0_95 sl_X0_canReceive hG.g.1 hG.g.2 rfl (Nat.le_of_ble_eq_true rfl) (fit_of rfl) (Nat.le_of_ble_eq_true rfl) rfl ?_
  refine V.zret hF dX0_canPerform_76 (bI_01 _) (Nat.le_refl _) (Nat.le_refl _) ?_
  exact pR.i rfl
set_option maxRecDepth 20000 in
theorem ct_X0_perform_97 (hst : l.stackTraces = false) (σ : SH) (I X : IX) (ad : Nat → Nat) (hG : GS σ ad) (C : IX) (hC : WC C) (x y : Int32) : Ct l D cy sa sv yX0_perform cX0_perform 4 (some .boolean) 5 0 0 [.ref (ad 100), .int (nI 97), .int x, .int y] σ (put idI I ad C) (put idX X ad C) (pR (some (.int (bI (yisM C x && yhas C y && !decide (y < C 100 6))))) σ (put idI I ad (if yisM C x && yhas C y && !decide (y < C 100 6) then (yrcv C x.toNatClampNeg y.toNatClampNeg).1 else C)) (put idX X ad (if yisM C x && yhas C y && !decide (y < C 100 6) then (yrcv C x.toNatClampNeg y.toNatClampNeg).1 else C))) noX := by
  refine Ct.of (by decide) hst (Nat.le_of_ble_eq_true rfl) ?_
  intro pp ee ss mm args below meth kc A hF hnm hout
  refine V.aload_n hF dX0_perform_0 rfl ?_
  refine V.iload_n hF dX0_perform_1 rfl ?_
  refine V.iload_n hF dX0_perform_2 rfl ?_
  refine V.iload_n hF dX0_perform_3 rfl ?_
  refine V.vI hF dX0_perform_4 (ct_X0_canPerform_97 hst _ _ _ _ hG _ hC _ _) lk_X0_66 sl_X0_canPerform hG.g.1 hG.g.2 rfl (Nat.le_of_ble_eq_true rfl) (fit_of rfl) (Nat.le_of_ble_eq_true rfl) rfl ?_
  refine V.if_neB (tgt := 12) hF dX0_perform_7 (by decide) (fun h7 => ?_) (fun h7 => ?_)
  · have hx : zPr x = true := by simp only [yisM, Bool.and_eq_true] at h7; exact h7.1.1.1
    obtain ⟨p, hp, rfl⟩ := zPr_of hx
    have hy : yhas C y = true := by simp only [Bool.and_eq_true] at h7; exact h7.1.2
    obtain ⟨m, hm, hm2, rfl⟩ := yhas_of hC hy
    refine V.iload_n hF dX0_perform_12 rfl ?_
    refine V.tableIn (tgt := 86) hF dX0_perform_13 (by decide) (by decide) rfl (by decide) ?_
    refine V.aload_n hF dX0_perform_86 rfl ?_
    refine V.iload_n hF dX0_perform_87 rfl ?_
    refine V.iload_n hF dX0_perform_88 rfl ?_
    refine V.vI hF dX0_perform_89 (ct_X0_receive hst _ _ _ _ hG _ hC p (by omega) m (by omega)) lk_X0_74 sl_X0_receive hG.g.1 hG.g.2 rfl (Nat.le_of_ble_eq_true rfl) (fit_of rfl) (Nat.le_of_ble_eq_true rfl) rfl ?_
    refine V.pop hF dX0_perform_92 rfl ?_
    refine V.goto (tgt := 129) hF dX0_perform_93 (by decide) ?_
    refine V.iconst (v := nI 1) hF dX0_perform_129 (by decide) ?_
    refine V.zret hF dX0_perform_130 (Or.inr rfl) (Nat.le_refl _) (Nat.le_refl _) ?_
    rw [h7, if_pos rfl, nI_clamp (n := p) (by omega), nI_clamp (n := m) (by omega)]
    exact pR.i rfl
  · refine V.iconst (v := nI 0) hF dX0_perform_10 (by decide) ?_
    refine V.zret hF dX0_perform_11 (Or.inl rfl) (Nat.le_refl _) (Nat.le_refl _) ?_
    rw [h7]
    exact pR.i rfl
set_option maxRecDepth 20000 in
theorem ct_X0_canPerform_103 (hst : l.stackTraces = false) (σ : SH) (I X : IX) (ad : Nat → Nat) (hG : GS σ ad) (C : IX) (hC : WC C) (x y : Int32) : Ct l D cy sa sv yX0_canPerform cX0_canPerform 4 (some .boolean) 3 0 0 [.ref (ad 100), .int (nI 103), .int x, .int y] σ (put idI I ad C) (put idX X ad C) (pR (some (.int (bI (yisM C x && yisM C y && !decide (x = y))))) σ (put idI I ad C) (put idX X ad C)) noX := by
  refine Ct.of (by decide) hst (Nat.le_of_ble_eq_true rfl) ?_
  intro pp ee ss mm args below meth kc A hF hnm hout
  refine V.iload_n hF dX0_canPerform_0 rfl ?_
  refine V.tableIn (tgt := 77) hF dX0_canPerform_1 (by decide) (by decide) rfl (by decide) ?_
  refine V.aload_n hF dX0_canPerform_77 rfl ?_
  refine V.iload_n hF dX0_canPerform_78 rfl ?_
  refine V.iload_n hF dX0_canPerform_79 rfl ?_
  refine V.vI hF dX0_canPerform_80 (ct_X0_canTell hst _ _ _ _ hG _ hC _ _) lk_X0_99 sl_X0_canTell hG.g.1 hG.g.2 rfl (Nat.le_of_ble_eq_true rfl) (fit_of rfl) (Nat.le_of_ble_eq_true rfl) rfl ?_
  refine V.zret hF dX0_canPerform_83 (bI_01 _) (Nat.le_refl _) (Nat.le_refl _) ?_
  exact pR.i rfl
set_option maxRecDepth 20000 in
theorem ct_X0_perform_103 (hst : l.stackTraces = false) (σ : SH) (I X : IX) (ad : Nat → Nat) (hG : GS σ ad) (C : IX) (hC : WC C) (x y : Int32) : Ct l D cy sa sv yX0_perform cX0_perform 4 (some .boolean) 5 0 0 [.ref (ad 100), .int (nI 103), .int x, .int y] σ (put idI I ad C) (put idX X ad C) (pR (some (.int (bI (yisM C x && yisM C y && !decide (x = y))))) σ (put idI I ad (if yisM C x && yisM C y && !decide (x = y) then (yltL C y.toNatClampNeg x.toNatClampNeg 36).1 else C)) (put idX X ad (if yisM C x && yisM C y && !decide (x = y) then (yltL C y.toNatClampNeg x.toNatClampNeg 36).1 else C))) noX := by
  refine Ct.of (by decide) hst (Nat.le_of_ble_eq_true rfl) ?_
  intro pp ee ss mm args below meth kc A hF hnm hout
  refine V.aload_n hF dX0_perform_0 rfl ?_
  refine V.iload_n hF dX0_perform_1 rfl ?_
  refine V.iload_n hF dX0_perform_2 rfl ?_
  refine V.iload_n hF dX0_perform_3 rfl ?_
  refine V.vI hF dX0_perform_4 (ct_X0_canPerform_103 hst _ _ _ _ hG _ hC _ _) lk_X0_66 sl_X0_canPerform hG.g.1 hG.g.2 rfl (Nat.le_of_ble_eq_true rfl) (fit_of rfl) (Nat.le_of_ble_eq_true rfl) rfl ?_
  refine V.if_neB (tgt := 12) hF dX0_perform_7 (by decide) (fun h7 => ?_) (fun h7 => ?_)
  · have hx : zPr x = true := by simp only [yisM, Bool.and_eq_true] at h7; exact h7.1.1.1
    have hy : zPr y = true := by simp only [yisM, Bool.and_eq_true] at h7; exact h7.1.2.1
    obtain ⟨p, hp, rfl⟩ := zPr_of hx
    obtain ⟨q, hq, rfl⟩ := zPr_of hy
    refine V.iload_n hF dX0_perform_12 rfl ?_
    refine V.tableIn (tgt := 96) hF dX0_perform_13 (by decide) (by decide) rfl (by decide) ?_
    refine V.aload_n hF dX0_perform_96 rfl ?_
    refine V.iload_n hF dX0_perform_97 rfl ?_
    refine V.iload_n hF dX0_perform_98 rfl ?_
    refine V.vI hF dX0_perform_99 (ct_X0_tell hst _ _ _ _ hG _ hC p (by omega) q (by omega)) lk_X0_77 sl_X0_tell hG.g.1 hG.g.2 rfl (Nat.le_of_ble_eq_true rfl) (fit_of rfl) (Nat.le_of_ble_eq_true rfl) rfl ?_
    refine V.pop hF dX0_perform_102 rfl ?_
    refine V.goto (tgt := 129) hF dX0_perform_103 (by decide) ?_
    refine V.iconst (v := nI 1) hF dX0_perform_129 (by decide) ?_
    refine V.zret hF dX0_perform_130 (Or.inr rfl) (Nat.le_refl _) (Nat.le_refl _) ?_
    rw [h7, if_pos rfl, nI_clamp (n := p) (by omega), nI_clamp (n := q) (by omega)]
    exact pR.i rfl
  · refine V.iconst (v := nI 0) hF dX0_perform_10 (by decide) ?_
    refine V.zret hF dX0_perform_11 (Or.inl rfl) (Nat.le_refl _) (Nat.le_refl _) ?_
    rw [h7]
    exact pR.i rfl
set_option maxRecDepth 20000 in
theorem ct_X0_canPerform_106 (hst : l.stackTraces = false) (σ : SH) (I X : IX) (ad : Nat → Nat) (hG : GS σ ad) (C : IX) (hC : WC C) (x y : Int32) : Ct l D cy sa sv yX0_canPerform cX0_canPerform 4 (some .boolean) 3 0 0 [.ref (ad 100), .int (nI 106), .int x, .int y] σ (put idI I ad C) (put idX X ad C) (pR (some (.int (bI (zPr x && !zbit (C 100 5) x)))) σ (put idI I ad C) (put idX X ad C)) noX := by
  refine Ct.of (by decide) hst (Nat.le_of_ble_eq_true rfl) ?_
  intro pp ee ss mm args below meth kc A hF hnm hout
  refine V.iload_n hF dX0_canPerform_0 rfl ?_
  refine V.tableIn (tgt := 84) hF dX0_canPerform_1 (by decide) (by decide) rfl (by decide) ?_
  refine V.aload_n hF dX0_canPerform_84 rfl ?_
  refine V.iload_n hF dX0_canPerform_85 rfl ?_
  refine V.vI hF dX0_canPerform_86 (ct_X0_canEnter hst _ _ _ _ hG _ _) lk_X0_102 sl_X0_canEnter hG.g.1 hG.g.2 rfl (Nat.le_of_ble_eq_true rfl) (fit_of rfl) (Nat.le_of_ble_eq_true rfl) rfl ?_
  refine V.zret hF dX0_canPerform_89 (bI_01 _) (Nat.le_refl _) (Nat.le_refl _) ?_
  exact pR.i rfl
set_option maxRecDepth 20000 in
theorem ct_X0_perform_106 (hst : l.stackTraces = false) (σ : SH) (I X : IX) (ad : Nat → Nat) (hG : GS σ ad) (C : IX) (hC : WC C) (x y : Int32) : Ct l D cy sa sv yX0_perform cX0_perform 4 (some .boolean) 5 0 0 [.ref (ad 100), .int (nI 106), .int x, .int y] σ (put idI I ad C) (put idX X ad C) (pR (some (.int (bI (zPr x && !zbit (C 100 5) x)))) σ (put idI I ad (if zPr x && !zbit (C 100 5) x then (va_up C 100 (upd (C 100) 5 (C 100 5 ||| (nI 1 <<< (x &&& 31))))) else C)) (put idX X ad (if zPr x && !zbit (C 100 5) x then (va_up C 100 (upd (C 100) 5 (C 100 5 ||| (nI 1 <<< (x &&& 31))))) else C))) noX := by
  refine Ct.of (by decide) hst (Nat.le_of_ble_eq_true rfl) ?_
  intro pp ee ss mm args below meth kc A hF hnm hout
  refine V.aload_n hF dX0_perform_0 rfl ?_
  refine V.iload_n hF dX0_perform_1 rfl ?_
  refine V.iload_n hF dX0_perform_2 rfl ?_
  refine V.iload_n hF dX0_perform_3 rfl ?_
  refine V.vI hF dX0_perform_4 (ct_X0_canPerform_106 hst _ _ _ _ hG _ hC _ _) lk_X0_66 sl_X0_canPerform hG.g.1 hG.g.2 rfl (Nat.le_of_ble_eq_true rfl) (fit_of rfl) (Nat.le_of_ble_eq_true rfl) rfl ?_
  refine V.if_neB (tgt := 12) hF dX0_perform_7 (by decide) (fun h7 => ?_) (fun h7 => ?_)
  · refine V.iload_n hF dX0_perform_12 rfl ?_
    refine V.tableIn (tgt := 106) hF dX0_perform_13 (by decide) (by decide) rfl (by decide) ?_
    refine V.aload_n hF dX0_perform_106 rfl ?_
    refine V.iload_n hF dX0_perform_107 rfl ?_
    refine V.vI hF dX0_perform_108 (ct_X0_enter hst _ _ _ _ hG _ _) lk_X0_80 sl_X0_enter hG.g.1 hG.g.2 rfl (Nat.le_of_ble_eq_true rfl) (fit_of rfl) (Nat.le_of_ble_eq_true rfl) rfl ?_
    refine V.pop hF dX0_perform_111 rfl ?_
    refine V.goto (tgt := 129) hF dX0_perform_112 (by decide) ?_
    refine V.iconst (v := nI 1) hF dX0_perform_129 (by decide) ?_
    refine V.zret hF dX0_perform_130 (Or.inr rfl) (Nat.le_refl _) (Nat.le_refl _) ?_
    rw [h7, if_pos rfl]
    exact pR.i rfl
  · refine V.iconst (v := nI 0) hF dX0_perform_10 (by decide) ?_
    refine V.zret hF dX0_perform_11 (Or.inl rfl) (Nat.le_refl _) (Nat.le_refl _) ?_
    rw [h7]
    exact pR.i rfl
set_option maxRecDepth 20000 in
theorem ct_X0_canPerform_108 (hst : l.stackTraces = false) (σ : SH) (I X : IX) (ad : Nat → Nat) (hG : GS σ ad) (C : IX) (hC : WC C) (x y : Int32) : Ct l D cy sa sv yX0_canPerform cX0_canPerform 4 (some .boolean) 3 0 0 [.ref (ad 100), .int (nI 108), .int x, .int y] σ (put idI I ad C) (put idX X ad C) (pR (some (.int (bI (zPr x && zbit (C 100 5) x && !decide ((ymem C &&& C 100 5) &&& ((nI 1 <<< (x &&& 31)) ^^^ (-1)) = 0))))) σ (put idI I ad C) (put idX X ad C)) noX := by
  refine Ct.of (by decide) hst (Nat.le_of_ble_eq_true rfl) ?_
  intro pp ee ss mm args below meth kc A hF hnm hout
  refine V.iload_n hF dX0_canPerform_0 rfl ?_
  refine V.tableIn (tgt := 90) hF dX0_canPerform_1 (by decide) (by decide) rfl (by decide) ?_
  refine V.aload_n hF dX0_canPerform_90 rfl ?_
  refine V.iload_n hF dX0_canPerform_91 rfl ?_
  refine V.vI hF dX0_canPerform_92 (ct_X0_canQuit hst _ _ _ _ hG _ hC _) lk_X0_105 sl_X0_canQuit hG.g.1 hG.g.2 rfl (Nat.le_of_ble_eq_true rfl) (fit_of rfl) (Nat.le_of_ble_eq_true rfl) rfl ?_
  refine V.zret hF dX0_canPerform_95 (bI_01 _) (Nat.le_refl _) (Nat.le_refl _) ?_
  exact pR.i rfl
set_option maxRecDepth 20000 in
theorem ct_X0_perform_108 (hst : l.stackTraces = false) (σ : SH) (I X : IX) (ad : Nat → Nat) (hG : GS σ ad) (C : IX) (hC : WC C) (x y : Int32) : Ct l D cy sa sv yX0_perform cX0_perform 4 (some .boolean) 5 0 0 [.ref (ad 100), .int (nI 108), .int x, .int y] σ (put idI I ad C) (put idX X ad C) (pR (some (.int (bI (zPr x && zbit (C 100 5) x && !decide ((ymem C &&& C 100 5) &&& ((nI 1 <<< (x &&& 31)) ^^^ (-1)) = 0))))) σ (put idI I ad (if zPr x && zbit (C 100 5) x && !decide ((ymem C &&& C 100 5) &&& ((nI 1 <<< (x &&& 31)) ^^^ (-1)) = 0) then (va_up C 100 (upd (C 100) 5 (C 100 5 &&& ((nI 1 <<< (x &&& 31)) ^^^ (-1))))) else C)) (put idX X ad (if zPr x && zbit (C 100 5) x && !decide ((ymem C &&& C 100 5) &&& ((nI 1 <<< (x &&& 31)) ^^^ (-1)) = 0) then (va_up C 100 (upd (C 100) 5 (C 100 5 &&& ((nI 1 <<< (x &&& 31)) ^^^ (-1))))) else C))) noX := by
  refine Ct.of (by decide) hst (Nat.le_of_ble_eq_true rfl) ?_
  intro pp ee ss mm args below meth kc A hF hnm hout
  refine V.aload_n hF dX0_perform_0 rfl ?_
  refine V.iload_n hF dX0_perform_1 rfl ?_
  refine V.iload_n hF dX0_perform_2 rfl ?_
  refine V.iload_n hF dX0_perform_3 rfl ?_
  refine V.vI hF dX0_perform_4 (ct_X0_canPerform_108 hst _ _ _ _ hG _ hC _ _) lk_X0_66 sl_X0_canPerform hG.g.1 hG.g.2 rfl (Nat.le_of_ble_eq_true rfl) (fit_of rfl) (Nat.le_of_ble_eq_true rfl) rfl ?_
  refine V.if_neB (tgt := 12) hF dX0_perform_7 (by decide) (fun h7 => ?_) (fun h7 => ?_)
  · refine V.iload_n hF dX0_perform_12 rfl ?_
    refine V.tableIn (tgt := 115) hF dX0_perform_13 (by decide) (by decide) rfl (by decide) ?_
    refine V.aload_n hF dX0_perform_115 rfl ?_
    refine V.iload_n hF dX0_perform_116 rfl ?_
    refine V.vI hF dX0_perform_117 (ct_X0_quit hst _ _ _ _ hG _ _) lk_X0_84 sl_X0_quit hG.g.1 hG.g.2 rfl (Nat.le_of_ble_eq_true rfl) (fit_of rfl) (Nat.le_of_ble_eq_true rfl) rfl ?_
    refine V.pop hF dX0_perform_120 rfl ?_
    refine V.goto (tgt := 129) hF dX0_perform_121 (by decide) ?_
    refine V.iconst (v := nI 1) hF dX0_perform_129 (by decide) ?_
    refine V.zret hF dX0_perform_130 (Or.inr rfl) (Nat.le_refl _) (Nat.le_refl _) ?_
    rw [h7, if_pos rfl]
    exact pR.i rfl
  · refine V.iconst (v := nI 0) hF dX0_perform_10 (by decide) ?_
    refine V.zret hF dX0_perform_11 (Or.inl rfl) (Nat.le_refl _) (Nat.le_refl _) ?_
    rw [h7]
    exact pR.i rfl
set_option maxRecDepth 20000 in
theorem ct_X0_canPerform_105 (hst : l.stackTraces = false) (σ : SH) (I X : IX) (ad : Nat → Nat) (hG : GS σ ad) (C : IX) (hC : WC C) (x y : Int32) : Ct l D cy sa sv yX0_canPerform cX0_canPerform 4 (some .boolean) 3 0 0 [.ref (ad 100), .int (nI 105), .int x, .int y] σ (put idI I ad C) (put idX X ad C) (pR (some (.int (bI (!decide (nI 20 ≤ C 100 4))))) σ (put idI I ad C) (put idX X ad C)) noX := by
  refine Ct.of (by decide) hst (Nat.le_of_ble_eq_true rfl) ?_
  intro pp ee ss mm args below meth kc A hF hnm hout
  refine V.iload_n hF dX0_canPerform_0 rfl ?_
  refine V.tableIn (tgt := 96) hF dX0_canPerform_1 (by decide) (by decide) rfl (by decide) ?_
  refine V.aload_n hF dX0_canPerform_96 rfl ?_
  refine V.vI hF dX0_canPerform_97 (ct_X0_canChangeView hst _ _ _ _ hG _) lk_X0_108 sl_X0_canChangeView hG.g.1 hG.g.2 rfl (Nat.le_of_ble_eq_true rfl) (fit_of rfl) (Nat.le_of_ble_eq_true rfl) rfl ?_
  refine V.zret hF dX0_canPerform_100 (bI_01 _) (Nat.le_refl _) (Nat.le_refl _) ?_
  exact pR.i rfl
set_option maxRecDepth 20000 in
theorem ct_X0_perform_105 (hst : l.stackTraces = false) (σ : SH) (I X : IX) (ad : Nat → Nat) (hG : GS σ ad) (C : IX) (hC : WC C) (hS : yWS C) (x y : Int32) : Ct l D cy sa sv yX0_perform cX0_perform 4 (some .boolean) 5 0 0 [.ref (ad 100), .int (nI 105), .int x, .int y] σ (put idI I ad C) (put idX X ad C) (pR (some (.int (bI (!decide (nI 20 ≤ C 100 4))))) σ (put idI I ad (if !decide (nI 20 ≤ C 100 4) then (ych C) else C)) (put idX X ad (if !decide (nI 20 ≤ C 100 4) then (ych C) else C))) noX := by
  refine Ct.of (by decide) hst (Nat.le_of_ble_eq_true rfl) ?_
  intro pp ee ss mm args below meth kc A hF hnm hout
  refine V.aload_n hF dX0_perform_0 rfl ?_
  refine V.iload_n hF dX0_perform_1 rfl ?_
  refine V.iload_n hF dX0_perform_2 rfl ?_
  refine V.iload_n hF dX0_perform_3 rfl ?_
  refine V.vI hF dX0_perform_4 (ct_X0_canPerform_105 hst _ _ _ _ hG _ hC _ _) lk_X0_66 sl_X0_canPerform hG.g.1 hG.g.2 rfl (Nat.le_of_ble_eq_true rfl) (fit_of rfl) (Nat.le_of_ble_eq_true rfl) rfl ?_
  refine V.if_neB (tgt := 12) hF dX0_perform_7 (by decide) (fun h7 => ?_) (fun h7 => ?_)
  · have hv20 : cN C 100 4 < 20 := by have h := h7; simp only [Bool.not_eq_true', decide_eq_false_iff_not] at h; rw [hC.vw] at h; exact nI_nge h (by have := hC.vw20; omega) (by omega)
    refine V.iload_n hF dX0_perform_12 rfl ?_
    refine V.tableIn (tgt := 124) hF dX0_perform_13 (by decide) (by decide) rfl (by decide) ?_
    refine V.aload_n hF dX0_perform_124 rfl ?_
    refine V.vI hF dX0_perform_125 (ct_X0_changeView hst _ _ _ _ hG _ hC hS (by omega)) lk_X0_87 sl_X0_changeView hG.g.1 hG.g.2 rfl (Nat.le_of_ble_eq_true rfl) (fit_of rfl) (Nat.le_of_ble_eq_true rfl) rfl ?_
    refine V.pop hF dX0_perform_128 rfl ?_
    refine V.iconst (v := nI 1) hF dX0_perform_129 (by decide) ?_
    refine V.zret hF dX0_perform_130 (Or.inr rfl) (Nat.le_refl _) (Nat.le_refl _) ?_
    rw [h7, if_pos rfl]
    exact pR.i rfl
  · refine V.iconst (v := nI 0) hF dX0_perform_10 (by decide) ?_
    refine V.zret hF dX0_perform_11 (Or.inl rfl) (Nat.le_refl _) (Nat.le_refl _) ?_
    rw [h7]
    exact pR.i rfl
end MD
