theorem up_at (C : IX) (k : Nat) (f : Nat → Int32) (j : Nat) : va_up C k f j = if j = k then f else C j := rfl
theorem ydl5_at (C : IX) {p : Nat} (hp : p < 6) (m r : Nat) (y : Int32) (k : Nat) : ydl5 C p m r y k =
    if k = 40 + p then upd (C (40 + p)) (p * 6 + r) (C (40 + p) (p * 6 + r) + nI 1) else if k = 10 + p then upd (upd (C (10 + p)) 4 (C (10 + p) 4 + nI 1)) 5 (nI 31 * C (10 + p) 5 + y)
    else if k = 30 + p then upd (C (30 + p)) m (C (10 + p) 4) else if k = 20 + p then upd (C (20 + p)) (cN C (10 + p) 4) (nI m) else C k := by
  have a1 : ∀ j, ydl1 C p (nI m) j = if j = 20 + p then upd (C (20 + p)) (cN C (10 + p) 4) (nI m) else C j := fun j => up_at _ _ _ _
  have a2 : ∀ j, ydl2 C p m j = if j = 30 + p then upd (C (30 + p)) m (C (10 + p) 4) else ydl1 C p (nI m) j := fun j => by
    have e1 : ydl1 C p (nI m) (30 + p) = C (30 + p) := by rw [a1, if_neg (by omega)]
    have e2 : ydl1 C p (nI m) (10 + p) = C (10 + p) := by rw [a1, if_neg (by omega)]
    rw [ydl2, up_at, e1, e2]
  have a2p : ydl2 C p m (10 + p) = C (10 + p) := by rw [a2, if_neg (by omega), a1, if_neg (by omega)]
  have a3 : ∀ j, ydl3 C p m j = if j = 10 + p then upd (C (10 + p)) 4 (C (10 + p) 4 + nI 1) else ydl2 C p m j := fun j => by
    rw [ydl3, up_at, a2p]
  have a3p : ydl3 C p m (10 + p) = upd (C (10 + p)) 4 (C (10 + p) 4 + nI 1) := by rw [a3, if_pos rfl]
  have a4 : ∀ j, ydl4 C p m y j = if j = 10 + p then upd (upd (C (10 + p)) 4 (C (10 + p) 4 + nI 1)) 5 (nI 31 * C (10 + p) 5 + y) else ydl3 C p m j := fun j => by
    have e5 : upd (C (10 + p)) 4 (C (10 + p) 4 + nI 1) 5 = C (10 + p) 5 := by rw [upd_at, if_neg (by omega)]
    rw [ydl4, up_at, a3p, e5]
  have a4t : ydl4 C p m y (40 + p) = C (40 + p) := by rw [a4, if_neg (by omega), a3, if_neg (by omega), a2, if_neg (by omega), a1, if_neg (by omega)]
  rw [ydl5, up_at, a4t, a4, a3, a2, a1]
  by_cases h1 : k = 40 + p
  · rw [if_pos h1, if_pos h1]
  · rw [if_neg h1, if_neg h1]
    by_cases h2 : k = 10 + p
    · rw [if_pos h2, if_pos h2]
    · rw [if_neg h2, if_neg h2, if_neg h2]
theorem WC_ydl {C : IX} (hC : WC C) {p m r : Nat} (hp : p < 6) (hm : m < 150) (y : Int32) : WC (ydl C p m r y) := by
  unfold ydl
  split
  · rename_i hlt
    have hl : cN C (10 + p) 4 < 150 := by have h7 := hlt; rw [hC.l hp] at h7; exact (nI_ltI (by have := hC.l150 hp; omega) (by omega)).mp h7
    have at_ := ydl5_at C hp m r y
    have lo : ∀ k, k < 10 ∨ k = 100 → ydl5 C p m r y k = C k := fun k hk => by rw [at_, if_neg (by omega), if_neg (by omega), if_neg (by omega), if_neg (by omega)]
    have e10 : ∀ p', p' < 6 → p' ≠ p → ydl5 C p m r y (10 + p') = C (10 + p') := fun p' h1 h2 => by rw [at_, if_neg (by omega), if_neg (by omega), if_neg (by omega), if_neg (by omega)]
    have e10p : ydl5 C p m r y (10 + p) = upd (upd (C (10 + p)) 4 (C (10 + p) 4 + nI 1)) 5 (nI 31 * C (10 + p) 5 + y) := by rw [at_, if_neg (by omega), if_pos rfl]
    refine ⟨?_, ?_, ?_, ?_, ?_, ?_, ?_⟩
    · unfold cN; rw [lo 100 (by omega)]; exact hC.1
    · unfold cN; rw [lo 100 (by omega)]; exact hC.2.1
    · unfold cN; rw [lo 2 (by omega)]; exact hC.2.2.1
    · intro p' hp'
      by_cases e : p' = p
      · subst e
        rw [e10p, upd_at, if_neg (by omega), upd_at, if_neg (by omega)]; exact hC.self hp
      · rw [e10 p' hp' e]; exact hC.self hp'
    · intro m' hm'
      unfold cN; rw [lo 4 (by omega)]; exact hC.2.2.2.2.1 m' hm'
    · intro p' hp'
      by_cases e : p' = p
      · subst e
        have e1 : ydl5 C p' m r y (10 + p') 4 = nI (cN C (10 + p') 4 + 1) := by
          rw [e10p, upd_at, if_neg (by omega), upd_at, if_pos rfl, hC.l hp, nI_add]
        have e2 : cN (ydl5 C p' m r y) (10 + p') 4 = cN C (10 + p') 4 + 1 := vN_nI e1 (by omega)
        rw [e2]; exact ⟨e1, by omega⟩
      · unfold cN; rw [e10 p' hp' e]; exact hC.2.2.2.2.2.1 p' hp'
    · intro p' i hp' hi
      by_cases e : p' = p
      · subst e
        have e1 : ydl5 C p' m r y (20 + p') = upd (C (20 + p')) (cN C (10 + p') 4) (nI m) := by rw [at_, if_neg (by omega), if_neg (by omega), if_neg (by omega), if_pos rfl]
        unfold cN
        rw [e1, upd_at]
        split
        · have := nI_clamp (n := m) (by omega)
          rw [this]; exact ⟨rfl, hm⟩
        · exact hC.2.2.2.2.2.2 p' i hp' hi
      · have e1 : ydl5 C p m r y (20 + p') = C (20 + p') := by rw [at_, if_neg (by omega), if_neg (by omega), if_neg (by omega), if_neg (by omega)]
        unfold cN; rw [e1]; exact hC.2.2.2.2.2.2 p' i hp' hi
  · exact hC
/-- rows that only differ in the tables -/
theorem WC_tab {C D : IX} (hC : WC C) (h : ∀ k, (k < 40 ∨ k = 100) → D k = C k) : WC D := by
  refine ⟨?_, ?_, ?_, ?_, ?_, ?_, ?_⟩
  · unfold cN; rw [h 100 (by omega)]; exact hC.1
  · unfold cN; rw [h 100 (by omega)]; exact hC.2.1
  · unfold cN; rw [h 2 (by omega)]; exact hC.2.2.1
  · intro p hp; rw [h _ (by omega)]; exact hC.self hp
  · intro m hm; unfold cN; rw [h 4 (by omega)]; exact hC.2.2.2.2.1 m hm
  · intro p hp; unfold cN; rw [h _ (by omega)]; exact hC.2.2.2.2.2.1 p hp
  · intro p i hp hi; unfold cN; rw [h _ (by omega)]; exact hC.2.2.2.2.2.2 p i hp hi
def ylcL (C : IX) (p m : Nat) : Nat → IX
  | 0 => C
  | q + 1 => if yent (ylcL C p m q) m q ≤ ylcL C p m q (40 + p) (cN C 4 m * 6 + q) then ylcL C p m q else va_up (ylcL C p m q) (40 + p) (upd (ylcL C p m q (40 + p)) (cN C 4 m * 6 + q) (yent (ylcL C p m q) m q))
theorem ylcL_lo {C : IX} {p m k : Nat} (hk : k ≠ 40 + p) : ∀ q, ylcL C p m q k = C k
  | 0 => rfl
  | q + 1 => by
    rw [ylcL]
    split
    · exact ylcL_lo hk q
    · rw [va_up_ne _ _ hk, ylcL_lo hk q]
theorem ylcL_t {C E : IX} {p m q : Nat} (e : ylcL C p m q = E) (h : yent E m q ≤ E (40 + p) (cN C 4 m * 6 + q)) : ylcL C p m (q + 1) = E := by rw [ylcL, e, if_pos h]
theorem ylcL_f {C E : IX} {p m q : Nat} (e : ylcL C p m q = E) (h : ¬ yent E m q ≤ E (40 + p) (cN C 4 m * 6 + q)) : ylcL C p m (q + 1) = va_up E (40 + p) (upd (E (40 + p)) (cN C 4 m * 6 + q) (yent E m q)) := by rw [ylcL, e, if_neg h]
def ygdel (C : IX) (p m : Nat) : IX := ylcL (ydl C p m (cN C 4 m) (C 5 m)) p m 6
theorem WC_ygdel {C : IX} (hC : WC C) {p m : Nat} (hp : p < 6) (hm : m < 150) : WC (ygdel C p m) := WC_tab (WC_ydl hC hp hm _) (fun k hk => ylcL_lo (by omega) 6)
def yltL (C : IX) (p p2 : Nat) : Nat → IX × Int32
  | 0 => (C, nI 0)
  | i + 1 => if i / 6 = p ∨ (yltL C p p2 i).1 (40 + p2) i ≤ (yltL C p p2 i).1 (40 + p) i then yltL C p p2 i else (va_up (yltL C p p2 i).1 (40 + p) (upd ((yltL C p p2 i).1 (40 + p)) i ((yltL C p p2 i).1 (40 + p2) i)), (yltL C p p2 i).2 + nI 1)
theorem yltL_t {C E : IX} {c : Int32} {p p2 i : Nat} (e : yltL C p p2 i = (E, c)) (h : i / 6 = p ∨ E (40 + p2) i ≤ E (40 + p) i) : yltL C p p2 (i + 1) = (E, c) := by rw [yltL, e, if_pos h]
theorem yltL_f {C E : IX} {c : Int32} {p p2 i : Nat} (e : yltL C p p2 i = (E, c)) (h1 : i / 6 ≠ p) (h : ¬ E (40 + p2) i ≤ E (40 + p) i) : yltL C p p2 (i + 1) = (va_up E (40 + p) (upd (E (40 + p)) i (E (40 + p2) i)), c + nI 1) := by rw [yltL, e, if_neg (fun q => q.elim h1 h)]
theorem yltL_lo {C : IX} {p p2 k : Nat} (hk : k ≠ 40 + p) : ∀ i, (yltL C p p2 i).1 k = C k
  | 0 => rfl
  | i + 1 => by
    rw [yltL]
    split
    · exact yltL_lo hk i
    · show va_up (yltL C p p2 i).1 (40 + p) _ k = C k
      rw [va_up_ne _ _ hk, yltL_lo hk i]
def yshF (C : IX) (p p2 i : Nat) : Bool := ylog C p2 (cN C (20 + p) i)
def ypl (C : IX) (p p2 i : Nat) : Int32 := C (30 + p2) (cN C (20 + p) i)
def yswF (C : IX) (p p2 s i : Nat) : Bool := decide (s < i) && !decide (ypl C p p2 i < 0) && decide (ypl C p p2 i < ypl C p p2 s)
def yswO (C : IX) (p p2 : Nat) : Nat → Nat
  | 0 => 0
  | k + 1 => yswO C p p2 k + (if yshF C p p2 k then zcB (yswF C p p2 k) (cN C (10 + p) 4) else 0)
def ylgA (C : IX) (s : Int32) (m : Nat) : Bool := zany (fun p => zbit s (nI p) && ylog C p m) 6
/-- one way up through the messages from j on -/
def yup (F : IX → Nat → Bool) (p j : Nat) (C : IX) : Nat → IX × Int32
  | 0 => (C, nI 0)
  | k + 1 => if F (yup F p j C k).1 (j + k) then (ygdel (yup F p j C k).1 p (j + k), (yup F p j C k).2 + nI 1) else yup F p j C k
theorem yup_t {F : IX → Nat → Bool} {p j k : Nat} {C E : IX} {c : Int32} (e : yup F p j C k = (E, c)) (h : F E (j + k) = true) : yup F p j C (k + 1) = (ygdel E p (j + k), c + nI 1) := by rw [yup, e, if_pos h]
theorem yup_f {F : IX → Nat → Bool} {p j k : Nat} {C E : IX} {c : Int32} (e : yup F p j C k = (E, c)) (h : F E (j + k) = false) : yup F p j C (k + 1) = (E, c) := by rw [yup, e, h]; rfl
theorem WC_yup {F : IX → Nat → Bool} {p j : Nat} (hp : p < 6) {C : IX} (hC : WC C) : ∀ {k : Nat}, j + k ≤ 150 → WC (yup F p j C k).1
  | 0, _ => hC
  | k + 1, hk => by
    have ih := WC_yup (F := F) (j := j) hp hC (k := k) (by omega)
    rcases h2 : yup F p j C k with ⟨E, c⟩
    rw [h2] at ih
    dsimp only at ih
    cases h3 : F E (j + k) with
    | true => rw [yup_t h2 h3]; dsimp only; exact WC_ygdel ih hp (by omega)
    | false => rw [yup_f h2 h3]; exact ih
def yFf (p : Nat) (s : Int32) (C : IX) (m : Nat) : Bool := ylgA C s m && yrdy C p m
def yFw (p : Nat) (C : IX) (m : Nat) : Bool := decide (C (30 + p) m = -1) && yrdy C p m
theorem ydl_lo {C : IX} {p m r k : Nat} {y : Int32} (hp : p < 6) (hk : k < 10 ∨ k = 100) : ydl C p m r y k = C k := by
  unfold ydl
  split
  · rw [ydl5_at C hp, if_neg (by omega), if_neg (by omega), if_neg (by omega), if_neg (by omega)]
  · rfl
theorem ygdel_lo {C : IX} {p m k : Nat} (hp : p < 6) (hk : k < 10 ∨ k = 100) : ygdel C p m k = C k := by rw [ygdel, ylcL_lo (by omega), ydl_lo hp hk]
theorem yup_lo {F : IX → Nat → Bool} {p j k : Nat} (hp : p < 6) {C : IX} (hk : k < 10 ∨ k = 100) : ∀ n, (yup F p j C n).1 k = C k
  | 0 => rfl
  | n + 1 => by
    have ih := yup_lo (F := F) (j := j) hp (C := C) hk n
    rcases h2 : yup F p j C n with ⟨E, c⟩
    rw [h2] at ih
    dsimp only at ih
    cases h3 : F E (j + n) with
    | true =>
      rw [yup_t h2 h3]
      dsimp only
      exact (ygdel_lo (C := E) hp hk).trans ih
    | false => rw [yup_f h2 h3]; exact ih

def yfil (g : Nat → Int32) (k : Nat) (x : Int32) : Nat → Int32 := fun j => if j < k then x else g j
theorem yfil_0 (g : Nat → Int32) (x : Int32) : yfil g 0 x = g := by funext j; simp [yfil]
theorem yfil_s (g : Nat → Int32) (k : Nat) (x : Int32) : upd (yfil g k x) k x = yfil g (k + 1) x := by
  funext j
  simp only [upd_at, yfil]
  by_cases h : j = k
  · subst h; rw [if_pos rfl, if_pos (by omega)]
  · rw [if_neg h]
    by_cases h2 : j < k
    · rw [if_pos h2, if_pos (by omega)]
    · rw [if_neg h2, if_neg (by omega)]
def yus (x y : Int32) : Int32 := (x.toUInt32 >>> (y.toUInt32 &&& Int32.toUInt32 31)).toInt32
def ybc1 (x : Int32) : Int32 := x - (yus x (nI 1) &&& 1431655765)
def ybc2 (x : Int32) : Int32 := (ybc1 x &&& 858993459) + (yus (ybc1 x) (nI 2) &&& 858993459)
def ybc3 (x : Int32) : Int32 := (ybc2 x + yus (ybc2 x) (nI 4)) &&& 252645135
def ybc4 (x : Int32) : Int32 := ybc3 x + yus (ybc3 x) (nI 8)
def ybc5 (x : Int32) : Int32 := ybc4 x + yus (ybc4 x) (nI 16)
def ybc (x : Int32) : Int32 := ybc5 x &&& nI 63

section MD
variable {l : Launch} {D : va_G} {cy sa sv : Nat → Nat}
set_option maxRecDepth 20000 in
theorem ct_J6_bitCount_0f7a4 (hst : l.stackTraces = false) (σ : SH) (I X : IX) (x : Int32) : Ct l D cy sa sv yJ6_bitCount_0f7a4 cJ6_bitCount_0f7a4 1 (some .int) 0 0 0 [.int x] σ I X (pR (some (.int (ybc x))) σ I X) noX := by
  refine Ct.of (by decide) hst (Nat.le_of_ble_eq_true rfl) ?_
  intro pp ee ss mm args below meth kc A hF hnm hout
  refine V.iload_n hF dJ6_bitCount_0f7a4_0 rfl ?_
  refine V.iload_n hF dJ6_bitCount_0f7a4_1 rfl ?_
  refine V.iconst (v := nI 1) hF dJ6_bitCount_0f7a4_2 (by decide) ?_
  refine V.iushr hF dJ6_bitCount_0f7a4_3 ?_
  refine V.ldcw hF dJ6_bitCount_0f7a4_4 kc_265 ?_
  refine V.iand hF dJ6_bitCount_0f7a4_7 ?_
  refine V.isub hF dJ6_bitCount_0f7a4_8 ?_
  refine V.istore_n hF dJ6_bitCount_0f7a4_9 (by decide) ?_
  refine V.iload_n hF dJ6_bitCount_0f7a4_10 rfl ?_
  refine V.ldcw hF dJ6_bitCount_0f7a4_11 kc_266 ?_
  refine V.iand hF dJ6_bitCount_0f7a4_14 ?_
  refine V.iload_n hF dJ6_bitCount_0f7a4_15 rfl ?_
  refine V.iconst (v := nI 2) hF dJ6_bitCount_0f7a4_16 (by decide) ?_
  refine V.iushr hF dJ6_bitCount_0f7a4_17 ?_
  refine V.ldcw hF dJ6_bitCount_0f7a4_18 kc_266 ?_
  refine V.iand hF dJ6_bitCount_0f7a4_21 ?_
  refine V.iadd hF dJ6_bitCount_0f7a4_22 ?_
  refine V.istore_n hF dJ6_bitCount_0f7a4_23 (by decide) ?_
  refine V.iload_n hF dJ6_bitCount_0f7a4_24 rfl ?_
  refine V.iload_n hF dJ6_bitCount_0f7a4_25 rfl ?_
  refine V.iconst (v := nI 4) hF dJ6_bitCount_0f7a4_26 (by decide) ?_
  refine V.iushr hF dJ6_bitCount_0f7a4_27 ?_
  refine V.iadd hF dJ6_bitCount_0f7a4_28 ?_
  refine V.ldcw hF dJ6_bitCount_0f7a4_29 kc_267 ?_
  refine V.iand hF dJ6_bitCount_0f7a4_32 ?_
  refine V.istore_n hF dJ6_bitCount_0f7a4_33 (by decide) ?_
  refine V.iload_n hF dJ6_bitCount_0f7a4_34 rfl ?_
  refine V.iload_n hF dJ6_bitCount_0f7a4_35 rfl ?_
  refine V.bipush (v := nI 8) hF dJ6_bitCount_0f7a4_36 (by decide) ?_
  refine V.iushr hF dJ6_bitCount_0f7a4_38 ?_
  refine V.iadd hF dJ6_bitCount_0f7a4_39 ?_
  refine V.istore_n hF dJ6_bitCount_0f7a4_40 (by decide) ?_
  refine V.iload_n hF dJ6_bitCount_0f7a4_41 rfl ?_
  refine V.iload_n hF dJ6_bitCount_0f7a4_42 rfl ?_
  refine V.bipush (v := nI 16) hF dJ6_bitCount_0f7a4_43 (by decide) ?_
  refine V.iushr hF dJ6_bitCount_0f7a4_45 ?_
  refine V.iadd hF dJ6_bitCount_0f7a4_46 ?_
  refine V.istore_n hF dJ6_bitCount_0f7a4_47 (by decide) ?_
  refine V.iload_n hF dJ6_bitCount_0f7a4_48 rfl ?_
  refine V.bipush (v := nI 63) hF dJ6_bitCount_0f7a4_49 (by decide) ?_
  refine V.iand hF dJ6_bitCount_0f7a4_51 ?_
  refine V.iret hF dJ6_bitCount_0f7a4_52 (Nat.le_refl _) (Nat.le_refl _) ?_
  exact pR.i rfl
set_option maxRecDepth 20000 in
theorem ct_J7_fill_53178 (hst : l.stackTraces = false) (σ : SH) (I X : IX) (a n : Nat) (hm : a ∈ shL σ) (hK : shK σ a = 11) (hn : shN σ a = n) (hs : n ≤ 4486) (g : Nat → Int32) (hX : X a = g) (x : Int32) : Ct l D cy sa sv yJ7_fill_53178 cJ7_fill_53178 4 none 0 0 0 [.ref a, .int x] σ I X (pR none σ I (va_up X a (yfil g n x))) noX := by
  refine Ct.of (by decide) hst (Nat.le_of_ble_eq_true rfl) ?_
  intro pp ee ss mm args below meth kc A hF hnm hout
  refine V.etaX a hX ?_
  refine V.iconst (v := nI 0) hF dJ7_fill_53178_0 (by decide) ?_
  refine V.istore_n hF dJ7_fill_53178_1 (by decide) ?_
  refine V.aload_n hF dJ7_fill_53178_2 rfl ?_
  refine V.arraylength hF dJ7_fill_53178_3 hm hK hn ?_
  refine V.istore_n hF dJ7_fill_53178_4 (by decide) ?_
  have L5 : ∀ (n5 : Nat) (k : Nat), n - k < n5 → k ≤ n → V pp l ee (Rm 0 0 0) ss mm args below meth kc D cy A (QM below args ss D cy A (pR none σ I (va_up X a (yfil g n x))) noX 0 0) 4 0 0 σ I (va_up X a (yfil g k x)) 5 [(0, .ref a), (1, .int x), (2, .int (nI k)), (3, .int (nI n))] [] := by
    intro n5
    induction n5 with
    | zero => intro k hlt5; exact absurd hlt5 (Nat.not_lt_zero _)
    | succ n5 ih5 =>
      intro k hlt5 hk
      refine V.iload_n hF dJ7_fill_53178_5 rfl ?_
      refine V.iload_n hF dJ7_fill_53178_6 rfl ?_
      refine V.icmp_ge (tgt := 20) hF dJ7_fill_53178_7 (by decide) (fun h7 => ?_) (fun h7 => ?_)
      · have hk6 : k = n := by have := nI_ge' h7 (by omega) (by omega); omega
        subst hk6
        refine V.vret hF dJ7_fill_53178_20 (Nat.le_refl _) (Nat.le_refl _) ?_
        exact pR.v
      · have hk6 : k < n := nI_nge h7 (by omega) (by omega)
        refine V.aload_n hF dJ7_fill_53178_10 rfl ?_
        refine V.iload_n hF dJ7_fill_53178_11 rfl ?_
        refine V.iload_n hF dJ7_fill_53178_12 rfl ?_
        refine V.iastoreU (j := k) hF dJ7_fill_53178_13 hm hK rfl ((fun h => hn ▸ h : _ < n → _ < shN σ a) (by omega)) (by omega) ?_
        refine V.iinc (v := nI (k + 1)) hF dJ7_fill_53178_14 rfl (by exact nI_1 _) (by decide) ?_
        refine V.goto (tgt := 5) hF dJ7_fill_53178_17 (by decide) ?_
        refine V.relv [0, 1, 2, 3] rfl ?_
        refine V.eqX (congrArg (va_up X a) (yfil_s g k x)) ?_
        exact ih5 (k + 1) (by omega) (by omega)
  refine V.relv [0, 1, 2, 3] rfl ?_
  refine V.eqX (congrArg (va_up X a) (yfil_0 g x).symm) ?_
  exact L5 _ 0 (Nat.lt_succ_self _) (by omega)
set_option maxRecDepth 20000 in
theorem ct_X1_greatestDepthBefore (hst : l.stackTraces = false) (σ : SH) (I X : IX) (ad : Nat → Nat) (hG : GS σ ad) (C : IX) (hC : WC C) (m : Nat) (hm : m < 150) : Ct l D cy sa sv yX1_greatestDepthBefore cX1_greatestDepthBefore 4 (some .int) 2 0 0 [.ref (ad 2), .int (nI m)] σ (put idI I ad C) (put idX X ad C) (pR (some (.int (ygdb C m m))) σ (put idI I ad C) (put idX X ad C)) noX := by
  refine Ct.of (by decide) hst (Nat.le_of_ble_eq_true rfl) ?_
  intro pp ee ss mm args below meth kc A hF hnm hout
  have hn150 := hC.n150
  refine V.iconst (v := nI 0) hF dX1_greatestDepthBefore_0 (by decide) ?_
  refine V.istore_n hF dX1_greatestDepthBefore_1 (by decide) ?_
  refine V.iconst (v := nI 0) hF dX1_greatestDepthBefore_2 (by decide) ?_
  refine V.istore_n hF dX1_greatestDepthBefore_3 (by decide) ?_
  have L4 : ∀ (n4 : Nat) (k : Nat) (g : Int32), m - k < n4 → k ≤ m → g = ygdb C m k → V pp l ee (Rm 2 0 0) ss mm args below meth kc D cy A (QM below args ss D cy A (pR (some (.int (ygdb C m m))) σ (put idI I ad C) (put idX X ad C)) noX 0 0) 4 0 0 σ (put idI I ad C) (put idX X ad C) 4 [(0, .ref (ad 2)), (1, .int (nI m)), (2, .int g), (3, .int (nI k))] [] := by
    intro n4
    induction n4 with
    | zero => intro k g hlt4; exact absurd hlt4 (Nat.not_lt_zero _)
    | succ n4 ih4 =>
      intro k g hlt4 hk hg
      refine V.iload_n hF dX1_greatestDepthBefore_4 rfl ?_
      refine V.iload_n hF dX1_greatestDepthBefore_5 rfl ?_
      refine V.icmp_ge (tgt := 35) hF dX1_greatestDepthBefore_6 (by decide) (fun h6 => ?_) (fun h6 => ?_)
      · have hk6 : k = m := by have := nI_ge' h6 (by omega) (by omega); omega
        subst hk6
        refine V.iload_n hF dX1_greatestDepthBefore_35 rfl ?_
        refine V.iret hF dX1_greatestDepthBefore_36 (Nat.le_refl _) (Nat.le_refl _) ?_
        exact pR.i hg
      · have hk6 : k < m := nI_nge h6 (by omega) (by omega)
        refine V.aload_n hF dX1_greatestDepthBefore_9 rfl ?_
        refine V.iload_n hF dX1_greatestDepthBefore_10 rfl ?_
        refine V.iload_n hF dX1_greatestDepthBefore_11 rfl ?_
        refine V.vI hF dX1_greatestDepthBefore_12 (ct_X1_precedes hst _ _ _ _ hG _ hC k m (by omega) (by omega)) lk_X1_53 sl_X1_precedes hG.m.1 hG.m.2 rfl (Nat.le_of_ble_eq_true rfl) (fit_of rfl) (Nat.le_of_ble_eq_true rfl) rfl ?_
        refine V.if_eqB (tgt := 29) hF dX1_greatestDepthBefore_15 (by decide) (fun h15 => ?_) (fun h15 => ?_)
        · refine V.iinc (v := nI (k + 1)) hF dX1_greatestDepthBefore_29 rfl (by exact nI_1 _) (by decide) ?_
          refine V.goto (tgt := 4) hF dX1_greatestDepthBefore_32 (by decide) ?_
          refine V.relv [0, 1, 2, 3] rfl ?_
          exact ih4 (k + 1) _ (by omega) (by omega) (by simp [ygdb, ymx, hg, *])
        · refine V.iload_n hF dX1_greatestDepthBefore_18 rfl ?_
          refine V.aload_n hF dX1_greatestDepthBefore_19 rfl ?_
          refine V.getRP (i := 8) hF dX1_greatestDepthBefore_20 fl_X1_24 hG.m rfl (hG.mr 4 (by decide)) ?_
          refine V.iload_n hF dX1_greatestDepthBefore_23 rfl ?_
          refine V.ialoadP (j := k) hF dX1_greatestDepthBefore_24 hG.a8 rfl (by omega) (by decide) hG (by decide) ?_
          refine V.mmax hF dX1_greatestDepthBefore_25 wm_57 (Nat.le_of_ble_eq_true rfl) (Nat.le_of_ble_eq_true rfl) (Nat.le_of_ble_eq_true rfl) (Nat.le_of_ble_eq_true rfl) ?_
          refine V.istore_n hF dX1_greatestDepthBefore_28 (by decide) ?_
          refine V.iinc (v := nI (k + 1)) hF dX1_greatestDepthBefore_29 rfl (by exact nI_1 _) (by decide) ?_
          refine V.goto (tgt := 4) hF dX1_greatestDepthBefore_32 (by decide) ?_
          refine V.relv [0, 1, 2, 3] rfl ?_
          exact ih4 (k + 1) _ (by omega) (by omega) (by simp [ygdb, ymx, hg, *])
  refine V.relv [0, 1, 2, 3] rfl ?_
  exact L4 _ 0 _ (Nat.lt_succ_self _) (by omega) rfl
set_option maxRecDepth 20000 in
theorem ct_X1_greatestDepth (hst : l.stackTraces = false) (σ : SH) (I X : IX) (ad : Nat → Nat) (hG : GS σ ad) (C : IX) (hC : WC C) (x : Int32) : Ct l D cy sa sv yX1_greatestDepth cX1_greatestDepth 4 (some .int) 2 0 0 [.ref (ad 2), .int x] σ (put idI I ad C) (put idX X ad C) (pR (some (.int (ygd C x (cN C 2 6)))) σ (put idI I ad C) (put idX X ad C)) noX := by
  refine Ct.of (by decide) hst (Nat.le_of_ble_eq_true rfl) ?_
  intro pp ee ss mm args below meth kc A hF hnm hout
  have hn150 := hC.n150
  refine V.iconst (v := nI 0) hF dX1_greatestDepth_0 (by decide) ?_
  refine V.istore_n hF dX1_greatestDepth_1 (by decide) ?_
  refine V.iconst (v := nI 0) hF dX1_greatestDepth_2 (by decide) ?_
  refine V.istore_n hF dX1_greatestDepth_3 (by decide) ?_
  have L4 : ∀ (n4 : Nat) (k : Nat) (g : Int32), cN C 2 6 - k < n4 → k ≤ cN C 2 6 → g = ygd C x k → V pp l ee (Rm 2 0 0) ss mm args below meth kc D cy A (QM below args ss D cy A (pR (some (.int (ygd C x (cN C 2 6)))) σ (put idI I ad C) (put idX X ad C)) noX 0 0) 4 0 0 σ (put idI I ad C) (put idX X ad C) 4 [(0, .ref (ad 2)), (1, .int x), (2, .int g), (3, .int (nI k))] [] := by
    intro n4
    induction n4 with
    | zero => intro k g hlt4; exact absurd hlt4 (Nat.not_lt_zero _)
    | succ n4 ih4 =>
      intro k g hlt4 hk hg
      refine V.iload_n hF dX1_greatestDepth_4 rfl ?_
      refine V.aload_n hF dX1_greatestDepth_5 rfl ?_
      refine V.getIP hF dX1_greatestDepth_6 fl_X1_30 hG.m rfl hG (by decide) ?_
      refine V.topi (y := nI (cN C 2 6)) hC.n ?_
      refine V.icmp_ge (tgt := 39) hF dX1_greatestDepth_9 (by decide) (fun h9 => ?_) (fun h9 => ?_)
      · have hk6 : k = cN C 2 6 := by have := nI_ge' h9 (by omega) (by omega); omega
        subst hk6
        refine V.iload_n hF dX1_greatestDepth_39 rfl ?_
        refine V.iret hF dX1_greatestDepth_40 (Nat.le_refl _) (Nat.le_refl _) ?_
        exact pR.i hg
      · have hk6 : k < cN C 2 6 := nI_nge h9 (by omega) (by omega)
        refine V.aload_n hF dX1_greatestDepth_12 rfl ?_
        refine V.getRP (i := 6) hF dX1_greatestDepth_13 fl_X1_18 hG.m rfl (hG.mr 2 (by decide)) ?_
        refine V.iload_n hF dX1_greatestDepth_16 rfl ?_
        refine V.ialoadP (j := k) hF dX1_greatestDepth_17 hG.a6 rfl (by omega) (by decide) hG (by decide) ?_
        refine V.iload_n hF dX1_greatestDepth_18 rfl ?_
        refine V.icmp_ne (tgt := 33) hF dX1_greatestDepth_19 (by decide) (fun h19 => ?_) (fun h19 => ?_)
        · refine V.iinc (v := nI (k + 1)) hF dX1_greatestDepth_33 rfl (by exact nI_1 _) (by decide) ?_
          refine V.goto (tgt := 4) hF dX1_greatestDepth_36 (by decide) ?_
          refine V.relv [0, 1, 2, 3] rfl ?_
          exact ih4 (k + 1) _ (by omega) (by omega) (by simp [ygd, ymx, hg, *])
        · refine V.iload_n hF dX1_greatestDepth_22 rfl ?_
          refine V.aload_n hF dX1_greatestDepth_23 rfl ?_
          refine V.getRP (i := 8) hF dX1_greatestDepth_24 fl_X1_24 hG.m rfl (hG.mr 4 (by decide)) ?_
          refine V.iload_n hF dX1_greatestDepth_27 rfl ?_
          refine V.ialoadP (j := k) hF dX1_greatestDepth_28 hG.a8 rfl (by omega) (by decide) hG (by decide) ?_
          refine V.mmax hF dX1_greatestDepth_29 wm_57 (Nat.le_of_ble_eq_true rfl) (Nat.le_of_ble_eq_true rfl) (Nat.le_of_ble_eq_true rfl) (Nat.le_of_ble_eq_true rfl) ?_
          refine V.istore_n hF dX1_greatestDepth_32 (by decide) ?_
          refine V.iinc (v := nI (k + 1)) hF dX1_greatestDepth_33 rfl (by exact nI_1 _) (by decide) ?_
          refine V.goto (tgt := 4) hF dX1_greatestDepth_36 (by decide) ?_
          refine V.relv [0, 1, 2, 3] rfl ?_
          exact ih4 (k + 1) _ (by omega) (by omega) (by simp [ygd, ymx, hg, *])
  refine V.relv [0, 1, 2, 3] rfl ?_
  exact L4 _ 0 _ (Nat.lt_succ_self _) (by omega) rfl
set_option maxRecDepth 20000 in
theorem ct_X2_learnFromClock (hst : l.stackTraces = false) (σ : SH) (I X : IX) (ad : Nat → Nat) (hG : GS σ ad) (C : IX) (hC : WC C) (p : Nat) (hp : p < 6) (m : Nat) (hm : m < 150) : Ct l D cy sa sv yX2_learnFromClock cX2_learnFromClock 6 none 1 0 0 [.ref (ad (10 + p)), .ref (ad 2), .int (nI m)] σ (put idI I ad C) (put idX X ad C) (pR none σ (put idI I ad (ylcL C p m 6)) (put idX X ad (ylcL C p m 6))) noX := by
  refine Ct.of (by decide) hst (Nat.le_of_ble_eq_true rfl) ?_
  intro pp ee ss mm args below meth kc A hF hnm hout
  have hs6 := hC.s6 hm
  refine V.aload_n hF dX2_learnFromClock_0 rfl ?_
  refine V.getRP (i := 4) hF dX2_learnFromClock_1 fl_X2_44 hG.m rfl (hG.mr 0 (by decide)) ?_
  refine V.iload_n hF dX2_learnFromClock_4 rfl ?_
  refine V.ialoadP (j := m) hF dX2_learnFromClock_5 hG.a4 rfl (by omega) (by decide) hG (by decide) ?_
  refine V.topi (y := nI (cN C 4 m)) (hC.s hm) ?_
  refine V.bipush (v := nI 6) hF dX2_learnFromClock_6 (by decide) ?_
  refine V.imul hF dX2_learnFromClock_8 ?_
  refine V.topi (y := nI ((cN C 4 m) * 6)) (by simp only [nI_add, pk_mul, Nat.zero_add, Nat.add_zero]) ?_
  refine V.istore_n hF dX2_learnFromClock_9 (by decide) ?_
  refine V.iconst (v := nI 0) hF dX2_learnFromClock_10 (by decide) ?_
  refine V.istore hF dX2_learnFromClock_11 (by decide) ?_
  have L13 : ∀ (n13 : Nat) (q : Nat) (E : IX), 6 - q < n13 → q ≤ 6 → ylcL C p m q = E → V pp l ee (Rm 1 0 0) ss mm args below meth kc D cy A (QM below args ss D cy A (pR none σ (put idI I ad (ylcL C p m 6)) (put idX X ad (ylcL C p m 6))) noX 0 0) 6 0 0 σ (put idI I ad E) (put idX X ad E) 13 [(0, .ref (ad (10 + p))), (1, .ref (ad 2)), (2, .int (nI m)), (3, .int (nI ((cN C 4 m) * 6))), (4, .int (nI q))] [] := by
    intro n13
    induction n13 with
    | zero => intro q E hlt13; exact absurd hlt13 (Nat.not_lt_zero _)
    | succ n13 ih13 =>
      intro q E hlt13 hq hE
      refine V.iload hF dX2_learnFromClock_13 rfl ?_
      refine V.bipush (v := nI 6) hF dX2_learnFromClock_15 (by decide) ?_
      refine V.icmp_ge (tgt := 60) hF dX2_learnFromClock_17 (by decide) (fun h17 => ?_) (fun h17 => ?_)
      · have hq6 : q = 6 := by have := nI_ge' h17 (by omega) (by omega); omega
        subst hq6
        refine V.vret hF dX2_learnFromClock_60 (Nat.le_refl _) (Nat.le_refl _) ?_
        subst hE
        exact pR.v
      · have hq6 : q < 6 := nI_nge h17 (by omega) (by omega)
        refine V.aload_n hF dX2_learnFromClock_20 rfl ?_
        refine V.iload_n hF dX2_learnFromClock_21 rfl ?_
        refine V.iload hF dX2_learnFromClock_22 rfl ?_
        refine V.vI hF dX2_learnFromClock_24 (ct_X1_entry hst _ _ _ _ hG _ m q (by omega) (by omega)) lk_X2_60 sl_X1_entry hG.m.1 hG.m.2 rfl (Nat.le_of_ble_eq_true rfl) (fit_of rfl) (Nat.le_of_ble_eq_true rfl) rfl ?_
        refine V.istore hF dX2_learnFromClock_27 (by decide) ?_
        refine V.iload hF dX2_learnFromClock_29 rfl ?_
        refine V.aload_n hF dX2_learnFromClock_31 rfl ?_
        refine V.getRP (i := (40 + p)) hF dX2_learnFromClock_32 fl_X2_18 (hG.rp hp) rfl (hG.p3 hp) ?_
        refine V.iload_n hF dX2_learnFromClock_35 rfl ?_
        refine V.iload hF dX2_learnFromClock_36 rfl ?_
        refine V.iadd hF dX2_learnFromClock_38 ?_
        refine V.ialoadP (j := (((cN C 4 m) * 6) + q)) hF dX2_learnFromClock_39 (hG.at hp) (by simp only [nI_add, pk_mul, Nat.zero_add, Nat.add_zero]) (by omega) (by decide) hG (mem_tb hp) ?_
        refine V.icmp_le (tgt := 54) hF dX2_learnFromClock_40 (by decide) (fun h40 => ?_) (fun h40 => ?_)
        · refine V.iinc (v := nI (q + 1)) hF dX2_learnFromClock_54 rfl (by exact nI_1 _) (by decide) ?_
          refine V.goto (tgt := 13) hF dX2_learnFromClock_57 (by decide) ?_
          refine V.relv [0, 1, 2, 3, 4] rfl ?_
          exact ih13 (q + 1) _ (by omega) (by omega) (by first | exact ylcL_t hE h40 | exact ylcL_f hE h40)
        · refine V.aload_n hF dX2_learnFromClock_43 rfl ?_
          refine V.getRP (i := (40 + p)) hF dX2_learnFromClock_44 fl_X2_18 (hG.rp hp) rfl (hG.p3 hp) ?_
          refine V.iload_n hF dX2_learnFromClock_47 rfl ?_
          refine V.iload hF dX2_learnFromClock_48 rfl ?_
          refine V.iadd hF dX2_learnFromClock_50 ?_
          refine V.iload hF dX2_learnFromClock_51 rfl ?_
          refine V.iastoreP (j := (((cN C 4 m) * 6) + q)) hF dX2_learnFromClock_53 (hG.at hp) (by simp only [nI_add, pk_mul, Nat.zero_add, Nat.add_zero]) (by omega) (by decide) hG (mem_tb hp) ?_
          refine V.iinc (v := nI (q + 1)) hF dX2_learnFromClock_54 rfl (by exact nI_1 _) (by decide) ?_
          refine V.goto (tgt := 13) hF dX2_learnFromClock_57 (by decide) ?_
          refine V.relv [0, 1, 2, 3, 4] rfl ?_
          exact ih13 (q + 1) _ (by omega) (by omega) (by first | exact ylcL_t hE h40 | exact ylcL_f hE h40)
  refine V.relv [0, 1, 2, 3, 4] rfl ?_
  exact L13 _ 0 _ (Nat.lt_succ_self _) (by omega) rfl
set_option maxRecDepth 20000 in
theorem ct_X2_learnFromTable (hst : l.stackTraces = false) (σ : SH) (I X : IX) (ad : Nat → Nat) (hG : GS σ ad) (C : IX) (hC : WC C) (p : Nat) (hp : p < 6) (q : Nat) (hq : q < 6) : Ct l D cy sa sv yX2_learnFromTable cX2_learnFromTable 4 (some .int) 0 0 0 [.ref (ad (10 + p)), .ref (ad (10 + q))] σ (put idI I ad C) (put idX X ad C) (pR (some (.int ((yltL C p q 36).2))) σ (put idI I ad (yltL C p q 36).1) (put idX X ad (yltL C p q 36).1)) noX := by
  refine Ct.of (by decide) hst (Nat.le_of_ble_eq_true rfl) ?_
  intro pp ee ss mm args below meth kc A hF hnm hout
  refine V.iconst (v := nI 0) hF dX2_learnFromTable_0 (by decide) ?_
  refine V.istore_n hF dX2_learnFromTable_1 (by decide) ?_
  refine V.iconst (v := nI 0) hF dX2_learnFromTable_2 (by decide) ?_
  refine V.istore_n hF dX2_learnFromTable_3 (by decide) ?_
  have L4 : ∀ (n4 : Nat) (i : Nat) (E : IX) (c : Int32), 36 - i < n4 → i ≤ 36 → yltL C p q i = (E, c) → V pp l ee (Rm 0 0 0) ss mm args below meth kc D cy A (QM below args ss D cy A (pR (some (.int ((yltL C p q 36).2))) σ (put idI I ad (yltL C p q 36).1) (put idX X ad (yltL C p q 36).1)) noX 0 0) 4 0 0 σ (put idI I ad E) (put idX X ad E) 4 [(0, .ref (ad (10 + p))), (1, .ref (ad (10 + q))), (2, .int c), (3, .int (nI i))] [] := by
    intro n4
    induction n4 with
    | zero => intro i E c hlt4; exact absurd hlt4 (Nat.not_lt_zero _)
    | succ n4 ih4 =>
      intro i E c hlt4 hi hE
      refine V.iload_n hF dX2_learnFromTable_4 rfl ?_
      refine V.bipush (v := nI 36) hF dX2_learnFromTable_5 (by decide) ?_
      refine V.icmp_ge (tgt := 57) hF dX2_learnFromTable_7 (by decide) (fun h7 => ?_) (fun h7 => ?_)
      · have hi6 : i = 36 := by have := nI_ge' h7 (by omega) (by omega); omega
        subst hi6
        refine V.iload_n hF dX2_learnFromTable_57 rfl ?_
        refine V.iret hF dX2_learnFromTable_58 (Nat.le_refl _) (Nat.le_refl _) ?_
        rw [hE]
        exact pR.i rfl
      · have hi6 : i < 36 := nI_nge h7 (by omega) (by omega)
        refine V.iload_n hF dX2_learnFromTable_10 rfl ?_
        refine V.bipush (v := nI 6) hF dX2_learnFromTable_11 (by decide) ?_
        refine V.idiv hF dX2_learnFromTable_13 (by decide) ?_
        refine V.topi (y := nI (i / 6)) (pk_div (by omega) (by omega) (by omega)) ?_
        refine V.aload_n hF dX2_learnFromTable_14 rfl ?_
        refine V.getIP hF dX2_learnFromTable_15 fl_X2_28 (hG.rp hp) rfl hG (mem_rp hp) ?_
        refine V.topi (y := nI p) (by rw [show E (10 + p) = C (10 + p) by have := yltL_lo (C := C) (p := p) (p2 := q) (k := 10 + p) (by omega) i; rw [hE] at this; exact this]; exact hC.self hp) ?_
        refine V.icmp_eq (tgt := 51) hF dX2_learnFromTable_18 (by decide) (fun h18 => ?_) (fun h18 => ?_)
        · have hip : i / 6 = p := nI_eq' h18 (by omega) (by omega)
          have hz := yltL_t hE (Or.inl hip)
          refine V.iinc (v := nI (i + 1)) hF dX2_learnFromTable_51 rfl (by exact nI_1 _) (by decide) ?_
          refine V.goto (tgt := 4) hF dX2_learnFromTable_54 (by decide) ?_
          refine V.relv [0, 1, 2, 3] rfl ?_
          exact ih4 (i + 1) _ _ (by omega) (by omega) hz
        · have hip := nI_ne h18
          refine V.aload_n hF dX2_learnFromTable_21 rfl ?_
          refine V.getRP (i := (40 + q)) hF dX2_learnFromTable_22 fl_X2_18 (hG.rp hq) rfl (hG.p3 hq) ?_
          refine V.iload_n hF dX2_learnFromTable_25 rfl ?_
          refine V.ialoadP (j := i) hF dX2_learnFromTable_26 (hG.at hq) rfl (by omega) (by decide) hG (mem_tb hq) ?_
          refine V.aload_n hF dX2_learnFromTable_27 rfl ?_
          refine V.getRP (i := (40 + p)) hF dX2_learnFromTable_28 fl_X2_18 (hG.rp hp) rfl (hG.p3 hp) ?_
          refine V.iload_n hF dX2_learnFromTable_31 rfl ?_
          refine V.ialoadP (j := i) hF dX2_learnFromTable_32 (hG.at hp) rfl (by omega) (by decide) hG (mem_tb hp) ?_
          refine V.icmp_le (tgt := 51) hF dX2_learnFromTable_33 (by decide) (fun h33 => ?_) (fun h33 => ?_)
          · have hz := yltL_t hE (Or.inr h33)
            refine V.iinc (v := nI (i + 1)) hF dX2_learnFromTable_51 rfl (by exact nI_1 _) (by decide) ?_
            refine V.goto (tgt := 4) hF dX2_learnFromTable_54 (by decide) ?_
            refine V.relv [0, 1, 2, 3] rfl ?_
            exact ih4 (i + 1) _ _ (by omega) (by omega) hz
          · have hz := yltL_f hE hip h33
            refine V.aload_n hF dX2_learnFromTable_36 rfl ?_
            refine V.getRP (i := (40 + p)) hF dX2_learnFromTable_37 fl_X2_18 (hG.rp hp) rfl (hG.p3 hp) ?_
            refine V.iload_n hF dX2_learnFromTable_40 rfl ?_
            refine V.aload_n hF dX2_learnFromTable_41 rfl ?_
            refine V.getRP (i := (40 + q)) hF dX2_learnFromTable_42 fl_X2_18 (hG.rp hq) rfl (hG.p3 hq) ?_
            refine V.iload_n hF dX2_learnFromTable_45 rfl ?_
            refine V.ialoadP (j := i) hF dX2_learnFromTable_46 (hG.at hq) rfl (by omega) (by decide) hG (mem_tb hq) ?_
            refine V.iastoreP (j := i) hF dX2_learnFromTable_47 (hG.at hp) rfl (by omega) (by decide) hG (mem_tb hp) ?_
            refine V.iinc hF dX2_learnFromTable_48 rfl (iinc1 _) (by decide) ?_
            refine V.iinc (v := nI (i + 1)) hF dX2_learnFromTable_51 rfl (by exact nI_1 _) (by decide) ?_
            refine V.goto (tgt := 4) hF dX2_learnFromTable_54 (by decide) ?_
            refine V.relv [0, 1, 2, 3] rfl ?_
            exact ih4 (i + 1) _ _ (by omega) (by omega) hz
  refine V.relv [0, 1, 2, 3] rfl ?_
  exact L4 _ 0 _ _ (Nat.lt_succ_self _) (by omega) rfl
set_option maxRecDepth 20000 in
theorem ct_X2_countShared (hst : l.stackTraces = false) (σ : SH) (I X : IX) (ad : Nat → Nat) (hG : GS σ ad) (C : IX) (hC : WC C) (p : Nat) (hp : p < 6) (q : Nat) (hq : q < 6) : Ct l D cy sa sv yX2_countShared cX2_countShared 4 (some .int) 1 0 0 [.ref (ad (10 + p)), .ref (ad (10 + q))] σ (put idI I ad C) (put idX X ad C) (pR (some (.int (nI (zcB (yshF C p q) (cN C (10 + p) 4))))) σ (put idI I ad C) (put idX X ad C)) noX := by
  refine Ct.of (by decide) hst (Nat.le_of_ble_eq_true rfl) ?_
  intro pp ee ss mm args below meth kc A hF hnm hout
  have hl150 := hC.l150 hp
  refine V.iconst (v := nI 0) hF dX2_countShared_0 (by decide) ?_
  refine V.istore_n hF dX2_countShared_1 (by decide) ?_
  refine V.iconst (v := nI 0) hF dX2_countShared_2 (by decide) ?_
  refine V.istore_n hF dX2_countShared_3 (by decide) ?_
  have L4 : ∀ (n4 : Nat) (k c : Nat), cN C (10 + p) 4 - k < n4 → k ≤ cN C (10 + p) 4 → c = zcB (yshF C p q) k → V pp l ee (Rm 1 0 0) ss mm args below meth kc D cy A (QM below args ss D cy A (pR (some (.int (nI (zcB (yshF C p q) (cN C (10 + p) 4))))) σ (put idI I ad C) (put idX X ad C)) noX 0 0) 4 0 0 σ (put idI I ad C) (put idX X ad C) 4 [(0, .ref (ad (10 + p))), (1, .ref (ad (10 + q))), (2, .int (nI c)), (3, .int (nI k))] [] := by
    intro n4
    induction n4 with
    | zero => intro k c hlt4; exact absurd hlt4 (Nat.not_lt_zero _)
    | succ n4 ih4 =>
      intro k c hlt4 hk hc
      refine V.iload_n hF dX2_countShared_4 rfl ?_
      refine V.aload_n hF dX2_countShared_5 rfl ?_
      refine V.getIP hF dX2_countShared_6 fl_X2_21 (hG.rp hp) rfl hG (mem_rp hp) ?_
      refine V.topi (y := nI (cN C (10 + p) 4)) (hC.l hp) ?_
      refine V.icmp_ge (tgt := 34) hF dX2_countShared_9 (by decide) (fun h9 => ?_) (fun h9 => ?_)
      · have hk6 : k = cN C (10 + p) 4 := by have := nI_ge' h9 (by omega) (by omega); omega
        subst hk6
        refine V.iload_n hF dX2_countShared_34 rfl ?_
        refine V.iret hF dX2_countShared_35 (Nat.le_refl _) (Nat.le_refl _) ?_
        exact pR.i (by rw [hc])
      · have hk6 : k < cN C (10 + p) 4 := nI_nge h9 (by omega) (by omega)
        have hg150 := hC.g150 hp (show k < 150 by omega)
        refine V.aload_n hF dX2_countShared_12 rfl ?_
        refine V.aload_n hF dX2_countShared_13 rfl ?_
        refine V.getRP (i := (20 + p)) hF dX2_countShared_14 fl_X2_9 (hG.rp hp) rfl (hG.p1 hp) ?_
        refine V.iload_n hF dX2_countShared_17 rfl ?_
        refine V.ialoadP (j := k) hF dX2_countShared_18 (hG.al hp) rfl (by omega) (by decide) hG (mem_lg hp) ?_
        refine V.topi (y := nI (cN C (20 + p) k)) (hC.g hp (by omega)) ?_
        refine V.vI hF dX2_countShared_19 (ct_X2_hasLogged hst _ _ _ _ hG _ q hq (cN C (20 + p) k) (by omega)) lk_X2_49 sl_X2_hasLogged (hG.rp hq).1 (hG.rp hq).2 rfl (Nat.le_of_ble_eq_true rfl) (fit_of rfl) (Nat.le_of_ble_eq_true rfl) rfl ?_
        refine V.if_eqB (tgt := 28) hF dX2_countShared_22 (by decide) (fun h22 => ?_) (fun h22 => ?_)
        · refine V.iinc (v := nI (k + 1)) hF dX2_countShared_28 rfl (by exact nI_1 _) (by decide) ?_
          refine V.goto (tgt := 4) hF dX2_countShared_31 (by decide) ?_
          refine V.relv [0, 1, 2, 3] rfl ?_
          exact ih4 (k + 1) _ (by omega) (by omega) (by simp [zcB, yshF, hc, *])
        · refine V.iinc (v := nI (c + 1)) hF dX2_countShared_25 rfl (by exact nI_1 _) (by decide) ?_
          refine V.iinc (v := nI (k + 1)) hF dX2_countShared_28 rfl (by exact nI_1 _) (by decide) ?_
          refine V.goto (tgt := 4) hF dX2_countShared_31 (by decide) ?_
          refine V.relv [0, 1, 2, 3] rfl ?_
          exact ih4 (k + 1) _ (by omega) (by omega) (by simp [zcB, yshF, hc, *])
  refine V.relv [0, 1, 2, 3] rfl ?_
  exact L4 _ 0 0 (Nat.lt_succ_self _) (by omega) rfl
set_option maxRecDepth 20000 in
theorem ct_X0_members (hst : l.stackTraces = false) (σ : SH) (I X : IX) (ad : Nat → Nat) (hG : GS σ ad) (C : IX) (hC : WC C) : Ct l D cy sa sv yX0_members cX0_members 1 (some .int) 0 0 0 [.ref (ad 100)] σ (put idI I ad C) (put idX X ad C) (pR (some (.int (ymem C))) σ (put idI I ad C) (put idX X ad C)) noX := by
  refine Ct.of (by decide) hst (Nat.le_of_ble_eq_true rfl) ?_
  intro pp ee ss mm args below meth kc A hF hnm hout
  have hv20 := hC.vw20
  refine V.aload_n hF dX0_members_0 rfl ?_
  refine V.getRP (i := 0) hF dX0_members_1 fl_X0_9 hG.g rfl hG.r0 ?_
  refine V.aload_n hF dX0_members_4 rfl ?_
  refine V.getIP hF dX0_members_5 fl_X0_31 hG.g rfl hG (by decide) ?_
  refine V.topi (y := nI (cN C 100 4)) hC.vw ?_
  refine V.ialoadP (j := (cN C 100 4)) hF dX0_members_8 hG.a0 rfl (by omega) (by decide) hG (by decide) ?_
  refine V.iret hF dX0_members_9 (Nat.le_refl _) (Nat.le_refl _) ?_
  exact pR.i rfl
set_option maxRecDepth 20000 in
theorem ct_X0_isMember (hst : l.stackTraces = false) (σ : SH) (I X : IX) (ad : Nat → Nat) (hG : GS σ ad) (C : IX) (hC : WC C) (x : Int32) : Ct l D cy sa sv yX0_isMember cX0_isMember 2 (some .boolean) 1 0 0 [.ref (ad 100), .int x] σ (put idI I ad C) (put idX X ad C) (pR (some (.int (bI (yisM C x)))) σ (put idI I ad C) (put idX X ad C)) noX := by
  refine Ct.of (by decide) hst (Nat.le_of_ble_eq_true rfl) ?_
  intro pp ee ss mm args below meth kc A hF hnm hout
  refine V.iload_n hF dX0_isMember_0 rfl ?_
  refine V.sI hF dX0_isMember_1 (ct_X4_isProcess hst _ _ _ _) lk_X0_112 (fit_of rfl) (Nat.le_of_ble_eq_true rfl) rfl ?_
  refine V.if_eqB (tgt := 22) hF dX0_isMember_4 (by decide) (fun h4 => ?_) (fun h4 => ?_)
  · refine V.iconst (v := nI 0) hF dX0_isMember_22 (by decide) ?_
    refine V.zret hF dX0_isMember_23 (Or.inl rfl) (Nat.le_refl _) (Nat.le_refl _) ?_
    exact pR.i (by first | exact bI_e1 (by simp [yisM, *]) | exact bI_e0 (by simp [yisM, *]))
  · refine V.aload_n hF dX0_isMember_7 rfl ?_
    refine V.vI hF dX0_isMember_8 (ct_X0_members hst _ _ _ _ hG _ hC) lk_X0_115 sl_X0_members hG.g.1 hG.g.2 rfl (Nat.le_of_ble_eq_true rfl) (fit_of rfl) (Nat.le_of_ble_eq_true rfl) rfl ?_
    refine V.iload_n hF dX0_isMember_11 rfl ?_
    refine V.sI hF dX0_isMember_12 (ct_X4_contains hst _ _ _ _ _) lk_X0_118 (fit_of rfl) (Nat.le_of_ble_eq_true rfl) rfl ?_
    refine V.if_eqB (tgt := 22) hF dX0_isMember_15 (by decide) (fun h15 => ?_) (fun h15 => ?_)
    · refine V.iconst (v := nI 0) hF dX0_isMember_22 (by decide) ?_
      refine V.zret hF dX0_isMember_23 (Or.inl rfl) (Nat.le_refl _) (Nat.le_refl _) ?_
      exact pR.i (by first | exact bI_e1 (by simp [yisM, *]) | exact bI_e0 (by simp [yisM, *]))
    · refine V.iconst (v := nI 1) hF dX0_isMember_18 (by decide) ?_
      refine V.goto (tgt := 23) hF dX0_isMember_19 (by decide) ?_
      refine V.zret hF dX0_isMember_23 (Or.inr rfl) (Nat.le_refl _) (Nat.le_refl _) ?_
      exact pR.i (by first | exact bI_e1 (by simp [yisM, *]) | exact bI_e0 (by simp [yisM, *]))
set_option maxRecDepth 20000 in
theorem ct_X0_canEnter (hst : l.stackTraces = false) (σ : SH) (I X : IX) (ad : Nat → Nat) (hG : GS σ ad) (C : IX) (x : Int32) : Ct l D cy sa sv yX0_canEnter cX0_canEnter 2 (some .boolean) 1 0 0 [.ref (ad 100), .int x] σ (put idI I ad C) (put idX X ad C) (pR (some (.int (bI (zPr x && !zbit (C 100 5) x)))) σ (put idI I ad C) (put idX X ad C)) noX := by
  refine Ct.of (by decide) hst (Nat.le_of_ble_eq_true rfl) ?_
  intro pp ee ss mm args below meth kc A hF hnm hout
  refine V.iload_n hF dX0_canEnter_0 rfl ?_
  refine V.sI hF dX0_canEnter_1 (ct_X4_isProcess hst _ _ _ _) lk_X0_112 (fit_of rfl) (Nat.le_of_ble_eq_true rfl) rfl ?_
  refine V.if_eqB (tgt := 22) hF dX0_canEnter_4 (by decide) (fun h4 => ?_) (fun h4 => ?_)
  · refine V.iconst (v := nI 0) hF dX0_canEnter_22 (by decide) ?_
    refine V.zret hF dX0_canEnter_23 (Or.inl rfl) (Nat.le_refl _) (Nat.le_refl _) ?_
    exact pR.i (by first | exact bI_e1 (by simp [Bool.and_true, *]) | exact bI_e0 (by simp [Bool.and_true, *]))
  · refine V.aload_n hF dX0_canEnter_7 rfl ?_
    refine V.getIP hF dX0_canEnter_8 fl_X0_35 hG.g rfl hG (by decide) ?_
    refine V.iload_n hF dX0_canEnter_11 rfl ?_
    refine V.sI hF dX0_canEnter_12 (ct_X4_contains hst _ _ _ _ _) lk_X0_118 (fit_of rfl) (Nat.le_of_ble_eq_true rfl) rfl ?_
    refine V.if_neB (tgt := 22) hF dX0_canEnter_15 (by decide) (fun h15 => ?_) (fun h15 => ?_)
    · refine V.iconst (v := nI 0) hF dX0_canEnter_22 (by decide) ?_
      refine V.zret hF dX0_canEnter_23 (Or.inl rfl) (Nat.le_refl _) (Nat.le_refl _) ?_
      exact pR.i (by first | exact bI_e1 (by simp [Bool.and_true, *]) | exact bI_e0 (by simp [Bool.and_true, *]))
    · refine V.iconst (v := nI 1) hF dX0_canEnter_18 (by decide) ?_
      refine V.goto (tgt := 23) hF dX0_canEnter_19 (by decide) ?_
      refine V.zret hF dX0_canEnter_23 (Or.inr rfl) (Nat.le_refl _) (Nat.le_refl _) ?_
      exact pR.i (by first | exact bI_e1 (by simp [Bool.and_true, *]) | exact bI_e0 (by simp [Bool.and_true, *]))
set_option maxRecDepth 20000 in
theorem ct_X0_canQuit (hst : l.stackTraces = false) (σ : SH) (I X : IX) (ad : Nat → Nat) (hG : GS σ ad) (C : IX) (hC : WC C) (x : Int32) : Ct l D cy sa sv yX0_canQuit cX0_canQuit 2 (some .boolean) 1 0 0 [.ref (ad 100), .int x] σ (put idI I ad C) (put idX X ad C) (pR (some (.int (bI (zPr x && zbit (C 100 5) x && !decide ((ymem C &&& C 100 5) &&& ((nI 1 <<< (x &&& 31)) ^^^ (-1)) = 0))))) σ (put idI I ad C) (put idX X ad C)) noX := by
  refine Ct.of (by decide) hst (Nat.le_of_ble_eq_true rfl) ?_
  intro pp ee ss mm args below meth kc A hF hnm hout
  refine V.iload_n hF dX0_canQuit_0 rfl ?_
  refine V.sI hF dX0_canQuit_1 (ct_X4_isProcess hst _ _ _ _) lk_X0_112 (fit_of rfl) (Nat.le_of_ble_eq_true rfl) rfl ?_
  refine V.if_eqB (tgt := 40) hF dX0_canQuit_4 (by decide) (fun h4 => ?_) (fun h4 => ?_)
  · refine V.iconst (v := nI 0) hF dX0_canQuit_40 (by decide) ?_
    refine V.zret hF dX0_canQuit_41 (Or.inl rfl) (Nat.le_refl _) (Nat.le_refl _) ?_
    exact pR.i (bI_e0 (by first | (rw [h4, h15, decide_eq_true (Classical.not_not.mp h33)]; rfl) | (rw [h4, h15, decide_eq_true h33]; rfl) | (rw [h4, h15]; rfl) | (rw [h4]; rfl)))
  · refine V.aload_n hF dX0_canQuit_7 rfl ?_
    refine V.getIP hF dX0_canQuit_8 fl_X0_35 hG.g rfl hG (by decide) ?_
    refine V.iload_n hF dX0_canQuit_11 rfl ?_
    refine V.sI hF dX0_canQuit_12 (ct_X4_contains hst _ _ _ _ _) lk_X0_118 (fit_of rfl) (Nat.le_of_ble_eq_true rfl) rfl ?_
    refine V.if_eqB (tgt := 40) hF dX0_canQuit_15 (by decide) (fun h15 => ?_) (fun h15 => ?_)
    · refine V.iconst (v := nI 0) hF dX0_canQuit_40 (by decide) ?_
      refine V.zret hF dX0_canQuit_41 (Or.inl rfl) (Nat.le_refl _) (Nat.le_refl _) ?_
      exact pR.i (bI_e0 (by first | (rw [h4, h15, decide_eq_true (Classical.not_not.mp h33)]; rfl) | (rw [h4, h15, decide_eq_true h33]; rfl) | (rw [h4, h15]; rfl) | (rw [h4]; rfl)))
    · refine V.aload_n hF dX0_canQuit_18 rfl ?_
      refine V.vI hF dX0_canQuit_19 (ct_X0_members hst _ _ _ _ hG _ hC) lk_X0_115 sl_X0_members hG.g.1 hG.g.2 rfl (Nat.le_of_ble_eq_true rfl) (fit_of rfl) (Nat.le_of_ble_eq_true rfl) rfl ?_
      refine V.aload_n hF dX0_canQuit_22 rfl ?_
      refine V.getIP hF dX0_canQuit_23 fl_X0_35 hG.g rfl hG (by decide) ?_
      refine V.iand hF dX0_canQuit_26 ?_
      refine V.iconst (v := nI 1) hF dX0_canQuit_27 (by decide) ?_
      refine V.iload_n hF dX0_canQuit_28 rfl ?_
      refine V.ishl hF dX0_canQuit_29 ?_
      refine V.iconst (v := -1) hF dX0_canQuit_30 (by decide) ?_
      refine V.ixor hF dX0_canQuit_31 ?_
      refine V.iand hF dX0_canQuit_32 ?_
      refine V.if_eq (tgt := 40) hF dX0_canQuit_33 (by decide) (fun h33 => ?_) (fun h33 => ?_)
      · refine V.iconst (v := nI 0) hF dX0_canQuit_40 (by decide) ?_
        refine V.zret hF dX0_canQuit_41 (Or.inl rfl) (Nat.le_refl _) (Nat.le_refl _) ?_
        exact pR.i (bI_e0 (by first | (rw [h4, h15, decide_eq_true (Classical.not_not.mp h33)]; rfl) | (rw [h4, h15, decide_eq_true h33]; rfl) | (rw [h4, h15]; rfl) | (rw [h4]; rfl)))
      · refine V.iconst (v := nI 1) hF dX0_canQuit_36 (by decide) ?_
        refine V.goto (tgt := 41) hF dX0_canQuit_37 (by decide) ?_
        refine V.zret hF dX0_canQuit_41 (Or.inr rfl) (Nat.le_refl _) (Nat.le_refl _) ?_
        exact pR.i (bI_e1 (by rw [h4, h15, decide_eq_false h33]; rfl))
set_option maxRecDepth 20000 in
theorem ct_X0_canChangeView (hst : l.stackTraces = false) (σ : SH) (I X : IX) (ad : Nat → Nat) (hG : GS σ ad) (C : IX) : Ct l D cy sa sv yX0_canChangeView cX0_canChangeView 1 (some .boolean) 0 0 0 [.ref (ad 100)] σ (put idI I ad C) (put idX X ad C) (pR (some (.int (bI (!decide (nI 20 ≤ C 100 4))))) σ (put idI I ad C) (put idX X ad C)) noX := by
  refine Ct.of (by decide) hst (Nat.le_of_ble_eq_true rfl) ?_
  intro pp ee ss mm args below meth kc A hF hnm hout
  refine V.aload_n hF dX0_canChangeView_0 rfl ?_
  refine V.getIP hF dX0_canChangeView_1 fl_X0_31 hG.g rfl hG (by decide) ?_
  refine V.bipush (v := nI 20) hF dX0_canChangeView_4 (by decide) ?_
  refine V.icmp_ge (tgt := 13) hF dX0_canChangeView_6 (by decide) (fun h6 => ?_) (fun h6 => ?_)
  · refine V.iconst (v := nI 0) hF dX0_canChangeView_13 (by decide) ?_
    refine V.zret hF dX0_canChangeView_14 (Or.inl rfl) (Nat.le_refl _) (Nat.le_refl _) ?_
    exact pR.i (by first | exact bI_e1 (by simp [Bool.and_true, *]) | exact bI_e0 (by simp [Bool.and_true, *]))
  · refine V.iconst (v := nI 1) hF dX0_canChangeView_9 (by decide) ?_
    refine V.goto (tgt := 14) hF dX0_canChangeView_10 (by decide) ?_
    refine V.zret hF dX0_canChangeView_14 (Or.inr rfl) (Nat.le_refl _) (Nat.le_refl _) ?_
    exact pR.i (by first | exact bI_e1 (by simp [Bool.and_true, *]) | exact bI_e0 (by simp [Bool.and_true, *]))
set_option maxRecDepth 20000 in
theorem ct_X0_canSend (hst : l.stackTraces = false) (σ : SH) (I X : IX) (ad : Nat → Nat) (hG : GS σ ad) (C : IX) (hC : WC C) (x : Int32) : Ct l D cy sa sv yX0_canSend cX0_canSend 2 (some .boolean) 2 0 0 [.ref (ad 100), .int x] σ (put idI I ad C) (put idX X ad C) (pR (some (.int (bI (yisM C x && !yfull C)))) σ (put idI I ad C) (put idX X ad C)) noX := by
  refine Ct.of (by decide) hst (Nat.le_of_ble_eq_true rfl) ?_
  intro pp ee ss mm args below meth kc A hF hnm hout
  refine V.aload_n hF dX0_canSend_0 rfl ?_
  refine V.iload_n hF dX0_canSend_1 rfl ?_
  refine V.vI hF dX0_canSend_2 (ct_X0_isMember hst _ _ _ _ hG _ hC _) lk_X0_159 sl_X0_isMember hG.g.1 hG.g.2 rfl (Nat.le_of_ble_eq_true rfl) (fit_of rfl) (Nat.le_of_ble_eq_true rfl) rfl ?_
  refine V.if_eqB (tgt := 22) hF dX0_canSend_5 (by decide) (fun h5 => ?_) (fun h5 => ?_)
  · refine V.iconst (v := nI 0) hF dX0_canSend_22 (by decide) ?_
    refine V.zret hF dX0_canSend_23 (Or.inl rfl) (Nat.le_refl _) (Nat.le_refl _) ?_
    exact pR.i (by first | exact bI_e1 (by simp [Bool.and_true, *]) | exact bI_e0 (by simp [Bool.and_true, *]))
  · refine V.aload_n hF dX0_canSend_8 rfl ?_
    refine V.getRP (i := 2) hF dX0_canSend_9 fl_X0_21 hG.g rfl hG.r2 ?_
    refine V.vI hF dX0_canSend_12 (ct_X1_isFull hst _ _ _ _ hG _) lk_X0_162 sl_X1_isFull hG.m.1 hG.m.2 rfl (Nat.le_of_ble_eq_true rfl) (fit_of rfl) (Nat.le_of_ble_eq_true rfl) rfl ?_
    refine V.if_neB (tgt := 22) hF dX0_canSend_15 (by decide) (fun h15 => ?_) (fun h15 => ?_)
    · refine V.iconst (v := nI 0) hF dX0_canSend_22 (by decide) ?_
      refine V.zret hF dX0_canSend_23 (Or.inl rfl) (Nat.le_refl _) (Nat.le_refl _) ?_
      exact pR.i (by first | exact bI_e1 (by simp [Bool.and_true, *]) | exact bI_e0 (by simp [Bool.and_true, *]))
    · refine V.iconst (v := nI 1) hF dX0_canSend_18 (by decide) ?_
      refine V.goto (tgt := 23) hF dX0_canSend_19 (by decide) ?_
      refine V.zret hF dX0_canSend_23 (Or.inr rfl) (Nat.le_refl _) (Nat.le_refl _) ?_
      exact pR.i (by first | exact bI_e1 (by simp [Bool.and_true, *]) | exact bI_e0 (by simp [Bool.and_true, *]))
set_option maxRecDepth 20000 in
theorem ct_X0_canReceive (hst : l.stackTraces = false) (σ : SH) (I X : IX) (ad : Nat → Nat) (hG : GS σ ad) (C : IX) (hC : WC C) (x y : Int32) : Ct l D cy sa sv yX0_canReceive cX0_canReceive 3 (some .boolean) 2 0 0 [.ref (ad 100), .int x, .int y] σ (put idI I ad C) (put idX X ad C) (pR (some (.int (bI (yisM C x && yhas C y && !decide (y < C 100 6))))) σ (put idI I ad C) (put idX X ad C)) noX := by
  refine Ct.of (by decide) hst (Nat.le_of_ble_eq_true rfl) ?_
  intro pp ee ss mm args below meth kc A hF hnm hout
  refine V.aload_n hF dX0_canReceive_0 rfl ?_
  refine V.iload_n hF dX0_canReceive_1 rfl ?_
  refine V.vI hF dX0_canReceive_2 (ct_X0_isMember hst _ _ _ _ hG _ hC _) lk_X0_159 sl_X0_isMember hG.g.1 hG.g.2 rfl (Nat.le_of_ble_eq_true rfl) (fit_of rfl) (Nat.le_of_ble_eq_true rfl) rfl ?_
  refine V.if_eqB (tgt := 31) hF dX0_canReceive_5 (by decide) (fun h5 => ?_) (fun h5 => ?_)
  · refine V.iconst (v := nI 0) hF dX0_canReceive_31 (by decide) ?_
    refine V.zret hF dX0_canReceive_32 (Or.inl rfl) (Nat.le_refl _) (Nat.le_refl _) ?_
    exact pR.i (by first | exact bI_e1 (by simp [Bool.and_true, *]) | exact bI_e0 (by simp [Bool.and_true, *]))
  · refine V.aload_n hF dX0_canReceive_8 rfl ?_
    refine V.getRP (i := 2) hF dX0_canReceive_9 fl_X0_21 hG.g rfl hG.r2 ?_
    refine V.iload_n hF dX0_canReceive_12 rfl ?_
    refine V.vI hF dX0_canReceive_13 (ct_X1_has hst _ _ _ _ hG _ _) lk_X0_172 sl_X1_has hG.m.1 hG.m.2 rfl (Nat.le_of_ble_eq_true rfl) (fit_of rfl) (Nat.le_of_ble_eq_true rfl) rfl ?_
    refine V.if_eqB (tgt := 31) hF dX0_canReceive_16 (by decide) (fun h16 => ?_) (fun h16 => ?_)
    · refine V.iconst (v := nI 0) hF dX0_canReceive_31 (by decide) ?_
      refine V.zret hF dX0_canReceive_32 (Or.inl rfl) (Nat.le_refl _) (Nat.le_refl _) ?_
      exact pR.i (by first | exact bI_e1 (by simp [Bool.and_true, *]) | exact bI_e0 (by simp [Bool.and_true, *]))
    · refine V.iload_n hF dX0_canReceive_19 rfl ?_
      refine V.aload_n hF dX0_canReceive_20 rfl ?_
      refine V.getIP hF dX0_canReceive_21 fl_X0_38 hG.g rfl hG (by decide) ?_
      refine V.icmp_lt (tgt := 31) hF dX0_canReceive_24 (by decide) (fun h24 => ?_) (fun h24 => ?_)
      · refine V.iconst (v := nI 0) hF dX0_canReceive_31 (by decide) ?_
        refine V.zret hF dX0_canReceive_32 (Or.inl rfl) (Nat.le_refl _) (Nat.le_refl _) ?_
        exact pR.i (by first | exact bI_e1 (by simp [Bool.and_true, *]) | exact bI_e0 (by simp [Bool.and_true, *]))
      · refine V.iconst (v := nI 1) hF dX0_canReceive_27 (by decide) ?_
        refine V.goto (tgt := 32) hF dX0_canReceive_28 (by decide) ?_
        refine V.zret hF dX0_canReceive_32 (Or.inr rfl) (Nat.le_refl _) (Nat.le_refl _) ?_
        exact pR.i (by first | exact bI_e1 (by simp [Bool.and_true, *]) | exact bI_e0 (by simp [Bool.and_true, *]))
set_option maxRecDepth 20000 in
theorem ct_X0_canTell (hst : l.stackTraces = false) (σ : SH) (I X : IX) (ad : Nat → Nat) (hG : GS σ ad) (C : IX) (hC : WC C) (x y : Int32) : Ct l D cy sa sv yX0_canTell cX0_canTell 3 (some .boolean) 2 0 0 [.ref (ad 100), .int x, .int y] σ (put idI I ad C) (put idX X ad C) (pR (some (.int (bI (yisM C x && yisM C y && !decide (x = y))))) σ (put idI I ad C) (put idX X ad C)) noX := by
  refine Ct.of (by decide) hst (Nat.le_of_ble_eq_true rfl) ?_
  intro pp ee ss mm args below meth kc A hF hnm hout
  refine V.aload_n hF dX0_canTell_0 rfl ?_
  refine V.iload_n hF dX0_canTell_1 rfl ?_
  refine V.vI hF dX0_canTell_2 (ct_X0_isMember hst _ _ _ _ hG _ hC _) lk_X0_159 sl_X0_isMember hG.g.1 hG.g.2 rfl (Nat.le_of_ble_eq_true rfl) (fit_of rfl) (Nat.le_of_ble_eq_true rfl) rfl ?_
  refine V.if_eqB (tgt := 25) hF dX0_canTell_5 (by decide) (fun h5 => ?_) (fun h5 => ?_)
  · refine V.iconst (v := nI 0) hF dX0_canTell_25 (by decide) ?_
    refine V.zret hF dX0_canTell_26 (Or.inl rfl) (Nat.le_refl _) (Nat.le_refl _) ?_
    exact pR.i (by first | exact bI_e1 (by simp [Bool.and_true, *]) | exact bI_e0 (by simp [Bool.and_true, *]))
  · refine V.aload_n hF dX0_canTell_8 rfl ?_
    refine V.iload_n hF dX0_canTell_9 rfl ?_
    refine V.vI hF dX0_canTell_10 (ct_X0_isMember hst _ _ _ _ hG _ hC _) lk_X0_159 sl_X0_isMember hG.g.1 hG.g.2 rfl (Nat.le_of_ble_eq_true rfl) (fit_of rfl) (Nat.le_of_ble_eq_true rfl) rfl ?_
    refine V.if_eqB (tgt := 25) hF dX0_canTell_13 (by decide) (fun h13 => ?_) (fun h13 => ?_)
    · refine V.iconst (v := nI 0) hF dX0_canTell_25 (by decide) ?_
      refine V.zret hF dX0_canTell_26 (Or.inl rfl) (Nat.le_refl _) (Nat.le_refl _) ?_
      exact pR.i (by first | exact bI_e1 (by simp [Bool.and_true, *]) | exact bI_e0 (by simp [Bool.and_true, *]))
    · refine V.iload_n hF dX0_canTell_16 rfl ?_
      refine V.iload_n hF dX0_canTell_17 rfl ?_
      refine V.icmp_eq (tgt := 25) hF dX0_canTell_18 (by decide) (fun h18 => ?_) (fun h18 => ?_)
      · refine V.iconst (v := nI 0) hF dX0_canTell_25 (by decide) ?_
        refine V.zret hF dX0_canTell_26 (Or.inl rfl) (Nat.le_refl _) (Nat.le_refl _) ?_
        exact pR.i (by first | exact bI_e1 (by simp [Bool.and_true, *]) | exact bI_e0 (by simp [Bool.and_true, *]))
      · refine V.iconst (v := nI 1) hF dX0_canTell_21 (by decide) ?_
        refine V.goto (tgt := 26) hF dX0_canTell_22 (by decide) ?_
        refine V.zret hF dX0_canTell_26 (Or.inr rfl) (Nat.le_refl _) (Nat.le_refl _) ?_
        exact pR.i (by first | exact bI_e1 (by simp [Bool.and_true, *]) | exact bI_e0 (by simp [Bool.and_true, *]))
set_option maxRecDepth 20000 in
theorem ct_X0_enter (hst : l.stackTraces = false) (σ : SH) (I X : IX) (ad : Nat → Nat) (hG : GS σ ad) (C : IX) (x : Int32) : Ct l D cy sa sv yX0_enter cX0_enter 2 (some .int) 1 0 0 [.ref (ad 100), .int x] σ (put idI I ad C) (put idX X ad C) (pR (some (.int (ybc (C 100 5 ||| (nI 1 <<< (x &&& 31)))))) σ (put idI I ad (va_up C 100 (upd (C 100) 5 (C 100 5 ||| (nI 1 <<< (x &&& 31)))))) (put idX X ad (va_up C 100 (upd (C 100) 5 (C 100 5 ||| (nI 1 <<< (x &&& 31))))))) noX := by
  refine Ct.of (by decide) hst (Nat.le_of_ble_eq_true rfl) ?_
  intro pp ee ss mm args below meth kc A hF hnm hout
  refine V.aload_n hF dX0_enter_0 rfl ?_
  refine V.dup hF dX0_enter_1 rfl ?_
  refine V.getIP hF dX0_enter_2 fl_X0_35 hG.g rfl hG (by decide) ?_
  refine V.iconst (v := nI 1) hF dX0_enter_5 (by decide) ?_
  refine V.iload_n hF dX0_enter_6 rfl ?_
  refine V.ishl hF dX0_enter_7 ?_
  refine V.ior hF dX0_enter_8 ?_
  refine V.putIP hF dX0_enter_9 fl_X0_35 hG.g rfl rfl rfl hG (by decide) ?_
  refine V.aload_n hF dX0_enter_12 rfl ?_
  refine V.getIP hF dX0_enter_13 fl_X0_35 hG.g rfl hG (by decide) ?_
  refine V.sI hF dX0_enter_16 (ct_J6_bitCount_0f7a4 hst _ _ _ _) lk_X0_121 (fit_of rfl) (Nat.le_of_ble_eq_true rfl) rfl ?_
  refine V.iret hF dX0_enter_19 (Nat.le_refl _) (Nat.le_refl _) ?_
  exact pR.i (by simp [va_up, upd])
set_option maxRecDepth 20000 in
theorem ct_X0_quit (hst : l.stackTraces = false) (σ : SH) (I X : IX) (ad : Nat → Nat) (hG : GS σ ad) (C : IX) (x : Int32) : Ct l D cy sa sv yX0_quit cX0_quit 2 (some .int) 1 0 0 [.ref (ad 100), .int x] σ (put idI I ad C) (put idX X ad C) (pR (some (.int (ybc (C 100 5 &&& ((nI 1 <<< (x &&& 31)) ^^^ (-1)))))) σ (put idI I ad (va_up C 100 (upd (C 100) 5 (C 100 5 &&& ((nI 1 <<< (x &&& 31)) ^^^ (-1)))))) (put idX X ad (va_up C 100 (upd (C 100) 5 (C 100 5 &&& ((nI 1 <<< (x &&& 31)) ^^^ (-1))))))) noX := by
  refine Ct.of (by decide) hst (Nat.le_of_ble_eq_true rfl) ?_
  intro pp ee ss mm args below meth kc A hF hnm hout
  refine V.aload_n hF dX0_quit_0 rfl ?_
  refine V.dup hF dX0_quit_1 rfl ?_
  refine V.getIP hF dX0_quit_2 fl_X0_35 hG.g rfl hG (by decide) ?_
  refine V.iconst (v := nI 1) hF dX0_quit_5 (by decide) ?_
  refine V.iload_n hF dX0_quit_6 rfl ?_
  refine V.ishl hF dX0_quit_7 ?_
  refine V.iconst (v := -1) hF dX0_quit_8 (by decide) ?_
  refine V.ixor hF dX0_quit_9 ?_
  refine V.iand hF dX0_quit_10 ?_
  refine V.putIP hF dX0_quit_11 fl_X0_35 hG.g rfl rfl rfl hG (by decide) ?_
  refine V.aload_n hF dX0_quit_14 rfl ?_
  refine V.getIP hF dX0_quit_15 fl_X0_35 hG.g rfl hG (by decide) ?_
  refine V.sI hF dX0_quit_18 (ct_J6_bitCount_0f7a4 hst _ _ _ _) lk_X0_121 (fit_of rfl) (Nat.le_of_ble_eq_true rfl) rfl ?_
  refine V.iret hF dX0_quit_21 (Nat.le_refl _) (Nat.le_refl _) ?_
  exact pR.i (by simp [va_up, upd])
set_option maxRecDepth 20000 in
theorem ct_X0_isLoggedAmong (hst : l.stackTraces = false) (σ : SH) (I X : IX) (ad : Nat → Nat) (hG : GS σ ad) (C : IX) (x : Int32) (m : Nat) (hm : m < 150) : Ct l D cy sa sv yX0_isLoggedAmong cX0_isLoggedAmong 4 (some .boolean) 1 0 0 [.ref (ad 100), .int x, .int (nI m)] σ (put idI I ad C) (put idX X ad C) (pR (some (.int (bI (ylgA C x m)))) σ (put idI I ad C) (put idX X ad C)) noX := by
  refine Ct.of (by decide) hst (Nat.le_of_ble_eq_true rfl) ?_
  intro pp ee ss mm args below meth kc A hF hnm hout
  refine V.iconst (v := nI 0) hF dX0_isLoggedAmong_0 (by decide) ?_
  refine V.istore_n hF dX0_isLoggedAmong_1 (by decide) ?_
  have L2 : ∀ (n2 : Nat) (p : Nat), 6 - p < n2 → p ≤ 6 → zany (fun p => zbit x (nI p) && ylog C p m) p = false → V pp l ee (Rm 1 0 0) ss mm args below meth kc D cy A (QM below args ss D cy A (pR (some (.int (bI (ylgA C x m)))) σ (put idI I ad C) (put idX X ad C)) noX 0 0) 4 0 0 σ (put idI I ad C) (put idX X ad C) 2 [(0, .ref (ad 100)), (1, .int x), (2, .int (nI m)), (3, .int (nI p))] [] := by
    intro n2
    induction n2 with
    | zero => intro p hlt2; exact absurd hlt2 (Nat.not_lt_zero _)
    | succ n2 ih2 =>
      intro p hlt2 hpp ha
      refine V.iload_n hF dX0_isLoggedAmong_2 rfl ?_
      refine V.bipush (v := nI 6) hF dX0_isLoggedAmong_3 (by decide) ?_
      refine V.icmp_ge (tgt := 37) hF dX0_isLoggedAmong_5 (by decide) (fun h5 => ?_) (fun h5 => ?_)
      · have hp : p = 6 := by have := nI_ge' h5 (by omega) (by omega); omega
        subst hp
        refine V.iconst (v := nI 0) hF dX0_isLoggedAmong_37 (by decide) ?_
        refine V.zret hF dX0_isLoggedAmong_38 (Or.inl rfl) (Nat.le_refl _) (Nat.le_refl _) ?_
        exact pR.i (bI_e0 ha)
      · have hp : p < 6 := nI_nge h5 (by omega) (by omega)
        refine V.iload_n hF dX0_isLoggedAmong_8 rfl ?_
        refine V.iload_n hF dX0_isLoggedAmong_9 rfl ?_
        refine V.sI hF dX0_isLoggedAmong_10 (ct_X4_contains hst _ _ _ _ _) lk_X0_118 (fit_of rfl) (Nat.le_of_ble_eq_true rfl) rfl ?_
        refine V.if_eqB (tgt := 31) hF dX0_isLoggedAmong_13 (by decide) (fun h13 => ?_) (fun h13 => ?_)
        · refine V.iinc (v := nI (p + 1)) hF dX0_isLoggedAmong_31 rfl (by exact nI_1 _) (by decide) ?_
          refine V.goto (tgt := 2) hF dX0_isLoggedAmong_34 (by decide) ?_
          refine V.relv [0, 1, 2, 3] rfl ?_
          exact ih2 (p + 1) (by omega) (by omega) (zany_f ha (by simp [*]))
        · refine V.aload_n hF dX0_isLoggedAmong_16 rfl ?_
          refine V.getRP (i := 3) hF dX0_isLoggedAmong_17 fl_X0_27 hG.g rfl hG.r3 ?_
          refine V.iload_n hF dX0_isLoggedAmong_20 rfl ?_
          refine V.aaload (j := p) hF dX0_isLoggedAmong_21 hG.ym hG.yk rfl (hG.yl (by omega)) hG.ys (hG.y (by omega)) ?_
          refine V.iload_n hF dX0_isLoggedAmong_22 rfl ?_
          refine V.vI hF dX0_isLoggedAmong_23 (ct_X2_hasLogged hst _ _ _ _ hG _ p hp m (by omega)) lk_X0_150 sl_X2_hasLogged (hG.rp hp).1 (hG.rp hp).2 rfl (Nat.le_of_ble_eq_true rfl) (fit_of rfl) (Nat.le_of_ble_eq_true rfl) rfl ?_
          refine V.if_eqB (tgt := 31) hF dX0_isLoggedAmong_26 (by decide) (fun h26 => ?_) (fun h26 => ?_)
          · refine V.iinc (v := nI (p + 1)) hF dX0_isLoggedAmong_31 rfl (by exact nI_1 _) (by decide) ?_
            refine V.goto (tgt := 2) hF dX0_isLoggedAmong_34 (by decide) ?_
            refine V.relv [0, 1, 2, 3] rfl ?_
            exact ih2 (p + 1) (by omega) (by omega) (zany_f ha (by simp [*]))
          · refine V.iconst (v := nI 1) hF dX0_isLoggedAmong_29 (by decide) ?_
            refine V.zret hF dX0_isLoggedAmong_30 (Or.inr rfl) (Nat.le_refl _) (Nat.le_refl _) ?_
            exact pR.i (bI_e1 (zany_t (by simp [*]) hp))
  refine V.relv [0, 1, 2, 3] rfl ?_
  exact L2 _ 0 (Nat.lt_succ_self _) (by omega) rfl
set_option maxRecDepth 20000 in
theorem ct_X0_deliver (hst : l.stackTraces = false) (σ : SH) (I X : IX) (ad : Nat → Nat) (hG : GS σ ad) (C : IX) (hC : WC C) (p : Nat) (hp : p < 6) (m : Nat) (hm : m < 150) : Ct l D cy sa sv yX0_deliver cX0_deliver 3 none 2 0 0 [.ref (ad 100), .int (nI p), .int (nI m)] σ (put idI I ad C) (put idX X ad C) (pR none σ (put idI I ad (ygdel C p m)) (put idX X ad (ygdel C p m))) noX := by
  refine Ct.of (by decide) hst (Nat.le_of_ble_eq_true rfl) ?_
  intro pp ee ss mm args below meth kc A hF hnm hout
  have hs6 := hC.s6 hm
  refine V.aload_n hF dX0_deliver_0 rfl ?_
  refine V.getRP (i := 3) hF dX0_deliver_1 fl_X0_27 hG.g rfl hG.r3 ?_
  refine V.iload_n hF dX0_deliver_4 rfl ?_
  refine V.aaload (j := p) hF dX0_deliver_5 hG.ym hG.yk rfl (hG.yl (by omega)) hG.ys (hG.y (by omega)) ?_
  refine V.iload_n hF dX0_deliver_6 rfl ?_
  refine V.aload_n hF dX0_deliver_7 rfl ?_
  refine V.getRP (i := 2) hF dX0_deliver_8 fl_X0_21 hG.g rfl hG.r2 ?_
  refine V.getRP (i := 4) hF dX0_deliver_11 fl_X0_181 hG.m rfl (hG.mr 0 (by decide)) ?_
  refine V.iload_n hF dX0_deliver_14 rfl ?_
  refine V.ialoadP (j := m) hF dX0_deliver_15 hG.a4 rfl (by omega) (by decide) hG (by decide) ?_
  refine V.topi (y := nI (cN C 4 m)) (hC.s hm) ?_
  refine V.aload_n hF dX0_deliver_16 rfl ?_
  refine V.getRP (i := 2) hF dX0_deliver_17 fl_X0_21 hG.g rfl hG.r2 ?_
  refine V.getRP (i := 5) hF dX0_deliver_20 fl_X0_184 hG.m rfl (hG.mr 1 (by decide)) ?_
  refine V.iload_n hF dX0_deliver_23 rfl ?_
  refine V.ialoadP (j := m) hF dX0_deliver_24 hG.a5 rfl (by omega) (by decide) hG (by decide) ?_
  refine V.vV hF dX0_deliver_25 (ct_X2_deliver hst _ _ _ _ hG _ hC p hp m (cN C 4 m) (by omega) (by omega) _) lk_X0_165 sl_X2_deliver (hG.rp hp).1 (hG.rp hp).2 rfl (Nat.le_of_ble_eq_true rfl) (fit_of rfl) (Nat.le_of_ble_eq_true rfl) rfl ?_
  refine V.aload_n hF dX0_deliver_28 rfl ?_
  refine V.getRP (i := 3) hF dX0_deliver_29 fl_X0_27 hG.g rfl hG.r3 ?_
  refine V.iload_n hF dX0_deliver_32 rfl ?_
  refine V.aaload (j := p) hF dX0_deliver_33 hG.ym hG.yk rfl (hG.yl (by omega)) hG.ys (hG.y (by omega)) ?_
  refine V.aload_n hF dX0_deliver_34 rfl ?_
  refine V.getRP (i := 2) hF dX0_deliver_35 fl_X0_21 hG.g rfl hG.r2 ?_
  refine V.iload_n hF dX0_deliver_38 rfl ?_
  refine V.vV hF dX0_deliver_39 (ct_X2_learnFromClock hst _ _ _ _ hG _ (WC_ydl hC hp hm _) p hp m (by omega)) lk_X0_187 sl_X2_learnFromClock (hG.rp hp).1 (hG.rp hp).2 rfl (Nat.le_of_ble_eq_true rfl) (fit_of rfl) (Nat.le_of_ble_eq_true rfl) rfl ?_
  refine V.vret hF dX0_deliver_42 (Nat.le_refl _) (Nat.le_refl _) ?_
  exact pR.v
set_option maxRecDepth 20000 in
theorem ct_X0_force (hst : l.stackTraces = false) (σ : SH) (I X : IX) (ad : Nat → Nat) (hG : GS σ ad) (C : IX) (hC : WC C) (p : Nat) (hp : p < 6) (x : Int32) : Ct l D cy sa sv yX0_force cX0_force 5 (some .int) 3 0 0 [.ref (ad 100), .int (nI p), .int x] σ (put idI I ad C) (put idX X ad C) (pR (some (.int ((yup (yFf p x) p (cN C 100 6) C (cN C 2 6 - cN C 100 6)).2))) σ (put idI I ad (yup (yFf p x) p (cN C 100 6) C (cN C 2 6 - cN C 100 6)).1) (put idX X ad (yup (yFf p x) p (cN C 100 6) C (cN C 2 6 - cN C 100 6)).1)) noX := by
  refine Ct.of (by decide) hst (Nat.le_of_ble_eq_true rfl) ?_
  intro pp ee ss mm args below meth kc A hF hnm hout
  have hvs := hC.vs150
  have hn150 := hC.n150
  refine V.iconst (v := nI 0) hF dX0_force_0 (by decide) ?_
  refine V.istore_n hF dX0_force_1 (by decide) ?_
  refine V.aload_n hF dX0_force_2 rfl ?_
  refine V.getIP hF dX0_force_3 fl_X0_38 hG.g rfl hG (by decide) ?_
  refine V.topi (y := nI (cN C 100 6)) hC.vs ?_
  refine V.istore hF dX0_force_6 (by decide) ?_
  have L8 : ∀ (n8 : Nat) (k : Nat) (E : IX) (c : Int32), cN C 2 6 - (cN C 100 6 + k) < n8 → (cN C 100 6 + k ≤ cN C 2 6 ∨ k = 0) → yup (yFf p x) p (cN C 100 6) C k = (E, c) → V pp l ee (Rm 3 0 0) ss mm args below meth kc D cy A (QM below args ss D cy A (pR (some (.int ((yup (yFf p x) p (cN C 100 6) C (cN C 2 6 - cN C 100 6)).2))) σ (put idI I ad (yup (yFf p x) p (cN C 100 6) C (cN C 2 6 - cN C 100 6)).1) (put idX X ad (yup (yFf p x) p (cN C 100 6) C (cN C 2 6 - cN C 100 6)).1)) noX 0 0) 5 0 0 σ (put idI I ad E) (put idX X ad E) 8 [(0, .ref (ad 100)), (1, .int (nI p)), (2, .int x), (3, .int c), (4, .int (nI (cN C 100 6 + k)))] [] := by
    intro n8
    induction n8 with
    | zero => intro k E c hlt8; exact absurd hlt8 (Nat.not_lt_zero _)
    | succ n8 ih8 =>
      intro k E c hlt8 hk hE
      have hjk : cN C 100 6 + k ≤ 150 := by omega
      have hCE : WC E := by have := WC_yup (F := (yFf p x)) (j := cN C 100 6) hp hC (k := k) hjk; rw [hE] at this; exact this
      have hn2 : cN E 2 6 = cN C 2 6 := by have := yup_lo (F := (yFf p x)) (j := cN C 100 6) hp (C := C) (k := 2) (by omega) k; rw [hE] at this; dsimp only at this; unfold cN; rw [this]
      refine V.iload hF dX0_force_8 rfl ?_
      refine V.aload_n hF dX0_force_10 rfl ?_
      refine V.getRP (i := 2) hF dX0_force_11 fl_X0_21 hG.g rfl hG.r2 ?_
      refine V.getIP hF dX0_force_14 fl_X0_50 hG.m rfl hG (by decide) ?_
      refine V.topi (y := nI (cN C 2 6)) (by rw [hCE.n, hn2]) ?_
      refine V.icmp_ge (tgt := 64) hF dX0_force_17 (by decide) (fun h17 => ?_) (fun h17 => ?_)
      · have hk6 := nI_ge' h17 (by omega) (by omega)
        have hk7 : k = cN C 2 6 - cN C 100 6 := by omega
        refine V.iload_n hF dX0_force_64 rfl ?_
        refine V.iret hF dX0_force_65 (Nat.le_refl _) (Nat.le_refl _) ?_
        rw [← hk7, hE]
        exact pR.i rfl
      · have hk6 : cN C 100 6 + k < cN C 2 6 := nI_nge h17 (by omega) (by omega)
        refine V.aload_n hF dX0_force_20 rfl ?_
        refine V.iload_n hF dX0_force_21 rfl ?_
        refine V.iload hF dX0_force_22 rfl ?_
        refine V.vI hF dX0_force_24 (ct_X0_isLoggedAmong hst _ _ _ _ hG _ _ (cN C 100 6 + k) (by omega)) lk_X0_139 sl_X0_isLoggedAmong hG.g.1 hG.g.2 rfl (Nat.le_of_ble_eq_true rfl) (fit_of rfl) (Nat.le_of_ble_eq_true rfl) rfl ?_
        refine V.if_eqB (tgt := 58) hF dX0_force_27 (by decide) (fun h27 => ?_) (fun h27 => ?_)
        · have hz := yup_f hE (show yFf p x E (cN C 100 6 + k) = false by simp [yFf, h27])
          refine V.iinc (v := nI ((cN C 100 6 + k) + 1)) hF dX0_force_58 rfl (by exact nI_1 _) (by decide) ?_
          refine V.goto (tgt := 8) hF dX0_force_61 (by decide) ?_
          refine V.relv [0, 1, 2, 3, 4] rfl ?_
          exact ih8 (k + 1) _ _ (by omega) (Or.inl (by omega)) hz
        · refine V.aload_n hF dX0_force_30 rfl ?_
          refine V.getRP (i := 3) hF dX0_force_31 fl_X0_27 hG.g rfl hG.r3 ?_
          refine V.iload_n hF dX0_force_34 rfl ?_
          refine V.aaload (j := p) hF dX0_force_35 hG.ym hG.yk rfl (hG.yl (by omega)) hG.ys (hG.y (by omega)) ?_
          refine V.aload_n hF dX0_force_36 rfl ?_
          refine V.getRP (i := 2) hF dX0_force_37 fl_X0_21 hG.g rfl hG.r2 ?_
          refine V.iload hF dX0_force_40 rfl ?_
          refine V.vI hF dX0_force_42 (ct_X2_isReadyFor hst _ _ _ _ hG _ hCE p hp (cN C 100 6 + k) (by omega)) lk_X0_142 sl_X2_isReadyFor (hG.rp hp).1 (hG.rp hp).2 rfl (Nat.le_of_ble_eq_true rfl) (fit_of rfl) (Nat.le_of_ble_eq_true rfl) rfl ?_
          refine V.if_eqB (tgt := 58) hF dX0_force_45 (by decide) (fun h45 => ?_) (fun h45 => ?_)
          · have hz := yup_f hE (show yFf p x E (cN C 100 6 + k) = false by simp [yFf, h45])
            refine V.iinc (v := nI ((cN C 100 6 + k) + 1)) hF dX0_force_58 rfl (by exact nI_1 _) (by decide) ?_
            refine V.goto (tgt := 8) hF dX0_force_61 (by decide) ?_
            refine V.relv [0, 1, 2, 3, 4] rfl ?_
            exact ih8 (k + 1) _ _ (by omega) (Or.inl (by omega)) hz
          · have hz := yup_t hE (show yFf p x E (cN C 100 6 + k) = true by simp [yFf, h27, h45])
            refine V.aload_n hF dX0_force_48 rfl ?_
            refine V.iload_n hF dX0_force_49 rfl ?_
            refine V.iload hF dX0_force_50 rfl ?_
            refine V.vV hF dX0_force_52 (ct_X0_deliver hst _ _ _ _ hG _ hCE p (by omega) (cN C 100 6 + k) (by omega)) lk_X0_146 sl_X0_deliver hG.g.1 hG.g.2 rfl (Nat.le_of_ble_eq_true rfl) (fit_of rfl) (Nat.le_of_ble_eq_true rfl) rfl ?_
            refine V.iinc hF dX0_force_55 rfl (iinc1 _) (by decide) ?_
            refine V.iinc (v := nI ((cN C 100 6 + k) + 1)) hF dX0_force_58 rfl (by exact nI_1 _) (by decide) ?_
            refine V.goto (tgt := 8) hF dX0_force_61 (by decide) ?_
            refine V.relv [0, 1, 2, 3, 4] rfl ?_
            exact ih8 (k + 1) _ _ (by omega) (Or.inl (by omega)) hz
  refine V.relv [0, 1, 2, 3, 4] rfl ?_
  exact L8 _ 0 _ _ (Nat.lt_succ_self _) (Or.inr rfl) rfl
set_option maxRecDepth 20000 in
theorem ct_X0_deliverWaiting (hst : l.stackTraces = false) (σ : SH) (I X : IX) (ad : Nat → Nat) (hG : GS σ ad) (C : IX) (hC : WC C) (p : Nat) (hp : p < 6) (m : Nat) (hm : m < 150) : Ct l D cy sa sv yX0_deliverWaiting cX0_deliverWaiting 5 (some .int) 3 0 0 [.ref (ad 100), .int (nI p), .int (nI m)] σ (put idI I ad C) (put idX X ad C) (pR (some (.int ((yup (yFw p) p m C (cN C 2 6 - m)).2))) σ (put idI I ad (yup (yFw p) p m C (cN C 2 6 - m)).1) (put idX X ad (yup (yFw p) p m C (cN C 2 6 - m)).1)) noX := by
  refine Ct.of (by decide) hst (Nat.le_of_ble_eq_true rfl) ?_
  intro pp ee ss mm args below meth kc A hF hnm hout
  have hn150 := hC.n150
  refine V.iconst (v := nI 0) hF dX0_deliverWaiting_0 (by decide) ?_
  refine V.istore_n hF dX0_deliverWaiting_1 (by decide) ?_
  refine V.iload_n hF dX0_deliverWaiting_2 rfl ?_
  refine V.istore hF dX0_deliverWaiting_3 (by decide) ?_
  have L5 : ∀ (n5 : Nat) (k : Nat) (E : IX) (c : Int32), cN C 2 6 - (m + k) < n5 → (m + k ≤ cN C 2 6 ∨ k = 0) → yup (yFw p) p (m) C k = (E, c) → V pp l ee (Rm 3 0 0) ss mm args below meth kc D cy A (QM below args ss D cy A (pR (some (.int ((yup (yFw p) p m C (cN C 2 6 - m)).2))) σ (put idI I ad (yup (yFw p) p m C (cN C 2 6 - m)).1) (put idX X ad (yup (yFw p) p m C (cN C 2 6 - m)).1)) noX 0 0) 5 0 0 σ (put idI I ad E) (put idX X ad E) 5 [(0, .ref (ad 100)), (1, .int (nI p)), (2, .int (nI m)), (3, .int c), (4, .int (nI (m + k)))] [] := by
    intro n5
    induction n5 with
    | zero => intro k E c hlt5; exact absurd hlt5 (Nat.not_lt_zero _)
    | succ n5 ih5 =>
      intro k E c hlt5 hk hE
      have hjk : m + k ≤ 150 := by omega
      have hCE : WC E := by have := WC_yup (F := (yFw p)) (j := m) hp hC (k := k) hjk; rw [hE] at this; exact this
      have hn2 : cN E 2 6 = cN C 2 6 := by have := yup_lo (F := (yFw p)) (j := m) hp (C := C) (k := 2) (by omega) k; rw [hE] at this; dsimp only at this; unfold cN; rw [this]
      refine V.iload hF dX0_deliverWaiting_5 rfl ?_
      refine V.aload_n hF dX0_deliverWaiting_7 rfl ?_
      refine V.getRP (i := 2) hF dX0_deliverWaiting_8 fl_X0_21 hG.g rfl hG.r2 ?_
      refine V.getIP hF dX0_deliverWaiting_11 fl_X0_50 hG.m rfl hG (by decide) ?_
      refine V.topi (y := nI (cN C 2 6)) (by rw [hCE.n, hn2]) ?_
      refine V.icmp_ge (tgt := 67) hF dX0_deliverWaiting_14 (by decide) (fun h14 => ?_) (fun h14 => ?_)
      · have hk6 := nI_ge' h14 (by omega) (by omega)
        have hk7 : k = cN C 2 6 - m := by omega
        refine V.iload_n hF dX0_deliverWaiting_67 rfl ?_
        refine V.iret hF dX0_deliverWaiting_68 (Nat.le_refl _) (Nat.le_refl _) ?_
        rw [← hk7, hE]
        exact pR.i rfl
      · have hk6 : m + k < cN C 2 6 := nI_nge h14 (by omega) (by omega)
        refine V.aload_n hF dX0_deliverWaiting_17 rfl ?_
        refine V.getRP (i := 3) hF dX0_deliverWaiting_18 fl_X0_27 hG.g rfl hG.r3 ?_
        refine V.iload_n hF dX0_deliverWaiting_21 rfl ?_
        refine V.aaload (j := p) hF dX0_deliverWaiting_22 hG.ym hG.yk rfl (hG.yl (by omega)) hG.ys (hG.y (by omega)) ?_
        refine V.getRP (i := (30 + p)) hF dX0_deliverWaiting_23 fl_X0_175 (hG.rp hp) rfl (hG.p2 hp) ?_
        refine V.iload hF dX0_deliverWaiting_26 rfl ?_
        refine V.ialoadP (j := (m + k)) hF dX0_deliverWaiting_28 (hG.ap hp) rfl (by omega) (by decide) hG (mem_pl hp) ?_
        refine V.iconst (v := -1) hF dX0_deliverWaiting_29 (by decide) ?_
        refine V.icmp_ne (tgt := 61) hF dX0_deliverWaiting_30 (by decide) (fun h30 => ?_) (fun h30 => ?_)
        · have hz := yup_f hE (show yFw p E (m + k) = false by simp [yFw, h30])
          refine V.iinc (v := nI ((m + k) + 1)) hF dX0_deliverWaiting_61 rfl (by exact nI_1 _) (by decide) ?_
          refine V.goto (tgt := 5) hF dX0_deliverWaiting_64 (by decide) ?_
          refine V.relv [0, 1, 2, 3, 4] rfl ?_
          exact ih5 (k + 1) _ _ (by omega) (Or.inl (by omega)) hz
        · refine V.aload_n hF dX0_deliverWaiting_33 rfl ?_
          refine V.getRP (i := 3) hF dX0_deliverWaiting_34 fl_X0_27 hG.g rfl hG.r3 ?_
          refine V.iload_n hF dX0_deliverWaiting_37 rfl ?_
          refine V.aaload (j := p) hF dX0_deliverWaiting_38 hG.ym hG.yk rfl (hG.yl (by omega)) hG.ys (hG.y (by omega)) ?_
          refine V.aload_n hF dX0_deliverWaiting_39 rfl ?_
          refine V.getRP (i := 2) hF dX0_deliverWaiting_40 fl_X0_21 hG.g rfl hG.r2 ?_
          refine V.iload hF dX0_deliverWaiting_43 rfl ?_
          refine V.vI hF dX0_deliverWaiting_45 (ct_X2_isReadyFor hst _ _ _ _ hG _ hCE p hp (m + k) (by omega)) lk_X0_142 sl_X2_isReadyFor (hG.rp hp).1 (hG.rp hp).2 rfl (Nat.le_of_ble_eq_true rfl) (fit_of rfl) (Nat.le_of_ble_eq_true rfl) rfl ?_
          refine V.if_eqB (tgt := 61) hF dX0_deliverWaiting_48 (by decide) (fun h48 => ?_) (fun h48 => ?_)
          · have hz := yup_f hE (show yFw p E (m + k) = false by simp [yFw, h48])
            refine V.iinc (v := nI ((m + k) + 1)) hF dX0_deliverWaiting_61 rfl (by exact nI_1 _) (by decide) ?_
            refine V.goto (tgt := 5) hF dX0_deliverWaiting_64 (by decide) ?_
            refine V.relv [0, 1, 2, 3, 4] rfl ?_
            exact ih5 (k + 1) _ _ (by omega) (Or.inl (by omega)) hz
          · have hz := yup_t hE (show yFw p E (m + k) = true by simp [yFw, h30, h48])
            refine V.aload_n hF dX0_deliverWaiting_51 rfl ?_
            refine V.iload_n hF dX0_deliverWaiting_52 rfl ?_
            refine V.iload hF dX0_deliverWaiting_53 rfl ?_
            refine V.vV hF dX0_deliverWaiting_55 (ct_X0_deliver hst _ _ _ _ hG _ hCE p (by omega) (m + k) (by omega)) lk_X0_146 sl_X0_deliver hG.g.1 hG.g.2 rfl (Nat.le_of_ble_eq_true rfl) (fit_of rfl) (Nat.le_of_ble_eq_true rfl) rfl ?_
            refine V.iinc hF dX0_deliverWaiting_58 rfl (iinc1 _) (by decide) ?_
            refine V.iinc (v := nI ((m + k) + 1)) hF dX0_deliverWaiting_61 rfl (by exact nI_1 _) (by decide) ?_
            refine V.goto (tgt := 5) hF dX0_deliverWaiting_64 (by decide) ?_
            refine V.relv [0, 1, 2, 3, 4] rfl ?_
            exact ih5 (k + 1) _ _ (by omega) (Or.inl (by omega)) hz
  refine V.relv [0, 1, 2, 3, 4] rfl ?_
  exact L5 _ 0 _ _ (Nat.lt_succ_self _) (Or.inr rfl) rfl
end MD
