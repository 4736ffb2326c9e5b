theorem zPr_of {x : Int32} (h : zPr x = true) : ∃ p, p < 6 ∧ x = nI p := by
  obtain ⟨k, hk, e⟩ := zin_of (n := 5) (by omega) h
  exact ⟨k, by omega, e⟩
theorem zPr_nI {p : Nat} (h : p < 6) : zPr (nI p) = true := by
  simp only [zPr, zisIn, Bool.and_eq_true, decide_eq_true_eq]
  exact ⟨nI_le (by omega) (by omega), nI_le (by omega) (by omega)⟩
theorem zMs_of {v : Rw} (hv : WV v) {y : Int32} (h : zMs v y = true) : ∃ m, m < vN v 44 ∧ m < 150 ∧ y = nI m := by
  have hn := hv.n150
  unfold zMs at h
  rw [hv.n] at h
  rcases Nat.eq_zero_or_pos (vN v 44) with h0 | h0
  · rw [h0] at h
    simp only [zisIn, Bool.and_eq_true, decide_eq_true_eq] at h
    have h1 := h.1
    have h2 := h.2
    rw [Int32.le_iff_toInt_le] at h1 h2
    have e1 : (nI 0 - nI 1).toInt = -1 := by decide
    have e2 : (nI 0).toInt = 0 := by decide
    omega
  · rw [pk_sub (show 1 ≤ vN v 44 by omega)] at h
    obtain ⟨k, hk, e⟩ := zin_of (n := vN v 44 - 1) (by omega) h
    exact ⟨k, by omega, by omega, e⟩
theorem zMs_nI {v : Rw} (hv : WV v) {m : Nat} (h : m < vN v 44) : zMs v (nI m) = true := by
  have hn := hv.n150
  unfold zMs
  rw [hv.n, pk_sub (show 1 ≤ vN v 44 by omega)]
  simp only [zisIn, Bool.and_eq_true, decide_eq_true_eq]
  exact ⟨nI_le (by omega) (by omega), nI_le (by omega) (by omega)⟩
def zsv (v : Rw) : Int32 := zmem v &&& v 43
def zp (k : Nat) : Int32 := match k with
  | 0 => -1
  | k + 1 => nI k
theorem zp_st (k : Nat) : nI k + Int32.ofInt (-1) = zp k := by
  cases k with
  | zero => decide
  | succ k => rw [show Int32.ofInt (-1) = -1 by decide, pk_m1]; rfl
def zlwR (s : Int32) : Nat → Int32
  | 0 => -1
  | j + 1 => if zbit s (nI (5 - j)) then nI (5 - j) else zlwR s j
def zlwN (s : Int32) : Nat := (zlwR s 6).toNatClampNeg
theorem zlwR_of {s : Int32} : ∀ {j : Nat}, j ≤ 6 → (∃ a, 6 - j ≤ a ∧ a < 6 ∧ zbit s (nI a) = true) → ∃ a, a < 6 ∧ zlwR s j = nI a ∧ zbit s (nI a) = true ∧ (6 - j ≤ a) ∧ ∀ b, 6 - j ≤ b → b < a → zbit s (nI b) = false
  | 0, _, ⟨a, h1, h2, _⟩ => by omega
  | j + 1, hj, ⟨a, h1, h2, h3⟩ => by
    cases hb : zbit s (nI (5 - j)) with
    | true => exact ⟨5 - j, by omega, by simp [zlwR, hb], hb, by omega, fun b h4 h5 => by omega⟩
    | false =>
      have ha : a ≠ 5 - j := fun q => by rw [q, hb] at h3; cases h3
      obtain ⟨c, k1, k2, k3, k4, k5⟩ := zlwR_of (s := s) (j := j) (by omega) ⟨a, by omega, h2, h3⟩
      exact ⟨c, k1, by simp [zlwR, hb, k2], k3, by omega, fun b h4 h5 => (Nat.eq_or_lt_of_le h4).elim (fun q => by rw [← q, show 6 - (j + 1) = 5 - j by omega]; exact hb) (fun q => k5 b (by omega) h5)⟩
theorem zany_of {f : Nat → Bool} : ∀ {n : Nat}, zany f n = true → ∃ a, a < n ∧ f a = true
  | 0, h => by cases h
  | n + 1, h => by
    rw [zany, Bool.or_eq_true] at h
    rcases h with h | h
    · obtain ⟨a, h1, h2⟩ := zany_of h
      exact ⟨a, by omega, h2⟩
    · exact ⟨n, by omega, h⟩
/-- someone survives -/
def WS (v : Rw) : Prop := zany (fun p => zbit (zsv v) (nI p)) 6 = true
theorem WS.low {v : Rw} (h : WS v) : zlwR (zsv v) 6 = nI (zlwN (zsv v)) ∧ zlwN (zsv v) < 6 ∧ zbit (zsv v) (nI (zlwN (zsv v))) = true ∧ ∀ b, b < zlwN (zsv v) → zbit (zsv v) (nI b) = false := by
  obtain ⟨a, h1, h2⟩ := zany_of h
  obtain ⟨c, k1, k2, k3, -, k5⟩ := zlwR_of (s := zsv v) (j := 6) (by omega) ⟨a, by omega, h1, h2⟩
  have e : zlwN (zsv v) = c := vN_nI k2 (by omega)
  rw [e]
  exact ⟨k2, k1, k3, fun b hb => k5 b (by omega) hb⟩
def zin2 (s : Int32) (v : Rw) : Nat → Rw × Int32
  | 0 => (v, nI 0)
  | k + 1 => if zbit s (nI k) then ((zforce (zin2 s v k).1 k s).1, (zin2 s v k).2 + (zforce (zin2 s v k).1 k s).2) else zin2 s v k
theorem zin2_t {s : Int32} {v : Rw} {k : Nat} (h : zbit s (nI k) = true) : zin2 s v (k + 1) = ((zforce (zin2 s v k).1 k s).1, (zin2 s v k).2 + (zforce (zin2 s v k).1 k s).2) := by rw [zin2, if_pos h]
theorem zin2_f {s : Int32} {v : Rw} {k : Nat} (h : zbit s (nI k) = false) : zin2 s v (k + 1) = zin2 s v k := by rw [zin2, h]; rfl
theorem WV_in2 {s : Int32} {v : Rw} (hv : WV v) : ∀ {k : Nat}, k ≤ 6 → WV (zin2 s v k).1
  | 0, _ => hv
  | k + 1, hk => by
    have ih := WV_in2 (s := s) hv (k := k) (by omega)
    rw [zin2]
    split
    · exact WV_force ih (by omega) s
    · exact ih
def zcp0 (w : Rw) (p a : Nat) : Rw := upd w (1550 + p) (w (1550 + a))
def zcp1 (w : Rw) (p a : Nat) : Rw := upd (zcp0 w p a) (4260 + p) (zcp0 w p a (4260 + a))
def zcpS (w : Rw) (p a m : Nat) : Rw := upd w (1560 + 150 * p + m) (w (1560 + 150 * a + m))
def zcpL (p a : Nat) (w : Rw) : Nat → Rw
  | 0 => w
  | m + 1 => upd (zcpS (zcpL p a w m) p a m) (2460 + 150 * p + m) (zcpS (zcpL p a w m) p a m (2460 + 150 * a + m))
def zcp (w : Rw) (p a : Nat) : Rw := zcpL p a (zcp1 w p a) 150
def zskip (w : Rw) (p : Nat) : Bool := decide ((w 43 >>> (nI p &&& 31)) &&& nI 1 = 0) || zisM w (nI p)
def zin3 (a : Nat) (w : Rw) : Nat → Rw
  | 0 => w
  | k + 1 => if zskip (zin3 a w k) k then zin3 a w k else zcp (zin3 a w k) k a
theorem zin3_t {a : Nat} {w : Rw} {k : Nat} (h : zskip (zin3 a w k) k = true) : zin3 a w (k + 1) = zin3 a w k := by rw [zin3, if_pos h]
theorem zin3_f {a : Nat} {w : Rw} {k : Nat} (h : zskip (zin3 a w k) k = false) : zin3 a w (k + 1) = zcp (zin3 a w k) k a := by rw [zin3, h]; rfl
theorem zcpL_at {p a : Nat} (hp : p < 6) (ha : a < 6) (hpa : p ≠ a) {w : Rw} : ∀ {n : Nat}, n ≤ 150 → ∀ k, zcpL p a w n k = if 1560 + 150 * p ≤ k ∧ k < 1560 + 150 * p + n then w (1560 + 150 * a + (k - (1560 + 150 * p))) else if 2460 + 150 * p ≤ k ∧ k < 2460 + 150 * p + n then w (2460 + 150 * a + (k - (2460 + 150 * p))) else w k
  | 0, _, k => by rw [if_neg (by omega), if_neg (by omega)]; rfl
  | n + 1, hn, k => by
    have ih := zcpL_at hp ha hpa (w := w) (n := n) (by omega)
    rw [zcpL, upd_at]
    by_cases h1 : k = 2460 + 150 * p + n
    · rw [if_pos h1, zcpS, upd_at, if_neg (by omega), ih, if_neg (by omega), if_neg (by omega), if_neg (by omega), if_pos (by omega)]
      congr 1; omega
    · rw [if_neg h1, zcpS, upd_at]
      by_cases h2 : k = 1560 + 150 * p + n
      · rw [if_pos h2, ih, if_neg (by omega), if_neg (by omega), if_pos (by omega)]
        congr 1; omega
      · rw [if_neg h2, ih]
        by_cases h3 : 1560 + 150 * p ≤ k ∧ k < 1560 + 150 * p + n
        · rw [if_pos h3, if_pos (by omega)]
        · rw [if_neg h3]
          by_cases h4 : 2460 + 150 * p ≤ k ∧ k < 2460 + 150 * p + n
          · rw [if_pos h4, if_neg (by omega), if_pos (by omega)]
          · rw [if_neg h4, if_neg (by omega), if_neg (by omega)]
theorem zcp1_at (w : Rw) {p a : Nat} (hp : p < 6) (ha : a < 6) (k : Nat) : zcp1 w p a k = if k = 4260 + p then w (4260 + a) else if k = 1550 + p then w (1550 + a) else w k := by
  rw [zcp1, upd_at, zcp0, upd_at, upd_at]
  by_cases h : k = 4260 + p
  · rw [if_pos h, if_pos h, if_neg (by omega)]
  · rw [if_neg h, if_neg h]
theorem zcp_at {p a : Nat} (hp : p < 6) (ha : a < 6) (hpa : p ≠ a) (w : Rw) (k : Nat) : zcp w p a k = if 1560 + 150 * p ≤ k ∧ k < 1560 + 150 * p + 150 then w (1560 + 150 * a + (k - (1560 + 150 * p))) else if 2460 + 150 * p ≤ k ∧ k < 2460 + 150 * p + 150 then w (2460 + 150 * a + (k - (2460 + 150 * p))) else if k = 4260 + p then w (4260 + a) else if k = 1550 + p then w (1550 + a) else w k := by
  rw [zcp, zcpL_at hp ha hpa (Nat.le_refl _)]
  by_cases h3 : 1560 + 150 * p ≤ k ∧ k < 1560 + 150 * p + 150
  · rw [if_pos h3, if_pos h3, zcp1_at w hp ha, if_neg (by omega), if_neg (by omega)]
  · rw [if_neg h3, if_neg h3]
    by_cases h4 : 2460 + 150 * p ≤ k ∧ k < 2460 + 150 * p + 150
    · rw [if_pos h4, if_pos h4, zcp1_at w hp ha, if_neg (by omega), if_neg (by omega)]
    · rw [if_neg h4, if_neg h4, zcp1_at w hp ha]
theorem WV_cp {w : Rw} (hw : WV w) {p a : Nat} (hp : p < 6) (ha : a < 6) (hpa : p ≠ a) : WV (zcp w p a) := by
  have lo : ∀ k, k < 1550 → zcp w p a k = w k := fun k hk => by rw [zcp_at hp ha hpa, if_neg (by omega), if_neg (by omega), if_neg (by omega), if_neg (by omega)]
  have lon : ∀ k, k < 1550 → vN (zcp w p a) k = vN w k := fun k hk => by rw [vN, lo k hk]; rfl
  have hlog : ∀ p', p' < 6 → ∀ j, j < 150 → zlog (zcp w p a) p' j = zlog w (if p' = p then a else p') j := by
    intro p' hp' j hj
    rw [zlog, zcp_at hp ha hpa, if_neg (by omega)]
    by_cases e : p' = p
    · subst e
      rw [if_pos (by omega), if_pos rfl, zlog]
      congr 3; omega
    · rw [if_neg (by omega), if_neg (by omega), if_neg (by omega), if_neg e]; rfl
  refine ⟨?_, ?_, ?_, ?_, ?_⟩
  · rw [lon 42 (by omega), lo 42 (by omega)]; exact hw.1
  · rw [lon 44 (by omega), lo 44 (by omega)]; exact hw.2.1
  · intro m hm
    rw [lon _ (by omega), lo _ (by omega)]; exact hw.2.2.1 m hm
  · intro p' hp'
    have e3 : zmu (zcp w p a) p' = zmu w (if p' = p then a else p') := zcB_cong (fun j hj => by rw [hlog p' hp' j hj])
    have e1 : zcp w p a (1550 + p') = w (1550 + (if p' = p then a else p')) := by
      rw [zcp_at hp ha hpa, if_neg (by omega), if_neg (by omega), if_neg (by omega)]
      by_cases e : p' = p
      · rw [if_pos (by omega), if_pos e]
      · rw [if_neg (by omega), if_neg e]
    have e2 : vN (zcp w p a) (1550 + p') = vN w (1550 + (if p' = p then a else p')) := by rw [vN, e1]; rfl
    rw [e1, e2, e3]
    exact hw.2.2.2.1 _ (by split <;> omega)
  · intro p' i hp' hi
    have e1 : zcp w p a (1560 + 150 * p' + i) = w (1560 + 150 * (if p' = p then a else p') + i) := by
      rw [zcp_at hp ha hpa]
      by_cases e : p' = p
      · subst e
        rw [if_pos (by omega), if_pos rfl]; congr 1; omega
      · rw [if_neg (by omega), if_neg (by omega), if_neg (by omega), if_neg (by omega), if_neg e]
    have e2 : vN (zcp w p a) (1560 + 150 * p' + i) = vN w (1560 + 150 * (if p' = p then a else p') + i) := by rw [vN, e1]; rfl
    rw [e1, e2]
    exact hw.2.2.2.2 _ i (by split <;> omega) hi
def zin4 (w : Rw) (c : Int32) : Rw := upd (upd (upd w 42 (w 42 + nI 1)) (vN w 42 + 1) (upd w 42 (w 42 + nI 1) 43)) (21 + (vN w 42 + 1)) c
def zztab (w : Rw) (k : Nat) : Rw := fun j => if 4270 ≤ j ∧ j < 4270 + k then nI 0 else w j
theorem zztab_s (w : Rw) (k : Nat) : upd (zztab w k) (4270 + k) (nI 0) = zztab w (k + 1) := by
  funext j
  simp only [upd_at, zztab]
  by_cases h : j = 4270 + k
  · rw [if_pos h, if_pos (by omega)]
  · rw [if_neg h]
    by_cases h2 : 4270 ≤ j ∧ j < 4270 + k
    · rw [if_pos h2, if_pos (by omega)]
    · rw [if_neg h2, if_neg (by omega)]
theorem zztab_0 (w : Rw) : zztab w 0 = w := by funext j; simp only [zztab]; rw [if_neg (by omega)]
def zinW (v : Rw) : Rw := zin3 (zlwN (zsv v)) (zin2 (zsv v) v 6).1 6
def zinC (v : Rw) : Int32 := (zin2 (zsv v) v 6).2
def zinV (v : Rw) : Rw := zztab (zin4 (zinW v) (zinC v)) 216
def zinT (v : Rw) : Bool := decide (v 42 = nI 20)

def bt (x : Int32) (i : Nat) : Bool := x.toBitVec.getLsbD i
theorem b_ext {x y : Int32} (h : ∀ i, i < 32 → bt x i = bt y i) : x = y := Int32.toBitVec_inj.mp (BitVec.eq_of_getLsbD_eq (fun i hi => h i hi))
theorem b_or (x y : Int32) (i : Nat) : bt (x ||| y) i = (bt x i || bt y i) := by unfold bt; rw [Int32.toBitVec_or, BitVec.getLsbD_or]
theorem b_and (x y : Int32) (i : Nat) : bt (x &&& y) i = (bt x i && bt y i) := by unfold bt; rw [Int32.toBitVec_and, BitVec.getLsbD_and]
theorem b_xor (x y : Int32) (i : Nat) : bt (x ^^^ y) i = (bt x i ^^ bt y i) := by unfold bt; rw [Int32.toBitVec_xor, BitVec.getLsbD_xor]
theorem b_big {x : Int32} {i : Nat} (h : 32 ≤ i) : bt x i = false := BitVec.getLsbD_of_ge _ _ h
theorem b_255 (i : Nat) : bt 255 i = decide (i < 8) := by
  rcases Nat.lt_or_ge i 32 with h | h
  · exact (by decide +kernel : ∀ i, i < 32 → bt 255 i = decide (i < 8)) i h
  · rw [b_big h, decide_eq_false (by omega)]
theorem b_65535 (i : Nat) : bt 65535 i = decide (i < 16) := by
  rcases Nat.lt_or_ge i 32 with h | h
  · exact (by decide +kernel : ∀ i, i < 32 → bt 65535 i = decide (i < 16)) i h
  · rw [b_big h, decide_eq_false (by omega)]
theorem b_m1 : ∀ i, i < 32 → bt (-1) i = true := by decide +kernel
theorem b_0 (i : Nat) : bt 0 i = false := BitVec.getLsbD_zero
theorem s_l : ∀ n, n < 32 → ((nI n &&& 31).toBitVec.smod 32).toNat = n := by decide +kernel
theorem s_u : ∀ n, n < 32 → (((nI n).toUInt32 &&& Int32.toUInt32 31).toBitVec % 32).toNat = n := by decide +kernel
theorem b_shl (n : Nat) (hn : n < 32) (x : Int32) {i : Nat} (hi : i < 32) : bt (x <<< (nI n &&& 31)) i = (decide (n ≤ i) && bt x (i - n)) := by
  unfold bt
  rw [Int32.toBitVec_shiftLeft]
  show (x.toBitVec <<< ((nI n &&& 31).toBitVec.smod 32).toNat).getLsbD i = _
  rw [s_l n hn, BitVec.getLsbD_shiftLeft]
  rcases Nat.lt_or_ge i n with h | h
  · simp [h, Nat.not_le.mpr h]
  · simp [hi, h, Nat.not_lt.mpr h]
theorem b_ushr (n : Nat) (hn : n < 32) (x : Int32) (i : Nat) : bt ((x.toUInt32 >>> ((nI n).toUInt32 &&& Int32.toUInt32 31)).toInt32) i = bt x (n + i) := by
  show (x.toUInt32 >>> ((nI n).toUInt32 &&& Int32.toUInt32 31)).toBitVec.getLsbD i = x.toUInt32.toBitVec.getLsbD (n + i)
  rw [UInt32.toBitVec_shiftRight]
  show (x.toUInt32.toBitVec >>> (((nI n).toUInt32 &&& Int32.toUInt32 31).toBitVec % 32).toNat).getLsbD i = _
  rw [s_u n hn, BitVec.getLsbD_ushiftRight]
theorem b_sshr (n : Nat) (hn : n < 32) (x : Int32) {i : Nat} (hi : i < 32) : bt (x >>> (nI n &&& 31)) i = if n + i < 32 then bt x (n + i) else bt x 31 := by
  unfold bt
  rw [Int32.toBitVec_shiftRight]
  show (x.toBitVec.sshiftRight ((nI n &&& 31).toBitVec.smod 32).toNat).getLsbD i = _
  rw [s_l n hn, BitVec.getLsbD_sshiftRight, BitVec.msb_eq_getLsbD_last]
  simp [hi]
theorem b_shl8 (x : Int32) {i : Nat} (hi : i < 32) : bt (x <<< ((8 : Int32) &&& 31)) i = (decide (8 ≤ i) && bt x (i - 8)) := b_shl 8 (by omega) x hi
theorem b_shl16 (x : Int32) {i : Nat} (hi : i < 32) : bt (x <<< ((16 : Int32) &&& 31)) i = (decide (16 ≤ i) && bt x (i - 16)) := b_shl 16 (by omega) x hi
theorem b_shl24 (x : Int32) {i : Nat} (hi : i < 32) : bt (x <<< ((24 : Int32) &&& 31)) i = (decide (24 ≤ i) && bt x (i - 24)) := b_shl 24 (by omega) x hi
theorem b_sshr8 (x : Int32) {i : Nat} (hi : i < 32) : bt (x >>> ((8 : Int32) &&& 31)) i = if 8 + i < 32 then bt x (8 + i) else bt x 31 := b_sshr 8 (by omega) x hi
theorem b_one : ∀ i, i < 32 → bt (nI 1) i = decide (i = 0) := by decide +kernel
theorem b_z1 (y : Int32) : (y &&& nI 1 = nI 1) ↔ bt y 0 = true := by
  constructor
  · intro h
    have := congrArg (fun z => bt z 0) h
    simp only [b_and, b_one 0 (by omega)] at this
    simpa using this
  · intro h
    apply b_ext
    intro i hi
    rw [b_and, b_one i hi]
    by_cases hz : i = 0
    · subst hz; simp [h]
    · simp [hz]
theorem b_z0 (y : Int32) : (y &&& nI 1 = 0) ↔ bt y 0 = false := by
  constructor
  · intro h
    have := congrArg (fun z => bt z 0) h
    simp only [b_and, b_one 0 (by omega), b_0] at this
    simpa using this
  · intro h
    apply b_ext
    intro i hi
    rw [b_and, b_one i hi, b_0]
    by_cases hz : i = 0
    · subst hz; simp [h]
    · simp [hz]
theorem zbit_bt (s : Int32) {k : Nat} (hk : k < 32) : zbit s (nI k) = bt s k := by
  unfold zbit
  have h := b_z1 (s >>> (nI k &&& 31))
  rw [b_sshr k hk s (by omega), if_pos (by omega), Nat.add_zero] at h
  cases hb : bt s k with
  | true => exact decide_eq_true (h.mpr hb)
  | false => exact decide_eq_false (fun q => by rw [h.mp q] at hb; cases hb)
theorem zbit_0 (s : Int32) {k : Nat} (hk : k < 32) : decide ((s >>> (nI k &&& 31)) &&& nI 1 = 0) = !bt s k := by
  have h := b_z0 (s >>> (nI k &&& 31))
  rw [b_sshr k hk s (by omega), if_pos (by omega), Nat.add_zero] at h
  cases hb : bt s k with
  | false => exact decide_eq_true (h.mpr hb)
  | true => exact decide_eq_false (fun q => by rw [h.mp q] at hb; cases hb)
theorem zlo_lo {F : Rw → Nat → Bool} {p j : Nat} (hj : j < 1550) : ∀ (k : Nat) (v : Rw) (c : Int32), (zlo F p k v c).1 j = v j
  | 0, v, c => rfl
  | k + 1, v, c => by
    rw [zlo]
    split
    · rw [zlo_lo hj k, zdeliv_lo (by omega), zlogs_lo hj]
    · rfl
theorem zin2_lo {s : Int32} {v : Rw} {j : Nat} (hj : j < 1550) : ∀ k, (zin2 s v k).1 j = v j
  | 0 => rfl
  | k + 1 => by
    rw [zin2]
    split
    · show (zforce (zin2 s v k).1 k s).1 j = v j
      rw [zforce, zlo_lo hj, zin2_lo hj k]
    · exact zin2_lo hj k
theorem zcpL_lo {p a : Nat} {w : Rw} {j : Nat} (hj : j < 1550) : ∀ n, zcpL p a w n j = w j
  | 0 => rfl
  | n + 1 => by rw [zcpL, upd_at, if_neg (by omega), zcpS, upd_at, if_neg (by omega), zcpL_lo hj n]
theorem zin3_lo {a : Nat} {w : Rw} {j : Nat} (hj : j < 1550) : ∀ k, zin3 a w k j = w j
  | 0 => rfl
  | k + 1 => by
    rw [zin3]
    split
    · exact zin3_lo hj k
    · rw [zcp, zcpL_lo hj, zcp1, upd_at, if_neg (by omega), zcp0, upd_at, if_neg (by omega), zin3_lo hj k]
theorem zmem_lo {v w : Rw} (hv : WV v) (h : ∀ j, j < 1550 → w j = v j) : zmem w = zmem v := by
  have h20 := hv.vw20
  have e : vN w 42 = vN v 42 := by rw [vN, h 42 (by omega)]; rfl
  rw [zmem, e, h _ (by omega)]; rfl
theorem zsv_mem {v : Rw} {p : Nat} (hp : p < 6) (h : zbit (zsv v) (nI p) = true) : zisM v (nI p) = true ∧ zbit (v 43) (nI p) = true := by
  rw [zbit_bt _ (by omega), zsv, b_and, Bool.and_eq_true] at h
  rw [zisM, zbit_bt _ (by omega), zbit_bt _ (by omega)]
  exact h
theorem zin3_in {v : Rw} (hv : WV v) (hs : WS v) : ∀ {k : Nat}, k ≤ 6 → WV (zin3 (zlwN (zsv v)) (zin2 (zsv v) v 6).1 k)
  | 0, _ => WV_in2 hv (Nat.le_refl _)
  | k + 1, hk => by
    have ih := zin3_in hv hs (k := k) (by omega)
    rw [zin3]
    split
    · exact ih
    · rename_i hsk
      obtain ⟨-, h6, h3, -⟩ := hs.low
      refine WV_cp ih (by omega) h6 (fun e => hsk ?_)
      have hm := (zsv_mem h6 h3).1
      have e2 : zmem (zin3 (zlwN (zsv v)) (zin2 (zsv v) v 6).1 k) = zmem v := zmem_lo hv (fun j hj => by rw [zin3_lo hj, zin2_lo hj])
      rw [zskip, Bool.or_eq_true]
      right
      rw [zisM, e2, e]
      exact hm
theorem zin4_42 {w : Rw} (hw : WV w) (h : vN w 42 ≠ 20) : upd w 42 (w 42 + nI 1) 42 = nI (vN w 42 + 1) := by
  rw [upd_at, if_pos rfl, hw.vw, nI_add]
def zbT (v : Rw) (x : Int32) : Int32 := if zPr x then (if zisM v x then (if v 44 = nI 150 then nI 2 else nI 0) else nI 2) else nI 1
def zb3 (v : Rw) (p : Nat) (y : Int32) : Rw := upd (upd (upd (upd v 44 (v 44 + nI 1)) (50 + vN v 44) (nI p)) (200 + vN v 44) y) (350 + vN v 44) (upd (upd (upd v 44 (v 44 + nI 1)) (50 + vN v 44) (nI p)) (200 + vN v 44) y 42)
def zb4 (v : Rw) (p : Nat) (y : Int32) : Rw := upd (zb3 v p y) (500 + vN v 44) (zclk (zb3 v p y) p p + nI 1)
def zbL (p n : Nat) (w : Rw) : Nat → Rw
  | 0 => w
  | q + 1 => upd (zbL p n w q) (650 + 6 * n + q) (zclk (zbL p n w q) p q)
def zbV (v : Rw) (p : Nat) (y : Int32) : Rw := zbL p (vN v 44) (zdeliv (zb4 v p y) p (vN v 44)) 6
theorem zb4_at (v : Rw) {p : Nat} (y : Int32) (hn : vN v 44 < 150) (k : Nat) : zb4 v p y k = if k = 500 + vN v 44 then zclk v p p + nI 1 else if k = 350 + vN v 44 then v 42 else if k = 200 + vN v 44 then y else if k = 50 + vN v 44 then nI p else if k = 44 then v 44 + nI 1 else v k := by
  rw [zb4, upd_at]
  by_cases h1 : k = 500 + vN v 44
  · rw [if_pos h1, if_pos h1, zclk, zb3, upd_at, if_neg (by omega), upd_at, if_neg (by omega), upd_at, if_neg (by omega), upd_at, if_neg (by omega)]; rfl
  · rw [if_neg h1, if_neg h1, zb3, upd_at]
    by_cases h2 : k = 350 + vN v 44
    · rw [if_pos h2, if_pos h2, upd_at, if_neg (by omega), upd_at, if_neg (by omega), upd_at, if_neg (by omega)]
    · rw [if_neg h2, if_neg h2, upd_at, upd_at, upd_at]
theorem zb4_wv {v : Rw} (hv : WV v) {p : Nat} (hp : p < 6) (y : Int32) (hn : vN v 44 < 150) : WV (zb4 v p y) ∧ vN (zb4 v p y) 44 = vN v 44 + 1 := by
  have at_ := zb4_at v (p := p) y hn
  have e44 : zb4 v p y 44 = nI (vN v 44 + 1) := by
    rw [at_, if_neg (by omega), if_neg (by omega), if_neg (by omega), if_neg (by omega), if_pos rfl]
    rw [hv.n, nI_add]
  have n44 : vN (zb4 v p y) 44 = vN v 44 + 1 := vN_nI e44 (by omega)
  have hi : ∀ k, 650 ≤ k → zb4 v p y k = v k := fun k hk => by rw [at_, if_neg (by omega), if_neg (by omega), if_neg (by omega), if_neg (by omega), if_neg (by omega)]
  have hin : ∀ k, 650 ≤ k → vN (zb4 v p y) k = vN v k := fun k hk => by rw [vN, hi k hk]; rfl
  refine ⟨⟨?_, ?_, ?_, ?_, ?_⟩, n44⟩
  · have e : zb4 v p y 42 = v 42 := by rw [at_, if_neg (by omega), if_neg (by omega), if_neg (by omega), if_neg (by omega), if_neg (by omega)]
    have e2 : vN (zb4 v p y) 42 = vN v 42 := by rw [vN, e]; rfl
    rw [e, e2]; exact hv.1
  · rw [n44]; exact ⟨e44, by omega⟩
  · intro m hm
    by_cases h : m = vN v 44
    · have e : zb4 v p y (50 + m) = nI p := by rw [at_, if_neg (by omega), if_neg (by omega), if_neg (by omega), if_pos (by omega)]
      have e2 : vN (zb4 v p y) (50 + m) = p := vN_nI e (by omega)
      rw [e2]; exact ⟨e, hp⟩
    · have e : zb4 v p y (50 + m) = v (50 + m) := by rw [at_, if_neg (by omega), if_neg (by omega), if_neg (by omega), if_neg (by omega), if_neg (by omega)]
      have e2 : vN (zb4 v p y) (50 + m) = vN v (50 + m) := by rw [vN, e]; rfl
      rw [e, e2]; exact hv.2.2.1 m hm
  · intro p' hp'
    have e : zmu (zb4 v p y) p' = zmu v p' := zcB_cong (fun j hj => by rw [zlog, hi _ (by omega)]; rfl)
    rw [hin _ (by omega), hi _ (by omega), e]; exact hv.2.2.2.1 p' hp'
  · intro p' i hp' hi'
    rw [hin _ (by omega), hi _ (by omega)]; exact hv.2.2.2.2 p' i hp' hi'
def zaT (v : Rw) (x y : Int32) : Int32 := if zPr x && zMs v y then (if zisM v x && znow v y.toNatClampNeg then nI 0 else nI 2) else nI 1
def zaV (v : Rw) (p m : Nat) : Rw × Int32 := if zotw v p m then zcome v p m else (upd v 45 (v 45 + nI 1), nI 0)
def zalL (p : Nat) (v : Rw) : Nat → Rw × Int32
  | 0 => (v, nI 0)
  | m + 1 => if zotw (zalL p v m).1 p m then ((zcome (zalL p v m).1 p m).1, (zalL p v m).2 + (zcome (zalL p v m).1 p m).2) else ((zalL p v m).1, (zalL p v m).2 + nI 0)
theorem zalL_lo {p : Nat} {v : Rw} {j : Nat} (hj : j < 1550) : ∀ m, (zalL p v m).1 j = v j
  | 0 => rfl
  | m + 1 => by
    rw [zalL]
    split
    · show (zcome (zalL p v m).1 p m).1 j = v j
      rw [zcome, zlo_lo hj, zcomeV, upd_at, if_neg (by omega), zalL_lo hj m]
    · exact zalL_lo hj m
theorem zalL_wv {p : Nat} (hp : p < 6) {v : Rw} (hv : WV v) : ∀ m, WV (zalL p v m).1
  | 0 => hv
  | m + 1 => by
    have ih := zalL_wv hp hv m
    rw [zalL]
    split
    · exact WV_come ih hp m
    · exact ih
theorem zalL_n {p : Nat} {v : Rw} (m : Nat) : vN (zalL p v m).1 44 = vN v 44 := by rw [vN, zalL_lo (by omega)]; rfl
def zgT (v : Rw) (x y : Int32) : Int32 := if zPr x && zPr y then (if zisM v x && zisM v y && !decide (x = y) then nI 0 else nI 2) else nI 1
def zgI (fr to q : Nat) (w : Rw) (c : Int32) : Nat → Rw × Int32
  | 0 => (w, c)
  | s + 1 => if (zgI fr to q w c s).1 (4270 + 36 * fr + 6 * q + s) ≤ (zgI fr to q w c s).1 (4270 + 36 * to + 6 * q + s) then zgI fr to q w c s else (upd (zgI fr to q w c s).1 (4270 + 36 * to + 6 * q + s) ((zgI fr to q w c s).1 (4270 + 36 * fr + 6 * q + s)), (zgI fr to q w c s).2 + nI 1)
theorem zgI_t {fr to q : Nat} {w : Rw} {c : Int32} {s : Nat} (h : (zgI fr to q w c s).1 (4270 + 36 * fr + 6 * q + s) ≤ (zgI fr to q w c s).1 (4270 + 36 * to + 6 * q + s)) : zgI fr to q w c (s + 1) = zgI fr to q w c s := by rw [zgI, if_pos h]
theorem zgI_f {fr to q : Nat} {w : Rw} {c : Int32} {s : Nat} (h : ¬ (zgI fr to q w c s).1 (4270 + 36 * fr + 6 * q + s) ≤ (zgI fr to q w c s).1 (4270 + 36 * to + 6 * q + s)) : zgI fr to q w c (s + 1) = (upd (zgI fr to q w c s).1 (4270 + 36 * to + 6 * q + s) ((zgI fr to q w c s).1 (4270 + 36 * fr + 6 * q + s)), (zgI fr to q w c s).2 + nI 1) := by rw [zgI, if_neg h]
def zgO (fr to : Nat) (v : Rw) : Nat → Rw × Int32
  | 0 => (v, nI 0)
  | q + 1 => if q = to then zgO fr to v q else zgI fr to q (zgO fr to v q).1 (zgO fr to v q).2 6
theorem zlwR_t {s : Int32} {k : Nat} (hk : k < 6) (hb : zbit s (nI k) = true) : zlwR s (6 - k) = nI k := by
  rw [show 6 - k = (5 - k) + 1 by omega, zlwR, show 5 - (5 - k) = k by omega, if_pos hb]
theorem zlwR_f {s : Int32} {k : Nat} (hk : k < 6) (hb : zbit s (nI k) = false) : zlwR s (6 - k) = zlwR s (6 - (k + 1)) := by
  rw [show 6 - k = (5 - k) + 1 by omega, zlwR, show 5 - (5 - k) = k by omega, hb, show 6 - (k + 1) = 5 - k by omega]; rfl
theorem zinW_42 (v : Rw) : vN (zinW v) 42 = vN v 42 := by rw [vN, zinW, zin3_lo (by omega), zin2_lo (by omega)]; rfl

section MD
variable {l : Launch} {D : va_G} {cy sa sv : Nat → Nat}
set_option maxRecDepth 20000 in
theorem ct_X5_reset (hst : l.stackTraces = false) (σ : SH) (I X : IX) (o : Nat) (ar : Nat → Nat) (hM : MS σ o ar) (f : Rw) (hI : I o = f) (v : Rw) (hX : X (ar 1) = v) (x : Int32) : Ct l D cy sa sv yX5_reset cX5_reset 4 (some .int) 1 0 0 [.ref o, .int x] σ I X (pR (some (.int (if zisIn x (nI 1) (nI 63) then v 44 else nI 0))) σ (va_up I o (th f (if zisIn x (nI 1) (nI 63) then nI 0 else nI 1))) (va_up X (ar 1) (if zisIn x (nI 1) (nI 63) then zreset v x else v))) noX := by
  refine Ct.of (by decide) hst (Nat.le_of_ble_eq_true rfl) ?_
  intro pp ee ss mm args below meth kc A hF hnm hout
  refine V.etaI o hI ?_
  refine V.etaX (ar 1) hX ?_
  refine V.aload_n hF dX5_reset_0 rfl ?_
  refine V.iconst (v := nI 0) hF dX5_reset_1 (by decide) ?_
  refine V.putIU hF dX5_reset_2 fl_X5_38 hM.1.1 hM.1.2 rfl rfl rfl ?_
  refine V.iload_n hF dX5_reset_5 rfl ?_
  refine V.iconst (v := nI 1) hF dX5_reset_6 (by decide) ?_
  refine V.bipush (v := nI 63) hF dX5_reset_7 (by decide) ?_
  refine V.sI hF dX5_reset_9 (ct_X5_isIn hst _ _ _ _ _ _) lk_X5_41 (fit_of rfl) (Nat.le_of_ble_eq_true rfl) rfl ?_
  refine V.if_neB (tgt := 21) hF dX5_reset_12 (by decide) (fun h12 => ?_) (fun h12 => ?_)
  · refine V.aload_n hF dX5_reset_21 rfl ?_
    refine V.getR hF dX5_reset_22 fl_X5_9 hM.1.1 hM.1.2 rfl hM.m1.1 ?_
    refine V.bipush (v := nI 44) hF dX5_reset_25 (by decide) ?_
    refine V.ialoadF (j := 44) hF dX5_reset_27 hM.m1.2.1 hM.m1.2.2.1 rfl (hM.m1.lt (lt_of rfl)) (hM.m1.sm (by decide)) (va_up_self _ _ _) ?_
    refine V.istore_n hF dX5_reset_28 (by decide) ?_
    refine V.iconst (v := nI 0) hF dX5_reset_29 (by decide) ?_
    refine V.istore_n hF dX5_reset_30 (by decide) ?_
    have L31 : ∀ (n31 : Nat) (k : Nat), 4486 - k < n31 → k ≤ 4486 → V pp l ee (Rm 1 0 0) ss mm args below meth kc D cy A (QM below args ss D cy A (pR (some (.int (if zisIn x (nI 1) (nI 63) then v 44 else nI 0))) σ (va_up I o (th f (if zisIn x (nI 1) (nI 63) then nI 0 else nI 1))) (va_up X (ar 1) (if zisIn x (nI 1) (nI 63) then zreset v x else v))) noX 0 0) 4 0 0 σ (va_up I o (upd f 0 (nI 0))) (va_up X (ar 1) (zzero v k)) 31 [(0, .ref o), (1, .int x), (2, .int (v 44)), (3, .int (nI k))] [] := by
      intro n31
      induction n31 with
      | zero => intro k hlt31; exact absurd hlt31 (Nat.not_lt_zero _)
      | succ n31 ih31 =>
        intro k hlt31 hk
        refine V.iload_n hF dX5_reset_31 rfl ?_
        refine V.sipush (v := nI 4486) hF dX5_reset_32 (by decide) ?_
        refine V.icmp_ge (tgt := 51) hF dX5_reset_35 (by decide) (fun h35 => ?_) (fun h35 => ?_)
        · have hk6 : k = 4486 := by have := nI_ge' h35 (by omega) (by omega); omega
          subst hk6
          refine V.aload_n hF dX5_reset_51 rfl ?_
          refine V.getR hF dX5_reset_52 fl_X5_9 hM.1.1 hM.1.2 rfl hM.m1.1 ?_
          refine V.iconst (v := nI 0) hF dX5_reset_55 (by decide) ?_
          refine V.iload_n hF dX5_reset_56 rfl ?_
          refine V.iastoreU (j := 0) hF dX5_reset_57 hM.m1.2.1 hM.m1.2.2.1 rfl (hM.m1.lt (lt_of rfl)) (hM.m1.sm (by decide)) ?_
          refine V.aload_n hF dX5_reset_58 rfl ?_
          refine V.getR hF dX5_reset_59 fl_X5_9 hM.1.1 hM.1.2 rfl hM.m1.1 ?_
          refine V.bipush (v := nI 43) hF dX5_reset_62 (by decide) ?_
          refine V.iload_n hF dX5_reset_64 rfl ?_
          refine V.iastoreU (j := 43) hF dX5_reset_65 hM.m1.2.1 hM.m1.2.2.1 rfl (hM.m1.lt (lt_of rfl)) (hM.m1.sm (by decide)) ?_
          refine V.iload_n hF dX5_reset_66 rfl ?_
          refine V.iret hF dX5_reset_67 (Nat.le_refl _) (Nat.le_refl _) ?_
          exact pR.e (by simp [h12, zreset, th, *]) (by simp [h12, zreset, th, th_th, upd_upd, *]) (by simp [h12, zreset, th, up_eta, *])
        · have hk6 : k < 4486 := nI_nge h35 (by omega) (by omega)
          refine V.aload_n hF dX5_reset_38 rfl ?_
          refine V.getR hF dX5_reset_39 fl_X5_9 hM.1.1 hM.1.2 rfl hM.m1.1 ?_
          refine V.iload_n hF dX5_reset_42 rfl ?_
          refine V.iconst (v := nI 0) hF dX5_reset_43 (by decide) ?_
          refine V.iastoreU (j := k) hF dX5_reset_44 hM.m1.2.1 hM.m1.2.2.1 rfl (hM.m1.lt (by omega)) (hM.m1.sm (by decide)) ?_
          refine V.iinc (v := nI (k + 1)) hF dX5_reset_45 rfl (by exact nI_1 _) (by decide) ?_
          refine V.goto (tgt := 31) hF dX5_reset_48 (by decide) ?_
          refine V.relv [0, 1, 2, 3] rfl ?_
          refine V.eqX (congrArg (va_up X (ar 1)) (zzero_s v k)) ?_
          exact ih31 (k + 1) (by omega) (by omega)
    refine V.relv [0, 1, 2, 3] rfl ?_
    refine V.eqX (congrArg (va_up X (ar 1)) (zzero_0 v).symm) ?_
    exact L31 _ 0 (Nat.lt_succ_self _) (by omega)
  · refine V.aload_n hF dX5_reset_15 rfl ?_
    refine V.iconst (v := nI 1) hF dX5_reset_16 (by decide) ?_
    refine V.vI hF dX5_reset_17 (ct_X5_no hst _ _ _ _ _ hM _ (va_up_self _ _ _) _) lk_X5_59 sl_X5_no hM.1.1 hM.1.2 rfl (Nat.le_of_ble_eq_true rfl) (fit_of rfl) (Nat.le_of_ble_eq_true rfl) rfl ?_
    refine V.collI ?_
    refine V.iret hF dX5_reset_20 (Nat.le_refl _) (Nat.le_refl _) ?_
    exact pR.e (by simp [h12, *]) (by simp [h12, th_th, upd_upd, *]) (by simp [h12, up_eta, *])
set_option maxRecDepth 20000 in
theorem ct_X5_membersOf (hst : l.stackTraces = false) (σ : SH) (I X : IX) (o : Nat) (ar : Nat → Nat) (hM : MS σ o ar) (f : Rw) (hI : I o = f) (v : Rw) (hX : X (ar 1) = v) (hv : WV v) (x : Int32) : Ct l D cy sa sv yX5_membersOf cX5_membersOf 2 (some .int) 1 0 0 [.ref o, .int x] σ I X (pR (some (.int (if zisIn x (nI 0) (v 42) then v x.toNatClampNeg else nI 0))) σ (va_up I o (th f (if zisIn x (nI 0) (v 42) then nI 0 else nI 1))) X) noX := by
  refine Ct.of (by decide) hst (Nat.le_of_ble_eq_true rfl) ?_
  intro pp ee ss mm args below meth kc A hF hnm hout
  refine V.etaI o hI ?_
  refine V.aload_n hF dX5_membersOf_0 rfl ?_
  refine V.iconst (v := nI 0) hF dX5_membersOf_1 (by decide) ?_
  refine V.putIU hF dX5_membersOf_2 fl_X5_38 hM.1.1 hM.1.2 rfl rfl rfl ?_
  refine V.iload_n hF dX5_membersOf_5 rfl ?_
  refine V.iconst (v := nI 0) hF dX5_membersOf_6 (by decide) ?_
  refine V.aload_n hF dX5_membersOf_7 rfl ?_
  refine V.getR hF dX5_membersOf_8 fl_X5_9 hM.1.1 hM.1.2 rfl hM.m1.1 ?_
  refine V.bipush (v := nI 42) hF dX5_membersOf_11 (by decide) ?_
  refine V.ialoadF (j := 42) hF dX5_membersOf_13 hM.m1.2.1 hM.m1.2.2.1 rfl (hM.m1.lt (lt_of rfl)) (hM.m1.sm (by decide)) hX ?_
  refine V.sI hF dX5_membersOf_14 (ct_X5_isIn hst _ _ _ _ _ _) lk_X5_41 (fit_of rfl) (Nat.le_of_ble_eq_true rfl) rfl ?_
  refine V.if_eqB (tgt := 31) hF dX5_membersOf_17 (by decide) (fun h17 => ?_) (fun h17 => ?_)
  · refine V.aload_n hF dX5_membersOf_31 rfl ?_
    refine V.iconst (v := nI 1) hF dX5_membersOf_32 (by decide) ?_
    refine V.vI hF dX5_membersOf_33 (ct_X5_no hst _ _ _ _ _ hM _ (va_up_self _ _ _) _) lk_X5_59 sl_X5_no hM.1.1 hM.1.2 rfl (Nat.le_of_ble_eq_true rfl) (fit_of rfl) (Nat.le_of_ble_eq_true rfl) rfl ?_
    refine V.collI ?_
    refine V.iret hF dX5_membersOf_36 (Nat.le_refl _) (Nat.le_refl _) ?_
    exact pR.e (by first | (rw [if_pos hin, nI_clamp (by omega)]; done) | simp [*]) (by first | (rw [if_pos hin]; done) | simp [th_th, upd_upd, *]) rfl
  · have hv20 := hv.vw20
    obtain ⟨k, hk, e⟩ := zin_of (x := x) (n := vN v 42) (by omega) (by rw [← hv.vw]; exact h17)
    have hin := h17
    rw [e] at hin
    subst e
    refine V.aload_n hF dX5_membersOf_20 rfl ?_
    refine V.getR hF dX5_membersOf_21 fl_X5_9 hM.1.1 hM.1.2 rfl hM.m1.1 ?_
    refine V.iconst (v := nI 0) hF dX5_membersOf_24 (by decide) ?_
    refine V.iload_n hF dX5_membersOf_25 rfl ?_
    refine V.iadd hF dX5_membersOf_26 ?_
    refine V.ialoadF (j := k) hF dX5_membersOf_27 hM.m1.2.1 hM.m1.2.2.1 (by simp only [nI_add, pk_mul, Nat.zero_add]) (hM.m1.lt (by omega)) (hM.m1.sm (by decide)) hX ?_
    refine V.goto (tgt := 36) hF dX5_membersOf_28 (by decide) ?_
    refine V.iret hF dX5_membersOf_36 (Nat.le_refl _) (Nat.le_refl _) ?_
    exact pR.e (by first | (rw [if_pos hin, nI_clamp (by omega)]; done) | simp [*]) (by first | (rw [if_pos hin]; done) | simp [th_th, upd_upd, *]) rfl
set_option maxRecDepth 20000 in
theorem ct_X5_forcedIn (hst : l.stackTraces = false) (σ : SH) (I X : IX) (o : Nat) (ar : Nat → Nat) (hM : MS σ o ar) (f : Rw) (hI : I o = f) (v : Rw) (hX : X (ar 1) = v) (hv : WV v) (x : Int32) : Ct l D cy sa sv yX5_forcedIn cX5_forcedIn 2 (some .int) 1 0 0 [.ref o, .int x] σ I X (pR (some (.int (if zisIn x (nI 0) (v 42) then v (21 + x.toNatClampNeg) else nI 0))) σ (va_up I o (th f (if zisIn x (nI 0) (v 42) then nI 0 else nI 1))) X) noX := by
  refine Ct.of (by decide) hst (Nat.le_of_ble_eq_true rfl) ?_
  intro pp ee ss mm args below meth kc A hF hnm hout
  refine V.etaI o hI ?_
  refine V.aload_n hF dX5_forcedIn_0 rfl ?_
  refine V.iconst (v := nI 0) hF dX5_forcedIn_1 (by decide) ?_
  refine V.putIU hF dX5_forcedIn_2 fl_X5_38 hM.1.1 hM.1.2 rfl rfl rfl ?_
  refine V.iload_n hF dX5_forcedIn_5 rfl ?_
  refine V.iconst (v := nI 0) hF dX5_forcedIn_6 (by decide) ?_
  refine V.aload_n hF dX5_forcedIn_7 rfl ?_
  refine V.getR hF dX5_forcedIn_8 fl_X5_9 hM.1.1 hM.1.2 rfl hM.m1.1 ?_
  refine V.bipush (v := nI 42) hF dX5_forcedIn_11 (by decide) ?_
  refine V.ialoadF (j := 42) hF dX5_forcedIn_13 hM.m1.2.1 hM.m1.2.2.1 rfl (hM.m1.lt (lt_of rfl)) (hM.m1.sm (by decide)) hX ?_
  refine V.sI hF dX5_forcedIn_14 (ct_X5_isIn hst _ _ _ _ _ _) lk_X5_41 (fit_of rfl) (Nat.le_of_ble_eq_true rfl) rfl ?_
  refine V.if_eqB (tgt := 32) hF dX5_forcedIn_17 (by decide) (fun h17 => ?_) (fun h17 => ?_)
  · refine V.aload_n hF dX5_forcedIn_32 rfl ?_
    refine V.iconst (v := nI 1) hF dX5_forcedIn_33 (by decide) ?_
    refine V.vI hF dX5_forcedIn_34 (ct_X5_no hst _ _ _ _ _ hM _ (va_up_self _ _ _) _) lk_X5_59 sl_X5_no hM.1.1 hM.1.2 rfl (Nat.le_of_ble_eq_true rfl) (fit_of rfl) (Nat.le_of_ble_eq_true rfl) rfl ?_
    refine V.collI ?_
    refine V.iret hF dX5_forcedIn_37 (Nat.le_refl _) (Nat.le_refl _) ?_
    exact pR.e (by first | (rw [if_pos hin, nI_clamp (by omega)]; done) | simp [*]) (by first | (rw [if_pos hin]; done) | simp [th_th, upd_upd, *]) rfl
  · have hv20 := hv.vw20
    obtain ⟨k, hk, e⟩ := zin_of (x := x) (n := vN v 42) (by omega) (by rw [← hv.vw]; exact h17)
    have hin := h17
    rw [e] at hin
    subst e
    refine V.aload_n hF dX5_forcedIn_20 rfl ?_
    refine V.getR hF dX5_forcedIn_21 fl_X5_9 hM.1.1 hM.1.2 rfl hM.m1.1 ?_
    refine V.bipush (v := nI 21) hF dX5_forcedIn_24 (by decide) ?_
    refine V.iload_n hF dX5_forcedIn_26 rfl ?_
    refine V.iadd hF dX5_forcedIn_27 ?_
    refine V.ialoadF (j := (21 + k)) hF dX5_forcedIn_28 hM.m1.2.1 hM.m1.2.2.1 (by simp only [nI_add, pk_mul, Nat.zero_add]) (hM.m1.lt (by omega)) (hM.m1.sm (by decide)) hX ?_
    refine V.goto (tgt := 37) hF dX5_forcedIn_29 (by decide) ?_
    refine V.iret hF dX5_forcedIn_37 (Nat.le_refl _) (Nat.le_refl _) ?_
    exact pR.e (by first | (rw [if_pos hin, nI_clamp (by omega)]; done) | simp [*]) (by first | (rw [if_pos hin]; done) | simp [th_th, upd_upd, *]) rfl
set_option maxRecDepth 20000 in
theorem ct_X5_requestJoin (hst : l.stackTraces = false) (σ : SH) (I X : IX) (o : Nat) (ar : Nat → Nat) (hM : MS σ o ar) (f : Rw) (hI : I o = f) (v : Rw) (hX : X (ar 1) = v) (x : Int32) : Ct l D cy sa sv yX5_requestJoin cX5_requestJoin 2 (some .int) 3 0 0 [.ref o, .int x] σ I X (pR (some (.int (if zPr x && !zbit (v 43) x then zcnt (v 43 ||| (nI 1 <<< (x &&& 31))) 6 else nI 0))) σ (va_up I o (th f (if zPr x then (if zbit (v 43) x then nI 2 else nI 0) else nI 1))) (va_up X (ar 1) (if zPr x && !zbit (v 43) x then zjoin v x else v))) noX := by
  refine Ct.of (by decide) hst (Nat.le_of_ble_eq_true rfl) ?_
  intro pp ee ss mm args below meth kc A hF hnm hout
  refine V.etaI o hI ?_
  refine V.etaX (ar 1) hX ?_
  refine V.aload_n hF dX5_requestJoin_0 rfl ?_
  refine V.iload_n hF dX5_requestJoin_1 rfl ?_
  refine V.vI hF dX5_requestJoin_2 (ct_X5_isOne hst _ _ _ _ _ hM _ (va_up_self _ _ _) _) lk_X5_63 sl_X5_isOne hM.1.1 hM.1.2 rfl (Nat.le_of_ble_eq_true rfl) (fit_of rfl) (Nat.le_of_ble_eq_true rfl) rfl ?_
  refine V.collI ?_
  refine V.if_neB (tgt := 10) hF dX5_requestJoin_5 (by decide) (fun h5 => ?_) (fun h5 => ?_)
  · refine V.aload_n hF dX5_requestJoin_10 rfl ?_
    refine V.getR hF dX5_requestJoin_11 fl_X5_9 hM.1.1 hM.1.2 rfl hM.m1.1 ?_
    refine V.bipush (v := nI 43) hF dX5_requestJoin_14 (by decide) ?_
    refine V.ialoadF (j := 43) hF dX5_requestJoin_16 hM.m1.2.1 hM.m1.2.2.1 rfl (hM.m1.lt (lt_of rfl)) (hM.m1.sm (by decide)) (va_up_self _ _ _) ?_
    refine V.iload_n hF dX5_requestJoin_17 rfl ?_
    refine V.ishr hF dX5_requestJoin_18 ?_
    refine V.iconst (v := nI 1) hF dX5_requestJoin_19 (by decide) ?_
    refine V.iand hF dX5_requestJoin_20 ?_
    refine V.iconst (v := nI 1) hF dX5_requestJoin_21 (by decide) ?_
    refine V.icmp_ne (tgt := 31) hF dX5_requestJoin_22 (by decide) (fun h22 => ?_) (fun h22 => ?_)
    · have hb : zbit (v 43) x = false := decide_eq_false h22
      refine V.aload_n hF dX5_requestJoin_31 rfl ?_
      refine V.getR hF dX5_requestJoin_32 fl_X5_9 hM.1.1 hM.1.2 rfl hM.m1.1 ?_
      refine V.bipush (v := nI 43) hF dX5_requestJoin_35 (by decide) ?_
      refine V.dup2 hF dX5_requestJoin_37 rfl rfl ?_
      refine V.ialoadF (j := 43) hF dX5_requestJoin_38 hM.m1.2.1 hM.m1.2.2.1 rfl (hM.m1.lt (lt_of rfl)) (hM.m1.sm (by decide)) (va_up_self _ _ _) ?_
      refine V.iconst (v := nI 1) hF dX5_requestJoin_39 (by decide) ?_
      refine V.iload_n hF dX5_requestJoin_40 rfl ?_
      refine V.ishl hF dX5_requestJoin_41 ?_
      refine V.ior hF dX5_requestJoin_42 ?_
      refine V.iastoreU (j := 43) hF dX5_requestJoin_43 hM.m1.2.1 hM.m1.2.2.1 rfl (hM.m1.lt (lt_of rfl)) (hM.m1.sm (by decide)) ?_
      refine V.aload_n hF dX5_requestJoin_44 rfl ?_
      refine V.getR hF dX5_requestJoin_45 fl_X5_9 hM.1.1 hM.1.2 rfl hM.m1.1 ?_
      refine V.bipush (v := nI 43) hF dX5_requestJoin_48 (by decide) ?_
      refine V.ialoadF (j := 43) hF dX5_requestJoin_50 hM.m1.2.1 hM.m1.2.2.1 rfl (hM.m1.lt (lt_of rfl)) (hM.m1.sm (by decide)) (va_up_self _ _ _) ?_
      refine V.sI hF dX5_requestJoin_51 (ct_X5_count hst _ _ _ _) lk_X5_66 (fit_of rfl) (Nat.le_of_ble_eq_true rfl) rfl ?_
      refine V.iret hF dX5_requestJoin_54 (Nat.le_refl _) (Nat.le_refl _) ?_
      exact pR.e (by simp [h5, hb, zjoin, upd_at, *]) (by simp [h5, hb, zjoin, upd_at, th_th, upd_upd, *]) (by simp [h5, hb, zjoin, upd_at, up_eta, *])
    · have hb : zbit (v 43) x = true := decide_eq_true h22
      refine V.aload_n hF dX5_requestJoin_25 rfl ?_
      refine V.iconst (v := nI 2) hF dX5_requestJoin_26 (by decide) ?_
      refine V.vI hF dX5_requestJoin_27 (ct_X5_no hst _ _ _ _ _ hM _ (va_up_self _ _ _) _) lk_X5_59 sl_X5_no hM.1.1 hM.1.2 rfl (Nat.le_of_ble_eq_true rfl) (fit_of rfl) (Nat.le_of_ble_eq_true rfl) rfl ?_
      refine V.collI ?_
      refine V.iret hF dX5_requestJoin_30 (Nat.le_refl _) (Nat.le_refl _) ?_
      exact pR.e (by simp [h5, hb, *]) (by simp [h5, hb, th_th, upd_upd, *]) (by simp [h5, hb, up_eta, *])
  · refine V.iconst (v := nI 0) hF dX5_requestJoin_8 (by decide) ?_
    refine V.iret hF dX5_requestJoin_9 (Nat.le_refl _) (Nat.le_refl _) ?_
    exact pR.e (by simp [h5, *]) (by simp [h5, th_th, upd_upd, *]) (by simp [h5, up_eta, *])
set_option maxRecDepth 20000 in
theorem ct_X5_requestLeave (hst : l.stackTraces = false) (σ : SH) (I X : IX) (o : Nat) (ar : Nat → Nat) (hM : MS σ o ar) (f : Rw) (hI : I o = f) (v : Rw) (hX : X (ar 1) = v) (hv : WV v) (x : Int32) : Ct l D cy sa sv yX5_requestLeave cX5_requestLeave 3 (some .int) 3 0 0 [.ref o, .int x] σ I X (pR (some (.int (if zPr x && zlok v x then zcnt (zleft v x) 6 else nI 0))) σ (va_up I o (th f (if zPr x then (if zlok v x then nI 0 else nI 2) else nI 1))) (va_up X (ar 1) (if zPr x && zlok v x then upd v 43 (zleft v x) else v))) noX := by
  refine Ct.of (by decide) hst (Nat.le_of_ble_eq_true rfl) ?_
  intro pp ee ss mm args below meth kc A hF hnm hout
  refine V.etaI o hI ?_
  refine V.etaX (ar 1) hX ?_
  refine V.aload_n hF dX5_requestLeave_0 rfl ?_
  refine V.iload_n hF dX5_requestLeave_1 rfl ?_
  refine V.vI hF dX5_requestLeave_2 (ct_X5_isOne hst _ _ _ _ _ hM _ (va_up_self _ _ _) _) lk_X5_63 sl_X5_isOne hM.1.1 hM.1.2 rfl (Nat.le_of_ble_eq_true rfl) (fit_of rfl) (Nat.le_of_ble_eq_true rfl) rfl ?_
  refine V.collI ?_
  refine V.if_neB (tgt := 10) hF dX5_requestLeave_5 (by decide) (fun h5 => ?_) (fun h5 => ?_)
  · refine V.aload_n hF dX5_requestLeave_10 rfl ?_
    refine V.getR hF dX5_requestLeave_11 fl_X5_9 hM.1.1 hM.1.2 rfl hM.m1.1 ?_
    refine V.bipush (v := nI 43) hF dX5_requestLeave_14 (by decide) ?_
    refine V.ialoadF (j := 43) hF dX5_requestLeave_16 hM.m1.2.1 hM.m1.2.2.1 rfl (hM.m1.lt (lt_of rfl)) (hM.m1.sm (by decide)) (va_up_self _ _ _) ?_
    refine V.iconst (v := nI 1) hF dX5_requestLeave_17 (by decide) ?_
    refine V.iload_n hF dX5_requestLeave_18 rfl ?_
    refine V.ishl hF dX5_requestLeave_19 ?_
    refine V.iconst (v := -1) hF dX5_requestLeave_20 (by decide) ?_
    refine V.ixor hF dX5_requestLeave_21 ?_
    refine V.iand hF dX5_requestLeave_22 ?_
    refine V.istore_n hF dX5_requestLeave_23 (by decide) ?_
    refine V.iload_n hF dX5_requestLeave_24 rfl ?_
    refine V.aload_n hF dX5_requestLeave_25 rfl ?_
    refine V.getR hF dX5_requestLeave_26 fl_X5_9 hM.1.1 hM.1.2 rfl hM.m1.1 ?_
    refine V.bipush (v := nI 43) hF dX5_requestLeave_29 (by decide) ?_
    refine V.ialoadF (j := 43) hF dX5_requestLeave_31 hM.m1.2.1 hM.m1.2.2.1 rfl (hM.m1.lt (lt_of rfl)) (hM.m1.sm (by decide)) (va_up_self _ _ _) ?_
    refine V.icmp_eq (tgt := 44) hF dX5_requestLeave_32 (by decide) (fun h32 => ?_) (fun h32 => ?_)
    · have hb : zlok v x = false := by unfold zlok; rw [decide_eq_true (show zleft v x = v 43 from h32)]; rfl
      refine V.aload_n hF dX5_requestLeave_44 rfl ?_
      refine V.iconst (v := nI 2) hF dX5_requestLeave_45 (by decide) ?_
      refine V.vI hF dX5_requestLeave_46 (ct_X5_no hst _ _ _ _ _ hM _ (va_up_self _ _ _) _) lk_X5_59 sl_X5_no hM.1.1 hM.1.2 rfl (Nat.le_of_ble_eq_true rfl) (fit_of rfl) (Nat.le_of_ble_eq_true rfl) rfl ?_
      refine V.collI ?_
      refine V.iret hF dX5_requestLeave_49 (Nat.le_refl _) (Nat.le_refl _) ?_
      exact pR.e (by simp [h5, hb, *]) (by simp [h5, hb, th_th, upd_upd, *]) (by simp [h5, hb, up_eta, *])
    · refine V.iload_n hF dX5_requestLeave_35 rfl ?_
      refine V.aload_n hF dX5_requestLeave_36 rfl ?_
      refine V.vI hF dX5_requestLeave_37 (ct_X5_members hst _ _ _ _ _ hM _ (va_up_self _ _ _) hv) lk_X5_45 sl_X5_members hM.1.1 hM.1.2 rfl (Nat.le_of_ble_eq_true rfl) (fit_of rfl) (Nat.le_of_ble_eq_true rfl) rfl ?_
      refine V.iand hF dX5_requestLeave_40 ?_
      refine V.if_ne (tgt := 50) hF dX5_requestLeave_41 (by decide) (fun h41 => ?_) (fun h41 => ?_)
      · have hb : zlok v x = true := by unfold zlok; rw [decide_eq_false (show ¬ zleft v x = v 43 from h32), decide_eq_false (show ¬ zleft v x &&& zmem v = 0 from h41)]; rfl
        refine V.aload_n hF dX5_requestLeave_50 rfl ?_
        refine V.getR hF dX5_requestLeave_51 fl_X5_9 hM.1.1 hM.1.2 rfl hM.m1.1 ?_
        refine V.bipush (v := nI 43) hF dX5_requestLeave_54 (by decide) ?_
        refine V.iload_n hF dX5_requestLeave_56 rfl ?_
        refine V.iastoreU (j := 43) hF dX5_requestLeave_57 hM.m1.2.1 hM.m1.2.2.1 rfl (hM.m1.lt (lt_of rfl)) (hM.m1.sm (by decide)) ?_
        refine V.iload_n hF dX5_requestLeave_58 rfl ?_
        refine V.sI hF dX5_requestLeave_59 (ct_X5_count hst _ _ _ _) lk_X5_66 (fit_of rfl) (Nat.le_of_ble_eq_true rfl) rfl ?_
        refine V.iret hF dX5_requestLeave_62 (Nat.le_refl _) (Nat.le_refl _) ?_
        exact pR.e (by simp [h5, hb, zleft, *]) (by simp [h5, hb, zleft, th_th, upd_upd, *]) (by simp [h5, hb, zleft, up_eta, *])
      · have hb : zlok v x = false := by unfold zlok; rw [decide_eq_true (show zleft v x &&& zmem v = 0 from h41)]; simp
        refine V.aload_n hF dX5_requestLeave_44 rfl ?_
        refine V.iconst (v := nI 2) hF dX5_requestLeave_45 (by decide) ?_
        refine V.vI hF dX5_requestLeave_46 (ct_X5_no hst _ _ _ _ _ hM _ (va_up_self _ _ _) _) lk_X5_59 sl_X5_no hM.1.1 hM.1.2 rfl (Nat.le_of_ble_eq_true rfl) (fit_of rfl) (Nat.le_of_ble_eq_true rfl) rfl ?_
        refine V.collI ?_
        refine V.iret hF dX5_requestLeave_49 (Nat.le_refl _) (Nat.le_refl _) ?_
        exact pR.e (by simp [h5, hb, *]) (by simp [h5, hb, th_th, upd_upd, *]) (by simp [h5, hb, up_eta, *])
  · refine V.iconst (v := nI 0) hF dX5_requestLeave_8 (by decide) ?_
    refine V.iret hF dX5_requestLeave_9 (Nat.le_refl _) (Nat.le_refl _) ?_
    exact pR.e (by simp [h5, *]) (by simp [h5, th_th, upd_upd, *]) (by simp [h5, up_eta, *])
set_option maxRecDepth 20000 in
theorem ct_X5_install (hst : l.stackTraces = false) (σ : SH) (I X : IX) (o : Nat) (ar : Nat → Nat) (hM : MS σ o ar) (f : Rw) (hI : I o = f) (v : Rw) (hX : X (ar 1) = v) (hv : WV v) (hs : WS v) : Ct l D cy sa sv yX5_install cX5_install 6 (some .int) 4 0 0 [.ref o] σ I X (pR (some (.int (if zinT v then nI 0 else zinC v))) σ (va_up I o (th f (if zinT v then nI 1 else nI 0))) (va_up X (ar 1) (if zinT v then v else zinV v))) noX := by
  refine Ct.of (by decide) hst (Nat.le_of_ble_eq_true rfl) ?_
  intro pp ee ss mm args below meth kc A hF hnm hout
  refine V.etaI o hI ?_
  refine V.etaX (ar 1) hX ?_
  obtain ⟨hlo, hlo6, hlob, -⟩ := hs.low
  have hv20 := hv.vw20
  refine V.aload_n hF dX5_install_0 rfl ?_
  refine V.iconst (v := nI 0) hF dX5_install_1 (by decide) ?_
  refine V.putIU hF dX5_install_2 fl_X5_38 hM.1.1 hM.1.2 rfl rfl rfl ?_
  refine V.aload_n hF dX5_install_5 rfl ?_
  refine V.getR hF dX5_install_6 fl_X5_9 hM.1.1 hM.1.2 rfl hM.m1.1 ?_
  refine V.bipush (v := nI 42) hF dX5_install_9 (by decide) ?_
  refine V.ialoadF (j := 42) hF dX5_install_11 hM.m1.2.1 hM.m1.2.2.1 rfl (hM.m1.lt (lt_of rfl)) (hM.m1.sm (by decide)) (va_up_self _ _ _) ?_
  refine V.bipush (v := nI 20) hF dX5_install_12 (by decide) ?_
  refine V.icmp_ne (tgt := 23) hF dX5_install_14 (by decide) (fun h14 => ?_) (fun h14 => ?_)
  · have hne0 : vN v 42 ≠ 20 := fun q => h14 (by rw [hv.vw, q])
    refine V.aload_n hF dX5_install_23 rfl ?_
    refine V.vI hF dX5_install_24 (ct_X5_members hst _ _ _ _ _ hM _ (va_up_self _ _ _) hv) lk_X5_45 sl_X5_members hM.1.1 hM.1.2 rfl (Nat.le_of_ble_eq_true rfl) (fit_of rfl) (Nat.le_of_ble_eq_true rfl) rfl ?_
    refine V.aload_n hF dX5_install_27 rfl ?_
    refine V.getR hF dX5_install_28 fl_X5_9 hM.1.1 hM.1.2 rfl hM.m1.1 ?_
    refine V.bipush (v := nI 43) hF dX5_install_31 (by decide) ?_
    refine V.ialoadF (j := 43) hF dX5_install_33 hM.m1.2.1 hM.m1.2.2.1 rfl (hM.m1.lt (lt_of rfl)) (hM.m1.sm (by decide)) (va_up_self _ _ _) ?_
    refine V.iand hF dX5_install_34 ?_
    refine V.istore_n hF dX5_install_35 (by decide) ?_
    refine V.iconst (v := nI 0) hF dX5_install_36 (by decide) ?_
    refine V.istore_n hF dX5_install_37 (by decide) ?_
    refine V.iconst (v := -1) hF dX5_install_38 (by decide) ?_
    refine V.istore_n hF dX5_install_39 (by decide) ?_
    refine V.iconst (v := nI 5) hF dX5_install_40 (by decide) ?_
    refine V.istore hF dX5_install_41 (by decide) ?_
    have L43 : ∀ (n43 : Nat) (k : Nat) (fs : Int32), k < n43 → k ≤ 6 → fs = zlwR (zsv v) (6 - k) → V pp l ee (Rm 4 0 0) ss mm args below meth kc D cy A (QM below args ss D cy A (pR (some (.int (if zinT v then nI 0 else zinC v))) σ (va_up I o (th f (if zinT v then nI 1 else nI 0))) (va_up X (ar 1) (if zinT v then v else zinV v))) noX 0 0) 6 0 0 σ (va_up I o (upd f 0 (nI 0))) (va_up X (ar 1) v) 43 [(0, .ref o), (1, .int (zsv v)), (2, .int (nI 0)), (3, .int fs), (4, .int (zp k))] [] := by
      intro n43
      induction n43 with
      | zero => intro k fs hlt43; exact absurd hlt43 (Nat.not_lt_zero _)
      | succ n43 ih43 =>
        intro k fs hlt43 hk hfs
        refine V.iload hF dX5_install_43 rfl ?_
        refine V.if_lt (tgt := 67) hF dX5_install_45 (by decide) (fun h45 => ?_) (fun h45 => ?_)
        · have hk0 : k = 0 := by
            cases k with
            | zero => rfl
            | succ k => exact absurd h45 (nI_pos (by omega))
          subst hk0
          obtain rfl : fs = nI (zlwN (zsv v)) := hfs.trans hlo
          refine V.iconst (v := nI 0) hF dX5_install_67 (by decide) ?_
          refine V.istore hF dX5_install_68 (by decide) ?_
          have L70 : ∀ (n70 : Nat) (k : Nat) (w : Rw) (c : Int32), 6 - k < n70 → k ≤ 6 → (zin2 (zsv v) v k) = (w, c) → V pp l ee (Rm 4 0 0) ss mm args below meth kc D cy A (QM below args ss D cy A (pR (some (.int (if zinT v then nI 0 else zinC v))) σ (va_up I o (th f (if zinT v then nI 1 else nI 0))) (va_up X (ar 1) (if zinT v then v else zinV v))) noX 0 0) 6 0 0 σ (va_up I o (upd f 0 (nI 0))) (va_up X (ar 1) w) 70 [(0, .ref o), (1, .int (zsv v)), (2, .int c), (3, .int (nI (zlwN (zsv v)))), (4, .int (nI k))] [] := by
            intro n70
            induction n70 with
            | zero => intro k w c hlt70; exact absurd hlt70 (Nat.not_lt_zero _)
            | succ n70 ih70 =>
              intro k w c hlt70 hk hwc
              refine V.iload hF dX5_install_70 rfl ?_
              refine V.bipush (v := nI 6) hF dX5_install_72 (by decide) ?_
              refine V.icmp_ge (tgt := 103) hF dX5_install_74 (by decide) (fun h74 => ?_) (fun h74 => ?_)
              · have hk6 : k = 6 := by have := nI_ge' h74 (by omega) (by omega); omega
                subst hk6
                have hw6 : w = (zin2 (zsv v) v 6).1 := by rw [hwc]
                have hc6 : c = zinC v := by rw [zinC, hwc]
                subst hw6
                subst hc6
                refine V.iconst (v := nI 0) hF dX5_install_103 (by decide) ?_
                refine V.istore hF dX5_install_104 (by decide) ?_
                have L106 : ∀ (n106 : Nat) (k : Nat) (u : Rw), 6 - k < n106 → k ≤ 6 → (zin3 (zlwN (zsv v)) (zin2 (zsv v) v 6).1 k) = u → V pp l ee (Rm 4 0 0) ss mm args below meth kc D cy A (QM below args ss D cy A (pR (some (.int (if zinT v then nI 0 else zinC v))) σ (va_up I o (th f (if zinT v then nI 1 else nI 0))) (va_up X (ar 1) (if zinT v then v else zinV v))) noX 0 0) 6 0 0 σ (va_up I o (upd f 0 (nI 0))) (va_up X (ar 1) u) 106 [(0, .ref o), (2, .int (zinC v)), (3, .int (nI (zlwN (zsv v)))), (4, .int (nI k))] [] := by
                  intro n106
                  induction n106 with
                  | zero => intro k u hlt106; exact absurd hlt106 (Nat.not_lt_zero _)
                  | succ n106 ih106 =>
                    intro k u hlt106 hk hu
                    have hw3 : WV u := by rw [← hu]; exact zin3_in hv hs hk
                    refine V.iload hF dX5_install_106 rfl ?_
                    refine V.bipush (v := nI 6) hF dX5_install_108 (by decide) ?_
                    refine V.icmp_ge (tgt := 275) hF dX5_install_110 (by decide) (fun h110 => ?_) (fun h110 => ?_)
                    · have hk6 : k = 6 := by have := nI_ge' h110 (by omega) (by omega); omega
                      subst hk6
                      obtain rfl : u = zinW v := hu.symm
                      have hvw := zinW_42 v
                      have hwW : WV (zinW v) := hw3
                      have hne : vN (zinW v) 42 ≠ 20 := by rw [hvw]; exact hne0
                      refine V.aload_n hF dX5_install_275 rfl ?_
                      refine V.getR hF dX5_install_276 fl_X5_9 hM.1.1 hM.1.2 rfl hM.m1.1 ?_
                      refine V.bipush (v := nI 42) hF dX5_install_279 (by decide) ?_
                      refine V.dup2 hF dX5_install_281 rfl rfl ?_
                      refine V.ialoadF (j := 42) hF dX5_install_282 hM.m1.2.1 hM.m1.2.2.1 rfl (hM.m1.lt (lt_of rfl)) (hM.m1.sm (by decide)) (va_up_self _ _ _) ?_
                      refine V.iconst (v := nI 1) hF dX5_install_283 (by decide) ?_
                      refine V.iadd hF dX5_install_284 ?_
                      refine V.iastoreU (j := 42) hF dX5_install_285 hM.m1.2.1 hM.m1.2.2.1 rfl (hM.m1.lt (lt_of rfl)) (hM.m1.sm (by decide)) ?_
                      refine V.aload_n hF dX5_install_286 rfl ?_
                      refine V.getR hF dX5_install_287 fl_X5_9 hM.1.1 hM.1.2 rfl hM.m1.1 ?_
                      refine V.iconst (v := nI 0) hF dX5_install_290 (by decide) ?_
                      refine V.aload_n hF dX5_install_291 rfl ?_
                      refine V.getR hF dX5_install_292 fl_X5_9 hM.1.1 hM.1.2 rfl hM.m1.1 ?_
                      refine V.bipush (v := nI 42) hF dX5_install_295 (by decide) ?_
                      refine V.ialoadF (j := 42) hF dX5_install_297 hM.m1.2.1 hM.m1.2.2.1 rfl (hM.m1.lt (lt_of rfl)) (hM.m1.sm (by decide)) (va_up_self _ _ _) ?_
                      refine V.topi (y := nI (vN (zinW v) 42 + 1)) (zin4_42 hwW hne) ?_
                      refine V.iadd hF dX5_install_298 ?_
                      refine V.aload_n hF dX5_install_299 rfl ?_
                      refine V.getR hF dX5_install_300 fl_X5_9 hM.1.1 hM.1.2 rfl hM.m1.1 ?_
                      refine V.bipush (v := nI 43) hF dX5_install_303 (by decide) ?_
                      refine V.ialoadF (j := 43) hF dX5_install_305 hM.m1.2.1 hM.m1.2.2.1 rfl (hM.m1.lt (lt_of rfl)) (hM.m1.sm (by decide)) (va_up_self _ _ _) ?_
                      refine V.iastoreU (j := (vN (zinW v) 42 + 1)) hF dX5_install_306 hM.m1.2.1 hM.m1.2.2.1 (by simp only [nI_add, pk_mul, Nat.zero_add, Nat.add_zero]) (hM.m1.lt (by omega)) (hM.m1.sm (by decide)) ?_
                      refine V.aload_n hF dX5_install_307 rfl ?_
                      refine V.getR hF dX5_install_308 fl_X5_9 hM.1.1 hM.1.2 rfl hM.m1.1 ?_
                      refine V.bipush (v := nI 21) hF dX5_install_311 (by decide) ?_
                      refine V.aload_n hF dX5_install_313 rfl ?_
                      refine V.getR hF dX5_install_314 fl_X5_9 hM.1.1 hM.1.2 rfl hM.m1.1 ?_
                      refine V.bipush (v := nI 42) hF dX5_install_317 (by decide) ?_
                      refine V.ialoadF (j := 42) hF dX5_install_319 hM.m1.2.1 hM.m1.2.2.1 rfl (hM.m1.lt (lt_of rfl)) (hM.m1.sm (by decide)) (va_up_self _ _ _) ?_
                      refine V.topi (y := nI (vN (zinW v) 42 + 1)) (by rw [upd_at, if_neg (by omega)]; exact zin4_42 hwW hne) ?_
                      refine V.iadd hF dX5_install_320 ?_
                      refine V.iload_n hF dX5_install_321 rfl ?_
                      refine V.iastoreU (j := (21 + (vN (zinW v) 42 + 1))) hF dX5_install_322 hM.m1.2.1 hM.m1.2.2.1 (by simp only [nI_add, pk_mul, Nat.zero_add, Nat.add_zero]) (hM.m1.lt (by omega)) (hM.m1.sm (by decide)) ?_
                      refine V.iconst (v := nI 0) hF dX5_install_323 (by decide) ?_
                      refine V.istore hF dX5_install_324 (by decide) ?_
                      have L326 : ∀ (n326 : Nat) (j : Nat), 216 - j < n326 → j ≤ 216 → V pp l ee (Rm 4 0 0) ss mm args below meth kc D cy A (QM below args ss D cy A (pR (some (.int (if zinT v then nI 0 else zinC v))) σ (va_up I o (th f (if zinT v then nI 1 else nI 0))) (va_up X (ar 1) (if zinT v then v else zinV v))) noX 0 0) 6 0 0 σ (va_up I o (upd f 0 (nI 0))) (va_up X (ar 1) (zztab (zin4 (zinW v) (zinC v)) j)) 326 [(0, .ref o), (2, .int (zinC v)), (4, .int (nI j))] [] := by
                        intro n326
                        induction n326 with
                        | zero => intro j hlt326; exact absurd hlt326 (Nat.not_lt_zero _)
                        | succ n326 ih326 =>
                          intro j hlt326 hj
                          refine V.iload hF dX5_install_326 rfl ?_
                          refine V.sipush (v := nI 216) hF dX5_install_328 (by decide) ?_
                          refine V.icmp_ge (tgt := 352) hF dX5_install_331 (by decide) (fun h331 => ?_) (fun h331 => ?_)
                          · have hj6 : j = 216 := by have := nI_ge' h331 (by omega) (by omega); omega
                            subst hj6
                            refine V.iload_n hF dX5_install_352 rfl ?_
                            refine V.iret hF dX5_install_353 (Nat.le_refl _) (Nat.le_refl _) ?_
                            exact pR.e (by simp [zinT, h14]) (by simp [zinT, h14, th]) (by simp [zinT, h14, zinV])
                          · have hj6 : j < 216 := nI_nge h331 (by omega) (by omega)
                            refine V.aload_n hF dX5_install_334 rfl ?_
                            refine V.getR hF dX5_install_335 fl_X5_9 hM.1.1 hM.1.2 rfl hM.m1.1 ?_
                            refine V.sipush (v := nI 4270) hF dX5_install_338 (by decide) ?_
                            refine V.iload hF dX5_install_341 rfl ?_
                            refine V.iadd hF dX5_install_343 ?_
                            refine V.iconst (v := nI 0) hF dX5_install_344 (by decide) ?_
                            refine V.iastoreU (j := (4270 + j)) hF dX5_install_345 hM.m1.2.1 hM.m1.2.2.1 (by simp only [nI_add, pk_mul, Nat.zero_add, Nat.add_zero]) (hM.m1.lt (by omega)) (hM.m1.sm (by decide)) ?_
                            refine V.iinc (v := nI (j + 1)) hF dX5_install_346 rfl (by exact nI_1 _) (by decide) ?_
                            refine V.goto (tgt := 326) hF dX5_install_349 (by decide) ?_
                            refine V.relv [0, 2, 4] rfl ?_
                            refine V.eqX (congrArg (va_up X (ar 1)) (zztab_s _ j)) ?_
                            exact ih326 (j + 1) (by omega) (by omega)
                      refine V.relv [0, 2, 4] rfl ?_
                      refine V.eqX (congrArg (va_up X (ar 1)) (zztab_0 (zin4 (zinW v) (zinC v))).symm) ?_
                      exact L326 _ 0 (Nat.lt_succ_self _) (by omega)
                    · have hk6 : k < 6 := nI_nge h110 (by omega) (by omega)
                      refine V.aload_n hF dX5_install_113 rfl ?_
                      refine V.getR hF dX5_install_114 fl_X5_9 hM.1.1 hM.1.2 rfl hM.m1.1 ?_
                      refine V.bipush (v := nI 43) hF dX5_install_117 (by decide) ?_
                      refine V.ialoadF (j := 43) hF dX5_install_119 hM.m1.2.1 hM.m1.2.2.1 rfl (hM.m1.lt (lt_of rfl)) (hM.m1.sm (by decide)) (va_up_self _ _ _) ?_
                      refine V.iload hF dX5_install_120 rfl ?_
                      refine V.ishr hF dX5_install_122 ?_
                      refine V.iconst (v := nI 1) hF dX5_install_123 (by decide) ?_
                      refine V.iand hF dX5_install_124 ?_
                      refine V.if_eq (tgt := 269) hF dX5_install_125 (by decide) (fun h125 => ?_) (fun h125 => ?_)
                      · have hb : zskip u k = true := by unfold zskip; rw [decide_eq_true h125]; rfl
                        refine V.iinc (v := nI (k + 1)) hF dX5_install_269 rfl (by exact nI_1 _) (by decide) ?_
                        refine V.goto (tgt := 106) hF dX5_install_272 (by decide) ?_
                        refine V.relv [0, 2, 3, 4] rfl ?_
                        exact ih106 (k + 1) _ (by omega) (by omega) (by first | (rw [zin3_t (by rw [hu]; exact hb), hu]; done) | (rw [zin3_f (by rw [hu]; exact hb), hu]; rfl))
                      · refine V.aload_n hF dX5_install_128 rfl ?_
                        refine V.iload hF dX5_install_129 rfl ?_
                        refine V.vI hF dX5_install_131 (ct_X5_isMember hst _ _ _ _ _ hM _ (va_up_self _ _ _) hw3 _) lk_X5_53 sl_X5_isMember hM.1.1 hM.1.2 rfl (Nat.le_of_ble_eq_true rfl) (fit_of rfl) (Nat.le_of_ble_eq_true rfl) rfl ?_
                        refine V.if_eqB (tgt := 140) hF dX5_install_134 (by decide) (fun h134 => ?_) (fun h134 => ?_)
                        · have hb : zskip u k = false := by unfold zskip; rw [decide_eq_false h125, h134]; rfl
                          refine V.aload_n hF dX5_install_140 rfl ?_
                          refine V.getR hF dX5_install_141 fl_X5_9 hM.1.1 hM.1.2 rfl hM.m1.1 ?_
                          refine V.sipush (v := nI 1550) hF dX5_install_144 (by decide) ?_
                          refine V.iload hF dX5_install_147 rfl ?_
                          refine V.iadd hF dX5_install_149 ?_
                          refine V.aload_n hF dX5_install_150 rfl ?_
                          refine V.getR hF dX5_install_151 fl_X5_9 hM.1.1 hM.1.2 rfl hM.m1.1 ?_
                          refine V.sipush (v := nI 1550) hF dX5_install_154 (by decide) ?_
                          refine V.iload_n hF dX5_install_157 rfl ?_
                          refine V.iadd hF dX5_install_158 ?_
                          refine V.ialoadF (j := (1550 + (zlwN (zsv v)))) hF dX5_install_159 hM.m1.2.1 hM.m1.2.2.1 (by simp only [nI_add, pk_mul, Nat.zero_add, Nat.add_zero]) (hM.m1.lt (by omega)) (hM.m1.sm (by decide)) (va_up_self _ _ _) ?_
                          refine V.iastoreU (j := (1550 + k)) hF dX5_install_160 hM.m1.2.1 hM.m1.2.2.1 (by simp only [nI_add, pk_mul, Nat.zero_add, Nat.add_zero]) (hM.m1.lt (by omega)) (hM.m1.sm (by decide)) ?_
                          refine V.aload_n hF dX5_install_161 rfl ?_
                          refine V.getR hF dX5_install_162 fl_X5_9 hM.1.1 hM.1.2 rfl hM.m1.1 ?_
                          refine V.sipush (v := nI 4260) hF dX5_install_165 (by decide) ?_
                          refine V.iload hF dX5_install_168 rfl ?_
                          refine V.iadd hF dX5_install_170 ?_
                          refine V.aload_n hF dX5_install_171 rfl ?_
                          refine V.getR hF dX5_install_172 fl_X5_9 hM.1.1 hM.1.2 rfl hM.m1.1 ?_
                          refine V.sipush (v := nI 4260) hF dX5_install_175 (by decide) ?_
                          refine V.iload_n hF dX5_install_178 rfl ?_
                          refine V.iadd hF dX5_install_179 ?_
                          refine V.ialoadF (j := (4260 + (zlwN (zsv v)))) hF dX5_install_180 hM.m1.2.1 hM.m1.2.2.1 (by simp only [nI_add, pk_mul, Nat.zero_add, Nat.add_zero]) (hM.m1.lt (by omega)) (hM.m1.sm (by decide)) (va_up_self _ _ _) ?_
                          refine V.iastoreU (j := (4260 + k)) hF dX5_install_181 hM.m1.2.1 hM.m1.2.2.1 (by simp only [nI_add, pk_mul, Nat.zero_add, Nat.add_zero]) (hM.m1.lt (by omega)) (hM.m1.sm (by decide)) ?_
                          refine V.iconst (v := nI 0) hF dX5_install_182 (by decide) ?_
                          refine V.istore hF dX5_install_183 (by decide) ?_
                          have L185 : ∀ (n185 : Nat) (j : Nat), 150 - j < n185 → j ≤ 150 → V pp l ee (Rm 4 0 0) ss mm args below meth kc D cy A (QM below args ss D cy A (pR (some (.int (if zinT v then nI 0 else zinC v))) σ (va_up I o (th f (if zinT v then nI 1 else nI 0))) (va_up X (ar 1) (if zinT v then v else zinV v))) noX 0 0) 6 0 0 σ (va_up I o (upd f 0 (nI 0))) (va_up X (ar 1) (zcpL k (zlwN (zsv v)) (zcp1 u k (zlwN (zsv v))) j)) 185 [(0, .ref o), (2, .int (zinC v)), (3, .int (nI (zlwN (zsv v)))), (4, .int (nI k)), (5, .int (nI j))] [] := by
                            intro n185
                            induction n185 with
                            | zero => intro j hlt185; exact absurd hlt185 (Nat.not_lt_zero _)
                            | succ n185 ih185 =>
                              intro j hlt185 hj
                              refine V.iload hF dX5_install_185 rfl ?_
                              refine V.sipush (v := nI 150) hF dX5_install_187 (by decide) ?_
                              refine V.icmp_ge (tgt := 269) hF dX5_install_190 (by decide) (fun h190 => ?_) (fun h190 => ?_)
                              · have hj6 : j = 150 := by have := nI_ge' h190 (by omega) (by omega); omega
                                subst hj6
                                refine V.iinc (v := nI (k + 1)) hF dX5_install_269 rfl (by exact nI_1 _) (by decide) ?_
                                refine V.goto (tgt := 106) hF dX5_install_272 (by decide) ?_
                                refine V.relv [0, 2, 3, 4] rfl ?_
                                exact ih106 (k + 1) _ (by omega) (by omega) (by first | (rw [zin3_t (by rw [hu]; exact hb), hu]; done) | (rw [zin3_f (by rw [hu]; exact hb), hu]; rfl))
                              · have hj6 : j < 150 := nI_nge h190 (by omega) (by omega)
                                refine V.aload_n hF dX5_install_193 rfl ?_
                                refine V.getR hF dX5_install_194 fl_X5_9 hM.1.1 hM.1.2 rfl hM.m1.1 ?_
                                refine V.sipush (v := nI 1560) hF dX5_install_197 (by decide) ?_
                                refine V.sipush (v := nI 150) hF dX5_install_200 (by decide) ?_
                                refine V.iload hF dX5_install_203 rfl ?_
                                refine V.imul hF dX5_install_205 ?_
                                refine V.iadd hF dX5_install_206 ?_
                                refine V.iload hF dX5_install_207 rfl ?_
                                refine V.iadd hF dX5_install_209 ?_
                                refine V.aload_n hF dX5_install_210 rfl ?_
                                refine V.getR hF dX5_install_211 fl_X5_9 hM.1.1 hM.1.2 rfl hM.m1.1 ?_
                                refine V.sipush (v := nI 1560) hF dX5_install_214 (by decide) ?_
                                refine V.sipush (v := nI 150) hF dX5_install_217 (by decide) ?_
                                refine V.iload_n hF dX5_install_220 rfl ?_
                                refine V.imul hF dX5_install_221 ?_
                                refine V.iadd hF dX5_install_222 ?_
                                refine V.iload hF dX5_install_223 rfl ?_
                                refine V.iadd hF dX5_install_225 ?_
                                refine V.ialoadF (j := ((1560 + (150 * (zlwN (zsv v)))) + j)) hF dX5_install_226 hM.m1.2.1 hM.m1.2.2.1 (by simp only [nI_add, pk_mul, Nat.zero_add, Nat.add_zero]) (hM.m1.lt (by omega)) (hM.m1.sm (by decide)) (va_up_self _ _ _) ?_
                                refine V.iastoreU (j := ((1560 + (150 * k)) + j)) hF dX5_install_227 hM.m1.2.1 hM.m1.2.2.1 (by simp only [nI_add, pk_mul, Nat.zero_add, Nat.add_zero]) (hM.m1.lt (by omega)) (hM.m1.sm (by decide)) ?_
                                refine V.aload_n hF dX5_install_228 rfl ?_
                                refine V.getR hF dX5_install_229 fl_X5_9 hM.1.1 hM.1.2 rfl hM.m1.1 ?_
                                refine V.sipush (v := nI 2460) hF dX5_install_232 (by decide) ?_
                                refine V.sipush (v := nI 150) hF dX5_install_235 (by decide) ?_
                                refine V.iload hF dX5_install_238 rfl ?_
                                refine V.imul hF dX5_install_240 ?_
                                refine V.iadd hF dX5_install_241 ?_
                                refine V.iload hF dX5_install_242 rfl ?_
                                refine V.iadd hF dX5_install_244 ?_
                                refine V.aload_n hF dX5_install_245 rfl ?_
                                refine V.getR hF dX5_install_246 fl_X5_9 hM.1.1 hM.1.2 rfl hM.m1.1 ?_
                                refine V.sipush (v := nI 2460) hF dX5_install_249 (by decide) ?_
                                refine V.sipush (v := nI 150) hF dX5_install_252 (by decide) ?_
                                refine V.iload_n hF dX5_install_255 rfl ?_
                                refine V.imul hF dX5_install_256 ?_
                                refine V.iadd hF dX5_install_257 ?_
                                refine V.iload hF dX5_install_258 rfl ?_
                                refine V.iadd hF dX5_install_260 ?_
                                refine V.ialoadF (j := ((2460 + (150 * (zlwN (zsv v)))) + j)) hF dX5_install_261 hM.m1.2.1 hM.m1.2.2.1 (by simp only [nI_add, pk_mul, Nat.zero_add, Nat.add_zero]) (hM.m1.lt (by omega)) (hM.m1.sm (by decide)) (va_up_self _ _ _) ?_
                                refine V.iastoreU (j := ((2460 + (150 * k)) + j)) hF dX5_install_262 hM.m1.2.1 hM.m1.2.2.1 (by simp only [nI_add, pk_mul, Nat.zero_add, Nat.add_zero]) (hM.m1.lt (by omega)) (hM.m1.sm (by decide)) ?_
                                refine V.iinc (v := nI (j + 1)) hF dX5_install_263 rfl (by exact nI_1 _) (by decide) ?_
                                refine V.goto (tgt := 185) hF dX5_install_266 (by decide) ?_
                                refine V.relv [0, 2, 3, 4, 5] rfl ?_
                                exact ih185 (j + 1) (by omega) (by omega)
                          refine V.relv [0, 2, 3, 4, 5] rfl ?_
                          exact L185 _ 0 (Nat.lt_succ_self _) (by omega)
                        · have hb : zskip u k = true := by unfold zskip; rw [h134]; simp
                          refine V.goto (tgt := 269) hF dX5_install_137 (by decide) ?_
                          refine V.iinc (v := nI (k + 1)) hF dX5_install_269 rfl (by exact nI_1 _) (by decide) ?_
                          refine V.goto (tgt := 106) hF dX5_install_272 (by decide) ?_
                          refine V.relv [0, 2, 3, 4] rfl ?_
                          exact ih106 (k + 1) _ (by omega) (by omega) (by first | (rw [zin3_t (by rw [hu]; exact hb), hu]; done) | (rw [zin3_f (by rw [hu]; exact hb), hu]; rfl))
                refine V.relv [0, 2, 3, 4] rfl ?_
                exact L106 _ 0 _ (Nat.lt_succ_self _) (by omega) rfl
              · have hk6 : k < 6 := nI_nge h74 (by omega) (by omega)
                refine V.iload_n hF dX5_install_77 rfl ?_
                refine V.iload hF dX5_install_78 rfl ?_
                refine V.ishr hF dX5_install_80 ?_
                refine V.iconst (v := nI 1) hF dX5_install_81 (by decide) ?_
                refine V.iand hF dX5_install_82 ?_
                refine V.iconst (v := nI 1) hF dX5_install_83 (by decide) ?_
                refine V.icmp_ne (tgt := 97) hF dX5_install_84 (by decide) (fun h84 => ?_) (fun h84 => ?_)
                · have hb : zbit (zsv v) (nI k) = false := decide_eq_false h84
                  refine V.iinc (v := nI (k + 1)) hF dX5_install_97 rfl (by exact nI_1 _) (by decide) ?_
                  refine V.goto (tgt := 70) hF dX5_install_100 (by decide) ?_
                  refine V.relv [0, 1, 2, 3, 4] rfl ?_
                  exact ih70 (k + 1) _ _ (by omega) (by omega) (by first | (rw [zin2_t hb, hwc]; done) | (rw [zin2_f hb, hwc]; done))
                · have hb : zbit (zsv v) (nI k) = true := decide_eq_true h84
                  have hw2 : WV w := by have := WV_in2 (s := zsv v) hv hk; rw [hwc] at this; exact this
                  refine V.iload_n hF dX5_install_87 rfl ?_
                  refine V.aload_n hF dX5_install_88 rfl ?_
                  refine V.iload hF dX5_install_89 rfl ?_
                  refine V.iload_n hF dX5_install_91 rfl ?_
                  refine V.vI hF dX5_install_92 (ct_X5_forces hst _ _ _ _ _ hM _ (va_up_self _ _ _) hw2 k (by omega) _) lk_X5_93 sl_X5_forces hM.1.1 hM.1.2 rfl (Nat.le_of_ble_eq_true rfl) (fit_of rfl) (Nat.le_of_ble_eq_true rfl) rfl ?_
                  refine V.collX ?_
                  refine V.iadd hF dX5_install_95 ?_
                  refine V.istore_n hF dX5_install_96 (by decide) ?_
                  refine V.iinc (v := nI (k + 1)) hF dX5_install_97 rfl (by exact nI_1 _) (by decide) ?_
                  refine V.goto (tgt := 70) hF dX5_install_100 (by decide) ?_
                  refine V.relv [0, 1, 2, 3, 4] rfl ?_
                  exact ih70 (k + 1) _ _ (by omega) (by omega) (by first | (rw [zin2_t hb, hwc]; done) | (rw [zin2_f hb, hwc]; done))
          refine V.relv [0, 1, 2, 3, 4] rfl ?_
          exact L70 _ 0 _ _ (Nat.lt_succ_self _) (by omega) rfl
        · obtain ⟨k, rfl⟩ : ∃ j, k = j + 1 := by
            cases k with
            | zero => exact absurd (show zp 0 < 0 by decide) h45
            | succ k => exact ⟨k, rfl⟩
          refine V.iload_n hF dX5_install_48 rfl ?_
          refine V.iload hF dX5_install_49 rfl ?_
          refine V.ishr hF dX5_install_51 ?_
          refine V.iconst (v := nI 1) hF dX5_install_52 (by decide) ?_
          refine V.iand hF dX5_install_53 ?_
          refine V.iconst (v := nI 1) hF dX5_install_54 (by decide) ?_
          refine V.icmp_ne (tgt := 61) hF dX5_install_55 (by decide) (fun h55 => ?_) (fun h55 => ?_)
          · have hb : zbit (zsv v) (nI k) = false := decide_eq_false h55
            have hfs2 : fs = zlwR (zsv v) (6 - k) := hfs.trans (zlwR_f (by omega) hb).symm
            refine V.iinc (v := zp k) hF dX5_install_61 rfl (zp_st k) (by decide) ?_
            refine V.goto (tgt := 43) hF dX5_install_64 (by decide) ?_
            refine V.relv [0, 1, 2, 3, 4] rfl ?_
            exact ih43 k _ (by omega) (by omega) hfs2
          · have hb : zbit (zsv v) (nI k) = true := decide_eq_true h55
            have hfs2 : zp (k + 1) = zlwR (zsv v) (6 - k) := (zlwR_t (by omega) hb).symm
            refine V.iload hF dX5_install_58 rfl ?_
            refine V.istore_n hF dX5_install_60 (by decide) ?_
            refine V.iinc (v := zp k) hF dX5_install_61 rfl (zp_st k) (by decide) ?_
            refine V.goto (tgt := 43) hF dX5_install_64 (by decide) ?_
            refine V.relv [0, 1, 2, 3, 4] rfl ?_
            exact ih43 k _ (by omega) (by omega) hfs2
    refine V.relv [0, 1, 2, 3, 4] rfl ?_
    exact L43 _ 6 _ (Nat.lt_succ_self _) (by omega) rfl
  · refine V.aload_n hF dX5_install_17 rfl ?_
    refine V.iconst (v := nI 1) hF dX5_install_18 (by decide) ?_
    refine V.vI hF dX5_install_19 (ct_X5_no hst _ _ _ _ _ hM _ (va_up_self _ _ _) _) lk_X5_59 sl_X5_no hM.1.1 hM.1.2 rfl (Nat.le_of_ble_eq_true rfl) (fit_of rfl) (Nat.le_of_ble_eq_true rfl) rfl ?_
    refine V.collI ?_
    refine V.iret hF dX5_install_22 (Nat.le_refl _) (Nat.le_refl _) ?_
    exact pR.e (by simp [zinT, h14, *]) (by simp [zinT, h14, th_th, upd_upd, *]) (by simp [zinT, h14, up_eta, *])
end MD
