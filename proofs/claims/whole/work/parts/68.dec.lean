theorem dcmp_n0 : ∀ n, n < 8 → ∀ L, L < 151 → 0 < L → Op.cmpValue (FP.dcmp (FP.ddiv (FP.i2d (nI (0 + n))) (FP.i2d (nI L))) (FP.ddiv (FP.i2d (nI (0 + n))) (FP.i2d (nI L)))) .l = 0 := by decide +kernel
theorem dcmp_n1 : ∀ n, n < 8 → ∀ L, L < 151 → 0 < L → Op.cmpValue (FP.dcmp (FP.ddiv (FP.i2d (nI (8 + n))) (FP.i2d (nI L))) (FP.ddiv (FP.i2d (nI (8 + n))) (FP.i2d (nI L)))) .l = 0 := by decide +kernel
theorem dcmp_n2 : ∀ n, n < 8 → ∀ L, L < 151 → 0 < L → Op.cmpValue (FP.dcmp (FP.ddiv (FP.i2d (nI (16 + n))) (FP.i2d (nI L))) (FP.ddiv (FP.i2d (nI (16 + n))) (FP.i2d (nI L)))) .l = 0 := by decide +kernel
theorem dcmp_n3 : ∀ n, n < 8 → ∀ L, L < 151 → 0 < L → Op.cmpValue (FP.dcmp (FP.ddiv (FP.i2d (nI (24 + n))) (FP.i2d (nI L))) (FP.ddiv (FP.i2d (nI (24 + n))) (FP.i2d (nI L)))) .l = 0 := by decide +kernel
theorem dcmp_n4 : ∀ n, n < 8 → ∀ L, L < 151 → 0 < L → Op.cmpValue (FP.dcmp (FP.ddiv (FP.i2d (nI (32 + n))) (FP.i2d (nI L))) (FP.ddiv (FP.i2d (nI (32 + n))) (FP.i2d (nI L)))) .l = 0 := by decide +kernel
theorem dcmp_n5 : ∀ n, n < 8 → ∀ L, L < 151 → 0 < L → Op.cmpValue (FP.dcmp (FP.ddiv (FP.i2d (nI (40 + n))) (FP.i2d (nI L))) (FP.ddiv (FP.i2d (nI (40 + n))) (FP.i2d (nI L)))) .l = 0 := by decide +kernel
theorem dcmp_n6 : ∀ n, n < 8 → ∀ L, L < 151 → 0 < L → Op.cmpValue (FP.dcmp (FP.ddiv (FP.i2d (nI (48 + n))) (FP.i2d (nI L))) (FP.ddiv (FP.i2d (nI (48 + n))) (FP.i2d (nI L)))) .l = 0 := by decide +kernel
theorem dcmp_n7 : ∀ n, n < 8 → ∀ L, L < 151 → 0 < L → Op.cmpValue (FP.dcmp (FP.ddiv (FP.i2d (nI (56 + n))) (FP.i2d (nI L))) (FP.ddiv (FP.i2d (nI (56 + n))) (FP.i2d (nI L)))) .l = 0 := by decide +kernel
theorem dcmp_n8 : ∀ n, n < 8 → ∀ L, L < 151 → 0 < L → Op.cmpValue (FP.dcmp (FP.ddiv (FP.i2d (nI (64 + n))) (FP.i2d (nI L))) (FP.ddiv (FP.i2d (nI (64 + n))) (FP.i2d (nI L)))) .l = 0 := by decide +kernel
theorem dcmp_n9 : ∀ n, n < 8 → ∀ L, L < 151 → 0 < L → Op.cmpValue (FP.dcmp (FP.ddiv (FP.i2d (nI (72 + n))) (FP.i2d (nI L))) (FP.ddiv (FP.i2d (nI (72 + n))) (FP.i2d (nI L)))) .l = 0 := by decide +kernel
theorem dcmp_n10 : ∀ n, n < 8 → ∀ L, L < 151 → 0 < L → Op.cmpValue (FP.dcmp (FP.ddiv (FP.i2d (nI (80 + n))) (FP.i2d (nI L))) (FP.ddiv (FP.i2d (nI (80 + n))) (FP.i2d (nI L)))) .l = 0 := by decide +kernel
theorem dcmp_n11 : ∀ n, n < 8 → ∀ L, L < 151 → 0 < L → Op.cmpValue (FP.dcmp (FP.ddiv (FP.i2d (nI (88 + n))) (FP.i2d (nI L))) (FP.ddiv (FP.i2d (nI (88 + n))) (FP.i2d (nI L)))) .l = 0 := by decide +kernel
theorem dcmp_n12 : ∀ n, n < 8 → ∀ L, L < 151 → 0 < L → Op.cmpValue (FP.dcmp (FP.ddiv (FP.i2d (nI (96 + n))) (FP.i2d (nI L))) (FP.ddiv (FP.i2d (nI (96 + n))) (FP.i2d (nI L)))) .l = 0 := by decide +kernel
theorem dcmp_n13 : ∀ n, n < 8 → ∀ L, L < 151 → 0 < L → Op.cmpValue (FP.dcmp (FP.ddiv (FP.i2d (nI (104 + n))) (FP.i2d (nI L))) (FP.ddiv (FP.i2d (nI (104 + n))) (FP.i2d (nI L)))) .l = 0 := by decide +kernel
theorem dcmp_n14 : ∀ n, n < 8 → ∀ L, L < 151 → 0 < L → Op.cmpValue (FP.dcmp (FP.ddiv (FP.i2d (nI (112 + n))) (FP.i2d (nI L))) (FP.ddiv (FP.i2d (nI (112 + n))) (FP.i2d (nI L)))) .l = 0 := by decide +kernel
theorem dcmp_n15 : ∀ n, n < 8 → ∀ L, L < 151 → 0 < L → Op.cmpValue (FP.dcmp (FP.ddiv (FP.i2d (nI (120 + n))) (FP.i2d (nI L))) (FP.ddiv (FP.i2d (nI (120 + n))) (FP.i2d (nI L)))) .l = 0 := by decide +kernel
theorem dcmp_n16 : ∀ n, n < 8 → ∀ L, L < 151 → 0 < L → Op.cmpValue (FP.dcmp (FP.ddiv (FP.i2d (nI (128 + n))) (FP.i2d (nI L))) (FP.ddiv (FP.i2d (nI (128 + n))) (FP.i2d (nI L)))) .l = 0 := by decide +kernel
theorem dcmp_n17 : ∀ n, n < 8 → ∀ L, L < 151 → 0 < L → Op.cmpValue (FP.dcmp (FP.ddiv (FP.i2d (nI (136 + n))) (FP.i2d (nI L))) (FP.ddiv (FP.i2d (nI (136 + n))) (FP.i2d (nI L)))) .l = 0 := by decide +kernel
theorem dcmp_n18 : ∀ n, n < 8 → ∀ L, L < 151 → 0 < L → Op.cmpValue (FP.dcmp (FP.ddiv (FP.i2d (nI (144 + n))) (FP.i2d (nI L))) (FP.ddiv (FP.i2d (nI (144 + n))) (FP.i2d (nI L)))) .l = 0 := by decide +kernel
theorem dcmp_nn (n : Nat) (hn : n < 151) (L : Nat) (hL : L < 151) (h0 : 0 < L) : Op.cmpValue (FP.dcmp (FP.ddiv (FP.i2d (nI n)) (FP.i2d (nI L))) (FP.ddiv (FP.i2d (nI n)) (FP.i2d (nI L)))) .l = 0 := by
  have hd : n = 8 * (n / 8) + n % 8 := (Nat.div_add_mod n 8).symm
  have hm : n % 8 < 8 := Nat.mod_lt _ (by omega)
  have hq : n / 8 < 19 := by omega
  generalize n / 8 = q at hd hq
  generalize n % 8 = r at hd hm
  subst hd
  match q, hq with
  | 0, _ => exact dcmp_n0 r hm L hL h0
  | 1, _ => exact dcmp_n1 r hm L hL h0
  | 2, _ => exact dcmp_n2 r hm L hL h0
  | 3, _ => exact dcmp_n3 r hm L hL h0
  | 4, _ => exact dcmp_n4 r hm L hL h0
  | 5, _ => exact dcmp_n5 r hm L hL h0
  | 6, _ => exact dcmp_n6 r hm L hL h0
  | 7, _ => exact dcmp_n7 r hm L hL h0
  | 8, _ => exact dcmp_n8 r hm L hL h0
  | 9, _ => exact dcmp_n9 r hm L hL h0
  | 10, _ => exact dcmp_n10 r hm L hL h0
  | 11, _ => exact dcmp_n11 r hm L hL h0
  | 12, _ => exact dcmp_n12 r hm L hL h0
  | 13, _ => exact dcmp_n13 r hm L hL h0
  | 14, _ => exact dcmp_n14 r hm L hL h0
  | 15, _ => exact dcmp_n15 r hm L hL h0
  | 16, _ => exact dcmp_n16 r hm L hL h0
  | 17, _ => exact dcmp_n17 r hm L hL h0
  | 18, _ => exact dcmp_n18 r hm L hL h0
  | q + 19, hq => exact absurd hq (by omega)
theorem ov_cmp {a : UInt64} (h : ∃ n L, n < 151 ∧ L < 151 ∧ 0 < L ∧ a = FP.ddiv (FP.i2d (nI n)) (FP.i2d (nI L))) : Op.cmpValue (FP.dcmp a a) .l = 0 := by
  obtain ⟨n, L, h1, h2, h3, rfl⟩ := h
  exact dcmp_nn n h1 L h2 h3
