theorem dcmp_nn : ∀ n, n < 151 → ∀ L, L < 151 → 0 < L → Op.cmpValue (FP.dcmp (FP.ddiv (FP.i2d (nI n)) (FP.i2d (nI L))) (FP.ddiv (FP.i2d (nI n)) (FP.i2d (nI L)))) .l = 0 := by decide +kernel
theorem ov_cmp {a : UInt64} (h : ∃ n L, n < 151 ∧ L < 151 ∧ 0 < L ∧ a = FP.ddiv (FP.i2d (nI n)) (FP.i2d (nI L))) : Op.cmpValue (FP.dcmp a a) .l = 0 := by
  obtain ⟨n, L, h1, h2, h3, rfl⟩ := h
  exact dcmp_nn n h1 L h2 h3
