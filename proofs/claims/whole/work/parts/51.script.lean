/-! the class's Script: its object so, its arrays ta k by the slot k -/
def SA (σ : SH) (so : Nat) (ta : Nat → Nat) (k kd n : Nat) : Prop := shR σ so k = some (ta k) ∧ ta k ∈ shL σ ∧ shK σ (ta k) = kd ∧ shN σ (ta k) = n
def SS (σ : SH) (so : Nat) (ta : Nat → Nat) : Prop := (so ∈ shL σ ∧ shK σ so = 3) ∧ SA σ so ta 0 10 60 ∧ SA σ so ta 2 10 30 ∧ SA σ so ta 3 11 30 ∧ SA σ so ta 4 11 30 ∧ ∀ i j, i ∈ [0, 2, 3, 4] → j ∈ [0, 2, 3, 4] → ta i = ta j → i = j
section SSx
variable {σ : SH} {so : Nat} {ta : Nat → Nat}
theorem SS.a0 (h : SS σ so ta) : SA σ so ta 0 10 60 := h.2.1
theorem SS.a2 (h : SS σ so ta) : SA σ so ta 2 10 30 := h.2.2.1
theorem SS.a3 (h : SS σ so ta) : SA σ so ta 3 11 30 := h.2.2.2.1
theorem SS.a4 (h : SS σ so ta) : SA σ so ta 4 11 30 := h.2.2.2.2.1
theorem SS.ne (h : SS σ so ta) (i j : Nat) (hi : i ∈ [0, 2, 3, 4]) (hj : j ∈ [0, 2, 3, 4]) (hn : i ≠ j) : ta i ≠ ta j := fun q => hn (h.2.2.2.2.2 i j hi hj q)
theorem SA.lt {k kd n j : Nat} (h : SA σ so ta k kd n) (hj : j < n) : j < shN σ (ta k) := by rw [h.2.2.2]; exact hj
theorem SA.sm {k kd n : Nat} (h : SA σ so ta k kd n) (hn : n ≤ 4486) : shN σ (ta k) < 2147483648 := by rw [h.2.2.2]; omega
theorem SS.d3 (h : SS σ so ta) : D3 (ta 2) (ta 3) (ta 4) := ⟨h.ne 2 3 (by decide) (by decide) (by decide), h.ne 2 4 (by decide) (by decide) (by decide), h.ne 3 4 (by decide) (by decide) (by decide)⟩
theorem SS.o0 (h : SS σ so ta) {X : IX} {f g r q : Nat → Int32} (e : X (ta 0) = q) : N3 X (ta 2) (ta 3) (ta 4) f g r (ta 0) = q := N3_o (h.ne 0 2 (by decide) (by decide) (by decide)) (h.ne 0 3 (by decide) (by decide) (by decide)) (h.ne 0 4 (by decide) (by decide) (by decide)) e
end SSx
/-- the row: at, number -/
def sf (f : Rw) (a : Nat) (x : Int32) : Rw := upd (upd f 6 (nI a)) 7 x
theorem sf_6 (f : Rw) (a : Nat) (x : Int32) : sf f a x 6 = nI a := by rw [sf, upd_at, if_neg (by omega), upd_at, if_pos rfl]
theorem sf_7 (f : Rw) (a : Nat) (x : Int32) : sf f a x 7 = x := by rw [sf, upd_at, if_pos rfl]
theorem sf_o (f : Rw) (a : Nat) (x : Int32) {k : Nat} (h1 : k ≠ 6) (h2 : k ≠ 7) : sf f a x k = f k := by rw [sf, upd_at, if_neg h2, upd_at, if_neg h1]
theorem sf_u6 (f : Rw) (a : Nat) (x : Int32) (a' : Nat) : upd (sf f a x) 6 (nI a') = sf f a' x := by
  funext j
  simp only [sf, upd_at]
  by_cases h1 : j = 6
  · subst h1; simp
  · by_cases h2 : j = 7
    · subst h2; simp
    · simp [h1, h2]
theorem sf_u7 (f : Rw) (a : Nat) (x x' : Int32) : upd (sf f a x) 7 x' = sf f a x' := by
  funext j
  simp only [sf, upd_at]
  by_cases h2 : j = 7
  · subst h2; simp
  · simp [h2]
theorem sf_u5 (f : Rw) (a : Nat) (x y : Int32) : upd (sf f a x) 5 y = sf (upd f 5 y) a x := by
  funext j
  simp only [sf, upd_at]
  by_cases h1 : j = 5
  · subst h1; simp
  · simp [h1]
theorem sf_eta (f : Rw) (a : Nat) : upd f 6 (nI a) = sf f a (f 7) := by
  funext j
  simp only [sf, upd_at]
  by_cases h2 : j = 7
  · subst h2; simp
  · simp [h2]
theorem ppr_pdg {g : Rw} {n a : Nat} (h : ppr g n a = true) : pdg g n a = true := by
  rw [pdg, ← pdg_9]
  simp only [ppr, zisIn, Bool.and_eq_true, decide_eq_true_eq] at h ⊢
  refine ⟨h.1, ?_⟩
  have h2 := h.2
  rw [Int32.le_iff_toInt_le] at h2 ⊢
  have e5 : (nI 5).toInt = 5 := by decide
  have e9 : (nI 9).toInt = 9 := by decide
  omega
theorem phe_g {g : Rw} {n a : Nat} (h : a < n) : phe g n a = g a := if_pos h
theorem pd_g {g : Rw} {n a : Nat} (h : a < n) : pd g n a = g a - nI 48 := by rw [pd, phe_g h]
theorem phe_no {g : Rw} {n a : Nat} (h : n ≤ a) : phe g n a = -1 := if_neg (by omega)
theorem pnm_1 {g : Rw} {n a : Nat} {x : Int32} (h : a < n) (hx : x = g a - nI 48) : nI 10 * nI 0 + x = pnm g n a 1 := by
  rw [hx, ← pd_g h]
  show nI 10 * nI 0 + pd g n a = pd g n a
  rw [show nI 10 * nI 0 = 0 by decide]; simp
theorem pnm_s {g : Rw} {n a k : Nat} {x : Int32} (h : a + (k + 1) < n) (hx : x = g (a + (k + 1)) - nI 48) : nI 10 * pnm g n a (k + 1) + x = pnm g n a (k + 2) := by rw [hx, ← pd_g h, pnm]
theorem pE_30 {g : Rw} {n : Nat} (hn : n ≤ 60) (h : ∀ j, j < 30 → pgo g n j = true) : pK g n = 30 ∧ pE g n = (false, pps g n 30) := by
  have hb := pps_b h
  have he : pevA g n (pps g n 30) = (false, pps g n 30) := by
    have hp : phe g n (pps g n 30) = -1 := phe_no (by omega)
    exact pev_o (by rw [hp]; decide) (by rw [hp]; decide)
  have hK : pK g n = 30 := pK_of hn h (by rw [pgo, he]; rfl)
  exact ⟨hK, by rw [pE, hK, he]⟩
theorem rrL {σ : SH} {I X : IX} {so : Nat} {f r g : Rw} {n a q : Nat} {b : Bool} {x' : Int32} {w : Option Value} (hp : pevA g n a = (b, q)) (hr : (w, va_up I so r) = (some (.int (bI b)), va_up I so (sf f q x'))) (hx : (pevA g n a).1 = true → (phe g n a = nI 98 ∨ phe g n a = nI 97 ∨ phe g n a = nI 103) → x' = pevS g n a) :
    ∃ x' : Int32, w = some (.int (bI (pevA g n a).1)) ∧ σ = σ ∧ va_up I so r = va_up I so (sf f (pevA g n a).2 x') ∧ X = X ∧ ((pevA g n a).1 = true → (phe g n a = nI 98 ∨ phe g n a = nI 97 ∨ phe g n a = nI 103) → x' = pevS g n a) := by
  have e1 := congrArg Prod.fst hr
  have e2 := congrArg Prod.snd hr
  exact ⟨x', by rw [hp]; exact e1, rfl, by rw [hp]; exact e2, rfl, hx⟩
theorem evt_all2 {g gk gf gs : Rw} {n a e : Nat} {x y z : Int32} (h1 : x = phe g n a) (h2 : phe g n a ≠ nI 105 → y = pd g n (a + 1)) (h3 : (phe g n a = nI 98 ∨ phe g n a = nI 97 ∨ phe g n a = nI 103) → z = pevS g n a) : Evt g n a e gk gf gs (upd gk e x) (upd gf e y) (upd gs e z) := ⟨fun i hi => ⟨by rw [upd_at, if_neg hi], by rw [upd_at, if_neg hi], by rw [upd_at, if_neg hi]⟩, fun _ => ⟨by rw [upd_at, if_pos rfl, h1], fun h => by rw [upd_at, if_pos rfl, h2 h], fun h => by rw [upd_at, if_pos rfl, h3 h]⟩⟩
theorem reL {σ : SH} {I X : IX} {so : Nat} {ta : Nat → Nat} {f r g gk gf gs gk' gf' gs' : Rw} {n a e q : Nat} {b : Bool} {x' : Int32} {w : Option Value} (hp : pevA g n a = (b, q)) (hr : (w, va_up I so r) = (some (.int (bI b)), va_up I so (sf (if b then upd f 5 (nI (e + 1)) else f) q x'))) (h : Evt g n a e gk gf gs gk' gf' gs') :
    ∃ (x' : Int32) (k1 k2 k3 : Rw), w = some (.int (bI (pevA g n a).1)) ∧ σ = σ ∧ va_up I so r = va_up I so (sf (if (pevA g n a).1 then upd f 5 (nI (e + 1)) else f) (pevA g n a).2 x') ∧ N3 X (ta 2) (ta 3) (ta 4) gk' gf' gs' = N3 X (ta 2) (ta 3) (ta 4) k1 k2 k3 ∧ Evt g n a e gk gf gs k1 k2 k3 := by
  have e1 := congrArg Prod.fst hr
  have e2 := congrArg Prod.snd hr
  exact ⟨x', _, _, _, by rw [hp]; exact e1, rfl, by rw [hp]; exact e2, rfl, h⟩
theorem pay_eq {g : Rw} {n a : Nat} : (if decide (phe g n (a + 3) = nI 45) then -(pnum g n (a + 3 + bN (decide (phe g n (a + 3) = nI 45)))) else pnum g n (a + 3 + bN (decide (phe g n (a + 3) = nI 45)))) = if decide (phe g n (a + 3) = nI 45) then -(pnum g n (a + 4)) else pnum g n (a + 3) := by
  generalize decide (phe g n (a + 3) = nI 45) = b
  cases b <;> simp [bN]
theorem pevS_n {g : Rw} {n a : Nat} {b : Bool} (h6 : ¬ phe g n a = nI 103) (h7 : pneg g n (a + 3) (phe g n a) = b) : pevS g n a = if b then -(pnum g n (a + 4)) else pnum g n (a + 3) := by rw [pevS, if_neg h6, h7]

section MD
variable {l : Launch} {D : va_G} {cy sa sv : Nat → Nat}
set_option maxRecDepth 20000 in
theorem ct_X3_isDigitNext (hst : l.stackTraces = false) (σ : SH) (I X : IX) (so : Nat) (ta : Nat → Nat) (hS : SS σ so ta) (f : Rw) (g : Rw) (hg : X (ta 0) = g) (n a : Nat) (x : Int32) (h1 : f 1 = nI n) (hn : n ≤ 60) (ha : a ≤ 70) : Ct l D cy sa sv yX3_isDigitNext cX3_isDigitNext 1 (some .boolean) 0 0 0 [.ref so] σ (va_up I so (sf f a x)) X (pR (some (.int (bI (pdg g n a)))) σ (va_up I so (sf f a x)) X) noX := by
  refine Ct.of (by decide) hst (Nat.le_of_ble_eq_true rfl) ?_
  intro pp ee ss mm args below meth kc A hF hnm hout
  refine V.aload_n hF dX3_isDigitNext_0 rfl ?_
  refine V.getIF hF dX3_isDigitNext_1 fl_X3_32 hS.1.1 hS.1.2 rfl (va_up_self _ _ _) ?_
  refine V.topi (y := nI a) (sf_6 _ _ _) ?_
  refine V.aload_n hF dX3_isDigitNext_4 rfl ?_
  refine V.getIF hF dX3_isDigitNext_5 fl_X3_15 hS.1.1 hS.1.2 rfl (va_up_self _ _ _) ?_
  refine V.topi (y := nI n) ((sf_o _ _ _ (by decide) (by decide)).trans h1) ?_
  refine V.icmp_ge (tgt := 43) hF dX3_isDigitNext_8 (by decide) (fun h8 => ?_) (fun h8 => ?_)
  · have hna := nI_ge' h8 (by omega) (by omega)
    refine V.iconst (v := nI 0) hF dX3_isDigitNext_43 (by decide) ?_
    refine V.zret hF dX3_isDigitNext_44 (Or.inl rfl) (Nat.le_refl _) (Nat.le_refl _) ?_
    exact pR.i (bI_e0 (by first | (rw [pdg, phe_no hna]; decide) | (rw [pdg, phe_g hna, zisIn, decide_eq_false (lt_nle h22)]; rfl) | (rw [pdg, phe_g hna, zisIn, decide_eq_false (lt_nle h36)]; simp)))
  · have hna : a < n := nI_nge h8 (by omega) (by omega)
    refine V.aload_n hF dX3_isDigitNext_11 rfl ?_
    refine V.getR hF dX3_isDigitNext_12 fl_X3_9 hS.1.1 hS.1.2 rfl hS.a0.1 ?_
    refine V.aload_n hF dX3_isDigitNext_15 rfl ?_
    refine V.getIF hF dX3_isDigitNext_16 fl_X3_32 hS.1.1 hS.1.2 rfl (va_up_self _ _ _) ?_
    refine V.topi (y := nI a) (sf_6 _ _ _) ?_
    refine V.caloadF (j := a) hF dX3_isDigitNext_19 hS.a0.2.1 hS.a0.2.2.1 rfl (hS.a0.lt (by omega)) (hS.a0.sm (by decide)) hg ?_
    refine V.bipush (v := nI 48) hF dX3_isDigitNext_20 (by decide) ?_
    refine V.icmp_lt (tgt := 43) hF dX3_isDigitNext_22 (by decide) (fun h22 => ?_) (fun h22 => ?_)
    · refine V.iconst (v := nI 0) hF dX3_isDigitNext_43 (by decide) ?_
      refine V.zret hF dX3_isDigitNext_44 (Or.inl rfl) (Nat.le_refl _) (Nat.le_refl _) ?_
      exact pR.i (bI_e0 (by first | (rw [pdg, phe_no hna]; decide) | (rw [pdg, phe_g hna, zisIn, decide_eq_false (lt_nle h22)]; rfl) | (rw [pdg, phe_g hna, zisIn, decide_eq_false (lt_nle h36)]; simp)))
    · refine V.aload_n hF dX3_isDigitNext_25 rfl ?_
      refine V.getR hF dX3_isDigitNext_26 fl_X3_9 hS.1.1 hS.1.2 rfl hS.a0.1 ?_
      refine V.aload_n hF dX3_isDigitNext_29 rfl ?_
      refine V.getIF hF dX3_isDigitNext_30 fl_X3_32 hS.1.1 hS.1.2 rfl (va_up_self _ _ _) ?_
      refine V.topi (y := nI a) (sf_6 _ _ _) ?_
      refine V.caloadF (j := a) hF dX3_isDigitNext_33 hS.a0.2.1 hS.a0.2.2.1 rfl (hS.a0.lt (by omega)) (hS.a0.sm (by decide)) hg ?_
      refine V.bipush (v := nI 57) hF dX3_isDigitNext_34 (by decide) ?_
      refine V.icmp_gt (tgt := 43) hF dX3_isDigitNext_36 (by decide) (fun h36 => ?_) (fun h36 => ?_)
      · refine V.iconst (v := nI 0) hF dX3_isDigitNext_43 (by decide) ?_
        refine V.zret hF dX3_isDigitNext_44 (Or.inl rfl) (Nat.le_refl _) (Nat.le_refl _) ?_
        exact pR.i (bI_e0 (by first | (rw [pdg, phe_no hna]; decide) | (rw [pdg, phe_g hna, zisIn, decide_eq_false (lt_nle h22)]; rfl) | (rw [pdg, phe_g hna, zisIn, decide_eq_false (lt_nle h36)]; simp)))
      · refine V.iconst (v := nI 1) hF dX3_isDigitNext_39 (by decide) ?_
        refine V.goto (tgt := 44) hF dX3_isDigitNext_40 (by decide) ?_
        refine V.zret hF dX3_isDigitNext_44 (Or.inr rfl) (Nat.le_refl _) (Nat.le_refl _) ?_
        exact pR.i (bI_e1 (by rw [pdg, phe_g hna, zisIn, decide_eq_true (nlt_le h22), decide_eq_true (nlt_le h36)]; rfl))
set_option maxRecDepth 20000 in
theorem ct_X3_readSign (hst : l.stackTraces = false) (σ : SH) (I X : IX) (so : Nat) (ta : Nat → Nat) (hS : SS σ so ta) (f : Rw) (g : Rw) (hg : X (ta 0) = g) (n a : Nat) (x : Int32) (h1 : f 1 = nI n) (hn : n ≤ 60) (ha : a ≤ 70) (y : Int32) (hy : y ≠ -1) : Ct l D cy sa sv yX3_readSign cX3_readSign 2 (some .boolean) 0 0 0 [.ref so, .int y] σ (va_up I so (sf f a x)) X (pR (some (.int (bI (decide (phe g n a = y))))) σ (va_up I so (sf f (a + bN (decide (phe g n a = y))) x)) X) noX := by
  refine Ct.of (by decide) hst (Nat.le_of_ble_eq_true rfl) ?_
  intro pp ee ss mm args below meth kc A hF hnm hout
  refine V.aload_n hF dX3_readSign_0 rfl ?_
  refine V.getIF hF dX3_readSign_1 fl_X3_32 hS.1.1 hS.1.2 rfl (va_up_self _ _ _) ?_
  refine V.topi (y := nI a) (sf_6 _ _ _) ?_
  refine V.aload_n hF dX3_readSign_4 rfl ?_
  refine V.getIF hF dX3_readSign_5 fl_X3_15 hS.1.1 hS.1.2 rfl (va_up_self _ _ _) ?_
  refine V.topi (y := nI n) ((sf_o _ _ _ (by decide) (by decide)).trans h1) ?_
  refine V.icmp_ge (tgt := 24) hF dX3_readSign_8 (by decide) (fun h8 => ?_) (fun h8 => ?_)
  · have hna := nI_ge' h8 (by omega) (by omega)
    refine V.iconst (v := nI 0) hF dX3_readSign_24 (by decide) ?_
    refine V.zret hF dX3_readSign_25 (Or.inl rfl) (Nat.le_refl _) (Nat.le_refl _) ?_
    have hz : decide (phe g n a = y) = false := by
      first
      | (rw [phe_no hna]; exact decide_eq_false (fun q => hy q.symm))
      | (rw [phe_g hna]; exact decide_eq_false h21)
    rw [hz]
    exact pR.i rfl
  · have hna : a < n := nI_nge h8 (by omega) (by omega)
    refine V.aload_n hF dX3_readSign_11 rfl ?_
    refine V.getR hF dX3_readSign_12 fl_X3_9 hS.1.1 hS.1.2 rfl hS.a0.1 ?_
    refine V.aload_n hF dX3_readSign_15 rfl ?_
    refine V.getIF hF dX3_readSign_16 fl_X3_32 hS.1.1 hS.1.2 rfl (va_up_self _ _ _) ?_
    refine V.topi (y := nI a) (sf_6 _ _ _) ?_
    refine V.caloadF (j := a) hF dX3_readSign_19 hS.a0.2.1 hS.a0.2.2.1 rfl (hS.a0.lt (by omega)) (hS.a0.sm (by decide)) hg ?_
    refine V.iload_n hF dX3_readSign_20 rfl ?_
    refine V.icmp_eq (tgt := 26) hF dX3_readSign_21 (by decide) (fun h21 => ?_) (fun h21 => ?_)
    · refine V.aload_n hF dX3_readSign_26 rfl ?_
      refine V.dup hF dX3_readSign_27 rfl ?_
      refine V.getIF hF dX3_readSign_28 fl_X3_32 hS.1.1 hS.1.2 rfl (va_up_self _ _ _) ?_
      refine V.topi (y := nI a) (sf_6 _ _ _) ?_
      refine V.iconst (v := nI 1) hF dX3_readSign_31 (by decide) ?_
      refine V.iadd hF dX3_readSign_32 ?_
      refine V.topi (y := nI (a + 1)) (nI_add _ _) ?_
      refine V.putIU hF dX3_readSign_33 fl_X3_32 hS.1.1 hS.1.2 rfl rfl rfl ?_
      refine V.eqI (congrArg (va_up I so) (sf_u6 _ _ _ _)) ?_
      refine V.iconst (v := nI 1) hF dX3_readSign_36 (by decide) ?_
      refine V.zret hF dX3_readSign_37 (Or.inr rfl) (Nat.le_refl _) (Nat.le_refl _) ?_
      have hz : decide (phe g n a = y) = true := by rw [phe_g hna]; exact decide_eq_true h21
      rw [hz]
      exact pR.i rfl
    · refine V.iconst (v := nI 0) hF dX3_readSign_24 (by decide) ?_
      refine V.zret hF dX3_readSign_25 (Or.inl rfl) (Nat.le_refl _) (Nat.le_refl _) ?_
      have hz : decide (phe g n a = y) = false := by
        first
        | (rw [phe_no hna]; exact decide_eq_false (fun q => hy q.symm))
        | (rw [phe_g hna]; exact decide_eq_false h21)
      rw [hz]
      exact pR.i rfl
set_option maxRecDepth 20000 in
theorem ct_X3_readProcess (hst : l.stackTraces = false) (σ : SH) (I X : IX) (so : Nat) (ta : Nat → Nat) (hS : SS σ so ta) (f : Rw) (g : Rw) (hg : X (ta 0) = g) (n a : Nat) (x : Int32) (h1 : f 1 = nI n) (hn : n ≤ 60) (ha : a ≤ 70) : Ct l D cy sa sv yX3_readProcess cX3_readProcess 1 (some .boolean) 1 0 0 [.ref so] σ (va_up I so (sf f a x)) X (pR (some (.int (bI (ppr g n a)))) σ (va_up I so (sf f (a + bN (ppr g n a)) (if ppr g n a then pd g n a else x))) X) noX := by
  refine Ct.of (by decide) hst (Nat.le_of_ble_eq_true rfl) ?_
  intro pp ee ss mm args below meth kc A hF hnm hout
  refine V.aload_n hF dX3_readProcess_0 rfl ?_
  refine V.vI hF dX3_readProcess_1 (ct_X3_isDigitNext hst _ _ _ _ _ hS _ _ hg n a _ h1 hn (by omega)) lk_X3_73 sl_X3_isDigitNext hS.1.1 hS.1.2 rfl (Nat.le_of_ble_eq_true rfl) (fit_of rfl) (Nat.le_of_ble_eq_true rfl) rfl ?_
  refine V.if_eqB (tgt := 25) hF dX3_readProcess_4 (by decide) (fun h4 => ?_) (fun h4 => ?_)
  · have hz : ppr g n a = false := by cases q : ppr g n a with
      | false => rfl
      | true => rw [ppr_pdg q] at h4; cases h4
    refine V.iconst (v := nI 0) hF dX3_readProcess_25 (by decide) ?_
    refine V.zret hF dX3_readProcess_26 (Or.inl rfl) (Nat.le_refl _) (Nat.le_refl _) ?_
    rw [hz]
    exact pR.i rfl
  · have hna := pdg_lt h4
    refine V.aload_n hF dX3_readProcess_7 rfl ?_
    refine V.getR hF dX3_readProcess_8 fl_X3_9 hS.1.1 hS.1.2 rfl hS.a0.1 ?_
    refine V.aload_n hF dX3_readProcess_11 rfl ?_
    refine V.getIF hF dX3_readProcess_12 fl_X3_32 hS.1.1 hS.1.2 rfl (va_up_self _ _ _) ?_
    refine V.topi (y := nI a) (sf_6 _ _ _) ?_
    refine V.caloadF (j := a) hF dX3_readProcess_15 hS.a0.2.1 hS.a0.2.2.1 rfl (hS.a0.lt (by omega)) (hS.a0.sm (by decide)) hg ?_
    refine V.bipush (v := nI 48) hF dX3_readProcess_16 (by decide) ?_
    refine V.isub hF dX3_readProcess_18 ?_
    refine V.sI hF dX3_readProcess_19 (ct_X4_isProcess hst _ _ _ _) lk_X3_76 (fit_of rfl) (Nat.le_of_ble_eq_true rfl) rfl ?_
    refine V.if_neB (tgt := 27) hF dX3_readProcess_22 (by decide) (fun h22 => ?_) (fun h22 => ?_)
    · have hz : ppr g n a = true := by rw [ppr, phe_g hna]; exact h22
      refine V.aload_n hF dX3_readProcess_27 rfl ?_
      refine V.aload_n hF dX3_readProcess_28 rfl ?_
      refine V.getR hF dX3_readProcess_29 fl_X3_9 hS.1.1 hS.1.2 rfl hS.a0.1 ?_
      refine V.aload_n hF dX3_readProcess_32 rfl ?_
      refine V.getIF hF dX3_readProcess_33 fl_X3_32 hS.1.1 hS.1.2 rfl (va_up_self _ _ _) ?_
      refine V.topi (y := nI a) (sf_6 _ _ _) ?_
      refine V.caloadF (j := a) hF dX3_readProcess_36 hS.a0.2.1 hS.a0.2.2.1 rfl (hS.a0.lt (by omega)) (hS.a0.sm (by decide)) hg ?_
      refine V.bipush (v := nI 48) hF dX3_readProcess_37 (by decide) ?_
      refine V.isub hF dX3_readProcess_39 ?_
      refine V.putIU hF dX3_readProcess_40 fl_X3_35 hS.1.1 hS.1.2 rfl rfl rfl ?_
      refine V.eqI (congrArg (va_up I so) (sf_u7 _ _ _ _)) ?_
      refine V.aload_n hF dX3_readProcess_43 rfl ?_
      refine V.dup hF dX3_readProcess_44 rfl ?_
      refine V.getIF hF dX3_readProcess_45 fl_X3_32 hS.1.1 hS.1.2 rfl (va_up_self _ _ _) ?_
      refine V.topi (y := nI a) (sf_6 _ _ _) ?_
      refine V.iconst (v := nI 1) hF dX3_readProcess_48 (by decide) ?_
      refine V.iadd hF dX3_readProcess_49 ?_
      refine V.topi (y := nI (a + 1)) (nI_add _ _) ?_
      refine V.putIU hF dX3_readProcess_50 fl_X3_32 hS.1.1 hS.1.2 rfl rfl rfl ?_
      refine V.eqI (congrArg (va_up I so) (sf_u6 _ _ _ _)) ?_
      refine V.iconst (v := nI 1) hF dX3_readProcess_53 (by decide) ?_
      refine V.zret hF dX3_readProcess_54 (Or.inr rfl) (Nat.le_refl _) (Nat.le_refl _) ?_
      rw [hz, if_pos rfl, pd_g hna]
      exact pR.i rfl
    · have hz : ppr g n a = false := by rw [ppr, phe_g hna]; exact h22
      refine V.iconst (v := nI 0) hF dX3_readProcess_25 (by decide) ?_
      refine V.zret hF dX3_readProcess_26 (Or.inl rfl) (Nat.le_refl _) (Nat.le_refl _) ?_
      rw [hz]
      exact pR.i rfl
set_option maxRecDepth 20000 in
theorem ct_X3_readDigits (hst : l.stackTraces = false) (σ : SH) (I X : IX) (so : Nat) (ta : Nat → Nat) (hS : SS σ so ta) (f : Rw) (g : Rw) (hg : X (ta 0) = g) (n a : Nat) (x : Int32) (h1 : f 1 = nI n) (hn : n ≤ 60) (ha : a ≤ 66) : Ct l D cy sa sv yX3_readDigits cX3_readDigits 2 (some .boolean) 1 0 0 [.ref so] σ (va_up I so (sf f a x)) X (pR (some (.int (bI (pdg g n a)))) σ (va_up I so (sf f (a + pcn g n a) (pnum g n a))) X) noX := by
  refine Ct.of (by decide) hst (Nat.le_of_ble_eq_true rfl) ?_
  intro pp ee ss mm args below meth kc A hF hnm hout
  refine V.iconst (v := nI 0) hF dX3_readDigits_0 (by decide) ?_
  refine V.istore_n hF dX3_readDigits_1 (by decide) ?_
  refine V.aload_n hF dX3_readDigits_2 rfl ?_
  refine V.iconst (v := nI 0) hF dX3_readDigits_3 (by decide) ?_
  refine V.putIU hF dX3_readDigits_4 fl_X3_35 hS.1.1 hS.1.2 rfl rfl rfl ?_
  refine V.eqI (congrArg (va_up I so) (sf_u7 _ _ _ _)) ?_
  refine V.iload_n hF dX3_readDigits_7 rfl ?_
  refine V.iconst (v := nI 3) hF dX3_readDigits_8 (by decide) ?_
  refine V.icmp_ge (tgt := 59) hF dX3_readDigits_9 (by decide) (fun h9 => ?_) (fun h9 => ?_)
  · exact absurd h9 (by decide)
  · refine V.aload_n hF dX3_readDigits_12 rfl ?_
    refine V.vI hF dX3_readDigits_13 (ct_X3_isDigitNext hst _ _ _ _ _ hS _ _ hg n a _ h1 hn (by omega)) lk_X3_73 sl_X3_isDigitNext hS.1.1 hS.1.2 rfl (Nat.le_of_ble_eq_true rfl) (fit_of rfl) (Nat.le_of_ble_eq_true rfl) rfl ?_
    refine V.if_eqB (tgt := 59) hF dX3_readDigits_16 (by decide) (fun h16 => ?_) (fun h16 => ?_)
    · have hd0 : pdg g n a = false := h16
      refine V.iload_n hF dX3_readDigits_59 rfl ?_
      refine V.if_le (tgt := 67) hF dX3_readDigits_60 (by decide) (fun h60 => ?_) (fun h60 => ?_)
      · refine V.iconst (v := nI 0) hF dX3_readDigits_67 (by decide) ?_
        refine V.zret hF dX3_readDigits_68 (Or.inl rfl) (Nat.le_refl _) (Nat.le_refl _) ?_
        have hc : pcn g n a = 0 := by simp [pcn, hd0]
        rw [pnum, hc, hd0]
        exact pR.i rfl
      · exact absurd h60 (by decide)
    · have hd0 : pdg g n a = true := h16
      have hl0 := pdg_lt hd0
      refine V.aload_n hF dX3_readDigits_19 rfl ?_
      refine V.bipush (v := nI 10) hF dX3_readDigits_20 (by decide) ?_
      refine V.aload_n hF dX3_readDigits_22 rfl ?_
      refine V.getIF hF dX3_readDigits_23 fl_X3_35 hS.1.1 hS.1.2 rfl (va_up_self _ _ _) ?_
      refine V.topi (y := nI 0) (sf_7 _ _ _) ?_
      refine V.imul hF dX3_readDigits_26 ?_
      refine V.aload_n hF dX3_readDigits_27 rfl ?_
      refine V.getR hF dX3_readDigits_28 fl_X3_9 hS.1.1 hS.1.2 rfl hS.a0.1 ?_
      refine V.aload_n hF dX3_readDigits_31 rfl ?_
      refine V.getIF hF dX3_readDigits_32 fl_X3_32 hS.1.1 hS.1.2 rfl (va_up_self _ _ _) ?_
      refine V.topi (y := nI a) (sf_6 _ _ _) ?_
      refine V.caloadF (j := a) hF dX3_readDigits_35 hS.a0.2.1 hS.a0.2.2.1 rfl (hS.a0.lt (by omega)) (hS.a0.sm (by decide)) hg ?_
      refine V.bipush (v := nI 48) hF dX3_readDigits_36 (by decide) ?_
      refine V.isub hF dX3_readDigits_38 ?_
      refine V.iadd hF dX3_readDigits_39 ?_
      refine V.topi (y := (pnm g n a 1)) (pnm_1 hl0 rfl) ?_
      refine V.putIU hF dX3_readDigits_40 fl_X3_35 hS.1.1 hS.1.2 rfl rfl rfl ?_
      refine V.eqI (congrArg (va_up I so) (sf_u7 _ _ _ _)) ?_
      refine V.aload_n hF dX3_readDigits_43 rfl ?_
      refine V.dup hF dX3_readDigits_44 rfl ?_
      refine V.getIF hF dX3_readDigits_45 fl_X3_32 hS.1.1 hS.1.2 rfl (va_up_self _ _ _) ?_
      refine V.topi (y := nI a) (sf_6 _ _ _) ?_
      refine V.iconst (v := nI 1) hF dX3_readDigits_48 (by decide) ?_
      refine V.iadd hF dX3_readDigits_49 ?_
      refine V.topi (y := nI (a + 1)) (nI_add _ _) ?_
      refine V.putIU hF dX3_readDigits_50 fl_X3_32 hS.1.1 hS.1.2 rfl rfl rfl ?_
      refine V.eqI (congrArg (va_up I so) (sf_u6 _ _ _ _)) ?_
      refine V.iinc (v := nI 1) hF dX3_readDigits_53 rfl (by decide) (by decide) ?_
      refine V.goto (tgt := 7) hF dX3_readDigits_56 (by decide) ?_
      refine V.iload_n hF dX3_readDigits_7 rfl ?_
      refine V.iconst (v := nI 3) hF dX3_readDigits_8 (by decide) ?_
      refine V.icmp_ge (tgt := 59) hF dX3_readDigits_9 (by decide) (fun h9 => ?_) (fun h9 => ?_)
      · exact absurd h9 (by decide)
      · refine V.aload_n hF dX3_readDigits_12 rfl ?_
        refine V.vI hF dX3_readDigits_13 (ct_X3_isDigitNext hst _ _ _ _ _ hS _ _ hg n (a + 1) _ h1 hn (by omega)) lk_X3_73 sl_X3_isDigitNext hS.1.1 hS.1.2 rfl (Nat.le_of_ble_eq_true rfl) (fit_of rfl) (Nat.le_of_ble_eq_true rfl) rfl ?_
        refine V.if_eqB (tgt := 59) hF dX3_readDigits_16 (by decide) (fun h16 => ?_) (fun h16 => ?_)
        · have hd1 : pdg g n (a + 1) = false := h16
          refine V.iload_n hF dX3_readDigits_59 rfl ?_
          refine V.if_le (tgt := 67) hF dX3_readDigits_60 (by decide) (fun h60 => ?_) (fun h60 => ?_)
          · exact absurd h60 (by decide)
          · refine V.iconst (v := nI 1) hF dX3_readDigits_63 (by decide) ?_
            refine V.goto (tgt := 68) hF dX3_readDigits_64 (by decide) ?_
            refine V.zret hF dX3_readDigits_68 (Or.inr rfl) (Nat.le_refl _) (Nat.le_refl _) ?_
            have hc : pcn g n a = 1 := by simp [pcn, hd0, hd1]
            rw [pnum, hc, hd0]
            exact pR.i rfl
        · have hd1 : pdg g n (a + 1) = true := h16
          have hl1 := pdg_lt hd1
          refine V.aload_n hF dX3_readDigits_19 rfl ?_
          refine V.bipush (v := nI 10) hF dX3_readDigits_20 (by decide) ?_
          refine V.aload_n hF dX3_readDigits_22 rfl ?_
          refine V.getIF hF dX3_readDigits_23 fl_X3_35 hS.1.1 hS.1.2 rfl (va_up_self _ _ _) ?_
          refine V.topi (y := (pnm g n a 1)) (sf_7 _ _ _) ?_
          refine V.imul hF dX3_readDigits_26 ?_
          refine V.aload_n hF dX3_readDigits_27 rfl ?_
          refine V.getR hF dX3_readDigits_28 fl_X3_9 hS.1.1 hS.1.2 rfl hS.a0.1 ?_
          refine V.aload_n hF dX3_readDigits_31 rfl ?_
          refine V.getIF hF dX3_readDigits_32 fl_X3_32 hS.1.1 hS.1.2 rfl (va_up_self _ _ _) ?_
          refine V.topi (y := nI (a + 1)) (sf_6 _ _ _) ?_
          refine V.caloadF (j := (a + 1)) hF dX3_readDigits_35 hS.a0.2.1 hS.a0.2.2.1 rfl (hS.a0.lt (by omega)) (hS.a0.sm (by decide)) hg ?_
          refine V.bipush (v := nI 48) hF dX3_readDigits_36 (by decide) ?_
          refine V.isub hF dX3_readDigits_38 ?_
          refine V.iadd hF dX3_readDigits_39 ?_
          refine V.topi (y := (pnm g n a 2)) (pnm_s (k := 0) hl1 rfl) ?_
          refine V.putIU hF dX3_readDigits_40 fl_X3_35 hS.1.1 hS.1.2 rfl rfl rfl ?_
          refine V.eqI (congrArg (va_up I so) (sf_u7 _ _ _ _)) ?_
          refine V.aload_n hF dX3_readDigits_43 rfl ?_
          refine V.dup hF dX3_readDigits_44 rfl ?_
          refine V.getIF hF dX3_readDigits_45 fl_X3_32 hS.1.1 hS.1.2 rfl (va_up_self _ _ _) ?_
          refine V.topi (y := nI (a + 1)) (sf_6 _ _ _) ?_
          refine V.iconst (v := nI 1) hF dX3_readDigits_48 (by decide) ?_
          refine V.iadd hF dX3_readDigits_49 ?_
          refine V.topi (y := nI (a + 2)) (nI_add _ _) ?_
          refine V.putIU hF dX3_readDigits_50 fl_X3_32 hS.1.1 hS.1.2 rfl rfl rfl ?_
          refine V.eqI (congrArg (va_up I so) (sf_u6 _ _ _ _)) ?_
          refine V.iinc (v := nI 2) hF dX3_readDigits_53 rfl (by decide) (by decide) ?_
          refine V.goto (tgt := 7) hF dX3_readDigits_56 (by decide) ?_
          refine V.iload_n hF dX3_readDigits_7 rfl ?_
          refine V.iconst (v := nI 3) hF dX3_readDigits_8 (by decide) ?_
          refine V.icmp_ge (tgt := 59) hF dX3_readDigits_9 (by decide) (fun h9 => ?_) (fun h9 => ?_)
          · exact absurd h9 (by decide)
          · refine V.aload_n hF dX3_readDigits_12 rfl ?_
            refine V.vI hF dX3_readDigits_13 (ct_X3_isDigitNext hst _ _ _ _ _ hS _ _ hg n (a + 2) _ h1 hn (by omega)) lk_X3_73 sl_X3_isDigitNext hS.1.1 hS.1.2 rfl (Nat.le_of_ble_eq_true rfl) (fit_of rfl) (Nat.le_of_ble_eq_true rfl) rfl ?_
            refine V.if_eqB (tgt := 59) hF dX3_readDigits_16 (by decide) (fun h16 => ?_) (fun h16 => ?_)
            · have hd2 : pdg g n (a + 2) = false := h16
              refine V.iload_n hF dX3_readDigits_59 rfl ?_
              refine V.if_le (tgt := 67) hF dX3_readDigits_60 (by decide) (fun h60 => ?_) (fun h60 => ?_)
              · exact absurd h60 (by decide)
              · refine V.iconst (v := nI 1) hF dX3_readDigits_63 (by decide) ?_
                refine V.goto (tgt := 68) hF dX3_readDigits_64 (by decide) ?_
                refine V.zret hF dX3_readDigits_68 (Or.inr rfl) (Nat.le_refl _) (Nat.le_refl _) ?_
                have hc : pcn g n a = 2 := by simp [pcn, hd0, hd1, hd2]
                rw [pnum, hc, hd0]
                exact pR.i rfl
            · have hd2 : pdg g n (a + 2) = true := h16
              have hl2 := pdg_lt hd2
              refine V.aload_n hF dX3_readDigits_19 rfl ?_
              refine V.bipush (v := nI 10) hF dX3_readDigits_20 (by decide) ?_
              refine V.aload_n hF dX3_readDigits_22 rfl ?_
              refine V.getIF hF dX3_readDigits_23 fl_X3_35 hS.1.1 hS.1.2 rfl (va_up_self _ _ _) ?_
              refine V.topi (y := (pnm g n a 2)) (sf_7 _ _ _) ?_
              refine V.imul hF dX3_readDigits_26 ?_
              refine V.aload_n hF dX3_readDigits_27 rfl ?_
              refine V.getR hF dX3_readDigits_28 fl_X3_9 hS.1.1 hS.1.2 rfl hS.a0.1 ?_
              refine V.aload_n hF dX3_readDigits_31 rfl ?_
              refine V.getIF hF dX3_readDigits_32 fl_X3_32 hS.1.1 hS.1.2 rfl (va_up_self _ _ _) ?_
              refine V.topi (y := nI (a + 2)) (sf_6 _ _ _) ?_
              refine V.caloadF (j := (a + 2)) hF dX3_readDigits_35 hS.a0.2.1 hS.a0.2.2.1 rfl (hS.a0.lt (by omega)) (hS.a0.sm (by decide)) hg ?_
              refine V.bipush (v := nI 48) hF dX3_readDigits_36 (by decide) ?_
              refine V.isub hF dX3_readDigits_38 ?_
              refine V.iadd hF dX3_readDigits_39 ?_
              refine V.topi (y := (pnm g n a 3)) (pnm_s (k := 1) hl2 rfl) ?_
              refine V.putIU hF dX3_readDigits_40 fl_X3_35 hS.1.1 hS.1.2 rfl rfl rfl ?_
              refine V.eqI (congrArg (va_up I so) (sf_u7 _ _ _ _)) ?_
              refine V.aload_n hF dX3_readDigits_43 rfl ?_
              refine V.dup hF dX3_readDigits_44 rfl ?_
              refine V.getIF hF dX3_readDigits_45 fl_X3_32 hS.1.1 hS.1.2 rfl (va_up_self _ _ _) ?_
              refine V.topi (y := nI (a + 2)) (sf_6 _ _ _) ?_
              refine V.iconst (v := nI 1) hF dX3_readDigits_48 (by decide) ?_
              refine V.iadd hF dX3_readDigits_49 ?_
              refine V.topi (y := nI (a + 3)) (nI_add _ _) ?_
              refine V.putIU hF dX3_readDigits_50 fl_X3_32 hS.1.1 hS.1.2 rfl rfl rfl ?_
              refine V.eqI (congrArg (va_up I so) (sf_u6 _ _ _ _)) ?_
              refine V.iinc (v := nI 3) hF dX3_readDigits_53 rfl (by decide) (by decide) ?_
              refine V.goto (tgt := 7) hF dX3_readDigits_56 (by decide) ?_
              refine V.iload_n hF dX3_readDigits_7 rfl ?_
              refine V.iconst (v := nI 3) hF dX3_readDigits_8 (by decide) ?_
              refine V.icmp_ge (tgt := 59) hF dX3_readDigits_9 (by decide) (fun h9 => ?_) (fun h9 => ?_)
              · refine V.iload_n hF dX3_readDigits_59 rfl ?_
                refine V.if_le (tgt := 67) hF dX3_readDigits_60 (by decide) (fun h60 => ?_) (fun h60 => ?_)
                · exact absurd h60 (by decide)
                · refine V.iconst (v := nI 1) hF dX3_readDigits_63 (by decide) ?_
                  refine V.goto (tgt := 68) hF dX3_readDigits_64 (by decide) ?_
                  refine V.zret hF dX3_readDigits_68 (Or.inr rfl) (Nat.le_refl _) (Nat.le_refl _) ?_
                  have hc : pcn g n a = 3 := by simp [pcn, hd0, hd1, hd2]
                  rw [pnum, hc, hd0]
                  exact pR.i rfl
              · exact absurd h9 (by decide)
set_option maxRecDepth 20000 in
theorem ct_X3_readPayload (hst : l.stackTraces = false) (σ : SH) (I X : IX) (so : Nat) (ta : Nat → Nat) (hS : SS σ so ta) (f : Rw) (g : Rw) (hg : X (ta 0) = g) (n a : Nat) (x : Int32) (h1 : f 1 = nI n) (hn : n ≤ 60) (ha : a ≤ 64) : Ct l D cy sa sv yX3_readPayload cX3_readPayload 2 (some .boolean) 2 0 0 [.ref so] σ (va_up I so (sf f a x)) X (pR (some (.int (bI (pdg g n (a + bN (decide (phe g n a = nI 45))))))) σ (va_up I so (sf f ((a + bN (decide (phe g n a = nI 45))) + pcn g n (a + bN (decide (phe g n a = nI 45)))) (if decide (phe g n a = nI 45) then -(pnum g n (a + bN (decide (phe g n a = nI 45)))) else pnum g n (a + bN (decide (phe g n a = nI 45)))))) X) noX := by
  refine Ct.of (by decide) hst (Nat.le_of_ble_eq_true rfl) ?_
  intro pp ee ss mm args below meth kc A hF hnm hout
  have hbn := bN_le (decide (phe g n a = nI 45))
  refine V.aload_n hF dX3_readPayload_0 rfl ?_
  refine V.bipush (v := nI 45) hF dX3_readPayload_1 (by decide) ?_
  refine V.vI hF dX3_readPayload_3 (ct_X3_readSign hst _ _ _ _ _ hS _ _ hg n a _ h1 hn (by omega) _ (by decide)) lk_X3_45 sl_X3_readSign hS.1.1 hS.1.2 rfl (Nat.le_of_ble_eq_true rfl) (fit_of rfl) (Nat.le_of_ble_eq_true rfl) rfl ?_
  refine V.istore_n hF dX3_readPayload_6 (by decide) ?_
  refine V.aload_n hF dX3_readPayload_7 rfl ?_
  refine V.vI hF dX3_readPayload_8 (ct_X3_readDigits hst _ _ _ _ _ hS _ _ hg n (a + bN (decide (phe g n a = nI 45))) _ h1 hn (by omega)) lk_X3_70 sl_X3_readDigits hS.1.1 hS.1.2 rfl (Nat.le_of_ble_eq_true rfl) (fit_of rfl) (Nat.le_of_ble_eq_true rfl) rfl ?_
  refine V.if_neB (tgt := 16) hF dX3_readPayload_11 (by decide) (fun h11 => ?_) (fun h11 => ?_)
  · refine V.aload_n hF dX3_readPayload_16 rfl ?_
    refine V.iload_n hF dX3_readPayload_17 rfl ?_
    refine V.if_eqB (tgt := 29) hF dX3_readPayload_18 (by decide) (fun h18 => ?_) (fun h18 => ?_)
    · refine V.aload_n hF dX3_readPayload_29 rfl ?_
      refine V.getIF hF dX3_readPayload_30 fl_X3_35 hS.1.1 hS.1.2 rfl (va_up_self _ _ _) ?_
      refine V.topi (y := (pnum g n (a + bN (decide (phe g n a = nI 45))))) (sf_7 _ _ _) ?_
      refine V.putIU hF dX3_readPayload_33 fl_X3_35 hS.1.1 hS.1.2 rfl rfl rfl ?_
      refine V.eqI (congrArg (va_up I so) (sf_u7 _ _ _ _)) ?_
      refine V.iconst (v := nI 1) hF dX3_readPayload_36 (by decide) ?_
      refine V.zret hF dX3_readPayload_37 (Or.inr rfl) (Nat.le_refl _) (Nat.le_refl _) ?_
      rw [h11]
      exact pR.e rfl (by first | rw [if_pos h18] | rw [if_neg (by rw [h18]; decide)]) rfl
    · refine V.aload_n hF dX3_readPayload_21 rfl ?_
      refine V.getIF hF dX3_readPayload_22 fl_X3_35 hS.1.1 hS.1.2 rfl (va_up_self _ _ _) ?_
      refine V.topi (y := (pnum g n (a + bN (decide (phe g n a = nI 45))))) (sf_7 _ _ _) ?_
      refine V.ineg hF dX3_readPayload_25 ?_
      refine V.goto (tgt := 33) hF dX3_readPayload_26 (by decide) ?_
      refine V.putIU hF dX3_readPayload_33 fl_X3_35 hS.1.1 hS.1.2 rfl rfl rfl ?_
      refine V.eqI (congrArg (va_up I so) (sf_u7 _ _ _ _)) ?_
      refine V.iconst (v := nI 1) hF dX3_readPayload_36 (by decide) ?_
      refine V.zret hF dX3_readPayload_37 (Or.inr rfl) (Nat.le_refl _) (Nat.le_refl _) ?_
      rw [h11]
      exact pR.e rfl (by first | rw [if_pos h18] | rw [if_neg (by rw [h18]; decide)]) rfl
  · refine V.iconst (v := nI 0) hF dX3_readPayload_14 (by decide) ?_
    refine V.zret hF dX3_readPayload_15 (Or.inl rfl) (Nat.le_refl _) (Nat.le_refl _) ?_
    have e0 : pcn g n (a + bN (decide (phe g n a = nI 45))) = 0 := by rw [pcn, h11]; rfl
    have e : (if decide (phe g n a = nI 45) then -(pnum g n (a + bN (decide (phe g n a = nI 45)))) else pnum g n (a + bN (decide (phe g n a = nI 45)))) = pnum g n (a + bN (decide (phe g n a = nI 45))) := by rw [pnum, e0, show -(pnm g n (a + bN (decide (phe g n a = nI 45))) 0) = pnm g n (a + bN (decide (phe g n a = nI 45))) 0 from (by decide : -(nI 0) = nI 0)]; exact ite_self _
    rw [e, h11]
    exact pR.i rfl
set_option maxRecDepth 20000 in
theorem ct_X3_readRest_98 (hst : l.stackTraces = false) (σ : SH) (I X : IX) (so : Nat) (ta : Nat → Nat) (hS : SS σ so ta) (f : Rw) (g : Rw) (hg : X (ta 0) = g) (n a : Nat) (x : Int32) (h1 : f 1 = nI n) (hn : n ≤ 60) (ha : a ≤ 60) (hc : phe g n a = nI 98) (hp : ppr g n (a + 1) = true) : Ct l D cy sa sv yX3_readRest cX3_readRest 2 (some .boolean) 3 0 0 [.ref so, .int (nI 98)] σ (va_up I so (sf f (a + 2) x)) X (fun v' σ' I' X' => ∃ x' : Int32, v' = some (.int (bI (pevA g n a).1)) ∧ σ' = σ ∧ I' = va_up I so (sf f (pevA g n a).2 x') ∧ X' = X ∧ ((pevA g n a).1 = true → (phe g n a = nI 98 ∨ phe g n a = nI 97 ∨ phe g n a = nI 103) → x' = pevS g n a)) noX := by
  refine Ct.of (by decide) hst (Nat.le_of_ble_eq_true rfl) ?_
  intro pp ee ss mm args below meth kc A hF hnm hout
  refine V.iload_n hF dX3_readRest_0 rfl ?_
  refine V.lookup (tgt := 36) hF dX3_readRest_1 (by decide) rfl (by decide) ?_
  refine V.aload_n hF dX3_readRest_36 rfl ?_
  refine V.bipush (v := nI 61) hF dX3_readRest_37 (by decide) ?_
  refine V.vI hF dX3_readRest_39 (ct_X3_readSign hst _ _ _ _ _ hS _ _ hg n (a + 2) _ h1 hn (by omega) _ (by decide)) lk_X3_45 sl_X3_readSign hS.1.1 hS.1.2 rfl (Nat.le_of_ble_eq_true rfl) (fit_of rfl) (Nat.le_of_ble_eq_true rfl) rfl ?_
  refine V.if_eqB (tgt := 56) hF dX3_readRest_42 (by decide) (fun h42 => ?_) (fun h42 => ?_)
  · refine V.iconst (v := nI 0) hF dX3_readRest_56 (by decide) ?_
    refine V.zret hF dX3_readRest_57 (Or.inl rfl) (Nat.le_refl _) (Nat.le_refl _) ?_
    have hp2 := pev_2 (show phe g n a ≠ nI 105 by rw [hc]; decide) (show pku (phe g n a) = true by rw [hc]; decide) hp (show ¬ (phe g n a = nI 106 ∨ phe g n a = nI 108) by rw [hc]; decide) (show ¬ phe g n (a + 2) = psg (phe g n a) by rw [hc]; exact of_decide_eq_false h42)
    exact rrL hp2 (by rw [h42]; rfl) (fun q => by rw [hp2] at q; cases q)
  · refine V.eqI (I' := va_up I so (sf f (a + 3) x)) (by rw [h42]; rfl) ?_
    refine V.aload_n hF dX3_readRest_45 rfl ?_
    refine V.vI hF dX3_readRest_46 (ct_X3_readPayload hst _ _ _ _ _ hS _ _ hg n (a + 3) _ h1 hn (by omega)) lk_X3_67 sl_X3_readPayload hS.1.1 hS.1.2 rfl (Nat.le_of_ble_eq_true rfl) (fit_of rfl) (Nat.le_of_ble_eq_true rfl) rfl ?_
    refine V.if_eqB (tgt := 56) hF dX3_readRest_49 (by decide) (fun h49 => ?_) (fun h49 => ?_)
    · refine V.iconst (v := nI 0) hF dX3_readRest_56 (by decide) ?_
      refine V.zret hF dX3_readRest_57 (Or.inl rfl) (Nat.le_refl _) (Nat.le_refl _) ?_
      have hp2 := pev_n0 (show phe g n a ≠ nI 105 by rw [hc]; decide) (show pku (phe g n a) = true by rw [hc]; decide) hp (show ¬ (phe g n a = nI 106 ∨ phe g n a = nI 108) by rw [hc]; decide) (show phe g n (a + 2) = psg (phe g n a) by rw [hc]; exact of_decide_eq_true h42) (by rw [hc]; decide) (show pneg g n (a + 3) (phe g n a) = decide (phe g n (a + 3) = nI 45) by rw [hc]; rfl) h49
      exact rrL hp2 (by rw [pcn, h49]; rfl) (fun q => by rw [hp2] at q; cases q)
    · refine V.iconst (v := nI 1) hF dX3_readRest_52 (by decide) ?_
      refine V.goto (tgt := 57) hF dX3_readRest_53 (by decide) ?_
      refine V.zret hF dX3_readRest_57 (Or.inr rfl) (Nat.le_refl _) (Nat.le_refl _) ?_
      have hp2 := pev_n1 (show phe g n a ≠ nI 105 by rw [hc]; decide) (show pku (phe g n a) = true by rw [hc]; decide) hp (show ¬ (phe g n a = nI 106 ∨ phe g n a = nI 108) by rw [hc]; decide) (show phe g n (a + 2) = psg (phe g n a) by rw [hc]; exact of_decide_eq_true h42) (by rw [hc]; decide) (show pneg g n (a + 3) (phe g n a) = decide (phe g n (a + 3) = nI 45) by rw [hc]; rfl) h49
      exact rrL hp2 rfl (fun _ _ => pay_eq.trans (pevS_n (by rw [hc]; decide) (show pneg g n (a + 3) (phe g n a) = decide (phe g n (a + 3) = nI 45) by rw [hc]; rfl)).symm)
set_option maxRecDepth 20000 in
theorem ct_X3_readRest_97 (hst : l.stackTraces = false) (σ : SH) (I X : IX) (so : Nat) (ta : Nat → Nat) (hS : SS σ so ta) (f : Rw) (g : Rw) (hg : X (ta 0) = g) (n a : Nat) (x : Int32) (h1 : f 1 = nI n) (hn : n ≤ 60) (ha : a ≤ 60) (hc : phe g n a = nI 97) (hp : ppr g n (a + 1) = true) : Ct l D cy sa sv yX3_readRest cX3_readRest 2 (some .boolean) 3 0 0 [.ref so, .int (nI 97)] σ (va_up I so (sf f (a + 2) x)) X (fun v' σ' I' X' => ∃ x' : Int32, v' = some (.int (bI (pevA g n a).1)) ∧ σ' = σ ∧ I' = va_up I so (sf f (pevA g n a).2 x') ∧ X' = X ∧ ((pevA g n a).1 = true → (phe g n a = nI 98 ∨ phe g n a = nI 97 ∨ phe g n a = nI 103) → x' = pevS g n a)) noX := by
  refine Ct.of (by decide) hst (Nat.le_of_ble_eq_true rfl) ?_
  intro pp ee ss mm args below meth kc A hF hnm hout
  refine V.iload_n hF dX3_readRest_0 rfl ?_
  refine V.lookup (tgt := 58) hF dX3_readRest_1 (by decide) rfl (by decide) ?_
  refine V.aload_n hF dX3_readRest_58 rfl ?_
  refine V.bipush (v := nI 44) hF dX3_readRest_59 (by decide) ?_
  refine V.vI hF dX3_readRest_61 (ct_X3_readSign hst _ _ _ _ _ hS _ _ hg n (a + 2) _ h1 hn (by omega) _ (by decide)) lk_X3_45 sl_X3_readSign hS.1.1 hS.1.2 rfl (Nat.le_of_ble_eq_true rfl) (fit_of rfl) (Nat.le_of_ble_eq_true rfl) rfl ?_
  refine V.if_eqB (tgt := 78) hF dX3_readRest_64 (by decide) (fun h64 => ?_) (fun h64 => ?_)
  · refine V.iconst (v := nI 0) hF dX3_readRest_78 (by decide) ?_
    refine V.zret hF dX3_readRest_79 (Or.inl rfl) (Nat.le_refl _) (Nat.le_refl _) ?_
    have hp2 := pev_2 (show phe g n a ≠ nI 105 by rw [hc]; decide) (show pku (phe g n a) = true by rw [hc]; decide) hp (show ¬ (phe g n a = nI 106 ∨ phe g n a = nI 108) by rw [hc]; decide) (show ¬ phe g n (a + 2) = psg (phe g n a) by rw [hc]; exact of_decide_eq_false h64)
    exact rrL hp2 (by rw [h64]; rfl) (fun q => by rw [hp2] at q; cases q)
  · refine V.eqI (I' := va_up I so (sf f (a + 3) x)) (by rw [h64]; rfl) ?_
    refine V.aload_n hF dX3_readRest_67 rfl ?_
    refine V.vI hF dX3_readRest_68 (ct_X3_readDigits hst _ _ _ _ _ hS _ _ hg n (a + 3) _ h1 hn (by omega)) lk_X3_70 sl_X3_readDigits hS.1.1 hS.1.2 rfl (Nat.le_of_ble_eq_true rfl) (fit_of rfl) (Nat.le_of_ble_eq_true rfl) rfl ?_
    refine V.if_eqB (tgt := 78) hF dX3_readRest_71 (by decide) (fun h71 => ?_) (fun h71 => ?_)
    · refine V.iconst (v := nI 0) hF dX3_readRest_78 (by decide) ?_
      refine V.zret hF dX3_readRest_79 (Or.inl rfl) (Nat.le_refl _) (Nat.le_refl _) ?_
      have hp2 := pev_n0 (show phe g n a ≠ nI 105 by rw [hc]; decide) (show pku (phe g n a) = true by rw [hc]; decide) hp (show ¬ (phe g n a = nI 106 ∨ phe g n a = nI 108) by rw [hc]; decide) (show phe g n (a + 2) = psg (phe g n a) by rw [hc]; exact of_decide_eq_true h64) (by rw [hc]; decide) (show pneg g n (a + 3) (phe g n a) = false by rw [hc]; rfl) h71
      exact rrL hp2 (by rw [pcn, h71]; rfl) (fun q => by rw [hp2] at q; cases q)
    · refine V.iconst (v := nI 1) hF dX3_readRest_74 (by decide) ?_
      refine V.goto (tgt := 79) hF dX3_readRest_75 (by decide) ?_
      refine V.zret hF dX3_readRest_79 (Or.inr rfl) (Nat.le_refl _) (Nat.le_refl _) ?_
      have hp2 := pev_n1 (show phe g n a ≠ nI 105 by rw [hc]; decide) (show pku (phe g n a) = true by rw [hc]; decide) hp (show ¬ (phe g n a = nI 106 ∨ phe g n a = nI 108) by rw [hc]; decide) (show phe g n (a + 2) = psg (phe g n a) by rw [hc]; exact of_decide_eq_true h64) (by rw [hc]; decide) (show pneg g n (a + 3) (phe g n a) = false by rw [hc]; rfl) h71
      exact rrL hp2 rfl (fun _ _ => by rw [pevS, if_neg (by rw [hc]; decide), show pneg g n (a + 3) (phe g n a) = false by rw [hc]; rfl]; rfl)
set_option maxRecDepth 20000 in
theorem ct_X3_readRest_103 (hst : l.stackTraces = false) (σ : SH) (I X : IX) (so : Nat) (ta : Nat → Nat) (hS : SS σ so ta) (f : Rw) (g : Rw) (hg : X (ta 0) = g) (n a : Nat) (x : Int32) (h1 : f 1 = nI n) (hn : n ≤ 60) (ha : a ≤ 60) (hc : phe g n a = nI 103) (hp : ppr g n (a + 1) = true) : Ct l D cy sa sv yX3_readRest cX3_readRest 2 (some .boolean) 3 0 0 [.ref so, .int (nI 103)] σ (va_up I so (sf f (a + 2) x)) X (fun v' σ' I' X' => ∃ x' : Int32, v' = some (.int (bI (pevA g n a).1)) ∧ σ' = σ ∧ I' = va_up I so (sf f (pevA g n a).2 x') ∧ X' = X ∧ ((pevA g n a).1 = true → (phe g n a = nI 98 ∨ phe g n a = nI 97 ∨ phe g n a = nI 103) → x' = pevS g n a)) noX := by
  refine Ct.of (by decide) hst (Nat.le_of_ble_eq_true rfl) ?_
  intro pp ee ss mm args below meth kc A hF hnm hout
  refine V.iload_n hF dX3_readRest_0 rfl ?_
  refine V.lookup (tgt := 80) hF dX3_readRest_1 (by decide) rfl (by decide) ?_
  refine V.aload_n hF dX3_readRest_80 rfl ?_
  refine V.bipush (v := nI 44) hF dX3_readRest_81 (by decide) ?_
  refine V.vI hF dX3_readRest_83 (ct_X3_readSign hst _ _ _ _ _ hS _ _ hg n (a + 2) _ h1 hn (by omega) _ (by decide)) lk_X3_45 sl_X3_readSign hS.1.1 hS.1.2 rfl (Nat.le_of_ble_eq_true rfl) (fit_of rfl) (Nat.le_of_ble_eq_true rfl) rfl ?_
  refine V.if_eqB (tgt := 100) hF dX3_readRest_86 (by decide) (fun h86 => ?_) (fun h86 => ?_)
  · refine V.iconst (v := nI 0) hF dX3_readRest_100 (by decide) ?_
    refine V.zret hF dX3_readRest_101 (Or.inl rfl) (Nat.le_refl _) (Nat.le_refl _) ?_
    have hp2 := pev_2 (show phe g n a ≠ nI 105 by rw [hc]; decide) (show pku (phe g n a) = true by rw [hc]; decide) hp (show ¬ (phe g n a = nI 106 ∨ phe g n a = nI 108) by rw [hc]; decide) (show ¬ phe g n (a + 2) = psg (phe g n a) by rw [hc]; exact of_decide_eq_false h86)
    exact rrL hp2 (by rw [h86]; rfl) (fun q => by rw [hp2] at q; cases q)
  · refine V.eqI (I' := va_up I so (sf f (a + 3) x)) (by rw [h86]; rfl) ?_
    refine V.aload_n hF dX3_readRest_89 rfl ?_
    refine V.vI hF dX3_readRest_90 (ct_X3_readProcess hst _ _ _ _ _ hS _ _ hg n (a + 3) _ h1 hn (by omega)) lk_X3_61 sl_X3_readProcess hS.1.1 hS.1.2 rfl (Nat.le_of_ble_eq_true rfl) (fit_of rfl) (Nat.le_of_ble_eq_true rfl) rfl ?_
    refine V.if_eqB (tgt := 100) hF dX3_readRest_93 (by decide) (fun h93 => ?_) (fun h93 => ?_)
    · refine V.iconst (v := nI 0) hF dX3_readRest_100 (by decide) ?_
      refine V.zret hF dX3_readRest_101 (Or.inl rfl) (Nat.le_refl _) (Nat.le_refl _) ?_
      have hp2 := pev_g0 (show phe g n a ≠ nI 105 by rw [hc]; decide) (show pku (phe g n a) = true by rw [hc]; decide) hp (show ¬ (phe g n a = nI 106 ∨ phe g n a = nI 108) by rw [hc]; decide) (show phe g n (a + 2) = psg (phe g n a) by rw [hc]; exact of_decide_eq_true h86) hc h93
      exact rrL hp2 (by rw [h93]; rfl) (fun q => by rw [hp2] at q; cases q)
    · refine V.iconst (v := nI 1) hF dX3_readRest_96 (by decide) ?_
      refine V.goto (tgt := 101) hF dX3_readRest_97 (by decide) ?_
      refine V.zret hF dX3_readRest_101 (Or.inr rfl) (Nat.le_refl _) (Nat.le_refl _) ?_
      have hp2 := pev_g1 (show phe g n a ≠ nI 105 by rw [hc]; decide) (show pku (phe g n a) = true by rw [hc]; decide) hp (show ¬ (phe g n a = nI 106 ∨ phe g n a = nI 108) by rw [hc]; decide) (show phe g n (a + 2) = psg (phe g n a) by rw [hc]; exact of_decide_eq_true h86) hc h93
      exact rrL hp2 (by rw [h93]; rfl) (fun _ _ => by rw [pevS, if_pos hc]; rfl)
set_option maxRecDepth 20000 in
theorem ct_X3_readRest_106 (hst : l.stackTraces = false) (σ : SH) (I X : IX) (so : Nat) (ta : Nat → Nat) (hS : SS σ so ta) (f : Rw) (g : Rw) (hg : X (ta 0) = g) (n a : Nat) (x : Int32) (h1 : f 1 = nI n) (hn : n ≤ 60) (ha : a ≤ 60) (hc : phe g n a = nI 106) (hp : ppr g n (a + 1) = true) : Ct l D cy sa sv yX3_readRest cX3_readRest 2 (some .boolean) 3 0 0 [.ref so, .int (nI 106)] σ (va_up I so (sf f (a + 2) x)) X (fun v' σ' I' X' => ∃ x' : Int32, v' = some (.int (bI (pevA g n a).1)) ∧ σ' = σ ∧ I' = va_up I so (sf f (pevA g n a).2 x') ∧ X' = X ∧ ((pevA g n a).1 = true → (phe g n a = nI 98 ∨ phe g n a = nI 97 ∨ phe g n a = nI 103) → x' = pevS g n a)) noX := by
  refine Ct.of (by decide) hst (Nat.le_of_ble_eq_true rfl) ?_
  intro pp ee ss mm args below meth kc A hF hnm hout
  refine V.iload_n hF dX3_readRest_0 rfl ?_
  refine V.lookup (tgt := 102) hF dX3_readRest_1 (by decide) rfl (by decide) ?_
  refine V.iconst (v := nI 1) hF dX3_readRest_102 (by decide) ?_
  refine V.zret hF dX3_readRest_103 (Or.inr rfl) (Nat.le_refl _) (Nat.le_refl _) ?_
  have hp2 := pev_jl (show phe g n a ≠ nI 105 by rw [hc]; decide) (show pku (phe g n a) = true by rw [hc]; decide) hp (by rw [hc]; decide)
  exact rrL hp2 rfl (fun _ q => by rw [hc] at q; exact absurd q (by decide))
set_option maxRecDepth 20000 in
theorem ct_X3_readRest_108 (hst : l.stackTraces = false) (σ : SH) (I X : IX) (so : Nat) (ta : Nat → Nat) (hS : SS σ so ta) (f : Rw) (g : Rw) (hg : X (ta 0) = g) (n a : Nat) (x : Int32) (h1 : f 1 = nI n) (hn : n ≤ 60) (ha : a ≤ 60) (hc : phe g n a = nI 108) (hp : ppr g n (a + 1) = true) : Ct l D cy sa sv yX3_readRest cX3_readRest 2 (some .boolean) 3 0 0 [.ref so, .int (nI 108)] σ (va_up I so (sf f (a + 2) x)) X (fun v' σ' I' X' => ∃ x' : Int32, v' = some (.int (bI (pevA g n a).1)) ∧ σ' = σ ∧ I' = va_up I so (sf f (pevA g n a).2 x') ∧ X' = X ∧ ((pevA g n a).1 = true → (phe g n a = nI 98 ∨ phe g n a = nI 97 ∨ phe g n a = nI 103) → x' = pevS g n a)) noX := by
  refine Ct.of (by decide) hst (Nat.le_of_ble_eq_true rfl) ?_
  intro pp ee ss mm args below meth kc A hF hnm hout
  refine V.iload_n hF dX3_readRest_0 rfl ?_
  refine V.lookup (tgt := 102) hF dX3_readRest_1 (by decide) rfl (by decide) ?_
  refine V.iconst (v := nI 1) hF dX3_readRest_102 (by decide) ?_
  refine V.zret hF dX3_readRest_103 (Or.inr rfl) (Nat.le_refl _) (Nat.le_refl _) ?_
  have hp2 := pev_jl (show phe g n a ≠ nI 105 by rw [hc]; decide) (show pku (phe g n a) = true by rw [hc]; decide) hp (by rw [hc]; decide)
  exact rrL hp2 rfl (fun _ q => by rw [hc] at q; exact absurd q (by decide))
set_option maxRecDepth 20000 in
theorem ct_X3_keep (hst : l.stackTraces = false) (σ : SH) (I X : IX) (so : Nat) (ta : Nat → Nat) (hS : SS σ so ta) (f : Rw) (a : Nat) (x : Int32) (gk gf gs : Rw) (e : Nat) (h5 : f 5 = nI e) (he : e < 30) (c y z : Int32) (hc : vp_nar .char c = c) : Ct l D cy sa sv yX3_keep cX3_keep 4 (some .boolean) 0 0 0 [.ref so, .int c, .int y, .int z] σ (va_up I so (sf f a x)) (N3 X (ta 2) (ta 3) (ta 4) gk gf gs) (pR (some (.int (bI true))) σ (va_up I so (sf (upd f 5 (nI (e + 1))) a x)) (N3 X (ta 2) (ta 3) (ta 4) (upd gk e c) (upd gf e y) (upd gs e z))) noX := by
  refine Ct.of (by decide) hst (Nat.le_of_ble_eq_true rfl) ?_
  intro pp ee ss mm args below meth kc A hF hnm hout
  refine V.aload_n hF dX3_keep_0 rfl ?_
  refine V.getIF hF dX3_keep_1 fl_X3_29 hS.1.1 hS.1.2 rfl (va_up_self _ _ _) ?_
  refine V.topi (y := nI e) ((sf_o _ _ _ (by decide) (by decide)).trans h5) ?_
  refine V.bipush (v := nI 30) hF dX3_keep_4 (by decide) ?_
  refine V.icmp_lt (tgt := 11) hF dX3_keep_6 (by decide) (fun h6 => ?_) (fun h6 => ?_)
  · refine V.aload_n hF dX3_keep_11 rfl ?_
    refine V.getR hF dX3_keep_12 fl_X3_19 hS.1.1 hS.1.2 rfl hS.a2.1 ?_
    refine V.aload_n hF dX3_keep_15 rfl ?_
    refine V.getIF hF dX3_keep_16 fl_X3_29 hS.1.1 hS.1.2 rfl (va_up_self _ _ _) ?_
    refine V.topi (y := nI e) ((sf_o _ _ _ (by decide) (by decide)).trans h5) ?_
    refine V.iload_n hF dX3_keep_19 rfl ?_
    refine V.n3ac (j := e) hF dX3_keep_20 hS.a2.2.1 hS.a2.2.2.1 rfl (hS.a2.lt (by omega)) (hS.a2.sm (by decide)) hc hS.d3 ?_
    refine V.aload_n hF dX3_keep_21 rfl ?_
    refine V.getR hF dX3_keep_22 fl_X3_22 hS.1.1 hS.1.2 rfl hS.a3.1 ?_
    refine V.aload_n hF dX3_keep_25 rfl ?_
    refine V.getIF hF dX3_keep_26 fl_X3_29 hS.1.1 hS.1.2 rfl (va_up_self _ _ _) ?_
    refine V.topi (y := nI e) ((sf_o _ _ _ (by decide) (by decide)).trans h5) ?_
    refine V.iload_n hF dX3_keep_29 rfl ?_
    refine V.n3b (j := e) hF dX3_keep_30 hS.a3.2.1 hS.a3.2.2.1 rfl (hS.a3.lt (by omega)) (hS.a3.sm (by decide)) hS.d3 ?_
    refine V.aload_n hF dX3_keep_31 rfl ?_
    refine V.getR hF dX3_keep_32 fl_X3_26 hS.1.1 hS.1.2 rfl hS.a4.1 ?_
    refine V.aload_n hF dX3_keep_35 rfl ?_
    refine V.getIF hF dX3_keep_36 fl_X3_29 hS.1.1 hS.1.2 rfl (va_up_self _ _ _) ?_
    refine V.topi (y := nI e) ((sf_o _ _ _ (by decide) (by decide)).trans h5) ?_
    refine V.iload_n hF dX3_keep_39 rfl ?_
    refine V.n3c (j := e) hF dX3_keep_40 hS.a4.2.1 hS.a4.2.2.1 rfl (hS.a4.lt (by omega)) (hS.a4.sm (by decide)) hS.d3 ?_
    refine V.aload_n hF dX3_keep_41 rfl ?_
    refine V.dup hF dX3_keep_42 rfl ?_
    refine V.getIF hF dX3_keep_43 fl_X3_29 hS.1.1 hS.1.2 rfl (va_up_self _ _ _) ?_
    refine V.topi (y := nI e) ((sf_o _ _ _ (by decide) (by decide)).trans h5) ?_
    refine V.iconst (v := nI 1) hF dX3_keep_46 (by decide) ?_
    refine V.iadd hF dX3_keep_47 ?_
    refine V.topi (y := nI (e + 1)) (nI_add _ _) ?_
    refine V.putIU hF dX3_keep_48 fl_X3_29 hS.1.1 hS.1.2 rfl rfl rfl ?_
    refine V.eqI (congrArg (va_up I so) (sf_u5 _ _ _ _)) ?_
    refine V.iconst (v := nI 1) hF dX3_keep_51 (by decide) ?_
    refine V.zret hF dX3_keep_52 (Or.inr rfl) (Nat.le_refl _) (Nat.le_refl _) ?_
    exact pR.i rfl
  · exact absurd ((nI_ltI (by omega) (by omega)).mpr he) h6
set_option maxRecDepth 20000 in
theorem ct_X3_readEvent_105 (hst : l.stackTraces = false) (σ : SH) (I X : IX) (so : Nat) (ta : Nat → Nat) (hS : SS σ so ta) (f : Rw) (g : Rw) (hg : X (ta 0) = g) (n a : Nat) (x : Int32) (h1 : f 1 = nI n) (hn : n ≤ 60) (ha : a ≤ 60) (gk gf gs : Rw) (e : Nat) (h5 : f 5 = nI e) (he : e < 30) (hc : phe g n a = nI 105) : Ct l D cy sa sv yX3_readEvent cX3_readEvent 3 (some .boolean) 4 0 0 [.ref so] σ (va_up I so (sf f a x)) (N3 X (ta 2) (ta 3) (ta 4) gk gf gs) (fun v' σ' I' X' => ∃ (x' : Int32) (gk' gf' gs' : Rw), v' = some (.int (bI (pevA g n a).1)) ∧ σ' = σ ∧ I' = va_up I so (sf (if (pevA g n a).1 then upd f 5 (nI (e + 1)) else f) (pevA g n a).2 x') ∧ X' = N3 X (ta 2) (ta 3) (ta 4) gk' gf' gs' ∧ Evt g n a e gk gf gs gk' gf' gs') noX := by
  refine Ct.of (by decide) hst (Nat.le_of_ble_eq_true rfl) ?_
  intro pp ee ss mm args below meth kc A hF hnm hout
  refine V.aload_n hF dX3_readEvent_0 rfl ?_
  refine V.bipush (v := nI 105) hF dX3_readEvent_1 (by decide) ?_
  refine V.vI hF dX3_readEvent_3 (ct_X3_readSign hst _ _ _ _ _ hS _ _ (hS.o0 hg) n a _ h1 hn (by omega) _ (by decide)) lk_X3_45 sl_X3_readSign hS.1.1 hS.1.2 rfl (Nat.le_of_ble_eq_true rfl) (fit_of rfl) (Nat.le_of_ble_eq_true rfl) rfl ?_
  refine V.if_eqB (tgt := 18) hF dX3_readEvent_6 (by decide) (fun h6 => ?_) (fun h6 => ?_)
  · exact absurd h6 (by rw [decide_eq_true hc]; decide)
  · refine V.eqI (I' := va_up I so (sf f (a + 1) x)) (by rw [h6]; rfl) ?_
    refine V.aload_n hF dX3_readEvent_9 rfl ?_
    refine V.bipush (v := nI 105) hF dX3_readEvent_10 (by decide) ?_
    refine V.iconst (v := nI 0) hF dX3_readEvent_12 (by decide) ?_
    refine V.iconst (v := nI 0) hF dX3_readEvent_13 (by decide) ?_
    refine V.vI hF dX3_readEvent_14 (ct_X3_keep hst _ _ _ _ _ hS _ _ _ _ _ _ e h5 he _ _ _ (by decide)) lk_X3_49 sl_X3_keep hS.1.1 hS.1.2 rfl (Nat.le_of_ble_eq_true rfl) (fit_of rfl) (Nat.le_of_ble_eq_true rfl) rfl ?_
    refine V.zret hF dX3_readEvent_17 (bI_01 _) (Nat.le_refl _) (Nat.le_refl _) ?_
    have hp := pev_i hc
    exact reL hp rfl (evt_all2 (by rw [hc]) (fun h => absurd hc h) (fun h => by rw [hc] at h; exact absurd h (by decide)))
set_option maxRecDepth 20000 in
theorem ct_X3_readEvent_98 (hst : l.stackTraces = false) (σ : SH) (I X : IX) (so : Nat) (ta : Nat → Nat) (hS : SS σ so ta) (f : Rw) (g : Rw) (hg : X (ta 0) = g) (n a : Nat) (x : Int32) (h1 : f 1 = nI n) (hn : n ≤ 60) (ha : a ≤ 60) (gk gf gs : Rw) (e : Nat) (h5 : f 5 = nI e) (he : e < 30) (hc : phe g n a = nI 98) : Ct l D cy sa sv yX3_readEvent cX3_readEvent 3 (some .boolean) 4 0 0 [.ref so] σ (va_up I so (sf f a x)) (N3 X (ta 2) (ta 3) (ta 4) gk gf gs) (fun v' σ' I' X' => ∃ (x' : Int32) (gk' gf' gs' : Rw), v' = some (.int (bI (pevA g n a).1)) ∧ σ' = σ ∧ I' = va_up I so (sf (if (pevA g n a).1 then upd f 5 (nI (e + 1)) else f) (pevA g n a).2 x') ∧ X' = N3 X (ta 2) (ta 3) (ta 4) gk' gf' gs' ∧ Evt g n a e gk gf gs gk' gf' gs') noX := by
  refine Ct.of (by decide) hst (Nat.le_of_ble_eq_true rfl) ?_
  intro pp ee ss mm args below meth kc A hF hnm hout
  refine V.aload_n hF dX3_readEvent_0 rfl ?_
  refine V.bipush (v := nI 105) hF dX3_readEvent_1 (by decide) ?_
  refine V.vI hF dX3_readEvent_3 (ct_X3_readSign hst _ _ _ _ _ hS _ _ (hS.o0 hg) n a _ h1 hn (by omega) _ (by decide)) lk_X3_45 sl_X3_readSign hS.1.1 hS.1.2 rfl (Nat.le_of_ble_eq_true rfl) (fit_of rfl) (Nat.le_of_ble_eq_true rfl) rfl ?_
  refine V.if_eqB (tgt := 18) hF dX3_readEvent_6 (by decide) (fun h6 => ?_) (fun h6 => ?_)
  · refine V.eqI (I' := va_up I so (sf f a x)) (by rw [h6]; rfl) ?_
    refine V.aload_n hF dX3_readEvent_18 rfl ?_
    refine V.getIF hF dX3_readEvent_19 fl_X3_32 hS.1.1 hS.1.2 rfl (va_up_self _ _ _) ?_
    refine V.topi (y := nI a) (sf_6 _ _ _) ?_
    refine V.aload_n hF dX3_readEvent_22 rfl ?_
    refine V.getIF hF dX3_readEvent_23 fl_X3_15 hS.1.1 hS.1.2 rfl (va_up_self _ _ _) ?_
    refine V.topi (y := nI n) ((sf_o _ _ _ (by decide) (by decide)).trans h1) ?_
    refine V.icmp_ge (tgt := 41) hF dX3_readEvent_26 (by decide) (fun h26 => ?_) (fun h26 => ?_)
    · exact absurd hc (by rw [phe_no (nI_ge' h26 (by omega) (by omega))]; decide)
    · have hna : a < n := nI_nge h26 (by omega) (by omega)
      refine V.aload_n hF dX3_readEvent_29 rfl ?_
      refine V.getR hF dX3_readEvent_30 fl_X3_9 hS.1.1 hS.1.2 rfl hS.a0.1 ?_
      refine V.aload_n hF dX3_readEvent_33 rfl ?_
      refine V.getIF hF dX3_readEvent_34 fl_X3_32 hS.1.1 hS.1.2 rfl (va_up_self _ _ _) ?_
      refine V.topi (y := nI a) (sf_6 _ _ _) ?_
      refine V.caloadF (j := a) hF dX3_readEvent_37 hS.a0.2.1 hS.a0.2.2.1 rfl (hS.a0.lt (by omega)) (hS.a0.sm (by decide)) (hS.o0 hg) ?_
      refine V.topi (y := nI 98) ((phe_g hna).symm.trans hc) ?_
      refine V.goto (tgt := 43) hF dX3_readEvent_38 (by decide) ?_
      refine V.istore_n hF dX3_readEvent_43 (by decide) ?_
      refine V.ldcT hF 23 rfl dX3_readEvent_44 ?_
      refine V.iload_n hF dX3_readEvent_46 rfl ?_
      refine V.tI hF dX3_readEvent_47 (ct_J0_indexOf_0f7a4 hst _ _ _ _) lk_X3_55 sl_J0_indexOf_0f7a4 (fit_of rfl) (Nat.le_of_ble_eq_true rfl) rfl ?_
      refine V.topi (y := nI 0) (by decide +kernel) ?_
      refine V.if_ge (tgt := 55) hF dX3_readEvent_50 (by decide) (fun h50 => ?_) (fun h50 => ?_)
      · refine V.aload_n hF dX3_readEvent_55 rfl ?_
        refine V.dup hF dX3_readEvent_56 rfl ?_
        refine V.getIF hF dX3_readEvent_57 fl_X3_32 hS.1.1 hS.1.2 rfl (va_up_self _ _ _) ?_
        refine V.topi (y := nI a) (sf_6 _ _ _) ?_
        refine V.iconst (v := nI 1) hF dX3_readEvent_60 (by decide) ?_
        refine V.iadd hF dX3_readEvent_61 ?_
        refine V.topi (y := nI (a + 1)) (nI_add _ _) ?_
        refine V.putIU hF dX3_readEvent_62 fl_X3_32 hS.1.1 hS.1.2 rfl rfl rfl ?_
        refine V.eqI (congrArg (va_up I so) (sf_u6 _ _ _ _)) ?_
        refine V.aload_n hF dX3_readEvent_65 rfl ?_
        refine V.vI hF dX3_readEvent_66 (ct_X3_readProcess hst _ _ _ _ _ hS _ _ (hS.o0 hg) n (a + 1) _ h1 hn (by omega)) lk_X3_61 sl_X3_readProcess hS.1.1 hS.1.2 rfl (Nat.le_of_ble_eq_true rfl) (fit_of rfl) (Nat.le_of_ble_eq_true rfl) rfl ?_
        refine V.if_neB (tgt := 74) hF dX3_readEvent_69 (by decide) (fun h69 => ?_) (fun h69 => ?_)
        · refine V.eqI (I' := va_up I so (sf f (a + 2) (pd g n (a + 1)))) (by rw [h69, if_pos rfl]; rfl) ?_
          refine V.aload_n hF dX3_readEvent_74 rfl ?_
          refine V.getIF hF dX3_readEvent_75 fl_X3_35 hS.1.1 hS.1.2 rfl (va_up_self _ _ _) ?_
          refine V.topi (y := (pd g n (a + 1))) (sf_7 _ _ _) ?_
          refine V.istore_n hF dX3_readEvent_78 (by decide) ?_
          refine V.aload_n hF dX3_readEvent_79 rfl ?_
          refine V.iload_n hF dX3_readEvent_80 rfl ?_
          refine V.callV hF dX3_readEvent_81 (ct_X3_readRest_98 hst _ _ _ _ _ hS _ _ (hS.o0 hg) n a _ h1 hn (by omega) hc h69) lk_X3_64 sl_X3_readRest ⟨_, _, rfl, hS.1.1, hS.1.2, Nat.le_of_ble_eq_true rfl, _, _, rfl⟩ (fit_of rfl) (Nat.le_of_ble_eq_true rfl) (fun _ _ _ _ h => h.elim) (fun v1 σ1 I1 X1 hpost => ?_) rfl
          obtain ⟨x', rfl, hs1, rfl, rfl, hx2⟩ := hpost
          obtain rfl := hs1.symm
          refine V.if_eqB (tgt := 104) hF dX3_readEvent_84 (by decide) (fun h84 => ?_) (fun h84 => ?_)
          · refine V.iconst (v := nI 0) hF dX3_readEvent_104 (by decide) ?_
            refine V.zret hF dX3_readEvent_105 (Or.inl rfl) (Nat.le_refl _) (Nat.le_refl _) ?_
            have hf : (pevA g n a).1 = false := h84
            exact ⟨_, _, _, _, by rw [hf]; rfl, rfl, by rw [hf]; rfl, rfl, evt_o hf⟩
          · refine V.aload_n hF dX3_readEvent_87 rfl ?_
            refine V.iload_n hF dX3_readEvent_88 rfl ?_
            refine V.iload_n hF dX3_readEvent_89 rfl ?_
            refine V.aload_n hF dX3_readEvent_90 rfl ?_
            refine V.getIF hF dX3_readEvent_91 fl_X3_35 hS.1.1 hS.1.2 rfl (va_up_self _ _ _) ?_
            refine V.topi (y := x') (sf_7 _ _ _) ?_
            refine V.vI hF dX3_readEvent_94 (ct_X3_keep hst _ _ _ _ _ hS _ _ _ _ _ _ e h5 he _ _ _ (by decide)) lk_X3_49 sl_X3_keep hS.1.1 hS.1.2 rfl (Nat.le_of_ble_eq_true rfl) (fit_of rfl) (Nat.le_of_ble_eq_true rfl) rfl ?_
            refine V.if_eqB (tgt := 104) hF dX3_readEvent_97 (by decide) (fun h97 => ?_) (fun h97 => ?_)
            · exact absurd h97 (by decide)
            · refine V.iconst (v := nI 1) hF dX3_readEvent_100 (by decide) ?_
              refine V.goto (tgt := 105) hF dX3_readEvent_101 (by decide) ?_
              refine V.zret hF dX3_readEvent_105 (Or.inr rfl) (Nat.le_refl _) (Nat.le_refl _) ?_
              have hf : (pevA g n a).1 = true := h84
              exact ⟨_, _, _, _, by rw [hf]; rfl, rfl, by rw [hf]; rfl, rfl, evt_all2 (by rw [hc]) (fun _ => rfl) (fun q => hx2 hf q)⟩
        · refine V.iconst (v := nI 0) hF dX3_readEvent_72 (by decide) ?_
          refine V.zret hF dX3_readEvent_73 (Or.inl rfl) (Nat.le_refl _) (Nat.le_refl _) ?_
          have hp := pev_1 (show phe g n a ≠ nI 105 by rw [hc]; decide) (show pku (phe g n a) = true by rw [hc]; decide) h69
          exact reL hp (by rw [h69]; rfl) (evt_o (by rw [hp]))
      · exact absurd h50 (by decide)
  · exact absurd h6 (by rw [decide_eq_false (show phe g n a ≠ nI 105 by rw [hc]; decide)]; decide)
set_option maxRecDepth 20000 in
theorem ct_X3_readEvent_97 (hst : l.stackTraces = false) (σ : SH) (I X : IX) (so : Nat) (ta : Nat → Nat) (hS : SS σ so ta) (f : Rw) (g : Rw) (hg : X (ta 0) = g) (n a : Nat) (x : Int32) (h1 : f 1 = nI n) (hn : n ≤ 60) (ha : a ≤ 60) (gk gf gs : Rw) (e : Nat) (h5 : f 5 = nI e) (he : e < 30) (hc : phe g n a = nI 97) : Ct l D cy sa sv yX3_readEvent cX3_readEvent 3 (some .boolean) 4 0 0 [.ref so] σ (va_up I so (sf f a x)) (N3 X (ta 2) (ta 3) (ta 4) gk gf gs) (fun v' σ' I' X' => ∃ (x' : Int32) (gk' gf' gs' : Rw), v' = some (.int (bI (pevA g n a).1)) ∧ σ' = σ ∧ I' = va_up I so (sf (if (pevA g n a).1 then upd f 5 (nI (e + 1)) else f) (pevA g n a).2 x') ∧ X' = N3 X (ta 2) (ta 3) (ta 4) gk' gf' gs' ∧ Evt g n a e gk gf gs gk' gf' gs') noX := by
  refine Ct.of (by decide) hst (Nat.le_of_ble_eq_true rfl) ?_
  intro pp ee ss mm args below meth kc A hF hnm hout
  refine V.aload_n hF dX3_readEvent_0 rfl ?_
  refine V.bipush (v := nI 105) hF dX3_readEvent_1 (by decide) ?_
  refine V.vI hF dX3_readEvent_3 (ct_X3_readSign hst _ _ _ _ _ hS _ _ (hS.o0 hg) n a _ h1 hn (by omega) _ (by decide)) lk_X3_45 sl_X3_readSign hS.1.1 hS.1.2 rfl (Nat.le_of_ble_eq_true rfl) (fit_of rfl) (Nat.le_of_ble_eq_true rfl) rfl ?_
  refine V.if_eqB (tgt := 18) hF dX3_readEvent_6 (by decide) (fun h6 => ?_) (fun h6 => ?_)
  · refine V.eqI (I' := va_up I so (sf f a x)) (by rw [h6]; rfl) ?_
    refine V.aload_n hF dX3_readEvent_18 rfl ?_
    refine V.getIF hF dX3_readEvent_19 fl_X3_32 hS.1.1 hS.1.2 rfl (va_up_self _ _ _) ?_
    refine V.topi (y := nI a) (sf_6 _ _ _) ?_
    refine V.aload_n hF dX3_readEvent_22 rfl ?_
    refine V.getIF hF dX3_readEvent_23 fl_X3_15 hS.1.1 hS.1.2 rfl (va_up_self _ _ _) ?_
    refine V.topi (y := nI n) ((sf_o _ _ _ (by decide) (by decide)).trans h1) ?_
    refine V.icmp_ge (tgt := 41) hF dX3_readEvent_26 (by decide) (fun h26 => ?_) (fun h26 => ?_)
    · exact absurd hc (by rw [phe_no (nI_ge' h26 (by omega) (by omega))]; decide)
    · have hna : a < n := nI_nge h26 (by omega) (by omega)
      refine V.aload_n hF dX3_readEvent_29 rfl ?_
      refine V.getR hF dX3_readEvent_30 fl_X3_9 hS.1.1 hS.1.2 rfl hS.a0.1 ?_
      refine V.aload_n hF dX3_readEvent_33 rfl ?_
      refine V.getIF hF dX3_readEvent_34 fl_X3_32 hS.1.1 hS.1.2 rfl (va_up_self _ _ _) ?_
      refine V.topi (y := nI a) (sf_6 _ _ _) ?_
      refine V.caloadF (j := a) hF dX3_readEvent_37 hS.a0.2.1 hS.a0.2.2.1 rfl (hS.a0.lt (by omega)) (hS.a0.sm (by decide)) (hS.o0 hg) ?_
      refine V.topi (y := nI 97) ((phe_g hna).symm.trans hc) ?_
      refine V.goto (tgt := 43) hF dX3_readEvent_38 (by decide) ?_
      refine V.istore_n hF dX3_readEvent_43 (by decide) ?_
      refine V.ldcT hF 23 rfl dX3_readEvent_44 ?_
      refine V.iload_n hF dX3_readEvent_46 rfl ?_
      refine V.tI hF dX3_readEvent_47 (ct_J0_indexOf_0f7a4 hst _ _ _ _) lk_X3_55 sl_J0_indexOf_0f7a4 (fit_of rfl) (Nat.le_of_ble_eq_true rfl) rfl ?_
      refine V.topi (y := nI 1) (by decide +kernel) ?_
      refine V.if_ge (tgt := 55) hF dX3_readEvent_50 (by decide) (fun h50 => ?_) (fun h50 => ?_)
      · refine V.aload_n hF dX3_readEvent_55 rfl ?_
        refine V.dup hF dX3_readEvent_56 rfl ?_
        refine V.getIF hF dX3_readEvent_57 fl_X3_32 hS.1.1 hS.1.2 rfl (va_up_self _ _ _) ?_
        refine V.topi (y := nI a) (sf_6 _ _ _) ?_
        refine V.iconst (v := nI 1) hF dX3_readEvent_60 (by decide) ?_
        refine V.iadd hF dX3_readEvent_61 ?_
        refine V.topi (y := nI (a + 1)) (nI_add _ _) ?_
        refine V.putIU hF dX3_readEvent_62 fl_X3_32 hS.1.1 hS.1.2 rfl rfl rfl ?_
        refine V.eqI (congrArg (va_up I so) (sf_u6 _ _ _ _)) ?_
        refine V.aload_n hF dX3_readEvent_65 rfl ?_
        refine V.vI hF dX3_readEvent_66 (ct_X3_readProcess hst _ _ _ _ _ hS _ _ (hS.o0 hg) n (a + 1) _ h1 hn (by omega)) lk_X3_61 sl_X3_readProcess hS.1.1 hS.1.2 rfl (Nat.le_of_ble_eq_true rfl) (fit_of rfl) (Nat.le_of_ble_eq_true rfl) rfl ?_
        refine V.if_neB (tgt := 74) hF dX3_readEvent_69 (by decide) (fun h69 => ?_) (fun h69 => ?_)
        · refine V.eqI (I' := va_up I so (sf f (a + 2) (pd g n (a + 1)))) (by rw [h69, if_pos rfl]; rfl) ?_
          refine V.aload_n hF dX3_readEvent_74 rfl ?_
          refine V.getIF hF dX3_readEvent_75 fl_X3_35 hS.1.1 hS.1.2 rfl (va_up_self _ _ _) ?_
          refine V.topi (y := (pd g n (a + 1))) (sf_7 _ _ _) ?_
          refine V.istore_n hF dX3_readEvent_78 (by decide) ?_
          refine V.aload_n hF dX3_readEvent_79 rfl ?_
          refine V.iload_n hF dX3_readEvent_80 rfl ?_
          refine V.callV hF dX3_readEvent_81 (ct_X3_readRest_97 hst _ _ _ _ _ hS _ _ (hS.o0 hg) n a _ h1 hn (by omega) hc h69) lk_X3_64 sl_X3_readRest ⟨_, _, rfl, hS.1.1, hS.1.2, Nat.le_of_ble_eq_true rfl, _, _, rfl⟩ (fit_of rfl) (Nat.le_of_ble_eq_true rfl) (fun _ _ _ _ h => h.elim) (fun v1 σ1 I1 X1 hpost => ?_) rfl
          obtain ⟨x', rfl, hs1, rfl, rfl, hx2⟩ := hpost
          obtain rfl := hs1.symm
          refine V.if_eqB (tgt := 104) hF dX3_readEvent_84 (by decide) (fun h84 => ?_) (fun h84 => ?_)
          · refine V.iconst (v := nI 0) hF dX3_readEvent_104 (by decide) ?_
            refine V.zret hF dX3_readEvent_105 (Or.inl rfl) (Nat.le_refl _) (Nat.le_refl _) ?_
            have hf : (pevA g n a).1 = false := h84
            exact ⟨_, _, _, _, by rw [hf]; rfl, rfl, by rw [hf]; rfl, rfl, evt_o hf⟩
          · refine V.aload_n hF dX3_readEvent_87 rfl ?_
            refine V.iload_n hF dX3_readEvent_88 rfl ?_
            refine V.iload_n hF dX3_readEvent_89 rfl ?_
            refine V.aload_n hF dX3_readEvent_90 rfl ?_
            refine V.getIF hF dX3_readEvent_91 fl_X3_35 hS.1.1 hS.1.2 rfl (va_up_self _ _ _) ?_
            refine V.topi (y := x') (sf_7 _ _ _) ?_
            refine V.vI hF dX3_readEvent_94 (ct_X3_keep hst _ _ _ _ _ hS _ _ _ _ _ _ e h5 he _ _ _ (by decide)) lk_X3_49 sl_X3_keep hS.1.1 hS.1.2 rfl (Nat.le_of_ble_eq_true rfl) (fit_of rfl) (Nat.le_of_ble_eq_true rfl) rfl ?_
            refine V.if_eqB (tgt := 104) hF dX3_readEvent_97 (by decide) (fun h97 => ?_) (fun h97 => ?_)
            · exact absurd h97 (by decide)
            · refine V.iconst (v := nI 1) hF dX3_readEvent_100 (by decide) ?_
              refine V.goto (tgt := 105) hF dX3_readEvent_101 (by decide) ?_
              refine V.zret hF dX3_readEvent_105 (Or.inr rfl) (Nat.le_refl _) (Nat.le_refl _) ?_
              have hf : (pevA g n a).1 = true := h84
              exact ⟨_, _, _, _, by rw [hf]; rfl, rfl, by rw [hf]; rfl, rfl, evt_all2 (by rw [hc]) (fun _ => rfl) (fun q => hx2 hf q)⟩
        · refine V.iconst (v := nI 0) hF dX3_readEvent_72 (by decide) ?_
          refine V.zret hF dX3_readEvent_73 (Or.inl rfl) (Nat.le_refl _) (Nat.le_refl _) ?_
          have hp := pev_1 (show phe g n a ≠ nI 105 by rw [hc]; decide) (show pku (phe g n a) = true by rw [hc]; decide) h69
          exact reL hp (by rw [h69]; rfl) (evt_o (by rw [hp]))
      · exact absurd h50 (by decide)
  · exact absurd h6 (by rw [decide_eq_false (show phe g n a ≠ nI 105 by rw [hc]; decide)]; decide)
set_option maxRecDepth 20000 in
theorem ct_X3_readEvent_103 (hst : l.stackTraces = false) (σ : SH) (I X : IX) (so : Nat) (ta : Nat → Nat) (hS : SS σ so ta) (f : Rw) (g : Rw) (hg : X (ta 0) = g) (n a : Nat) (x : Int32) (h1 : f 1 = nI n) (hn : n ≤ 60) (ha : a ≤ 60) (gk gf gs : Rw) (e : Nat) (h5 : f 5 = nI e) (he : e < 30) (hc : phe g n a = nI 103) : Ct l D cy sa sv yX3_readEvent cX3_readEvent 3 (some .boolean) 4 0 0 [.ref so] σ (va_up I so (sf f a x)) (N3 X (ta 2) (ta 3) (ta 4) gk gf gs) (fun v' σ' I' X' => ∃ (x' : Int32) (gk' gf' gs' : Rw), v' = some (.int (bI (pevA g n a).1)) ∧ σ' = σ ∧ I' = va_up I so (sf (if (pevA g n a).1 then upd f 5 (nI (e + 1)) else f) (pevA g n a).2 x') ∧ X' = N3 X (ta 2) (ta 3) (ta 4) gk' gf' gs' ∧ Evt g n a e gk gf gs gk' gf' gs') noX := by
  refine Ct.of (by decide) hst (Nat.le_of_ble_eq_true rfl) ?_
  intro pp ee ss mm args below meth kc A hF hnm hout
  refine V.aload_n hF dX3_readEvent_0 rfl ?_
  refine V.bipush (v := nI 105) hF dX3_readEvent_1 (by decide) ?_
  refine V.vI hF dX3_readEvent_3 (ct_X3_readSign hst _ _ _ _ _ hS _ _ (hS.o0 hg) n a _ h1 hn (by omega) _ (by decide)) lk_X3_45 sl_X3_readSign hS.1.1 hS.1.2 rfl (Nat.le_of_ble_eq_true rfl) (fit_of rfl) (Nat.le_of_ble_eq_true rfl) rfl ?_
  refine V.if_eqB (tgt := 18) hF dX3_readEvent_6 (by decide) (fun h6 => ?_) (fun h6 => ?_)
  · refine V.eqI (I' := va_up I so (sf f a x)) (by rw [h6]; rfl) ?_
    refine V.aload_n hF dX3_readEvent_18 rfl ?_
    refine V.getIF hF dX3_readEvent_19 fl_X3_32 hS.1.1 hS.1.2 rfl (va_up_self _ _ _) ?_
    refine V.topi (y := nI a) (sf_6 _ _ _) ?_
    refine V.aload_n hF dX3_readEvent_22 rfl ?_
    refine V.getIF hF dX3_readEvent_23 fl_X3_15 hS.1.1 hS.1.2 rfl (va_up_self _ _ _) ?_
    refine V.topi (y := nI n) ((sf_o _ _ _ (by decide) (by decide)).trans h1) ?_
    refine V.icmp_ge (tgt := 41) hF dX3_readEvent_26 (by decide) (fun h26 => ?_) (fun h26 => ?_)
    · exact absurd hc (by rw [phe_no (nI_ge' h26 (by omega) (by omega))]; decide)
    · have hna : a < n := nI_nge h26 (by omega) (by omega)
      refine V.aload_n hF dX3_readEvent_29 rfl ?_
      refine V.getR hF dX3_readEvent_30 fl_X3_9 hS.1.1 hS.1.2 rfl hS.a0.1 ?_
      refine V.aload_n hF dX3_readEvent_33 rfl ?_
      refine V.getIF hF dX3_readEvent_34 fl_X3_32 hS.1.1 hS.1.2 rfl (va_up_self _ _ _) ?_
      refine V.topi (y := nI a) (sf_6 _ _ _) ?_
      refine V.caloadF (j := a) hF dX3_readEvent_37 hS.a0.2.1 hS.a0.2.2.1 rfl (hS.a0.lt (by omega)) (hS.a0.sm (by decide)) (hS.o0 hg) ?_
      refine V.topi (y := nI 103) ((phe_g hna).symm.trans hc) ?_
      refine V.goto (tgt := 43) hF dX3_readEvent_38 (by decide) ?_
      refine V.istore_n hF dX3_readEvent_43 (by decide) ?_
      refine V.ldcT hF 23 rfl dX3_readEvent_44 ?_
      refine V.iload_n hF dX3_readEvent_46 rfl ?_
      refine V.tI hF dX3_readEvent_47 (ct_J0_indexOf_0f7a4 hst _ _ _ _) lk_X3_55 sl_J0_indexOf_0f7a4 (fit_of rfl) (Nat.le_of_ble_eq_true rfl) rfl ?_
      refine V.topi (y := nI 2) (by decide +kernel) ?_
      refine V.if_ge (tgt := 55) hF dX3_readEvent_50 (by decide) (fun h50 => ?_) (fun h50 => ?_)
      · refine V.aload_n hF dX3_readEvent_55 rfl ?_
        refine V.dup hF dX3_readEvent_56 rfl ?_
        refine V.getIF hF dX3_readEvent_57 fl_X3_32 hS.1.1 hS.1.2 rfl (va_up_self _ _ _) ?_
        refine V.topi (y := nI a) (sf_6 _ _ _) ?_
        refine V.iconst (v := nI 1) hF dX3_readEvent_60 (by decide) ?_
        refine V.iadd hF dX3_readEvent_61 ?_
        refine V.topi (y := nI (a + 1)) (nI_add _ _) ?_
        refine V.putIU hF dX3_readEvent_62 fl_X3_32 hS.1.1 hS.1.2 rfl rfl rfl ?_
        refine V.eqI (congrArg (va_up I so) (sf_u6 _ _ _ _)) ?_
        refine V.aload_n hF dX3_readEvent_65 rfl ?_
        refine V.vI hF dX3_readEvent_66 (ct_X3_readProcess hst _ _ _ _ _ hS _ _ (hS.o0 hg) n (a + 1) _ h1 hn (by omega)) lk_X3_61 sl_X3_readProcess hS.1.1 hS.1.2 rfl (Nat.le_of_ble_eq_true rfl) (fit_of rfl) (Nat.le_of_ble_eq_true rfl) rfl ?_
        refine V.if_neB (tgt := 74) hF dX3_readEvent_69 (by decide) (fun h69 => ?_) (fun h69 => ?_)
        · refine V.eqI (I' := va_up I so (sf f (a + 2) (pd g n (a + 1)))) (by rw [h69, if_pos rfl]; rfl) ?_
          refine V.aload_n hF dX3_readEvent_74 rfl ?_
          refine V.getIF hF dX3_readEvent_75 fl_X3_35 hS.1.1 hS.1.2 rfl (va_up_self _ _ _) ?_
          refine V.topi (y := (pd g n (a + 1))) (sf_7 _ _ _) ?_
          refine V.istore_n hF dX3_readEvent_78 (by decide) ?_
          refine V.aload_n hF dX3_readEvent_79 rfl ?_
          refine V.iload_n hF dX3_readEvent_80 rfl ?_
          refine V.callV hF dX3_readEvent_81 (ct_X3_readRest_103 hst _ _ _ _ _ hS _ _ (hS.o0 hg) n a _ h1 hn (by omega) hc h69) lk_X3_64 sl_X3_readRest ⟨_, _, rfl, hS.1.1, hS.1.2, Nat.le_of_ble_eq_true rfl, _, _, rfl⟩ (fit_of rfl) (Nat.le_of_ble_eq_true rfl) (fun _ _ _ _ h => h.elim) (fun v1 σ1 I1 X1 hpost => ?_) rfl
          obtain ⟨x', rfl, hs1, rfl, rfl, hx2⟩ := hpost
          obtain rfl := hs1.symm
          refine V.if_eqB (tgt := 104) hF dX3_readEvent_84 (by decide) (fun h84 => ?_) (fun h84 => ?_)
          · refine V.iconst (v := nI 0) hF dX3_readEvent_104 (by decide) ?_
            refine V.zret hF dX3_readEvent_105 (Or.inl rfl) (Nat.le_refl _) (Nat.le_refl _) ?_
            have hf : (pevA g n a).1 = false := h84
            exact ⟨_, _, _, _, by rw [hf]; rfl, rfl, by rw [hf]; rfl, rfl, evt_o hf⟩
          · refine V.aload_n hF dX3_readEvent_87 rfl ?_
            refine V.iload_n hF dX3_readEvent_88 rfl ?_
            refine V.iload_n hF dX3_readEvent_89 rfl ?_
            refine V.aload_n hF dX3_readEvent_90 rfl ?_
            refine V.getIF hF dX3_readEvent_91 fl_X3_35 hS.1.1 hS.1.2 rfl (va_up_self _ _ _) ?_
            refine V.topi (y := x') (sf_7 _ _ _) ?_
            refine V.vI hF dX3_readEvent_94 (ct_X3_keep hst _ _ _ _ _ hS _ _ _ _ _ _ e h5 he _ _ _ (by decide)) lk_X3_49 sl_X3_keep hS.1.1 hS.1.2 rfl (Nat.le_of_ble_eq_true rfl) (fit_of rfl) (Nat.le_of_ble_eq_true rfl) rfl ?_
            refine V.if_eqB (tgt := 104) hF dX3_readEvent_97 (by decide) (fun h97 => ?_) (fun h97 => ?_)
            · exact absurd h97 (by decide)
            · refine V.iconst (v := nI 1) hF dX3_readEvent_100 (by decide) ?_
              refine V.goto (tgt := 105) hF dX3_readEvent_101 (by decide) ?_
              refine V.zret hF dX3_readEvent_105 (Or.inr rfl) (Nat.le_refl _) (Nat.le_refl _) ?_
              have hf : (pevA g n a).1 = true := h84
              exact ⟨_, _, _, _, by rw [hf]; rfl, rfl, by rw [hf]; rfl, rfl, evt_all2 (by rw [hc]) (fun _ => rfl) (fun q => hx2 hf q)⟩
        · refine V.iconst (v := nI 0) hF dX3_readEvent_72 (by decide) ?_
          refine V.zret hF dX3_readEvent_73 (Or.inl rfl) (Nat.le_refl _) (Nat.le_refl _) ?_
          have hp := pev_1 (show phe g n a ≠ nI 105 by rw [hc]; decide) (show pku (phe g n a) = true by rw [hc]; decide) h69
          exact reL hp (by rw [h69]; rfl) (evt_o (by rw [hp]))
      · exact absurd h50 (by decide)
  · exact absurd h6 (by rw [decide_eq_false (show phe g n a ≠ nI 105 by rw [hc]; decide)]; decide)
set_option maxRecDepth 20000 in
theorem ct_X3_readEvent_106 (hst : l.stackTraces = false) (σ : SH) (I X : IX) (so : Nat) (ta : Nat → Nat) (hS : SS σ so ta) (f : Rw) (g : Rw) (hg : X (ta 0) = g) (n a : Nat) (x : Int32) (h1 : f 1 = nI n) (hn : n ≤ 60) (ha : a ≤ 60) (gk gf gs : Rw) (e : Nat) (h5 : f 5 = nI e) (he : e < 30) (hc : phe g n a = nI 106) : Ct l D cy sa sv yX3_readEvent cX3_readEvent 3 (some .boolean) 4 0 0 [.ref so] σ (va_up I so (sf f a x)) (N3 X (ta 2) (ta 3) (ta 4) gk gf gs) (fun v' σ' I' X' => ∃ (x' : Int32) (gk' gf' gs' : Rw), v' = some (.int (bI (pevA g n a).1)) ∧ σ' = σ ∧ I' = va_up I so (sf (if (pevA g n a).1 then upd f 5 (nI (e + 1)) else f) (pevA g n a).2 x') ∧ X' = N3 X (ta 2) (ta 3) (ta 4) gk' gf' gs' ∧ Evt g n a e gk gf gs gk' gf' gs') noX := by
  refine Ct.of (by decide) hst (Nat.le_of_ble_eq_true rfl) ?_
  intro pp ee ss mm args below meth kc A hF hnm hout
  refine V.aload_n hF dX3_readEvent_0 rfl ?_
  refine V.bipush (v := nI 105) hF dX3_readEvent_1 (by decide) ?_
  refine V.vI hF dX3_readEvent_3 (ct_X3_readSign hst _ _ _ _ _ hS _ _ (hS.o0 hg) n a _ h1 hn (by omega) _ (by decide)) lk_X3_45 sl_X3_readSign hS.1.1 hS.1.2 rfl (Nat.le_of_ble_eq_true rfl) (fit_of rfl) (Nat.le_of_ble_eq_true rfl) rfl ?_
  refine V.if_eqB (tgt := 18) hF dX3_readEvent_6 (by decide) (fun h6 => ?_) (fun h6 => ?_)
  · refine V.eqI (I' := va_up I so (sf f a x)) (by rw [h6]; rfl) ?_
    refine V.aload_n hF dX3_readEvent_18 rfl ?_
    refine V.getIF hF dX3_readEvent_19 fl_X3_32 hS.1.1 hS.1.2 rfl (va_up_self _ _ _) ?_
    refine V.topi (y := nI a) (sf_6 _ _ _) ?_
    refine V.aload_n hF dX3_readEvent_22 rfl ?_
    refine V.getIF hF dX3_readEvent_23 fl_X3_15 hS.1.1 hS.1.2 rfl (va_up_self _ _ _) ?_
    refine V.topi (y := nI n) ((sf_o _ _ _ (by decide) (by decide)).trans h1) ?_
    refine V.icmp_ge (tgt := 41) hF dX3_readEvent_26 (by decide) (fun h26 => ?_) (fun h26 => ?_)
    · exact absurd hc (by rw [phe_no (nI_ge' h26 (by omega) (by omega))]; decide)
    · have hna : a < n := nI_nge h26 (by omega) (by omega)
      refine V.aload_n hF dX3_readEvent_29 rfl ?_
      refine V.getR hF dX3_readEvent_30 fl_X3_9 hS.1.1 hS.1.2 rfl hS.a0.1 ?_
      refine V.aload_n hF dX3_readEvent_33 rfl ?_
      refine V.getIF hF dX3_readEvent_34 fl_X3_32 hS.1.1 hS.1.2 rfl (va_up_self _ _ _) ?_
      refine V.topi (y := nI a) (sf_6 _ _ _) ?_
      refine V.caloadF (j := a) hF dX3_readEvent_37 hS.a0.2.1 hS.a0.2.2.1 rfl (hS.a0.lt (by omega)) (hS.a0.sm (by decide)) (hS.o0 hg) ?_
      refine V.topi (y := nI 106) ((phe_g hna).symm.trans hc) ?_
      refine V.goto (tgt := 43) hF dX3_readEvent_38 (by decide) ?_
      refine V.istore_n hF dX3_readEvent_43 (by decide) ?_
      refine V.ldcT hF 23 rfl dX3_readEvent_44 ?_
      refine V.iload_n hF dX3_readEvent_46 rfl ?_
      refine V.tI hF dX3_readEvent_47 (ct_J0_indexOf_0f7a4 hst _ _ _ _) lk_X3_55 sl_J0_indexOf_0f7a4 (fit_of rfl) (Nat.le_of_ble_eq_true rfl) rfl ?_
      refine V.topi (y := nI 3) (by decide +kernel) ?_
      refine V.if_ge (tgt := 55) hF dX3_readEvent_50 (by decide) (fun h50 => ?_) (fun h50 => ?_)
      · refine V.aload_n hF dX3_readEvent_55 rfl ?_
        refine V.dup hF dX3_readEvent_56 rfl ?_
        refine V.getIF hF dX3_readEvent_57 fl_X3_32 hS.1.1 hS.1.2 rfl (va_up_self _ _ _) ?_
        refine V.topi (y := nI a) (sf_6 _ _ _) ?_
        refine V.iconst (v := nI 1) hF dX3_readEvent_60 (by decide) ?_
        refine V.iadd hF dX3_readEvent_61 ?_
        refine V.topi (y := nI (a + 1)) (nI_add _ _) ?_
        refine V.putIU hF dX3_readEvent_62 fl_X3_32 hS.1.1 hS.1.2 rfl rfl rfl ?_
        refine V.eqI (congrArg (va_up I so) (sf_u6 _ _ _ _)) ?_
        refine V.aload_n hF dX3_readEvent_65 rfl ?_
        refine V.vI hF dX3_readEvent_66 (ct_X3_readProcess hst _ _ _ _ _ hS _ _ (hS.o0 hg) n (a + 1) _ h1 hn (by omega)) lk_X3_61 sl_X3_readProcess hS.1.1 hS.1.2 rfl (Nat.le_of_ble_eq_true rfl) (fit_of rfl) (Nat.le_of_ble_eq_true rfl) rfl ?_
        refine V.if_neB (tgt := 74) hF dX3_readEvent_69 (by decide) (fun h69 => ?_) (fun h69 => ?_)
        · refine V.eqI (I' := va_up I so (sf f (a + 2) (pd g n (a + 1)))) (by rw [h69, if_pos rfl]; rfl) ?_
          refine V.aload_n hF dX3_readEvent_74 rfl ?_
          refine V.getIF hF dX3_readEvent_75 fl_X3_35 hS.1.1 hS.1.2 rfl (va_up_self _ _ _) ?_
          refine V.topi (y := (pd g n (a + 1))) (sf_7 _ _ _) ?_
          refine V.istore_n hF dX3_readEvent_78 (by decide) ?_
          refine V.aload_n hF dX3_readEvent_79 rfl ?_
          refine V.iload_n hF dX3_readEvent_80 rfl ?_
          refine V.callV hF dX3_readEvent_81 (ct_X3_readRest_106 hst _ _ _ _ _ hS _ _ (hS.o0 hg) n a _ h1 hn (by omega) hc h69) lk_X3_64 sl_X3_readRest ⟨_, _, rfl, hS.1.1, hS.1.2, Nat.le_of_ble_eq_true rfl, _, _, rfl⟩ (fit_of rfl) (Nat.le_of_ble_eq_true rfl) (fun _ _ _ _ h => h.elim) (fun v1 σ1 I1 X1 hpost => ?_) rfl
          obtain ⟨x', rfl, hs1, rfl, rfl, hx2⟩ := hpost
          obtain rfl := hs1.symm
          refine V.if_eqB (tgt := 104) hF dX3_readEvent_84 (by decide) (fun h84 => ?_) (fun h84 => ?_)
          · refine V.iconst (v := nI 0) hF dX3_readEvent_104 (by decide) ?_
            refine V.zret hF dX3_readEvent_105 (Or.inl rfl) (Nat.le_refl _) (Nat.le_refl _) ?_
            have hf : (pevA g n a).1 = false := h84
            exact ⟨_, _, _, _, by rw [hf]; rfl, rfl, by rw [hf]; rfl, rfl, evt_o hf⟩
          · refine V.aload_n hF dX3_readEvent_87 rfl ?_
            refine V.iload_n hF dX3_readEvent_88 rfl ?_
            refine V.iload_n hF dX3_readEvent_89 rfl ?_
            refine V.aload_n hF dX3_readEvent_90 rfl ?_
            refine V.getIF hF dX3_readEvent_91 fl_X3_35 hS.1.1 hS.1.2 rfl (va_up_self _ _ _) ?_
            refine V.topi (y := x') (sf_7 _ _ _) ?_
            refine V.vI hF dX3_readEvent_94 (ct_X3_keep hst _ _ _ _ _ hS _ _ _ _ _ _ e h5 he _ _ _ (by decide)) lk_X3_49 sl_X3_keep hS.1.1 hS.1.2 rfl (Nat.le_of_ble_eq_true rfl) (fit_of rfl) (Nat.le_of_ble_eq_true rfl) rfl ?_
            refine V.if_eqB (tgt := 104) hF dX3_readEvent_97 (by decide) (fun h97 => ?_) (fun h97 => ?_)
            · exact absurd h97 (by decide)
            · refine V.iconst (v := nI 1) hF dX3_readEvent_100 (by decide) ?_
              refine V.goto (tgt := 105) hF dX3_readEvent_101 (by decide) ?_
              refine V.zret hF dX3_readEvent_105 (Or.inr rfl) (Nat.le_refl _) (Nat.le_refl _) ?_
              have hf : (pevA g n a).1 = true := h84
              exact ⟨_, _, _, _, by rw [hf]; rfl, rfl, by rw [hf]; rfl, rfl, evt_all2 (by rw [hc]) (fun _ => rfl) (fun q => hx2 hf q)⟩
        · refine V.iconst (v := nI 0) hF dX3_readEvent_72 (by decide) ?_
          refine V.zret hF dX3_readEvent_73 (Or.inl rfl) (Nat.le_refl _) (Nat.le_refl _) ?_
          have hp := pev_1 (show phe g n a ≠ nI 105 by rw [hc]; decide) (show pku (phe g n a) = true by rw [hc]; decide) h69
          exact reL hp (by rw [h69]; rfl) (evt_o (by rw [hp]))
      · exact absurd h50 (by decide)
  · exact absurd h6 (by rw [decide_eq_false (show phe g n a ≠ nI 105 by rw [hc]; decide)]; decide)
set_option maxRecDepth 20000 in
theorem ct_X3_readEvent_108 (hst : l.stackTraces = false) (σ : SH) (I X : IX) (so : Nat) (ta : Nat → Nat) (hS : SS σ so ta) (f : Rw) (g : Rw) (hg : X (ta 0) = g) (n a : Nat) (x : Int32) (h1 : f 1 = nI n) (hn : n ≤ 60) (ha : a ≤ 60) (gk gf gs : Rw) (e : Nat) (h5 : f 5 = nI e) (he : e < 30) (hc : phe g n a = nI 108) : Ct l D cy sa sv yX3_readEvent cX3_readEvent 3 (some .boolean) 4 0 0 [.ref so] σ (va_up I so (sf f a x)) (N3 X (ta 2) (ta 3) (ta 4) gk gf gs) (fun v' σ' I' X' => ∃ (x' : Int32) (gk' gf' gs' : Rw), v' = some (.int (bI (pevA g n a).1)) ∧ σ' = σ ∧ I' = va_up I so (sf (if (pevA g n a).1 then upd f 5 (nI (e + 1)) else f) (pevA g n a).2 x') ∧ X' = N3 X (ta 2) (ta 3) (ta 4) gk' gf' gs' ∧ Evt g n a e gk gf gs gk' gf' gs') noX := by
  refine Ct.of (by decide) hst (Nat.le_of_ble_eq_true rfl) ?_
  intro pp ee ss mm args below meth kc A hF hnm hout
  refine V.aload_n hF dX3_readEvent_0 rfl ?_
  refine V.bipush (v := nI 105) hF dX3_readEvent_1 (by decide) ?_
  refine V.vI hF dX3_readEvent_3 (ct_X3_readSign hst _ _ _ _ _ hS _ _ (hS.o0 hg) n a _ h1 hn (by omega) _ (by decide)) lk_X3_45 sl_X3_readSign hS.1.1 hS.1.2 rfl (Nat.le_of_ble_eq_true rfl) (fit_of rfl) (Nat.le_of_ble_eq_true rfl) rfl ?_
  refine V.if_eqB (tgt := 18) hF dX3_readEvent_6 (by decide) (fun h6 => ?_) (fun h6 => ?_)
  · refine V.eqI (I' := va_up I so (sf f a x)) (by rw [h6]; rfl) ?_
    refine V.aload_n hF dX3_readEvent_18 rfl ?_
    refine V.getIF hF dX3_readEvent_19 fl_X3_32 hS.1.1 hS.1.2 rfl (va_up_self _ _ _) ?_
    refine V.topi (y := nI a) (sf_6 _ _ _) ?_
    refine V.aload_n hF dX3_readEvent_22 rfl ?_
    refine V.getIF hF dX3_readEvent_23 fl_X3_15 hS.1.1 hS.1.2 rfl (va_up_self _ _ _) ?_
    refine V.topi (y := nI n) ((sf_o _ _ _ (by decide) (by decide)).trans h1) ?_
    refine V.icmp_ge (tgt := 41) hF dX3_readEvent_26 (by decide) (fun h26 => ?_) (fun h26 => ?_)
    · exact absurd hc (by rw [phe_no (nI_ge' h26 (by omega) (by omega))]; decide)
    · have hna : a < n := nI_nge h26 (by omega) (by omega)
      refine V.aload_n hF dX3_readEvent_29 rfl ?_
      refine V.getR hF dX3_readEvent_30 fl_X3_9 hS.1.1 hS.1.2 rfl hS.a0.1 ?_
      refine V.aload_n hF dX3_readEvent_33 rfl ?_
      refine V.getIF hF dX3_readEvent_34 fl_X3_32 hS.1.1 hS.1.2 rfl (va_up_self _ _ _) ?_
      refine V.topi (y := nI a) (sf_6 _ _ _) ?_
      refine V.caloadF (j := a) hF dX3_readEvent_37 hS.a0.2.1 hS.a0.2.2.1 rfl (hS.a0.lt (by omega)) (hS.a0.sm (by decide)) (hS.o0 hg) ?_
      refine V.topi (y := nI 108) ((phe_g hna).symm.trans hc) ?_
      refine V.goto (tgt := 43) hF dX3_readEvent_38 (by decide) ?_
      refine V.istore_n hF dX3_readEvent_43 (by decide) ?_
      refine V.ldcT hF 23 rfl dX3_readEvent_44 ?_
      refine V.iload_n hF dX3_readEvent_46 rfl ?_
      refine V.tI hF dX3_readEvent_47 (ct_J0_indexOf_0f7a4 hst _ _ _ _) lk_X3_55 sl_J0_indexOf_0f7a4 (fit_of rfl) (Nat.le_of_ble_eq_true rfl) rfl ?_
      refine V.topi (y := nI 4) (by decide +kernel) ?_
      refine V.if_ge (tgt := 55) hF dX3_readEvent_50 (by decide) (fun h50 => ?_) (fun h50 => ?_)
      · refine V.aload_n hF dX3_readEvent_55 rfl ?_
        refine V.dup hF dX3_readEvent_56 rfl ?_
        refine V.getIF hF dX3_readEvent_57 fl_X3_32 hS.1.1 hS.1.2 rfl (va_up_self _ _ _) ?_
        refine V.topi (y := nI a) (sf_6 _ _ _) ?_
        refine V.iconst (v := nI 1) hF dX3_readEvent_60 (by decide) ?_
        refine V.iadd hF dX3_readEvent_61 ?_
        refine V.topi (y := nI (a + 1)) (nI_add _ _) ?_
        refine V.putIU hF dX3_readEvent_62 fl_X3_32 hS.1.1 hS.1.2 rfl rfl rfl ?_
        refine V.eqI (congrArg (va_up I so) (sf_u6 _ _ _ _)) ?_
        refine V.aload_n hF dX3_readEvent_65 rfl ?_
        refine V.vI hF dX3_readEvent_66 (ct_X3_readProcess hst _ _ _ _ _ hS _ _ (hS.o0 hg) n (a + 1) _ h1 hn (by omega)) lk_X3_61 sl_X3_readProcess hS.1.1 hS.1.2 rfl (Nat.le_of_ble_eq_true rfl) (fit_of rfl) (Nat.le_of_ble_eq_true rfl) rfl ?_
        refine V.if_neB (tgt := 74) hF dX3_readEvent_69 (by decide) (fun h69 => ?_) (fun h69 => ?_)
        · refine V.eqI (I' := va_up I so (sf f (a + 2) (pd g n (a + 1)))) (by rw [h69, if_pos rfl]; rfl) ?_
          refine V.aload_n hF dX3_readEvent_74 rfl ?_
          refine V.getIF hF dX3_readEvent_75 fl_X3_35 hS.1.1 hS.1.2 rfl (va_up_self _ _ _) ?_
          refine V.topi (y := (pd g n (a + 1))) (sf_7 _ _ _) ?_
          refine V.istore_n hF dX3_readEvent_78 (by decide) ?_
          refine V.aload_n hF dX3_readEvent_79 rfl ?_
          refine V.iload_n hF dX3_readEvent_80 rfl ?_
          refine V.callV hF dX3_readEvent_81 (ct_X3_readRest_108 hst _ _ _ _ _ hS _ _ (hS.o0 hg) n a _ h1 hn (by omega) hc h69) lk_X3_64 sl_X3_readRest ⟨_, _, rfl, hS.1.1, hS.1.2, Nat.le_of_ble_eq_true rfl, _, _, rfl⟩ (fit_of rfl) (Nat.le_of_ble_eq_true rfl) (fun _ _ _ _ h => h.elim) (fun v1 σ1 I1 X1 hpost => ?_) rfl
          obtain ⟨x', rfl, hs1, rfl, rfl, hx2⟩ := hpost
          obtain rfl := hs1.symm
          refine V.if_eqB (tgt := 104) hF dX3_readEvent_84 (by decide) (fun h84 => ?_) (fun h84 => ?_)
          · refine V.iconst (v := nI 0) hF dX3_readEvent_104 (by decide) ?_
            refine V.zret hF dX3_readEvent_105 (Or.inl rfl) (Nat.le_refl _) (Nat.le_refl _) ?_
            have hf : (pevA g n a).1 = false := h84
            exact ⟨_, _, _, _, by rw [hf]; rfl, rfl, by rw [hf]; rfl, rfl, evt_o hf⟩
          · refine V.aload_n hF dX3_readEvent_87 rfl ?_
            refine V.iload_n hF dX3_readEvent_88 rfl ?_
            refine V.iload_n hF dX3_readEvent_89 rfl ?_
            refine V.aload_n hF dX3_readEvent_90 rfl ?_
            refine V.getIF hF dX3_readEvent_91 fl_X3_35 hS.1.1 hS.1.2 rfl (va_up_self _ _ _) ?_
            refine V.topi (y := x') (sf_7 _ _ _) ?_
            refine V.vI hF dX3_readEvent_94 (ct_X3_keep hst _ _ _ _ _ hS _ _ _ _ _ _ e h5 he _ _ _ (by decide)) lk_X3_49 sl_X3_keep hS.1.1 hS.1.2 rfl (Nat.le_of_ble_eq_true rfl) (fit_of rfl) (Nat.le_of_ble_eq_true rfl) rfl ?_
            refine V.if_eqB (tgt := 104) hF dX3_readEvent_97 (by decide) (fun h97 => ?_) (fun h97 => ?_)
            · exact absurd h97 (by decide)
            · refine V.iconst (v := nI 1) hF dX3_readEvent_100 (by decide) ?_
              refine V.goto (tgt := 105) hF dX3_readEvent_101 (by decide) ?_
              refine V.zret hF dX3_readEvent_105 (Or.inr rfl) (Nat.le_refl _) (Nat.le_refl _) ?_
              have hf : (pevA g n a).1 = true := h84
              exact ⟨_, _, _, _, by rw [hf]; rfl, rfl, by rw [hf]; rfl, rfl, evt_all2 (by rw [hc]) (fun _ => rfl) (fun q => hx2 hf q)⟩
        · refine V.iconst (v := nI 0) hF dX3_readEvent_72 (by decide) ?_
          refine V.zret hF dX3_readEvent_73 (Or.inl rfl) (Nat.le_refl _) (Nat.le_refl _) ?_
          have hp := pev_1 (show phe g n a ≠ nI 105 by rw [hc]; decide) (show pku (phe g n a) = true by rw [hc]; decide) h69
          exact reL hp (by rw [h69]; rfl) (evt_o (by rw [hp]))
      · exact absurd h50 (by decide)
  · exact absurd h6 (by rw [decide_eq_false (show phe g n a ≠ nI 105 by rw [hc]; decide)]; decide)
set_option maxRecDepth 20000 in
theorem ct_X3_readEvent_0 (hst : l.stackTraces = false) (σ : SH) (I X : IX) (so : Nat) (ta : Nat → Nat) (hS : SS σ so ta) (f : Rw) (g : Rw) (hg : X (ta 0) = g) (n a : Nat) (x : Int32) (h1 : f 1 = nI n) (hn : n ≤ 60) (ha : a ≤ 60) (gk gf gs : Rw) (e : Nat) (h5 : f 5 = nI e) (he : e < 30) (hc1 : phe g n a ≠ nI 105) (hc2 : pku (phe g n a) = false) : Ct l D cy sa sv yX3_readEvent cX3_readEvent 3 (some .boolean) 4 0 0 [.ref so] σ (va_up I so (sf f a x)) (N3 X (ta 2) (ta 3) (ta 4) gk gf gs) (fun v' σ' I' X' => ∃ (x' : Int32) (gk' gf' gs' : Rw), v' = some (.int (bI (pevA g n a).1)) ∧ σ' = σ ∧ I' = va_up I so (sf (if (pevA g n a).1 then upd f 5 (nI (e + 1)) else f) (pevA g n a).2 x') ∧ X' = N3 X (ta 2) (ta 3) (ta 4) gk' gf' gs' ∧ Evt g n a e gk gf gs gk' gf' gs') noX := by
  refine Ct.of (by decide) hst (Nat.le_of_ble_eq_true rfl) ?_
  intro pp ee ss mm args below meth kc A hF hnm hout
  refine V.aload_n hF dX3_readEvent_0 rfl ?_
  refine V.bipush (v := nI 105) hF dX3_readEvent_1 (by decide) ?_
  refine V.vI hF dX3_readEvent_3 (ct_X3_readSign hst _ _ _ _ _ hS _ _ (hS.o0 hg) n a _ h1 hn (by omega) _ (by decide)) lk_X3_45 sl_X3_readSign hS.1.1 hS.1.2 rfl (Nat.le_of_ble_eq_true rfl) (fit_of rfl) (Nat.le_of_ble_eq_true rfl) rfl ?_
  refine V.if_eqB (tgt := 18) hF dX3_readEvent_6 (by decide) (fun h6 => ?_) (fun h6 => ?_)
  · refine V.eqI (I' := va_up I so (sf f a x)) (by rw [h6]; rfl) ?_
    refine V.aload_n hF dX3_readEvent_18 rfl ?_
    refine V.getIF hF dX3_readEvent_19 fl_X3_32 hS.1.1 hS.1.2 rfl (va_up_self _ _ _) ?_
    refine V.topi (y := nI a) (sf_6 _ _ _) ?_
    refine V.aload_n hF dX3_readEvent_22 rfl ?_
    refine V.getIF hF dX3_readEvent_23 fl_X3_15 hS.1.1 hS.1.2 rfl (va_up_self _ _ _) ?_
    refine V.topi (y := nI n) ((sf_o _ _ _ (by decide) (by decide)).trans h1) ?_
    refine V.icmp_ge (tgt := 41) hF dX3_readEvent_26 (by decide) (fun h26 => ?_) (fun h26 => ?_)
    · have hna := nI_ge' h26 (by omega) (by omega)
      refine V.bipush (v := nI 32) hF dX3_readEvent_41 (by decide) ?_
      refine V.istore_n hF dX3_readEvent_43 (by decide) ?_
      refine V.ldcT hF 23 rfl dX3_readEvent_44 ?_
      refine V.iload_n hF dX3_readEvent_46 rfl ?_
      refine V.tI hF dX3_readEvent_47 (ct_J0_indexOf_0f7a4 hst _ _ _ _) lk_X3_55 sl_J0_indexOf_0f7a4 (fit_of rfl) (Nat.le_of_ble_eq_true rfl) rfl ?_
      refine V.if_ge (tgt := 55) hF dX3_readEvent_50 (by decide) (fun h50 => ?_) (fun h50 => ?_)
      · exact absurd ((six_pku _).mpr (by decide)) (le_nlt h50)
      · refine V.iconst (v := nI 0) hF dX3_readEvent_53 (by decide) ?_
        refine V.zret hF dX3_readEvent_54 (Or.inl rfl) (Nat.le_refl _) (Nat.le_refl _) ?_
        have hp := pev_o hc1 hc2
        exact reL hp rfl (evt_o (by rw [hp]))
    · have hna : a < n := nI_nge h26 (by omega) (by omega)
      refine V.aload_n hF dX3_readEvent_29 rfl ?_
      refine V.getR hF dX3_readEvent_30 fl_X3_9 hS.1.1 hS.1.2 rfl hS.a0.1 ?_
      refine V.aload_n hF dX3_readEvent_33 rfl ?_
      refine V.getIF hF dX3_readEvent_34 fl_X3_32 hS.1.1 hS.1.2 rfl (va_up_self _ _ _) ?_
      refine V.topi (y := nI a) (sf_6 _ _ _) ?_
      refine V.caloadF (j := a) hF dX3_readEvent_37 hS.a0.2.1 hS.a0.2.2.1 rfl (hS.a0.lt (by omega)) (hS.a0.sm (by decide)) (hS.o0 hg) ?_
      refine V.goto (tgt := 43) hF dX3_readEvent_38 (by decide) ?_
      refine V.istore_n hF dX3_readEvent_43 (by decide) ?_
      refine V.ldcT hF 23 rfl dX3_readEvent_44 ?_
      refine V.iload_n hF dX3_readEvent_46 rfl ?_
      refine V.tI hF dX3_readEvent_47 (ct_J0_indexOf_0f7a4 hst _ _ _ _) lk_X3_55 sl_J0_indexOf_0f7a4 (fit_of rfl) (Nat.le_of_ble_eq_true rfl) rfl ?_
      refine V.if_ge (tgt := 55) hF dX3_readEvent_50 (by decide) (fun h50 => ?_) (fun h50 => ?_)
      · exact absurd ((six_pku _).mpr (by rw [← phe_g (g := g) (n := n) (a := a) hna]; exact hc2)) (le_nlt h50)
      · refine V.iconst (v := nI 0) hF dX3_readEvent_53 (by decide) ?_
        refine V.zret hF dX3_readEvent_54 (Or.inl rfl) (Nat.le_refl _) (Nat.le_refl _) ?_
        have hp := pev_o hc1 hc2
        exact reL hp rfl (evt_o (by rw [hp]))
  · exact absurd h6 (by rw [decide_eq_false hc1]; decide)
theorem ct_X3_readEvent (hst : l.stackTraces = false) (σ : SH) (I X : IX) (so : Nat) (ta : Nat → Nat) (hS : SS σ so ta) (f : Rw) (g : Rw) (hg : X (ta 0) = g) (n a : Nat) (x : Int32) (h1 : f 1 = nI n) (hn : n ≤ 60) (ha : a ≤ 60) (gk gf gs : Rw) (e : Nat) (h5 : f 5 = nI e) (he : e < 30) : Ct l D cy sa sv yX3_readEvent cX3_readEvent 3 (some .boolean) 4 0 0 [.ref so] σ (va_up I so (sf f a x)) (N3 X (ta 2) (ta 3) (ta 4) gk gf gs) (fun v' σ' I' X' => ∃ (x' : Int32) (gk' gf' gs' : Rw), v' = some (.int (bI (pevA g n a).1)) ∧ σ' = σ ∧ I' = va_up I so (sf (if (pevA g n a).1 then upd f 5 (nI (e + 1)) else f) (pevA g n a).2 x') ∧ X' = N3 X (ta 2) (ta 3) (ta 4) gk' gf' gs' ∧ Evt g n a e gk gf gs gk' gf' gs') noX := by
  by_cases h105 : phe g n a = nI 105
  · exact ct_X3_readEvent_105 hst _ _ _ _ _ hS f g hg n a x h1 hn ha gk gf gs e h5 he h105
  by_cases h98 : phe g n a = nI 98
  · exact ct_X3_readEvent_98 hst _ _ _ _ _ hS f g hg n a x h1 hn ha gk gf gs e h5 he h98
  by_cases h97 : phe g n a = nI 97
  · exact ct_X3_readEvent_97 hst _ _ _ _ _ hS f g hg n a x h1 hn ha gk gf gs e h5 he h97
  by_cases h103 : phe g n a = nI 103
  · exact ct_X3_readEvent_103 hst _ _ _ _ _ hS f g hg n a x h1 hn ha gk gf gs e h5 he h103
  by_cases h106 : phe g n a = nI 106
  · exact ct_X3_readEvent_106 hst _ _ _ _ _ hS f g hg n a x h1 hn ha gk gf gs e h5 he h106
  by_cases h108 : phe g n a = nI 108
  · exact ct_X3_readEvent_108 hst _ _ _ _ _ hS f g hg n a x h1 hn ha gk gf gs e h5 he h108
  exact ct_X3_readEvent_0 hst _ _ _ _ _ hS f g hg n a x h1 hn ha gk gf gs e h5 he h105 (by simp only [pku, decide_eq_false h98, decide_eq_false h97, decide_eq_false h103, decide_eq_false h106, decide_eq_false h108]; rfl)
set_option maxRecDepth 20000 in
theorem ct_X3_parse (hst : l.stackTraces = false) (σ : SH) (I X : IX) (so : Nat) (ta : Nat → Nat) (hS : SS σ so ta) (f : Rw) (g : Rw) (hg : X (ta 0) = g) (n : Nat) (h1 : f 1 = nI n) (hn : n ≤ 60) : Ct l D cy sa sv yX3_parse cX3_parse 2 (some .boolean) 5 0 0 [.ref so] σ (va_up I so f) X (fun v' σ' I' X' => v' = some (.int (bI (pok g n))) ∧ σ' = σ ∧ ∃ f' gk' gf' gs' : Rw, I' = va_up I so f' ∧ X' = N3 X (ta 2) (ta 3) (ta 4) gk' gf' gs' ∧ f' 1 = nI n ∧ f' 6 = nI (pE g n).2 ∧ (pok g n = true → f' 5 = nI (pK g n + 1) ∧ EvS g n (pK g n + 1) gk' gf' gs')) noX := by
  refine Ct.of (by decide) hst (Nat.le_of_ble_eq_true rfl) ?_
  intro pp ee ss mm args below meth kc A hF hnm hout
  refine V.aload_n hF dX3_parse_0 rfl ?_
  refine V.iconst (v := nI 0) hF dX3_parse_1 (by decide) ?_
  refine V.putIU hF dX3_parse_2 fl_X3_32 hS.1.1 hS.1.2 rfl rfl rfl ?_
  refine V.eqI (congrArg (va_up I so) (sf_eta f 0)) ?_
  refine V.aload_n hF dX3_parse_5 rfl ?_
  refine V.iconst (v := nI 0) hF dX3_parse_6 (by decide) ?_
  refine V.putIU hF dX3_parse_7 fl_X3_29 hS.1.1 hS.1.2 rfl rfl rfl ?_
  refine V.eqI (congrArg (va_up I so) (sf_u5 _ _ _ _)) ?_
  refine V.eqX (N3_eta hS.d3).symm ?_
  refine V.iconst (v := nI 0) hF dX3_parse_10 (by decide) ?_
  refine V.istore_n hF dX3_parse_11 (by decide) ?_
  have L12 : ∀ (n12 : Nat) (k : Nat) (f2 : Rw) (x : Int32) (gk gf gs : Rw), 31 - k < n12 → k ≤ 30 → (∀ j, j < k → pgo g n j = true) → EvS g n k gk gf gs → f2 5 = nI k → f2 1 = nI n → V pp l ee (Rm 5 0 0) ss mm args below meth kc D cy A (QM below args ss D cy A (fun v' σ' I' X' => v' = some (.int (bI (pok g n))) ∧ σ' = σ ∧ ∃ f' gk' gf' gs' : Rw, I' = va_up I so f' ∧ X' = N3 X (ta 2) (ta 3) (ta 4) gk' gf' gs' ∧ f' 1 = nI n ∧ f' 6 = nI (pE g n).2 ∧ (pok g n = true → f' 5 = nI (pK g n + 1) ∧ EvS g n (pK g n + 1) gk' gf' gs')) noX 0 0) 2 0 0 σ (va_up I so (sf f2 (pps g n k) x)) (N3 X (ta 2) (ta 3) (ta 4) gk gf gs) 12 [(0, .ref so), (1, .int (nI k))] [] := by
    intro n12
    induction n12 with
    | zero => intro k f2 x gk gf gs hlt12; exact absurd hlt12 (Nat.not_lt_zero _)
    | succ n12 ih12 =>
      intro k f2 x gk gf gs hlt12 hk ha hevs h5 h1b
      have hb := pps_b ha
      have hq7 := pev_b g n (pps g n k)
      refine V.iload_n hF dX3_parse_12 rfl ?_
      refine V.bipush (v := nI 30) hF dX3_parse_13 (by decide) ?_
      refine V.icmp_ge (tgt := 57) hF dX3_parse_15 (by decide) (fun h15 => ?_) (fun h15 => ?_)
      · have hk6 : k = 30 := by have := nI_ge' h15 (by omega) (by omega); omega
        subst hk6
        obtain ⟨hK, hE⟩ := pE_30 hn ha
        refine V.iconst (v := nI 0) hF dX3_parse_57 (by decide) ?_
        refine V.zret hF dX3_parse_58 (Or.inl rfl) (Nat.le_refl _) (Nat.le_refl _) ?_
        have hp : pok g n = false := by rw [pok, hE]; rfl
        exact ⟨by rw [hp]; rfl, rfl, _, _, _, _, rfl, rfl, by rw [sf_o _ _ _ (by decide) (by decide)]; exact h1b, by rw [sf_6, hE], fun q => by rw [hp] at q; cases q⟩
      · have hk6 : k < 30 := nI_nge h15 (by omega) (by omega)
        refine V.aload_n hF dX3_parse_18 rfl ?_
        refine V.callV hF dX3_parse_19 (ct_X3_readEvent hst _ _ _ _ _ hS f2 g hg n (pps g n k) x h1b hn (by omega) gk gf gs k h5 hk6) lk_X3_42 sl_X3_readEvent ⟨_, _, rfl, hS.1.1, hS.1.2, Nat.le_of_ble_eq_true rfl, _, _, rfl⟩ (fit_of rfl) (Nat.le_of_ble_eq_true rfl) (fun _ _ _ _ h => h.elim) (fun v1 σ1 I1 X1 hpost => ?_) rfl
        obtain ⟨x', k1, k2, k3, rfl, hs1, rfl, rfl, hev⟩ := hpost
        obtain rfl := hs1.symm
        refine V.if_neB (tgt := 27) hF dX3_parse_22 (by decide) (fun h22 => ?_) (fun h22 => ?_)
        · have hok : (pevA g n (pps g n k)).1 = true := h22
          refine V.eqI (I' := va_up I so (sf (upd f2 5 (nI (k + 1))) (pevA g n (pps g n k)).2 x')) (by rw [hok, if_pos rfl]) ?_
          refine V.aload_n hF dX3_parse_27 rfl ?_
          refine V.getIF hF dX3_parse_28 fl_X3_32 hS.1.1 hS.1.2 rfl (va_up_self _ _ _) ?_
          refine V.topi (y := nI (pevA g n (pps g n k)).2) (sf_6 _ _ _) ?_
          refine V.aload_n hF dX3_parse_31 rfl ?_
          refine V.getIF hF dX3_parse_32 fl_X3_15 hS.1.1 hS.1.2 rfl (va_up_self _ _ _) ?_
          refine V.topi (y := nI n) ((sf_o _ _ _ (by decide) (by decide)).trans (by rw [upd_at, if_neg (by omega)]; exact h1b)) ?_
          refine V.icmp_lt (tgt := 40) hF dX3_parse_35 (by decide) (fun h35 => ?_) (fun h35 => ?_)
          · have hqn := (nI_ltI (by omega) (by omega)).mp h35
            refine V.aload_n hF dX3_parse_40 rfl ?_
            refine V.bipush (v := nI 59) hF dX3_parse_41 (by decide) ?_
            refine V.vI hF dX3_parse_43 (ct_X3_readSign hst _ _ _ _ _ hS _ _ (hS.o0 hg) n (pevA g n (pps g n k)).2 _ (by rw [upd_at, if_neg (by omega)]; exact h1b) hn (by omega) _ (by decide)) lk_X3_45 sl_X3_readSign hS.1.1 hS.1.2 rfl (Nat.le_of_ble_eq_true rfl) (fit_of rfl) (Nat.le_of_ble_eq_true rfl) rfl ?_
            refine V.if_neB (tgt := 51) hF dX3_parse_46 (by decide) (fun h46 => ?_) (fun h46 => ?_)
            · refine V.iinc (v := nI (k + 1)) hF dX3_parse_51 rfl (by exact nI_1 _) (by decide) ?_
              refine V.goto (tgt := 12) hF dX3_parse_54 (by decide) ?_
              refine V.relv [0, 1] rfl ?_
              refine V.eqI (I' := va_up I so (sf (upd f2 5 (nI (k + 1))) (pps g n (k + 1)) x')) (by rw [h46]; rfl) ?_
              exact ih12 (k + 1) _ _ _ _ _ (by omega) (by omega) (lt_st ha (by rw [pgo, hok, h46]; rfl)) (hevs.step hev hok) (by rw [upd_at, if_pos rfl]) (by rw [upd_at, if_neg (by omega)]; exact h1b)
            · have hK := pK_of hn ha (by rw [pgo, hok, h46]; rfl)
              refine V.iconst (v := nI 0) hF dX3_parse_49 (by decide) ?_
              refine V.zret hF dX3_parse_50 (Or.inl rfl) (Nat.le_refl _) (Nat.le_refl _) ?_
              have hp : pok g n = false := by rw [pok_of hK, hok, decide_eq_false (by omega)]; rfl
              exact ⟨by rw [hp]; rfl, rfl, _, _, _, _, rfl, rfl, by rw [sf_o _ _ _ (by decide) (by decide), upd_at, if_neg (by omega)]; exact h1b, by rw [sf_6, pE, hK, h46]; rfl, fun q => by rw [hp] at q; cases q⟩
          · have hqn : n ≤ (pevA g n (pps g n k)).2 := by
              rcases Nat.lt_or_ge (pevA g n (pps g n k)).2 n with q | q
              · exact absurd ((nI_ltI (by omega) (by omega)).mpr q) h35
              · exact q
            have hK := pK_of hn ha (by rw [pgo, hok, phe_no hqn]; decide)
            refine V.iconst (v := nI 1) hF dX3_parse_38 (by decide) ?_
            refine V.zret hF dX3_parse_39 (Or.inr rfl) (Nat.le_refl _) (Nat.le_refl _) ?_
            have hp : pok g n = true := by rw [pok_of hK, hok, decide_eq_true hqn]; rfl
            exact ⟨by rw [hp]; rfl, rfl, _, _, _, _, rfl, rfl, by rw [sf_o _ _ _ (by decide) (by decide), upd_at, if_neg (by omega)]; exact h1b, by rw [sf_6, pE, hK], fun _ => ⟨by rw [sf_o _ _ _ (by decide) (by decide), upd_at, if_pos rfl, hK], by rw [hK]; exact hevs.step hev hok⟩⟩
        · have hok : (pevA g n (pps g n k)).1 = false := h22
          have hK := pK_of hn ha (by rw [pgo, hok]; rfl)
          refine V.iconst (v := nI 0) hF dX3_parse_25 (by decide) ?_
          refine V.zret hF dX3_parse_26 (Or.inl rfl) (Nat.le_refl _) (Nat.le_refl _) ?_
          have hp : pok g n = false := by rw [pok_of hK, hok]; rfl
          exact ⟨by rw [hp]; rfl, rfl, _, _, _, _, rfl, rfl, by rw [sf_o _ _ _ (by decide) (by decide), hok]; exact h1b, by rw [sf_6, pE, hK], fun q => by rw [hp] at q; cases q⟩
  refine V.relv [0, 1] rfl ?_
  exact L12 _ 0 _ _ _ _ _ (Nat.lt_succ_self _) (by omega) (fun j h => absurd h (Nat.not_lt_zero _)) (fun j h => absurd h (Nat.not_lt_zero _)) (by rw [upd_at, if_pos rfl]) (by rw [upd_at, if_neg (by omega)]; exact h1)
set_option maxRecDepth 20000 in
theorem ct_X3_isFull (hst : l.stackTraces = false) (σ : SH) (I X : IX) (so : Nat) (ta : Nat → Nat) (hS : SS σ so ta) (f : Rw) (n : Nat) (h1 : f 1 = nI n) (hn : n ≤ 60) : Ct l D cy sa sv yX3_isFull cX3_isFull 1 (some .boolean) 0 0 0 [.ref so] σ (va_up I so f) X (pR (some (.int (bI (decide (n = 60))))) σ (va_up I so f) X) noX := by
  refine Ct.of (by decide) hst (Nat.le_of_ble_eq_true rfl) ?_
  intro pp ee ss mm args below meth kc A hF hnm hout
  refine V.aload_n hF dX3_isFull_0 rfl ?_
  refine V.getIF hF dX3_isFull_1 fl_X3_15 hS.1.1 hS.1.2 rfl (va_up_self _ _ _) ?_
  refine V.topi (y := nI n) h1 ?_
  refine V.bipush (v := nI 60) hF dX3_isFull_4 (by decide) ?_
  refine V.icmp_lt (tgt := 13) hF dX3_isFull_6 (by decide) (fun h6 => ?_) (fun h6 => ?_)
  · refine V.iconst (v := nI 0) hF dX3_isFull_13 (by decide) ?_
    refine V.zret hF dX3_isFull_14 (Or.inl rfl) (Nat.le_refl _) (Nat.le_refl _) ?_
    exact pR.i (bI_e0 (decide_eq_false (by have := (nI_ltI (by omega) (by omega)).mp h6; omega)))
  · refine V.iconst (v := nI 1) hF dX3_isFull_9 (by decide) ?_
    refine V.goto (tgt := 14) hF dX3_isFull_10 (by decide) ?_
    refine V.zret hF dX3_isFull_14 (Or.inr rfl) (Nat.le_refl _) (Nat.le_refl _) ?_
    have hq : n = 60 := by
      rcases Nat.lt_or_ge n 60 with q | q
      · exact absurd ((nI_ltI (by omega) (by omega)).mpr q) h6
      · omega
    exact pR.i (bI_e1 (decide_eq_true hq))
set_option maxRecDepth 20000 in
theorem ct_X3_add (hst : l.stackTraces = false) (σ : SH) (I X : IX) (so : Nat) (ta : Nat → Nat) (hS : SS σ so ta) (f g : Rw) (n : Nat) (h1 : f 1 = nI n) (hn : n < 60) (c : Int32) (hc : vp_nar .char c = c) : Ct l D cy sa sv yX3_add cX3_add 2 (some .int) 1 0 0 [.ref so, .int c] σ (va_up I so f) (va_up X (ta 0) g) (pR (some (.int (nI (n + 1)))) σ (va_up I so (upd f 1 (nI (n + 1)))) (va_up X (ta 0) (upd g n c))) noX := by
  refine Ct.of (by decide) hst (Nat.le_of_ble_eq_true rfl) ?_
  intro pp ee ss mm args below meth kc A hF hnm hout
  refine V.aload_n hF dX3_add_0 rfl ?_
  refine V.vI hF dX3_add_1 (ct_X3_isFull hst _ _ _ _ _ hS _ n h1 (by omega)) lk_X3_38 sl_X3_isFull hS.1.1 hS.1.2 rfl (Nat.le_of_ble_eq_true rfl) (fit_of rfl) (Nat.le_of_ble_eq_true rfl) rfl ?_
  refine V.if_neB (tgt := 27) hF dX3_add_4 (by decide) (fun h4 => ?_) (fun h4 => ?_)
  · exact absurd h4 (by rw [decide_eq_false (by omega)]; decide)
  · refine V.aload_n hF dX3_add_7 rfl ?_
    refine V.getR hF dX3_add_8 fl_X3_9 hS.1.1 hS.1.2 rfl hS.a0.1 ?_
    refine V.aload_n hF dX3_add_11 rfl ?_
    refine V.getIF hF dX3_add_12 fl_X3_15 hS.1.1 hS.1.2 rfl (va_up_self _ _ _) ?_
    refine V.topi (y := nI n) h1 ?_
    refine V.iload_n hF dX3_add_15 rfl ?_
    refine V.castoreU (j := n) hF dX3_add_16 hS.a0.2.1 hS.a0.2.2.1 rfl (hS.a0.lt (by omega)) (hS.a0.sm (by decide)) hc ?_
    refine V.aload_n hF dX3_add_17 rfl ?_
    refine V.dup hF dX3_add_18 rfl ?_
    refine V.getIF hF dX3_add_19 fl_X3_15 hS.1.1 hS.1.2 rfl (va_up_self _ _ _) ?_
    refine V.topi (y := nI n) h1 ?_
    refine V.iconst (v := nI 1) hF dX3_add_22 (by decide) ?_
    refine V.iadd hF dX3_add_23 ?_
    refine V.topi (y := nI (n + 1)) (nI_add _ _) ?_
    refine V.putIU hF dX3_add_24 fl_X3_15 hS.1.1 hS.1.2 rfl rfl rfl ?_
    refine V.aload_n hF dX3_add_27 rfl ?_
    refine V.getIF hF dX3_add_28 fl_X3_15 hS.1.1 hS.1.2 rfl (va_up_self _ _ _) ?_
    refine V.topi (y := nI (n + 1)) (by rw [upd_at, if_pos rfl]) ?_
    refine V.iret hF dX3_add_31 (Nat.le_refl _) (Nat.le_refl _) ?_
    exact pR.i rfl
set_option maxRecDepth 20000 in
theorem ct_X3_clear (hst : l.stackTraces = false) (σ : SH) (I X : IX) (so : Nat) (ta : Nat → Nat) (hS : SS σ so ta) (f : Rw) : Ct l D cy sa sv yX3_clear cX3_clear 1 none 0 0 0 [.ref so] σ (va_up I so f) X (pR none σ (va_up I so (upd f 1 (nI 0))) X) noX := by
  refine Ct.of (by decide) hst (Nat.le_of_ble_eq_true rfl) ?_
  intro pp ee ss mm args below meth kc A hF hnm hout
  refine V.aload_n hF dX3_clear_0 rfl ?_
  refine V.iconst (v := nI 0) hF dX3_clear_1 (by decide) ?_
  refine V.putIU hF dX3_clear_2 fl_X3_15 hS.1.1 hS.1.2 rfl rfl rfl ?_
  refine V.vret hF dX3_clear_5 (Nat.le_refl _) (Nat.le_refl _) ?_
  exact pR.v
end MD
