/-! a script as a whole -/
def pps (g : Rw) (n : Nat) : Nat → Nat
  | 0 => 0
  | k + 1 => (pevA g n (pps g n k)).2 + 1
def pgo (g : Rw) (n k : Nat) : Bool := (pevA g n (pps g n k)).1 && decide (phe g n (pevA g n (pps g n k)).2 = nI 59)
def pK (g : Rw) (n : Nat) : Nat := zfst (fun k => !pgo g n k) 31
def pE (g : Rw) (n : Nat) : Bool × Nat := pevA g n (pps g n (pK g n))
def pok (g : Rw) (n : Nat) : Bool := (pE g n).1 && decide (n ≤ (pE g n).2)
def pkd (g : Rw) (n k : Nat) : Int32 := phe g n (pps g n k)
def px (g : Rw) (n k : Nat) : Int32 := pd g n (pps g n k + 1)
def py (g : Rw) (n k : Nat) : Int32 := pevS g n (pps g n k)
def zdT (v : Rw) (c x y : Int32) : Int32 := if c = nI 98 then zbT v x else if c = nI 97 then zaT v x y else if c = nI 103 then zgT v x y else if c = nI 106 then (if zPr x then (if zbit (v 43) x then nI 2 else nI 0) else nI 1) else if c = nI 108 then (if zPr x then (if zlok v x then nI 0 else nI 2) else nI 1) else (if zinT v then nI 1 else nI 0)
def zdV (v : Rw) (c x y : Int32) : Rw := if c = nI 98 then (if zbT v x = nI 0 then zbV v x.toNatClampNeg y else v) else if c = nI 97 then (if zaT v x y = nI 0 then (zaV v x.toNatClampNeg y.toNatClampNeg).1 else v) else if c = nI 103 then (if zgT v x y = nI 0 then (zgO x.toNatClampNeg y.toNatClampNeg v 6).1 else v) else if c = nI 106 then (if zPr x && !zbit (v 43) x then zjoin v x else v) else if c = nI 108 then (if zPr x && zlok v x then upd v 43 (zleft v x) else v) else (if zinT v then v else zinV v)
theorem zd_98 (v : Rw) (x y : Int32) : zdT v (nI 98) x y = zbT v x ∧ zdV v (nI 98) x y = if zbT v x = nI 0 then zbV v x.toNatClampNeg y else v := ⟨by rw [zdT, if_pos rfl], by rw [zdV, if_pos rfl]⟩
theorem zd_97 (v : Rw) (x y : Int32) : zdT v (nI 97) x y = zaT v x y ∧ zdV v (nI 97) x y = if zaT v x y = nI 0 then (zaV v x.toNatClampNeg y.toNatClampNeg).1 else v := ⟨by rw [zdT, if_neg (by decide), if_pos rfl], by rw [zdV, if_neg (by decide), if_pos rfl]⟩
theorem zd_103 (v : Rw) (x y : Int32) : zdT v (nI 103) x y = zgT v x y ∧ zdV v (nI 103) x y = if zgT v x y = nI 0 then (zgO x.toNatClampNeg y.toNatClampNeg v 6).1 else v := ⟨by rw [zdT, if_neg (by decide), if_neg (by decide), if_pos rfl], by rw [zdV, if_neg (by decide), if_neg (by decide), if_pos rfl]⟩
theorem zd_106 (v : Rw) (x y : Int32) : zdT v (nI 106) x y = (if zPr x then (if zbit (v 43) x then nI 2 else nI 0) else nI 1) ∧ zdV v (nI 106) x y = if zPr x && !zbit (v 43) x then zjoin v x else v := ⟨by rw [zdT, if_neg (by decide), if_neg (by decide), if_neg (by decide), if_pos rfl], by rw [zdV, if_neg (by decide), if_neg (by decide), if_neg (by decide), if_pos rfl]⟩
theorem zd_108 (v : Rw) (x y : Int32) : zdT v (nI 108) x y = (if zPr x then (if zlok v x then nI 0 else nI 2) else nI 1) ∧ zdV v (nI 108) x y = if zPr x && zlok v x then upd v 43 (zleft v x) else v := ⟨by rw [zdT, if_neg (by decide), if_neg (by decide), if_neg (by decide), if_neg (by decide), if_pos rfl], by rw [zdV, if_neg (by decide), if_neg (by decide), if_neg (by decide), if_neg (by decide), if_pos rfl]⟩
theorem zd_105 (v : Rw) (x y : Int32) : zdT v (nI 105) x y = (if zinT v then nI 1 else nI 0) ∧ zdV v (nI 105) x y = if zinT v then v else zinV v := ⟨by rw [zdT, if_neg (by decide), if_neg (by decide), if_neg (by decide), if_neg (by decide), if_neg (by decide)], by rw [zdV, if_neg (by decide), if_neg (by decide), if_neg (by decide), if_neg (by decide), if_neg (by decide)]⟩
/-- the six kinds -/
def pk6 (c : Int32) : Prop := c = nI 98 ∨ c = nI 97 ∨ c = nI 103 ∨ c = nI 106 ∨ c = nI 108 ∨ c = nI 105
/-- what an event takes of its numbers -/
def Tk (c x y x' y' : Int32) : Prop := (c ≠ nI 105 → x' = x) ∧ ((c = nI 98 ∨ c = nI 97 ∨ c = nI 103) → y' = y)
theorem zd_tk {v : Rw} {c x y x' y' : Int32} (hc : pk6 c) (h : Tk c x y x' y') : zdT v c x' y' = zdT v c x y ∧ zdV v c x' y' = zdV v c x y := by
  rcases hc with rfl | rfl | rfl | rfl | rfl | rfl
  · rw [h.1 (by decide), h.2 (by decide)]; exact ⟨rfl, rfl⟩
  · rw [h.1 (by decide), h.2 (by decide)]; exact ⟨rfl, rfl⟩
  · rw [h.1 (by decide), h.2 (by decide)]; exact ⟨rfl, rfl⟩
  · rw [h.1 (by decide), (zd_106 v x y').1, (zd_106 v x y').2, (zd_106 v x y).1, (zd_106 v x y).2]; exact ⟨rfl, rfl⟩
  · rw [h.1 (by decide), (zd_108 v x y').1, (zd_108 v x y').2, (zd_108 v x y).1, (zd_108 v x y).2]; exact ⟨rfl, rfl⟩
  · rw [(zd_105 v x' y').1, (zd_105 v x' y').2, (zd_105 v x y).1, (zd_105 v x y).2]; exact ⟨rfl, rfl⟩
theorem pev_k6 {g : Rw} {n a : Nat} (h : (pevA g n a).1 = true) : pk6 (phe g n a) := by
  by_cases h1 : phe g n a = nI 105
  · exact Or.inr (Or.inr (Or.inr (Or.inr (Or.inr h1))))
  · cases h2 : pku (phe g n a) with
    | false => rw [pev_o h1 h2] at h; cases h
    | true =>
      simp only [pku, Bool.or_eq_true, decide_eq_true_eq] at h2
      rcases h2 with (((h2 | h2) | h2) | h2) | h2
      · exact Or.inl h2
      · exact Or.inr (Or.inl h2)
      · exact Or.inr (Or.inr (Or.inl h2))
      · exact Or.inr (Or.inr (Or.inr (Or.inl h2)))
      · exact Or.inr (Or.inr (Or.inr (Or.inr (Or.inl h2))))
theorem pcn_le (g : Rw) (n a : Nat) : pcn g n a ≤ 3 := by
  unfold pcn
  split
  · split
    · split <;> omega
    · omega
  · omega
theorem phe_lt {g : Rw} {n a : Nat} {c : Int32} (h : phe g n a = c) (hc : c ≠ -1) : a < n := by
  rcases Nat.lt_or_ge a n with q | q
  · exact q
  · rw [phe, if_neg (by omega)] at h; exact absurd h.symm hc
theorem pdg_lt {g : Rw} {n a : Nat} (h : pdg g n a = true) : a < n := by
  rcases Nat.lt_or_ge a n with q | q
  · exact q
  · rw [pdg, phe, if_neg (by omega)] at h; exact absurd h (by decide)
theorem ppr_lt {g : Rw} {n a : Nat} (h : ppr g n a = true) : a < n := by
  rcases Nat.lt_or_ge a n with q | q
  · exact q
  · rw [ppr, phe, if_neg (by omega)] at h; exact absurd h (by decide)
theorem pcn_n {g : Rw} {n a : Nat} (h : pdg g n a = true) : a + pcn g n a ≤ n ∧ 1 ≤ pcn g n a := by
  have h0 := pdg_lt h
  unfold pcn
  rw [if_pos h]
  cases h1 : pdg g n (a + 1) with
  | false => simp only [Bool.false_eq_true, if_false]; omega
  | true =>
    have := pdg_lt h1
    simp only [if_true]
    cases h2 : pdg g n (a + 2) with
    | false => simp only [Bool.false_eq_true, if_false]; omega
    | true => have := pdg_lt h2; simp only [if_true]; omega
/-- where an event ends -/
theorem pev_n {g : Rw} {n a : Nat} (h : (pevA g n a).1 = true) : a + 1 ≤ (pevA g n a).2 ∧ (pevA g n a).2 ≤ n := by
  by_cases h1 : phe g n a = nI 105
  · have := phe_lt h1 (by decide)
    rw [pev_i h1]; dsimp only; omega
  · cases h2 : pku (phe g n a) with
    | false => rw [pev_o h1 h2] at h; cases h
    | true =>
      cases h3 : ppr g n (a + 1) with
      | false => rw [pev_1 h1 h2 h3] at h; cases h
      | true =>
        have l1 := ppr_lt h3
        by_cases h4 : phe g n a = nI 106 ∨ phe g n a = nI 108
        · rw [pev_jl h1 h2 h3 h4]; dsimp only; omega
        · by_cases h5 : phe g n (a + 2) = psg (phe g n a)
          · by_cases h6 : phe g n a = nI 103
            · cases h7 : ppr g n (a + 3) with
              | false => rw [pev_g0 h1 h2 h3 h4 h5 h6 h7] at h; cases h
              | true => have l3 := ppr_lt h7; rw [pev_g1 h1 h2 h3 h4 h5 h6 h7]; dsimp only; omega
            · cases h8 : pdg g n (a + 3 + bN (pneg g n (a + 3) (phe g n a))) with
              | false => rw [pev_n0 h1 h2 h3 h4 h5 h6 rfl h8] at h; cases h
              | true => have l3 := pcn_n h8; rw [pev_n1 h1 h2 h3 h4 h5 h6 rfl h8]; dsimp only; omega
          · rw [pev_2 h1 h2 h3 h4 h5] at h; cases h
theorem bN_le (b : Bool) : bN b ≤ 1 := by cases b <;> decide
theorem pev_b (g : Rw) (n a : Nat) : (pevA g n a).2 ≤ a + 7 := by
  by_cases h1 : phe g n a = nI 105
  · rw [pev_i h1]; dsimp only; omega
  · cases h2 : pku (phe g n a) with
    | false => rw [pev_o h1 h2]; dsimp only; omega
    | true =>
      cases h3 : ppr g n (a + 1) with
      | false => rw [pev_1 h1 h2 h3]; dsimp only; omega
      | true =>
        by_cases h4 : phe g n a = nI 106 ∨ phe g n a = nI 108
        · rw [pev_jl h1 h2 h3 h4]; dsimp only; omega
        · by_cases h5 : phe g n (a + 2) = psg (phe g n a)
          · by_cases h6 : phe g n a = nI 103
            · cases h7 : ppr g n (a + 3) with
              | false => rw [pev_g0 h1 h2 h3 h4 h5 h6 h7]; dsimp only; omega
              | true => rw [pev_g1 h1 h2 h3 h4 h5 h6 h7]; dsimp only; omega
            · have hb := bN_le (pneg g n (a + 3) (phe g n a))
              cases h8 : pdg g n (a + 3 + bN (pneg g n (a + 3) (phe g n a))) with
              | false => rw [pev_n0 h1 h2 h3 h4 h5 h6 rfl h8]; dsimp only; omega
              | true => have l3 := pcn_le g n (a + 3 + bN (pneg g n (a + 3) (phe g n a))); rw [pev_n1 h1 h2 h3 h4 h5 h6 rfl h8]; dsimp only; omega
          · rw [pev_2 h1 h2 h3 h4 h5]; dsimp only; omega
theorem pps_b {g : Rw} {n : Nat} : ∀ {k : Nat}, (∀ j, j < k → pgo g n j = true) → 2 * k ≤ pps g n k ∧ (pps g n k ≤ n)
  | 0, _ => ⟨by omega, by show 0 ≤ n; omega⟩
  | k + 1, h => by
    have ih := pps_b (g := g) (n := n) (k := k) (fun j hj => h j (by omega))
    have hk := h k (by omega)
    simp only [pgo, Bool.and_eq_true, decide_eq_true_eq] at hk
    have h1 := pev_n hk.1
    have h2 := phe_lt hk.2 (by decide)
    rw [pps]; omega
theorem pK_of {g : Rw} {n k : Nat} (hn : n ≤ 60) (h : ∀ j, j < k → pgo g n j = true) (hk : pgo g n k = false) : pK g n = k := by
  have := pps_b h
  exact zfst_at (fun j hj => by rw [h j hj]; rfl) (by rw [hk]; rfl) (by omega)
/-- what the arrays hold of the first k events -/
def EvS (g : Rw) (n k : Nat) (gk gf gs : Rw) : Prop := ∀ i, i < k → gk i = pkd g n i ∧ Tk (pkd g n i) (px g n i) (py g n i) (gf i) (gs i)
theorem EvS.step {g gk gf gs gk' gf' gs' : Rw} {n k : Nat} (h : EvS g n k gk gf gs) (e : Evt g n (pps g n k) k gk gf gs gk' gf' gs') (ok : (pevA g n (pps g n k)).1 = true) : EvS g n (k + 1) gk' gf' gs' := by
  intro i hi
  rcases Nat.lt_or_ge i k with q | q
  · obtain ⟨e1, e2, e3⟩ := e.1 i (by omega)
    rw [e1, e2, e3]; exact h i q
  · rw [show i = k by omega]
    obtain ⟨e1, e2, e3⟩ := e.2 ok
    exact ⟨e1, e2, e3⟩
def zrL (g : Rw) (n : Nat) (v : Rw) : Nat → Rw
  | 0 => v
  | k + 1 => zdV (zrL g n v k) (pkd g n k) (px g n k) (py g n k)
def zrT (g : Rw) (n : Nat) (v : Rw) (k : Nat) : Int32 := zdT (zrL g n v k) (pkd g n k) (px g n k) (py g n k)
def zrG (g : Rw) (n : Nat) (v : Rw) : Bool := decide (zfst (fun k => !decide (zrT g n v k = nI 0)) (pK g n + 1) = pK g n + 1)
/-- what run leaves -/
def RunP (σ : SH) (I X : IX) (o : Nat) (ar : Nat → Nat) (f v tr g : Rw) (n : Nat) : PO := fun r σ' I' X' => σ' = σ ∧ ∃ f' : Rw, I' = va_up I o f' ∧ f' 4 = f 4 ∧ f' 6 = nI 0 ∧
  (∀ a, a ≠ ar 1 → a ≠ ar 3 → a ≠ ar 11 → a ≠ ar 12 → a ≠ ar 13 → X' a = X a) ∧
  if pok g n then f' 7 = f 7 ∧ r = some (.int (if zrG g n v then nI (pK g n + 1) else nI 0)) ∧ f' 0 = (if zrG g n v then nI 0 else nI 2) ∧ ∃ w : Rw, X' (ar 1) = (if zrG g n v then zrL g n v (pK g n + 1) else ycy (ycy v tr 4486) w 4486)
  else r = some (.int (nI 0)) ∧ f' 0 = nI 1 ∧ f' 7 = nI (pE g n).2 ∧ X' (ar 1) = v
theorem lt_st {f : Nat → Bool} {k : Nat} (h : ∀ j, j < k → f j = true) (h2 : f k = true) : ∀ j, j < k + 1 → f j = true := fun j hj => (Nat.lt_or_ge j k).elim (h j) (fun q => by rw [show j = k by omega]; exact h2)
theorem lt_sP {P : Nat → Prop} {k : Nat} (h : ∀ j, j < k → P j) (h2 : P k) : ∀ j, j < k + 1 → P j := fun j hj => (Nat.lt_or_ge j k).elim (h j) (fun q => by rw [show j = k by omega]; exact h2)
theorem pok_of {g : Rw} {n k : Nat} (hK : pK g n = k) : pok g n = ((pevA g n (pps g n k)).1 && decide (n ≤ (pevA g n (pps g n k)).2)) := by rw [pok, pE, hK]
theorem run_bad {σ : SH} {I X : IX} {o : Nat} {ar : Nat → Nat} {f v tr g k1 k2 k3 : Rw} {n k q b : Nat} (hX : X (ar 1) = v) (h3 : D3 (ar 11) (ar 12) (ar 13)) (n1 : ar 1 ≠ ar 11) (n2 : ar 1 ≠ ar 12) (n4 : ar 1 ≠ ar 13) (hK : pK g n = k) (hq : (pevA g n (pps g n k)).2 = q) (hp : pok g n = false) :
    RunP σ I X o ar f v tr g n (some (.int (nI 0))) σ (va_up I o (th (upd (upd (zf f q b) 6 (nI 0)) 7 (nI q)) (nI 1))) (N3 X (ar 11) (ar 12) (ar 13) k1 k2 k3) := by
  refine ⟨rfl, _, rfl, ?_, ?_, ?_, ?_⟩
  · simp only [upd_at]; simp [zf, upd_at]
  · simp only [upd_at]; simp
  · intro a _ _ a1 a2 a3; exact N3_o a1 a2 a3 rfl
  · rw [hp]
    refine ⟨rfl, ?_, ?_, N3_o n1 n2 n4 hX⟩
    · simp [upd_at]
    · simp only [upd_at]; simp [pE, hK, hq]
theorem run_end {σ : SH} {I X Y : IX} {o : Nat} {ar : Nat → Nat} {f v tr g r w0 : Rw} {x t : Int32} {n k q : Nat} (hp : pok g n = true) (hr : ∀ j, j ≠ 0 → r j = upd (zf f q 0) 6 (nI 0) j) (hY : ∀ a, a ≠ ar 1 → a ≠ ar 3 → a ≠ ar 11 → a ≠ ar 12 → a ≠ ar 13 → Y a = X a) (hx : x = if zrG g n v then nI (pK g n + 1) else nI 0) (ht : t = if zrG g n v then nI 0 else nI 2) (hY1 : ∃ w : Rw, Y (ar 1) = (if zrG g n v then zrL g n v (pK g n + 1) else ycy (ycy v tr 4486) w 4486)) :
    RunP σ I X o ar f v tr g n (some (.int x)) σ (va_up I o (th r t)) Y := by
  refine ⟨rfl, _, rfl, ?_, ?_, hY, ?_⟩
  · show upd r 0 t 4 = _
    rw [upd_at, if_neg (by omega), hr 4 (by omega), upd_at, if_neg (by omega), zf_o _ _ _ (by omega) (by omega)]
  · show upd r 0 t 6 = _
    rw [upd_at, if_neg (by omega), hr 6 (by omega), upd_at, if_pos rfl]
  · rw [if_pos hp]
    refine ⟨?_, by rw [hx], by show upd r 0 t 0 = _; rw [upd_at, if_pos rfl, ht], hY1⟩
    show upd r 0 t 7 = _
    rw [upd_at, if_neg (by omega), hr 7 (by omega), upd_at, if_neg (by omega), zf_o _ _ _ (by omega) (by omega)]
theorem th_0 (r : Rw) (t : Int32) : th r t 0 = t := by show upd r 0 t 0 = t; rw [upd_at, if_pos rfl]
theorem th_n {r : Rw} {t : Int32} {j : Nat} (h : j ≠ 0) : th r t j = r j := by show upd r 0 t j = r j; rw [upd_at, if_neg h]

section MD
variable {l : Launch} {D : va_G} {cy sa sv : Nat → Nat}
theorem ct_X5_event (hst : l.stackTraces = false) (σ : SH) (I X : IX) (o : Nat) (ar : Nat → Nat) (hM : MS σ o ar) (f : Rw) (g : Rw) (hg : X (ar 5) = g) (n a : Nat) (h6 : f 6 = nI n) (hn : n ≤ 60) (ha : a ≤ 60) (gk gf gs : Rw) (e : Nat) (he : e < 60) : Ct l D cy sa sv yX5_event cX5_event 5 none 3 0 0 [.ref o, .int (nI e)] σ (va_up I o (zf f a 0)) (N3 X (ar 11) (ar 12) (ar 13) gk gf gs) (fun v' σ' I' X' => v' = none ∧ σ' = σ ∧ I' = va_up I o (zf f (pevA g n a).2 (bN (!(pevA g n a).1))) ∧ ∃ gk' gf' gs' : Rw, X' = N3 X (ar 11) (ar 12) (ar 13) gk' gf' gs' ∧ Evt g n a e gk gf gs gk' gf' gs') noX := by
  by_cases h105 : phe g n a = nI 105
  · exact ct_X5_event_105 hst _ _ _ _ _ hM f g hg n a h6 hn ha gk gf gs e he h105
  by_cases h98 : phe g n a = nI 98
  · exact ct_X5_event_98 hst _ _ _ _ _ hM f g hg n a h6 hn ha gk gf gs e he h98
  by_cases h97 : phe g n a = nI 97
  · exact ct_X5_event_97 hst _ _ _ _ _ hM f g hg n a h6 hn ha gk gf gs e he h97
  by_cases h103 : phe g n a = nI 103
  · exact ct_X5_event_103 hst _ _ _ _ _ hM f g hg n a h6 hn ha gk gf gs e he h103
  by_cases h106 : phe g n a = nI 106
  · exact ct_X5_event_106 hst _ _ _ _ _ hM f g hg n a h6 hn ha gk gf gs e he h106
  by_cases h108 : phe g n a = nI 108
  · exact ct_X5_event_108 hst _ _ _ _ _ hM f g hg n a h6 hn ha gk gf gs e he h108
  exact ct_X5_event_0 hst _ _ _ _ _ hM f g hg n a h6 hn ha gk gf gs e he h105 (by simp only [pku, decide_eq_false h98, decide_eq_false h97, decide_eq_false h103, decide_eq_false h106, decide_eq_false h108]; rfl)
set_option maxRecDepth 20000 in
theorem ct_X5_does_98 (hst : l.stackTraces = false) (σ : SH) (I X : IX) (o : Nat) (ar : Nat → Nat) (hM : MS σ o ar) (f : Rw) (hI : I o = f) (v : Rw) (hX : X (ar 1) = v) (hv : WV v) (hs : WS v) (gk gf gs : Rw) (hgk : X (ar 11) = gk) (hgf : X (ar 12) = gf) (hgs : X (ar 13) = gs) (e : Nat) (he : e < 60) (x y : Int32) (hx : gf e = x) (hy : gs e = y) (hc : gk e = nI 98) : Ct l D cy sa sv yX5_does cX5_does 3 none 5 0 0 [.ref o, .int (nI e)] σ I X (pR none σ (va_up I o (th f (zdT v (nI 98) x y))) (va_up X (ar 1) (zdV v (nI 98) x y))) noX := by
  refine Ct.of (by decide) hst (Nat.le_of_ble_eq_true rfl) ?_
  intro pp ee ss mm args below meth kc A hF hnm hout
  refine V.aload_n hF dX5_does_0 rfl ?_
  refine V.getR hF dX5_does_1 fl_X5_29 hM.1.1 hM.1.2 rfl hM.m11.1 ?_
  refine V.iload_n hF dX5_does_4 rfl ?_
  refine V.ialoadF (j := e) hF dX5_does_5 hM.m11.2.1 hM.m11.2.2.1 rfl (hM.m11.lt (by omega)) (hM.m11.sm (by decide)) hgk ?_
  refine V.topi (y := nI 98) hc ?_
  refine V.bipush (v := nI 98) hF dX5_does_6 (by decide) ?_
  refine V.icmp_ne (tgt := 30) hF dX5_does_8 (by decide) (fun h8 => ?_) (fun h8 => ?_)
  · exact absurd h8 (by decide)
  · refine V.aload_n hF dX5_does_11 rfl ?_
    refine V.aload_n hF dX5_does_12 rfl ?_
    refine V.getR hF dX5_does_13 fl_X5_32 hM.1.1 hM.1.2 rfl hM.m12.1 ?_
    refine V.iload_n hF dX5_does_16 rfl ?_
    refine V.ialoadF (j := e) hF dX5_does_17 hM.m12.2.1 hM.m12.2.2.1 rfl (hM.m12.lt (by omega)) (hM.m12.sm (by decide)) hgf ?_
    refine V.topi (y := x) hx ?_
    refine V.aload_n hF dX5_does_18 rfl ?_
    refine V.getR hF dX5_does_19 fl_X5_35 hM.1.1 hM.1.2 rfl hM.m13.1 ?_
    refine V.iload_n hF dX5_does_22 rfl ?_
    refine V.ialoadF (j := e) hF dX5_does_23 hM.m13.2.1 hM.m13.2.2.1 rfl (hM.m13.lt (by omega)) (hM.m13.sm (by decide)) hgs ?_
    refine V.topi (y := y) hy ?_
    refine V.vI hF dX5_does_24 (ct_X5_broadcast hst _ _ _ _ _ hM _ hI _ hX hv _ _) lk_X5_146 sl_X5_broadcast hM.1.1 hM.1.2 rfl (Nat.le_of_ble_eq_true rfl) (fit_of rfl) (Nat.le_of_ble_eq_true rfl) rfl ?_
    refine V.goto (tgt := 142) hF dX5_does_27 (by decide) ?_
    refine V.istore_n hF dX5_does_142 (by decide) ?_
    refine V.vret hF dX5_does_143 (Nat.le_refl _) (Nat.le_refl _) ?_
    exact pR.ve (by rw [(zd_98 v x y).1]) (by rw [(zd_98 v x y).2])
set_option maxRecDepth 20000 in
theorem ct_X5_does_97 (hst : l.stackTraces = false) (σ : SH) (I X : IX) (o : Nat) (ar : Nat → Nat) (hM : MS σ o ar) (f : Rw) (hI : I o = f) (v : Rw) (hX : X (ar 1) = v) (hv : WV v) (hs : WS v) (gk gf gs : Rw) (hgk : X (ar 11) = gk) (hgf : X (ar 12) = gf) (hgs : X (ar 13) = gs) (e : Nat) (he : e < 60) (x y : Int32) (hx : gf e = x) (hy : gs e = y) (hc : gk e = nI 97) : Ct l D cy sa sv yX5_does cX5_does 3 none 5 0 0 [.ref o, .int (nI e)] σ I X (pR none σ (va_up I o (th f (zdT v (nI 97) x y))) (va_up X (ar 1) (zdV v (nI 97) x y))) noX := by
  refine Ct.of (by decide) hst (Nat.le_of_ble_eq_true rfl) ?_
  intro pp ee ss mm args below meth kc A hF hnm hout
  refine V.aload_n hF dX5_does_0 rfl ?_
  refine V.getR hF dX5_does_1 fl_X5_29 hM.1.1 hM.1.2 rfl hM.m11.1 ?_
  refine V.iload_n hF dX5_does_4 rfl ?_
  refine V.ialoadF (j := e) hF dX5_does_5 hM.m11.2.1 hM.m11.2.2.1 rfl (hM.m11.lt (by omega)) (hM.m11.sm (by decide)) hgk ?_
  refine V.topi (y := nI 97) hc ?_
  refine V.bipush (v := nI 98) hF dX5_does_6 (by decide) ?_
  refine V.icmp_ne (tgt := 30) hF dX5_does_8 (by decide) (fun h8 => ?_) (fun h8 => ?_)
  · refine V.aload_n hF dX5_does_30 rfl ?_
    refine V.getR hF dX5_does_31 fl_X5_29 hM.1.1 hM.1.2 rfl hM.m11.1 ?_
    refine V.iload_n hF dX5_does_34 rfl ?_
    refine V.ialoadF (j := e) hF dX5_does_35 hM.m11.2.1 hM.m11.2.2.1 rfl (hM.m11.lt (by omega)) (hM.m11.sm (by decide)) hgk ?_
    refine V.topi (y := nI 97) hc ?_
    refine V.bipush (v := nI 97) hF dX5_does_36 (by decide) ?_
    refine V.icmp_ne (tgt := 60) hF dX5_does_38 (by decide) (fun h38 => ?_) (fun h38 => ?_)
    · exact absurd h38 (by decide)
    · refine V.aload_n hF dX5_does_41 rfl ?_
      refine V.aload_n hF dX5_does_42 rfl ?_
      refine V.getR hF dX5_does_43 fl_X5_32 hM.1.1 hM.1.2 rfl hM.m12.1 ?_
      refine V.iload_n hF dX5_does_46 rfl ?_
      refine V.ialoadF (j := e) hF dX5_does_47 hM.m12.2.1 hM.m12.2.2.1 rfl (hM.m12.lt (by omega)) (hM.m12.sm (by decide)) hgf ?_
      refine V.topi (y := x) hx ?_
      refine V.aload_n hF dX5_does_48 rfl ?_
      refine V.getR hF dX5_does_49 fl_X5_35 hM.1.1 hM.1.2 rfl hM.m13.1 ?_
      refine V.iload_n hF dX5_does_52 rfl ?_
      refine V.ialoadF (j := e) hF dX5_does_53 hM.m13.2.1 hM.m13.2.2.1 rfl (hM.m13.lt (by omega)) (hM.m13.sm (by decide)) hgs ?_
      refine V.topi (y := y) hy ?_
      refine V.vI hF dX5_does_54 (ct_X5_arrive hst _ _ _ _ _ hM _ hI _ hX hv _ _) lk_X5_149 sl_X5_arrive hM.1.1 hM.1.2 rfl (Nat.le_of_ble_eq_true rfl) (fit_of rfl) (Nat.le_of_ble_eq_true rfl) rfl ?_
      refine V.goto (tgt := 142) hF dX5_does_57 (by decide) ?_
      refine V.istore_n hF dX5_does_142 (by decide) ?_
      refine V.vret hF dX5_does_143 (Nat.le_refl _) (Nat.le_refl _) ?_
      exact pR.ve (by rw [(zd_97 v x y).1]) (by rw [(zd_97 v x y).2])
  · exact absurd h8 (by decide)
set_option maxRecDepth 20000 in
theorem ct_X5_does_103 (hst : l.stackTraces = false) (σ : SH) (I X : IX) (o : Nat) (ar : Nat → Nat) (hM : MS σ o ar) (f : Rw) (hI : I o = f) (v : Rw) (hX : X (ar 1) = v) (hv : WV v) (hs : WS v) (gk gf gs : Rw) (hgk : X (ar 11) = gk) (hgf : X (ar 12) = gf) (hgs : X (ar 13) = gs) (e : Nat) (he : e < 60) (x y : Int32) (hx : gf e = x) (hy : gs e = y) (hc : gk e = nI 103) : Ct l D cy sa sv yX5_does cX5_does 3 none 5 0 0 [.ref o, .int (nI e)] σ I X (pR none σ (va_up I o (th f (zdT v (nI 103) x y))) (va_up X (ar 1) (zdV v (nI 103) x y))) noX := by
  refine Ct.of (by decide) hst (Nat.le_of_ble_eq_true rfl) ?_
  intro pp ee ss mm args below meth kc A hF hnm hout
  refine V.aload_n hF dX5_does_0 rfl ?_
  refine V.getR hF dX5_does_1 fl_X5_29 hM.1.1 hM.1.2 rfl hM.m11.1 ?_
  refine V.iload_n hF dX5_does_4 rfl ?_
  refine V.ialoadF (j := e) hF dX5_does_5 hM.m11.2.1 hM.m11.2.2.1 rfl (hM.m11.lt (by omega)) (hM.m11.sm (by decide)) hgk ?_
  refine V.topi (y := nI 103) hc ?_
  refine V.bipush (v := nI 98) hF dX5_does_6 (by decide) ?_
  refine V.icmp_ne (tgt := 30) hF dX5_does_8 (by decide) (fun h8 => ?_) (fun h8 => ?_)
  · refine V.aload_n hF dX5_does_30 rfl ?_
    refine V.getR hF dX5_does_31 fl_X5_29 hM.1.1 hM.1.2 rfl hM.m11.1 ?_
    refine V.iload_n hF dX5_does_34 rfl ?_
    refine V.ialoadF (j := e) hF dX5_does_35 hM.m11.2.1 hM.m11.2.2.1 rfl (hM.m11.lt (by omega)) (hM.m11.sm (by decide)) hgk ?_
    refine V.topi (y := nI 103) hc ?_
    refine V.bipush (v := nI 97) hF dX5_does_36 (by decide) ?_
    refine V.icmp_ne (tgt := 60) hF dX5_does_38 (by decide) (fun h38 => ?_) (fun h38 => ?_)
    · refine V.aload_n hF dX5_does_60 rfl ?_
      refine V.getR hF dX5_does_61 fl_X5_29 hM.1.1 hM.1.2 rfl hM.m11.1 ?_
      refine V.iload_n hF dX5_does_64 rfl ?_
      refine V.ialoadF (j := e) hF dX5_does_65 hM.m11.2.1 hM.m11.2.2.1 rfl (hM.m11.lt (by omega)) (hM.m11.sm (by decide)) hgk ?_
      refine V.topi (y := nI 103) hc ?_
      refine V.bipush (v := nI 103) hF dX5_does_66 (by decide) ?_
      refine V.icmp_ne (tgt := 90) hF dX5_does_68 (by decide) (fun h68 => ?_) (fun h68 => ?_)
      · exact absurd h68 (by decide)
      · refine V.aload_n hF dX5_does_71 rfl ?_
        refine V.aload_n hF dX5_does_72 rfl ?_
        refine V.getR hF dX5_does_73 fl_X5_32 hM.1.1 hM.1.2 rfl hM.m12.1 ?_
        refine V.iload_n hF dX5_does_76 rfl ?_
        refine V.ialoadF (j := e) hF dX5_does_77 hM.m12.2.1 hM.m12.2.2.1 rfl (hM.m12.lt (by omega)) (hM.m12.sm (by decide)) hgf ?_
        refine V.topi (y := x) hx ?_
        refine V.aload_n hF dX5_does_78 rfl ?_
        refine V.getR hF dX5_does_79 fl_X5_35 hM.1.1 hM.1.2 rfl hM.m13.1 ?_
        refine V.iload_n hF dX5_does_82 rfl ?_
        refine V.ialoadF (j := e) hF dX5_does_83 hM.m13.2.1 hM.m13.2.2.1 rfl (hM.m13.lt (by omega)) (hM.m13.sm (by decide)) hgs ?_
        refine V.topi (y := y) hy ?_
        refine V.vI hF dX5_does_84 (ct_X5_gossip hst _ _ _ _ _ hM _ hI _ hX hv _ _) lk_X5_152 sl_X5_gossip hM.1.1 hM.1.2 rfl (Nat.le_of_ble_eq_true rfl) (fit_of rfl) (Nat.le_of_ble_eq_true rfl) rfl ?_
        refine V.goto (tgt := 142) hF dX5_does_87 (by decide) ?_
        refine V.istore_n hF dX5_does_142 (by decide) ?_
        refine V.vret hF dX5_does_143 (Nat.le_refl _) (Nat.le_refl _) ?_
        exact pR.ve (by rw [(zd_103 v x y).1]) (by rw [(zd_103 v x y).2])
    · exact absurd h38 (by decide)
  · exact absurd h8 (by decide)
set_option maxRecDepth 20000 in
theorem ct_X5_does_106 (hst : l.stackTraces = false) (σ : SH) (I X : IX) (o : Nat) (ar : Nat → Nat) (hM : MS σ o ar) (f : Rw) (hI : I o = f) (v : Rw) (hX : X (ar 1) = v) (hv : WV v) (hs : WS v) (gk gf gs : Rw) (hgk : X (ar 11) = gk) (hgf : X (ar 12) = gf) (hgs : X (ar 13) = gs) (e : Nat) (he : e < 60) (x y : Int32) (hx : gf e = x) (hy : gs e = y) (hc : gk e = nI 106) : Ct l D cy sa sv yX5_does cX5_does 3 none 5 0 0 [.ref o, .int (nI e)] σ I X (pR none σ (va_up I o (th f (zdT v (nI 106) x y))) (va_up X (ar 1) (zdV v (nI 106) x y))) noX := by
  refine Ct.of (by decide) hst (Nat.le_of_ble_eq_true rfl) ?_
  intro pp ee ss mm args below meth kc A hF hnm hout
  refine V.aload_n hF dX5_does_0 rfl ?_
  refine V.getR hF dX5_does_1 fl_X5_29 hM.1.1 hM.1.2 rfl hM.m11.1 ?_
  refine V.iload_n hF dX5_does_4 rfl ?_
  refine V.ialoadF (j := e) hF dX5_does_5 hM.m11.2.1 hM.m11.2.2.1 rfl (hM.m11.lt (by omega)) (hM.m11.sm (by decide)) hgk ?_
  refine V.topi (y := nI 106) hc ?_
  refine V.bipush (v := nI 98) hF dX5_does_6 (by decide) ?_
  refine V.icmp_ne (tgt := 30) hF dX5_does_8 (by decide) (fun h8 => ?_) (fun h8 => ?_)
  · refine V.aload_n hF dX5_does_30 rfl ?_
    refine V.getR hF dX5_does_31 fl_X5_29 hM.1.1 hM.1.2 rfl hM.m11.1 ?_
    refine V.iload_n hF dX5_does_34 rfl ?_
    refine V.ialoadF (j := e) hF dX5_does_35 hM.m11.2.1 hM.m11.2.2.1 rfl (hM.m11.lt (by omega)) (hM.m11.sm (by decide)) hgk ?_
    refine V.topi (y := nI 106) hc ?_
    refine V.bipush (v := nI 97) hF dX5_does_36 (by decide) ?_
    refine V.icmp_ne (tgt := 60) hF dX5_does_38 (by decide) (fun h38 => ?_) (fun h38 => ?_)
    · refine V.aload_n hF dX5_does_60 rfl ?_
      refine V.getR hF dX5_does_61 fl_X5_29 hM.1.1 hM.1.2 rfl hM.m11.1 ?_
      refine V.iload_n hF dX5_does_64 rfl ?_
      refine V.ialoadF (j := e) hF dX5_does_65 hM.m11.2.1 hM.m11.2.2.1 rfl (hM.m11.lt (by omega)) (hM.m11.sm (by decide)) hgk ?_
      refine V.topi (y := nI 106) hc ?_
      refine V.bipush (v := nI 103) hF dX5_does_66 (by decide) ?_
      refine V.icmp_ne (tgt := 90) hF dX5_does_68 (by decide) (fun h68 => ?_) (fun h68 => ?_)
      · refine V.aload_n hF dX5_does_90 rfl ?_
        refine V.getR hF dX5_does_91 fl_X5_29 hM.1.1 hM.1.2 rfl hM.m11.1 ?_
        refine V.iload_n hF dX5_does_94 rfl ?_
        refine V.ialoadF (j := e) hF dX5_does_95 hM.m11.2.1 hM.m11.2.2.1 rfl (hM.m11.lt (by omega)) (hM.m11.sm (by decide)) hgk ?_
        refine V.topi (y := nI 106) hc ?_
        refine V.bipush (v := nI 106) hF dX5_does_96 (by decide) ?_
        refine V.icmp_ne (tgt := 114) hF dX5_does_98 (by decide) (fun h98 => ?_) (fun h98 => ?_)
        · exact absurd h98 (by decide)
        · refine V.aload_n hF dX5_does_101 rfl ?_
          refine V.aload_n hF dX5_does_102 rfl ?_
          refine V.getR hF dX5_does_103 fl_X5_32 hM.1.1 hM.1.2 rfl hM.m12.1 ?_
          refine V.iload_n hF dX5_does_106 rfl ?_
          refine V.ialoadF (j := e) hF dX5_does_107 hM.m12.2.1 hM.m12.2.2.1 rfl (hM.m12.lt (by omega)) (hM.m12.sm (by decide)) hgf ?_
          refine V.topi (y := x) hx ?_
          refine V.vI hF dX5_does_108 (ct_X5_requestJoin hst _ _ _ _ _ hM _ hI _ hX _) lk_X5_155 sl_X5_requestJoin hM.1.1 hM.1.2 rfl (Nat.le_of_ble_eq_true rfl) (fit_of rfl) (Nat.le_of_ble_eq_true rfl) rfl ?_
          refine V.goto (tgt := 142) hF dX5_does_111 (by decide) ?_
          refine V.istore_n hF dX5_does_142 (by decide) ?_
          refine V.vret hF dX5_does_143 (Nat.le_refl _) (Nat.le_refl _) ?_
          exact pR.ve (by rw [(zd_106 v x y).1]) (by rw [(zd_106 v x y).2])
      · exact absurd h68 (by decide)
    · exact absurd h38 (by decide)
  · exact absurd h8 (by decide)
set_option maxRecDepth 20000 in
theorem ct_X5_does_108 (hst : l.stackTraces = false) (σ : SH) (I X : IX) (o : Nat) (ar : Nat → Nat) (hM : MS σ o ar) (f : Rw) (hI : I o = f) (v : Rw) (hX : X (ar 1) = v) (hv : WV v) (hs : WS v) (gk gf gs : Rw) (hgk : X (ar 11) = gk) (hgf : X (ar 12) = gf) (hgs : X (ar 13) = gs) (e : Nat) (he : e < 60) (x y : Int32) (hx : gf e = x) (hy : gs e = y) (hc : gk e = nI 108) : Ct l D cy sa sv yX5_does cX5_does 3 none 5 0 0 [.ref o, .int (nI e)] σ I X (pR none σ (va_up I o (th f (zdT v (nI 108) x y))) (va_up X (ar 1) (zdV v (nI 108) x y))) noX := by
  refine Ct.of (by decide) hst (Nat.le_of_ble_eq_true rfl) ?_
  intro pp ee ss mm args below meth kc A hF hnm hout
  refine V.aload_n hF dX5_does_0 rfl ?_
  refine V.getR hF dX5_does_1 fl_X5_29 hM.1.1 hM.1.2 rfl hM.m11.1 ?_
  refine V.iload_n hF dX5_does_4 rfl ?_
  refine V.ialoadF (j := e) hF dX5_does_5 hM.m11.2.1 hM.m11.2.2.1 rfl (hM.m11.lt (by omega)) (hM.m11.sm (by decide)) hgk ?_
  refine V.topi (y := nI 108) hc ?_
  refine V.bipush (v := nI 98) hF dX5_does_6 (by decide) ?_
  refine V.icmp_ne (tgt := 30) hF dX5_does_8 (by decide) (fun h8 => ?_) (fun h8 => ?_)
  · refine V.aload_n hF dX5_does_30 rfl ?_
    refine V.getR hF dX5_does_31 fl_X5_29 hM.1.1 hM.1.2 rfl hM.m11.1 ?_
    refine V.iload_n hF dX5_does_34 rfl ?_
    refine V.ialoadF (j := e) hF dX5_does_35 hM.m11.2.1 hM.m11.2.2.1 rfl (hM.m11.lt (by omega)) (hM.m11.sm (by decide)) hgk ?_
    refine V.topi (y := nI 108) hc ?_
    refine V.bipush (v := nI 97) hF dX5_does_36 (by decide) ?_
    refine V.icmp_ne (tgt := 60) hF dX5_does_38 (by decide) (fun h38 => ?_) (fun h38 => ?_)
    · refine V.aload_n hF dX5_does_60 rfl ?_
      refine V.getR hF dX5_does_61 fl_X5_29 hM.1.1 hM.1.2 rfl hM.m11.1 ?_
      refine V.iload_n hF dX5_does_64 rfl ?_
      refine V.ialoadF (j := e) hF dX5_does_65 hM.m11.2.1 hM.m11.2.2.1 rfl (hM.m11.lt (by omega)) (hM.m11.sm (by decide)) hgk ?_
      refine V.topi (y := nI 108) hc ?_
      refine V.bipush (v := nI 103) hF dX5_does_66 (by decide) ?_
      refine V.icmp_ne (tgt := 90) hF dX5_does_68 (by decide) (fun h68 => ?_) (fun h68 => ?_)
      · refine V.aload_n hF dX5_does_90 rfl ?_
        refine V.getR hF dX5_does_91 fl_X5_29 hM.1.1 hM.1.2 rfl hM.m11.1 ?_
        refine V.iload_n hF dX5_does_94 rfl ?_
        refine V.ialoadF (j := e) hF dX5_does_95 hM.m11.2.1 hM.m11.2.2.1 rfl (hM.m11.lt (by omega)) (hM.m11.sm (by decide)) hgk ?_
        refine V.topi (y := nI 108) hc ?_
        refine V.bipush (v := nI 106) hF dX5_does_96 (by decide) ?_
        refine V.icmp_ne (tgt := 114) hF dX5_does_98 (by decide) (fun h98 => ?_) (fun h98 => ?_)
        · refine V.aload_n hF dX5_does_114 rfl ?_
          refine V.getR hF dX5_does_115 fl_X5_29 hM.1.1 hM.1.2 rfl hM.m11.1 ?_
          refine V.iload_n hF dX5_does_118 rfl ?_
          refine V.ialoadF (j := e) hF dX5_does_119 hM.m11.2.1 hM.m11.2.2.1 rfl (hM.m11.lt (by omega)) (hM.m11.sm (by decide)) hgk ?_
          refine V.topi (y := nI 108) hc ?_
          refine V.bipush (v := nI 108) hF dX5_does_120 (by decide) ?_
          refine V.icmp_ne (tgt := 138) hF dX5_does_122 (by decide) (fun h122 => ?_) (fun h122 => ?_)
          · exact absurd h122 (by decide)
          · refine V.aload_n hF dX5_does_125 rfl ?_
            refine V.aload_n hF dX5_does_126 rfl ?_
            refine V.getR hF dX5_does_127 fl_X5_32 hM.1.1 hM.1.2 rfl hM.m12.1 ?_
            refine V.iload_n hF dX5_does_130 rfl ?_
            refine V.ialoadF (j := e) hF dX5_does_131 hM.m12.2.1 hM.m12.2.2.1 rfl (hM.m12.lt (by omega)) (hM.m12.sm (by decide)) hgf ?_
            refine V.topi (y := x) hx ?_
            refine V.vI hF dX5_does_132 (ct_X5_requestLeave hst _ _ _ _ _ hM _ hI _ hX hv _) lk_X5_158 sl_X5_requestLeave hM.1.1 hM.1.2 rfl (Nat.le_of_ble_eq_true rfl) (fit_of rfl) (Nat.le_of_ble_eq_true rfl) rfl ?_
            refine V.goto (tgt := 142) hF dX5_does_135 (by decide) ?_
            refine V.istore_n hF dX5_does_142 (by decide) ?_
            refine V.vret hF dX5_does_143 (Nat.le_refl _) (Nat.le_refl _) ?_
            exact pR.ve (by rw [(zd_108 v x y).1]) (by rw [(zd_108 v x y).2])
        · exact absurd h98 (by decide)
      · exact absurd h68 (by decide)
    · exact absurd h38 (by decide)
  · exact absurd h8 (by decide)
set_option maxRecDepth 20000 in
theorem ct_X5_does_105 (hst : l.stackTraces = false) (σ : SH) (I X : IX) (o : Nat) (ar : Nat → Nat) (hM : MS σ o ar) (f : Rw) (hI : I o = f) (v : Rw) (hX : X (ar 1) = v) (hv : WV v) (hs : WS v) (gk gf gs : Rw) (hgk : X (ar 11) = gk) (hgf : X (ar 12) = gf) (hgs : X (ar 13) = gs) (e : Nat) (he : e < 60) (x y : Int32) (hx : gf e = x) (hy : gs e = y) (hc : gk e = nI 105) : Ct l D cy sa sv yX5_does cX5_does 3 none 5 0 0 [.ref o, .int (nI e)] σ I X (pR none σ (va_up I o (th f (zdT v (nI 105) x y))) (va_up X (ar 1) (zdV v (nI 105) x y))) noX := by
  refine Ct.of (by decide) hst (Nat.le_of_ble_eq_true rfl) ?_
  intro pp ee ss mm args below meth kc A hF hnm hout
  refine V.aload_n hF dX5_does_0 rfl ?_
  refine V.getR hF dX5_does_1 fl_X5_29 hM.1.1 hM.1.2 rfl hM.m11.1 ?_
  refine V.iload_n hF dX5_does_4 rfl ?_
  refine V.ialoadF (j := e) hF dX5_does_5 hM.m11.2.1 hM.m11.2.2.1 rfl (hM.m11.lt (by omega)) (hM.m11.sm (by decide)) hgk ?_
  refine V.topi (y := nI 105) hc ?_
  refine V.bipush (v := nI 98) hF dX5_does_6 (by decide) ?_
  refine V.icmp_ne (tgt := 30) hF dX5_does_8 (by decide) (fun h8 => ?_) (fun h8 => ?_)
  · refine V.aload_n hF dX5_does_30 rfl ?_
    refine V.getR hF dX5_does_31 fl_X5_29 hM.1.1 hM.1.2 rfl hM.m11.1 ?_
    refine V.iload_n hF dX5_does_34 rfl ?_
    refine V.ialoadF (j := e) hF dX5_does_35 hM.m11.2.1 hM.m11.2.2.1 rfl (hM.m11.lt (by omega)) (hM.m11.sm (by decide)) hgk ?_
    refine V.topi (y := nI 105) hc ?_
    refine V.bipush (v := nI 97) hF dX5_does_36 (by decide) ?_
    refine V.icmp_ne (tgt := 60) hF dX5_does_38 (by decide) (fun h38 => ?_) (fun h38 => ?_)
    · refine V.aload_n hF dX5_does_60 rfl ?_
      refine V.getR hF dX5_does_61 fl_X5_29 hM.1.1 hM.1.2 rfl hM.m11.1 ?_
      refine V.iload_n hF dX5_does_64 rfl ?_
      refine V.ialoadF (j := e) hF dX5_does_65 hM.m11.2.1 hM.m11.2.2.1 rfl (hM.m11.lt (by omega)) (hM.m11.sm (by decide)) hgk ?_
      refine V.topi (y := nI 105) hc ?_
      refine V.bipush (v := nI 103) hF dX5_does_66 (by decide) ?_
      refine V.icmp_ne (tgt := 90) hF dX5_does_68 (by decide) (fun h68 => ?_) (fun h68 => ?_)
      · refine V.aload_n hF dX5_does_90 rfl ?_
        refine V.getR hF dX5_does_91 fl_X5_29 hM.1.1 hM.1.2 rfl hM.m11.1 ?_
        refine V.iload_n hF dX5_does_94 rfl ?_
        refine V.ialoadF (j := e) hF dX5_does_95 hM.m11.2.1 hM.m11.2.2.1 rfl (hM.m11.lt (by omega)) (hM.m11.sm (by decide)) hgk ?_
        refine V.topi (y := nI 105) hc ?_
        refine V.bipush (v := nI 106) hF dX5_does_96 (by decide) ?_
        refine V.icmp_ne (tgt := 114) hF dX5_does_98 (by decide) (fun h98 => ?_) (fun h98 => ?_)
        · refine V.aload_n hF dX5_does_114 rfl ?_
          refine V.getR hF dX5_does_115 fl_X5_29 hM.1.1 hM.1.2 rfl hM.m11.1 ?_
          refine V.iload_n hF dX5_does_118 rfl ?_
          refine V.ialoadF (j := e) hF dX5_does_119 hM.m11.2.1 hM.m11.2.2.1 rfl (hM.m11.lt (by omega)) (hM.m11.sm (by decide)) hgk ?_
          refine V.topi (y := nI 105) hc ?_
          refine V.bipush (v := nI 108) hF dX5_does_120 (by decide) ?_
          refine V.icmp_ne (tgt := 138) hF dX5_does_122 (by decide) (fun h122 => ?_) (fun h122 => ?_)
          · refine V.aload_n hF dX5_does_138 rfl ?_
            refine V.vI hF dX5_does_139 (ct_X5_install hst _ _ _ _ _ hM _ hI _ hX hv hs) lk_X5_161 sl_X5_install hM.1.1 hM.1.2 rfl (Nat.le_of_ble_eq_true rfl) (fit_of rfl) (Nat.le_of_ble_eq_true rfl) rfl ?_
            refine V.istore_n hF dX5_does_142 (by decide) ?_
            refine V.vret hF dX5_does_143 (Nat.le_refl _) (Nat.le_refl _) ?_
            exact pR.ve (by rw [(zd_105 v x y).1]) (by rw [(zd_105 v x y).2])
          · exact absurd h122 (by decide)
        · exact absurd h98 (by decide)
      · exact absurd h68 (by decide)
    · exact absurd h38 (by decide)
  · exact absurd h8 (by decide)
theorem ct_X5_does (hst : l.stackTraces = false) (σ : SH) (I X : IX) (o : Nat) (ar : Nat → Nat) (hM : MS σ o ar) (f : Rw) (hI : I o = f) (v : Rw) (hX : X (ar 1) = v) (hv : WV v) (hs : WS v) (gk gf gs : Rw) (hgk : X (ar 11) = gk) (hgf : X (ar 12) = gf) (hgs : X (ar 13) = gs) (e : Nat) (he : e < 60) (x y : Int32) (hx : gf e = x) (hy : gs e = y) (hc : pk6 (gk e)) : Ct l D cy sa sv yX5_does cX5_does 3 none 5 0 0 [.ref o, .int (nI e)] σ I X (pR none σ (va_up I o (th f (zdT v (gk e) x y))) (va_up X (ar 1) (zdV v (gk e) x y))) noX := by
  rcases hc with h | h | h | h | h | h
  · rw [h]; exact ct_X5_does_98 hst _ _ _ _ _ hM _ hI _ hX hv hs _ _ _ hgk hgf hgs e he x y hx hy h
  · rw [h]; exact ct_X5_does_97 hst _ _ _ _ _ hM _ hI _ hX hv hs _ _ _ hgk hgf hgs e he x y hx hy h
  · rw [h]; exact ct_X5_does_103 hst _ _ _ _ _ hM _ hI _ hX hv hs _ _ _ hgk hgf hgs e he x y hx hy h
  · rw [h]; exact ct_X5_does_106 hst _ _ _ _ _ hM _ hI _ hX hv hs _ _ _ hgk hgf hgs e he x y hx hy h
  · rw [h]; exact ct_X5_does_108 hst _ _ _ _ _ hM _ hI _ hX hv hs _ _ _ hgk hgf hgs e he x y hx hy h
  · rw [h]; exact ct_X5_does_105 hst _ _ _ _ _ hM _ hI _ hX hv hs _ _ _ hgk hgf hgs e he x y hx hy h
set_option maxRecDepth 20000 in
theorem ct_X5_run (hst : l.stackTraces = false) (σ : SH) (I X : IX) (o : Nat) (ar : Nat → Nat) (hM : MS σ o ar) (f : Rw) (hI : I o = f) (v : Rw) (hX : X (ar 1) = v) (tr : Rw) (htr : X (ar 3) = tr) (g : Rw) (hg : X (ar 5) = g) (n : Nat) (h6 : f 6 = nI n) (hn : n ≤ 60) (hok : ∀ k, k ≤ pK g n + 1 → (∀ j, j < k → zrT g n v j = nI 0) → WV (zrL g n v k) ∧ WS (zrL g n v k)) : Ct l D cy sa sv yX5_run cX5_run 4 (some .int) 6 0 0 [.ref o] σ I X (RunP σ I X o ar f v tr g n) noX := by
  refine Ct.of (by decide) hst (Nat.le_of_ble_eq_true rfl) ?_
  intro pp ee ss mm args below meth kc A hF hnm hout
  refine V.etaI o hI ?_
  refine V.aload_n hF dX5_run_0 rfl ?_
  refine V.iconst (v := nI 0) hF dX5_run_1 (by decide) ?_
  refine V.putIU hF dX5_run_2 fl_X5_126 hM.1.1 hM.1.2 rfl rfl rfl ?_
  refine V.aload_n hF dX5_run_5 rfl ?_
  refine V.iconst (v := nI 0) hF dX5_run_6 (by decide) ?_
  refine V.putIU hF dX5_run_7 fl_X5_132 hM.1.1 hM.1.2 rfl rfl rfl ?_
  refine V.eqI (I' := va_up I o (zf f 0 0)) rfl ?_
  refine V.eqX (N3_eta hM.d3).symm ?_
  refine V.iconst (v := nI 0) hF dX5_run_10 (by decide) ?_
  refine V.istore_n hF dX5_run_11 (by decide) ?_
  refine V.iconst (v := nI 1) hF dX5_run_12 (by decide) ?_
  refine V.istore_n hF dX5_run_13 (by decide) ?_
  have L14 : ∀ (n14 : Nat) (k : Nat) (gk gf gs : Rw), 31 - k < n14 → (∀ j, j < k → pgo g n j = true) → EvS g n k gk gf gs → V pp l ee (Rm 6 0 0) ss mm args below meth kc D cy A (QM below args ss D cy A (RunP σ I X o ar f v tr g n) noX 0 0) 4 0 0 σ (va_up I o (zf f (pps g n k) 0)) (N3 X (ar 11) (ar 12) (ar 13) gk gf gs) 14 [(0, .ref o), (1, .int (nI k)), (2, .int (nI 1))] [] := by
    intro n14
    induction n14 with
    | zero => intro k gk gf gs hlt14; exact absurd hlt14 (Nat.not_lt_zero _)
    | succ n14 ih14 =>
      intro k gk gf gs hlt14 ha hevs
      have hb := pps_b ha
      have hq7 := pev_b g n (pps g n k)
      refine V.iload_n hF dX5_run_14 rfl ?_
      refine V.if_eq (tgt := 69) hF dX5_run_15 (by decide) (fun h15 => ?_) (fun h15 => ?_)
      · exact absurd h15 (by decide)
      · refine V.aload_n hF dX5_run_18 rfl ?_
        refine V.iload_n hF dX5_run_19 rfl ?_
        refine V.callV hF dX5_run_20 (ct_X5_event hst _ _ _ _ _ hM f g hg n (pps g n k) h6 hn (by omega) gk gf gs k (by omega)) lk_X5_164 sl_X5_event ⟨_, _, rfl, hM.1.1, hM.1.2, Nat.le_of_ble_eq_true rfl, _, _, rfl⟩ (fit_of rfl) (Nat.le_of_ble_eq_true rfl) (fun _ _ _ _ h => h.elim) (fun v1 σ1 I1 X1 hpost => ?_) rfl
        obtain ⟨rfl, hs1, rfl, k1, k2, k3, rfl, hev⟩ := hpost
        obtain rfl := hs1.symm
        refine V.iinc (v := nI (k + 1)) hF dX5_run_23 rfl (by exact nI_1 _) (by decide) ?_
        refine V.aload_n hF dX5_run_26 rfl ?_
        refine V.getIF hF dX5_run_27 fl_X5_132 hM.1.1 hM.1.2 rfl (va_up_self _ _ _) ?_
        refine V.topi (y := nI (bN (!(pevA g n (pps g n k)).1))) (zf_10 _ _ _) ?_
        refine V.if_ne (tgt := 46) hF dX5_run_30 (by decide) (fun h30 => ?_) (fun h30 => ?_)
        · have hok1 := bN_0 h30
          have hK := pK_of hn ha (by rw [pgo, hok1]; rfl)
          refine V.eqI (I' := va_up I o (zf f (pevA g n (pps g n k)).2 1)) (by rw [hok1]; rfl) ?_
          refine V.iconst (v := nI 0) hF dX5_run_46 (by decide) ?_
          refine V.istore_n hF dX5_run_47 (by decide) ?_
          refine V.aload_n hF dX5_run_48 rfl ?_
          refine V.dup hF dX5_run_49 rfl ?_
          refine V.getIF hF dX5_run_50 fl_X5_126 hM.1.1 hM.1.2 rfl (va_up_self _ _ _) ?_
          refine V.topi (y := nI (pevA g n (pps g n k)).2) (zf_9 _ _ _) ?_
          refine V.iload_n hF dX5_run_53 rfl ?_
          refine V.if_eq (tgt := 61) hF dX5_run_54 (by decide) (fun h54 => ?_) (fun h54 => ?_)
          · refine V.iconst (v := nI 0) hF dX5_run_61 (by decide) ?_
            refine V.iadd hF dX5_run_62 ?_
            refine V.topi (y := nI (pevA g n (pps g n k)).2) (nI_add _ 0) ?_
            refine V.putIU hF dX5_run_63 fl_X5_126 hM.1.1 hM.1.2 rfl rfl rfl ?_
            refine V.eqI (congrArg (va_up I o) (zf_u9 _ _ _ _)) ?_
            refine V.goto (tgt := 14) hF dX5_run_66 (by decide) ?_
            refine V.iload_n hF dX5_run_14 rfl ?_
            refine V.if_eq (tgt := 69) hF dX5_run_15 (by decide) (fun h15 => ?_) (fun h15 => ?_)
            · refine V.aload_n hF dX5_run_69 rfl ?_
              refine V.dup hF dX5_run_70 rfl ?_
              refine V.getIF hF dX5_run_71 fl_X5_132 hM.1.1 hM.1.2 rfl (va_up_self _ _ _) ?_
              refine V.topi (y := nI 1) (zf_10 _ _ _) ?_
              refine V.aload_n hF dX5_run_74 rfl ?_
              refine V.getIF hF dX5_run_75 fl_X5_126 hM.1.1 hM.1.2 rfl (va_up_self _ _ _) ?_
              refine V.topi (y := nI (pevA g n (pps g n k)).2) (zf_9 _ _ _) ?_
              refine V.aload_n hF dX5_run_78 rfl ?_
              refine V.getIF hF dX5_run_79 fl_X5_123 hM.1.1 hM.1.2 rfl (va_up_self _ _ _) ?_
              refine V.topi (y := nI n) ((zf_o _ _ _ (by decide) (by decide)).trans h6) ?_
              refine V.icmp_ge (tgt := 89) hF dX5_run_82 (by decide) (fun h82 => ?_) (fun h82 => ?_)
              · have hnq := nI_ge' h82 (by omega) (by omega)
                have hpk : pok g n = false := by rw [pok_of hK, hok1]; rfl
                refine V.iconst (v := nI 0) hF dX5_run_89 (by decide) ?_
                refine V.ior hF dX5_run_90 ?_
                refine V.topi (y := nI 1) (by decide) ?_
                refine V.putIU hF dX5_run_91 fl_X5_132 hM.1.1 hM.1.2 rfl rfl rfl ?_
                refine V.eqI (congrArg (va_up I o) (zf_u10 _ _ _ _)) ?_
                refine V.aload_n hF dX5_run_94 rfl ?_
                refine V.iconst (v := nI 0) hF dX5_run_95 (by decide) ?_
                refine V.putIU hF dX5_run_96 fl_X5_123 hM.1.1 hM.1.2 rfl rfl rfl ?_
                refine V.aload_n hF dX5_run_99 rfl ?_
                refine V.getIF hF dX5_run_100 fl_X5_132 hM.1.1 hM.1.2 rfl (va_up_self _ _ _) ?_
                refine V.topi (y := nI 1) (by rw [upd_at, if_neg (by omega)]; exact zf_10 _ _ _) ?_
                refine V.if_eq (tgt := 120) hF dX5_run_103 (by decide) (fun h103 => ?_) (fun h103 => ?_)
                · exact absurd h103 (by decide)
                · refine V.aload_n hF dX5_run_106 rfl ?_
                  refine V.aload_n hF dX5_run_107 rfl ?_
                  refine V.getIF hF dX5_run_108 fl_X5_126 hM.1.1 hM.1.2 rfl (va_up_self _ _ _) ?_
                  refine V.topi (y := nI (pevA g n (pps g n k)).2) (by rw [upd_at, if_neg (by omega)]; exact zf_9 _ _ _) ?_
                  refine V.putIU hF dX5_run_111 fl_X5_22 hM.1.1 hM.1.2 rfl rfl rfl ?_
                  refine V.aload_n hF dX5_run_114 rfl ?_
                  refine V.iconst (v := nI 1) hF dX5_run_115 (by decide) ?_
                  refine V.vI hF dX5_run_116 (ct_X5_no hst _ _ _ _ _ hM _ (va_up_self _ _ _) _) lk_X5_59 sl_X5_no hM.1.1 hM.1.2 rfl (Nat.le_of_ble_eq_true rfl) (fit_of rfl) (Nat.le_of_ble_eq_true rfl) rfl ?_
                  refine V.collI ?_
                  refine V.iret hF dX5_run_119 (Nat.le_refl _) (Nat.le_refl _) ?_
                  exact run_bad hX hM.d3 (hM.ne 1 11 (by decide) (by decide) (by decide)) (hM.ne 1 12 (by decide) (by decide) (by decide)) (hM.ne 1 13 (by decide) (by decide) (by decide)) hK rfl hpk
              · have hnq := nI_nge h82 (by omega) (by omega)
                have hpk : pok g n = false := by rw [pok_of hK, hok1]; rfl
                refine V.iconst (v := nI 1) hF dX5_run_85 (by decide) ?_
                refine V.goto (tgt := 90) hF dX5_run_86 (by decide) ?_
                refine V.ior hF dX5_run_90 ?_
                refine V.topi (y := nI 1) (by decide) ?_
                refine V.putIU hF dX5_run_91 fl_X5_132 hM.1.1 hM.1.2 rfl rfl rfl ?_
                refine V.eqI (congrArg (va_up I o) (zf_u10 _ _ _ _)) ?_
                refine V.aload_n hF dX5_run_94 rfl ?_
                refine V.iconst (v := nI 0) hF dX5_run_95 (by decide) ?_
                refine V.putIU hF dX5_run_96 fl_X5_123 hM.1.1 hM.1.2 rfl rfl rfl ?_
                refine V.aload_n hF dX5_run_99 rfl ?_
                refine V.getIF hF dX5_run_100 fl_X5_132 hM.1.1 hM.1.2 rfl (va_up_self _ _ _) ?_
                refine V.topi (y := nI 1) (by rw [upd_at, if_neg (by omega)]; exact zf_10 _ _ _) ?_
                refine V.if_eq (tgt := 120) hF dX5_run_103 (by decide) (fun h103 => ?_) (fun h103 => ?_)
                · exact absurd h103 (by decide)
                · refine V.aload_n hF dX5_run_106 rfl ?_
                  refine V.aload_n hF dX5_run_107 rfl ?_
                  refine V.getIF hF dX5_run_108 fl_X5_126 hM.1.1 hM.1.2 rfl (va_up_self _ _ _) ?_
                  refine V.topi (y := nI (pevA g n (pps g n k)).2) (by rw [upd_at, if_neg (by omega)]; exact zf_9 _ _ _) ?_
                  refine V.putIU hF dX5_run_111 fl_X5_22 hM.1.1 hM.1.2 rfl rfl rfl ?_
                  refine V.aload_n hF dX5_run_114 rfl ?_
                  refine V.iconst (v := nI 1) hF dX5_run_115 (by decide) ?_
                  refine V.vI hF dX5_run_116 (ct_X5_no hst _ _ _ _ _ hM _ (va_up_self _ _ _) _) lk_X5_59 sl_X5_no hM.1.1 hM.1.2 rfl (Nat.le_of_ble_eq_true rfl) (fit_of rfl) (Nat.le_of_ble_eq_true rfl) rfl ?_
                  refine V.collI ?_
                  refine V.iret hF dX5_run_119 (Nat.le_refl _) (Nat.le_refl _) ?_
                  exact run_bad hX hM.d3 (hM.ne 1 11 (by decide) (by decide) (by decide)) (hM.ne 1 12 (by decide) (by decide) (by decide)) (hM.ne 1 13 (by decide) (by decide) (by decide)) hK rfl hpk
            · exact (h15 (by decide)).elim
          · exact (h54 (by decide)).elim
        · have hok1 := bN_1 h30
          refine V.aload_n hF dX5_run_33 rfl ?_
          refine V.vI hF dX5_run_34 (ct_X5_here hst _ _ _ _ _ hM _ (va_up_self _ _ _) _ (N3_o (hM.ne 5 11 (by decide) (by decide) (by decide)) (hM.ne 5 12 (by decide) (by decide) (by decide)) (hM.ne 5 13 (by decide) (by decide) (by decide)) hg) _ _ ((zf_o _ _ _ (by decide) (by decide)).trans h6) (zf_9 _ _ _) hn (by omega)) lk_X5_129 sl_X5_here hM.1.1 hM.1.2 rfl (Nat.le_of_ble_eq_true rfl) (fit_of rfl) (Nat.le_of_ble_eq_true rfl) rfl ?_
          refine V.bipush (v := nI 59) hF dX5_run_37 (by decide) ?_
          refine V.icmp_ne (tgt := 46) hF dX5_run_39 (by decide) (fun h39 => ?_) (fun h39 => ?_)
          · have hK := pK_of hn ha (by rw [pgo, hok1, decide_eq_false h39]; rfl)
            refine V.eqI (I' := va_up I o (zf f (pevA g n (pps g n k)).2 0)) (by rw [hok1]; rfl) ?_
            refine V.iconst (v := nI 0) hF dX5_run_46 (by decide) ?_
            refine V.istore_n hF dX5_run_47 (by decide) ?_
            refine V.aload_n hF dX5_run_48 rfl ?_
            refine V.dup hF dX5_run_49 rfl ?_
            refine V.getIF hF dX5_run_50 fl_X5_126 hM.1.1 hM.1.2 rfl (va_up_self _ _ _) ?_
            refine V.topi (y := nI (pevA g n (pps g n k)).2) (zf_9 _ _ _) ?_
            refine V.iload_n hF dX5_run_53 rfl ?_
            refine V.if_eq (tgt := 61) hF dX5_run_54 (by decide) (fun h54 => ?_) (fun h54 => ?_)
            · refine V.iconst (v := nI 0) hF dX5_run_61 (by decide) ?_
              refine V.iadd hF dX5_run_62 ?_
              refine V.topi (y := nI (pevA g n (pps g n k)).2) (nI_add _ 0) ?_
              refine V.putIU hF dX5_run_63 fl_X5_126 hM.1.1 hM.1.2 rfl rfl rfl ?_
              refine V.eqI (congrArg (va_up I o) (zf_u9 _ _ _ _)) ?_
              refine V.goto (tgt := 14) hF dX5_run_66 (by decide) ?_
              refine V.iload_n hF dX5_run_14 rfl ?_
              refine V.if_eq (tgt := 69) hF dX5_run_15 (by decide) (fun h15 => ?_) (fun h15 => ?_)
              · refine V.aload_n hF dX5_run_69 rfl ?_
                refine V.dup hF dX5_run_70 rfl ?_
                refine V.getIF hF dX5_run_71 fl_X5_132 hM.1.1 hM.1.2 rfl (va_up_self _ _ _) ?_
                refine V.topi (y := nI 0) (zf_10 _ _ _) ?_
                refine V.aload_n hF dX5_run_74 rfl ?_
                refine V.getIF hF dX5_run_75 fl_X5_126 hM.1.1 hM.1.2 rfl (va_up_self _ _ _) ?_
                refine V.topi (y := nI (pevA g n (pps g n k)).2) (zf_9 _ _ _) ?_
                refine V.aload_n hF dX5_run_78 rfl ?_
                refine V.getIF hF dX5_run_79 fl_X5_123 hM.1.1 hM.1.2 rfl (va_up_self _ _ _) ?_
                refine V.topi (y := nI n) ((zf_o _ _ _ (by decide) (by decide)).trans h6) ?_
                refine V.icmp_ge (tgt := 89) hF dX5_run_82 (by decide) (fun h82 => ?_) (fun h82 => ?_)
                · have hnq := nI_ge' h82 (by omega) (by omega)
                  have hpk : pok g n = true := by rw [pok_of hK, hok1, decide_eq_true hnq]; rfl
                  refine V.iconst (v := nI 0) hF dX5_run_89 (by decide) ?_
                  refine V.ior hF dX5_run_90 ?_
                  refine V.topi (y := nI 0) (by decide) ?_
                  refine V.putIU hF dX5_run_91 fl_X5_132 hM.1.1 hM.1.2 rfl rfl rfl ?_
                  refine V.eqI (congrArg (va_up I o) (zf_u10 _ _ _ _)) ?_
                  refine V.aload_n hF dX5_run_94 rfl ?_
                  refine V.iconst (v := nI 0) hF dX5_run_95 (by decide) ?_
                  refine V.putIU hF dX5_run_96 fl_X5_123 hM.1.1 hM.1.2 rfl rfl rfl ?_
                  refine V.aload_n hF dX5_run_99 rfl ?_
                  refine V.getIF hF dX5_run_100 fl_X5_132 hM.1.1 hM.1.2 rfl (va_up_self _ _ _) ?_
                  refine V.topi (y := nI 0) (by rw [upd_at, if_neg (by omega)]; exact zf_10 _ _ _) ?_
                  refine V.if_eq (tgt := 120) hF dX5_run_103 (by decide) (fun h103 => ?_) (fun h103 => ?_)
                  · refine V.aload_n hF dX5_run_120 rfl ?_
                    refine V.getR hF dX5_run_121 fl_X5_9 hM.1.1 hM.1.2 rfl hM.m1.1 ?_
                    refine V.aload_n hF dX5_run_124 rfl ?_
                    refine V.getR hF dX5_run_125 fl_X5_16 hM.1.1 hM.1.2 rfl hM.m3.1 ?_
                    refine V.sV hF dX5_run_128 (ct_X5_copies hst _ _ _ _ _ hM.m1.2.1 hM.m1.2.2.1 hM.m1.2.2.2 hM.m3.2.1 hM.m3.2.2.1 hM.m3.2.2.2 (hM.ne 1 3 (by decide) (by decide) (by decide)) _ _ (N3_o (hM.ne 1 11 (by decide) (by decide) (by decide)) (hM.ne 1 12 (by decide) (by decide) (by decide)) (hM.ne 1 13 (by decide) (by decide) (by decide)) hX) (N3_o (hM.ne 3 11 (by decide) (by decide) (by decide)) (hM.ne 3 12 (by decide) (by decide) (by decide)) (hM.ne 3 13 (by decide) (by decide) (by decide)) htr)) lk_X5_167 (fit_of rfl) (Nat.le_of_ble_eq_true rfl) rfl ?_
                    refine V.iconst (v := nI 0) hF dX5_run_131 (by decide) ?_
                    refine V.istore_n hF dX5_run_132 (by decide) ?_
                    have L133 : ∀ (n133 : Nat) (e : Nat) (r w : Rw), k + 1 - e < n133 → e ≤ k + 1 → (∀ j, j < e → zrT g n v j = nI 0) → zrL g n v e = w → (∀ j, j ≠ 0 → r j = upd (zf f (pevA g n (pps g n k)).2 0) 6 (nI 0) j) → V pp l ee (Rm 6 0 0) ss mm args below meth kc D cy A (QM below args ss D cy A (RunP σ I X o ar f v tr g n) noX 0 0) 4 0 0 σ (va_up I o r) (va_up (va_up (N3 X (ar 11) (ar 12) (ar 13) k1 k2 k3) (ar 3) (ycy v tr 4486)) (ar 1) w) 133 [(0, .ref o), (1, .int (nI (k + 1))), (3, .int (nI e))] [] := by
                      intro n133
                      induction n133 with
                      | zero => intro e r w hlt133; exact absurd hlt133 (Nat.not_lt_zero _)
                      | succ n133 ih133 =>
                        intro e r w hlt133 hek hT hwe hr
                        have hw := hok e (by omega) hT
                        rw [hwe] at hw
                        refine V.iload_n hF dX5_run_133 rfl ?_
                        refine V.iload_n hF dX5_run_134 rfl ?_
                        refine V.icmp_ge (tgt := 176) hF dX5_run_135 (by decide) (fun h135 => ?_) (fun h135 => ?_)
                        · have he6 : e = k + 1 := by have := nI_ge' h135 (by omega) (by omega); omega
                          subst he6
                          refine V.aload_n hF dX5_run_176 rfl ?_
                          refine V.iconst (v := nI 0) hF dX5_run_177 (by decide) ?_
                          refine V.putIU hF dX5_run_178 fl_X5_38 hM.1.1 hM.1.2 rfl rfl rfl ?_
                          refine V.iload_n hF dX5_run_181 rfl ?_
                          refine V.iret hF dX5_run_182 (Nat.le_refl _) (Nat.le_refl _) ?_
                          have hG : zrG g n v = true := by
                            have e1 := zfst_no (f := fun k => !decide (zrT g n v k = nI 0)) (n := k + 1) (fun j hj => by rw [decide_eq_true (hT j hj)]; rfl)
                            rw [zrG, hK, e1]; exact decide_eq_true rfl
                          exact run_end (w0 := v) (k := 0) hpk hr (fun a a1 a3 b1 b2 b3 => (va_up_ne _ _ a1).trans ((va_up_ne _ _ a3).trans (N3_o b1 b2 b3 rfl))) (by rw [hG, hK]; rfl) (by rw [hG]; rfl) ⟨v, by rw [hG, hK, if_pos rfl, hwe]; exact va_up_self _ _ _⟩
                        · have he6 : e < k + 1 := nI_nge h135 (by omega) (by omega)
                          have hs2 := hevs.step hev hok1
                          have hee := hs2 e he6
                          have hoke : (pevA g n (pps g n e)).1 = true := by
                            rcases Nat.lt_or_ge e k with q | q
                            · have := ha e q; simp only [pgo, Bool.and_eq_true] at this; exact this.1
                            · rw [show e = k by omega]; exact hok1
                          have hk6p : pk6 (pkd g n e) := pev_k6 hoke
                          have hk6 : pk6 (k1 e) := by rw [hee.1]; exact hk6p
                          have hz := zd_tk (v := w) hk6p hee.2
                          rw [← hee.1] at hz
                          have hTe : (zdT w (k1 e) (k2 e) (k3 e)) = zrT g n v e := by rw [hz.1, zrT, hwe, hee.1]
                          have hw1 : zrL g n v (e + 1) = zdV w (k1 e) (k2 e) (k3 e) := by rw [hz.2, zrL, hwe, hee.1]
                          refine V.aload_n hF dX5_run_138 rfl ?_
                          refine V.iload_n hF dX5_run_139 rfl ?_
                          refine V.vV hF dX5_run_140 (ct_X5_does hst _ _ _ _ _ hM r (va_up_self _ _ _) w (va_up_self _ _ _) hw.1 hw.2 k1 k2 k3 ((va_up_ne _ _ (hM.ne 11 1 (by decide) (by decide) (by decide))).trans ((va_up_ne _ _ (hM.ne 11 3 (by decide) (by decide) (by decide))).trans (N3_a hM.d3))) ((va_up_ne _ _ (hM.ne 12 1 (by decide) (by decide) (by decide))).trans ((va_up_ne _ _ (hM.ne 12 3 (by decide) (by decide) (by decide))).trans (N3_b hM.d3))) ((va_up_ne _ _ (hM.ne 13 1 (by decide) (by decide) (by decide))).trans ((va_up_ne _ _ (hM.ne 13 3 (by decide) (by decide) (by decide))).trans N3_c)) e (by omega) _ _ rfl rfl hk6) lk_X5_171 sl_X5_does hM.1.1 hM.1.2 rfl (Nat.le_of_ble_eq_true rfl) (fit_of rfl) (Nat.le_of_ble_eq_true rfl) rfl ?_
                          refine V.collI ?_
                          refine V.collX ?_
                          refine V.aload_n hF dX5_run_143 rfl ?_
                          refine V.getIF hF dX5_run_144 fl_X5_38 hM.1.1 hM.1.2 rfl (va_up_self _ _ _) ?_
                          refine V.topi (y := (zdT w (k1 e) (k2 e) (k3 e))) (th_0 _ _) ?_
                          refine V.if_ne (tgt := 153) hF dX5_run_147 (by decide) (fun h147 => ?_) (fun h147 => ?_)
                          · have hT0 : ¬ zrT g n v e = nI 0 := by rw [← hTe]; exact h147
                            have hG : zrG g n v = false := by
                              have e1 := zfst_at (f := fun k => !decide (zrT g n v k = nI 0)) (n := pK g n + 1) (i := e) (fun j hj => by rw [decide_eq_true (hT j hj)]; rfl) (by rw [decide_eq_false hT0]; rfl) (by omega)
                              rw [zrG, e1]; exact decide_eq_false (by omega)
                            refine V.aload_n hF dX5_run_153 rfl ?_
                            refine V.getR hF dX5_run_154 fl_X5_16 hM.1.1 hM.1.2 rfl hM.m3.1 ?_
                            refine V.aload_n hF dX5_run_157 rfl ?_
                            refine V.getR hF dX5_run_158 fl_X5_9 hM.1.1 hM.1.2 rfl hM.m1.1 ?_
                            refine V.sV hF dX5_run_161 (ct_X5_copies hst _ _ _ _ _ hM.m3.2.1 hM.m3.2.2.1 hM.m3.2.2.2 hM.m1.2.1 hM.m1.2.2.1 hM.m1.2.2.2 (hM.ne 3 1 (by decide) (by decide) (by decide)) _ _ ((va_up_ne _ _ (hM.ne 3 1 (by decide) (by decide) (by decide))).trans (va_up_self _ _ _)) (va_up_self _ _ _)) lk_X5_167 (fit_of rfl) (Nat.le_of_ble_eq_true rfl) rfl ?_
                            refine V.collX ?_
                            refine V.aload_n hF dX5_run_164 rfl ?_
                            refine V.iconst (v := nI 2) hF dX5_run_165 (by decide) ?_
                            refine V.vI hF dX5_run_166 (ct_X5_no hst _ _ _ _ _ hM _ (va_up_self _ _ _) _) lk_X5_59 sl_X5_no hM.1.1 hM.1.2 rfl (Nat.le_of_ble_eq_true rfl) (fit_of rfl) (Nat.le_of_ble_eq_true rfl) rfl ?_
                            refine V.collI ?_
                            refine V.iret hF dX5_run_169 (Nat.le_refl _) (Nat.le_refl _) ?_
                            exact run_end (w0 := v) (k := 0) hpk (fun j hj => (th_n hj).trans (hr j hj)) (fun a a1 a3 b1 b2 b3 => (va_up_ne _ _ a1).trans ((va_up_ne _ _ a3).trans (N3_o b1 b2 b3 rfl))) (by rw [hG]; rfl) (by rw [hG]; rfl) ⟨_, by rw [hG]; exact va_up_self _ _ _⟩
                          · have hT0 : zrT g n v e = nI 0 := by rw [← hTe]; exact h147
                            refine V.goto (tgt := 170) hF dX5_run_150 (by decide) ?_
                            refine V.iinc (v := nI (e + 1)) hF dX5_run_170 rfl (by exact nI_1 _) (by decide) ?_
                            refine V.goto (tgt := 133) hF dX5_run_173 (by decide) ?_
                            refine V.relv [0, 1, 3] rfl ?_
                            exact ih133 (e + 1) _ _ (by omega) (by omega) (lt_sP hT hT0) hw1 (fun j hj => (th_n hj).trans (hr j hj))
                    refine V.relv [0, 1, 3] rfl ?_
                    refine V.etaX (ar 1) (f := v) ((va_up_ne _ _ (hM.ne 1 3 (by decide) (by decide) (by decide))).trans (N3_o (hM.ne 1 11 (by decide) (by decide) (by decide)) (hM.ne 1 12 (by decide) (by decide) (by decide)) (hM.ne 1 13 (by decide) (by decide) (by decide)) hX)) ?_
                    exact L133 _ 0 _ _ (Nat.lt_succ_self _) (by omega) (fun j h => absurd h (Nat.not_lt_zero _)) rfl (fun _ _ => rfl)
                  · exact (h103 (by decide)).elim
                · have hnq := nI_nge h82 (by omega) (by omega)
                  have hpk : pok g n = false := by rw [pok_of hK, hok1, decide_eq_false (by omega)]; rfl
                  refine V.iconst (v := nI 1) hF dX5_run_85 (by decide) ?_
                  refine V.goto (tgt := 90) hF dX5_run_86 (by decide) ?_
                  refine V.ior hF dX5_run_90 ?_
                  refine V.topi (y := nI 1) (by decide) ?_
                  refine V.putIU hF dX5_run_91 fl_X5_132 hM.1.1 hM.1.2 rfl rfl rfl ?_
                  refine V.eqI (congrArg (va_up I o) (zf_u10 _ _ _ _)) ?_
                  refine V.aload_n hF dX5_run_94 rfl ?_
                  refine V.iconst (v := nI 0) hF dX5_run_95 (by decide) ?_
                  refine V.putIU hF dX5_run_96 fl_X5_123 hM.1.1 hM.1.2 rfl rfl rfl ?_
                  refine V.aload_n hF dX5_run_99 rfl ?_
                  refine V.getIF hF dX5_run_100 fl_X5_132 hM.1.1 hM.1.2 rfl (va_up_self _ _ _) ?_
                  refine V.topi (y := nI 1) (by rw [upd_at, if_neg (by omega)]; exact zf_10 _ _ _) ?_
                  refine V.if_eq (tgt := 120) hF dX5_run_103 (by decide) (fun h103 => ?_) (fun h103 => ?_)
                  · exact absurd h103 (by decide)
                  · refine V.aload_n hF dX5_run_106 rfl ?_
                    refine V.aload_n hF dX5_run_107 rfl ?_
                    refine V.getIF hF dX5_run_108 fl_X5_126 hM.1.1 hM.1.2 rfl (va_up_self _ _ _) ?_
                    refine V.topi (y := nI (pevA g n (pps g n k)).2) (by rw [upd_at, if_neg (by omega)]; exact zf_9 _ _ _) ?_
                    refine V.putIU hF dX5_run_111 fl_X5_22 hM.1.1 hM.1.2 rfl rfl rfl ?_
                    refine V.aload_n hF dX5_run_114 rfl ?_
                    refine V.iconst (v := nI 1) hF dX5_run_115 (by decide) ?_
                    refine V.vI hF dX5_run_116 (ct_X5_no hst _ _ _ _ _ hM _ (va_up_self _ _ _) _) lk_X5_59 sl_X5_no hM.1.1 hM.1.2 rfl (Nat.le_of_ble_eq_true rfl) (fit_of rfl) (Nat.le_of_ble_eq_true rfl) rfl ?_
                    refine V.collI ?_
                    refine V.iret hF dX5_run_119 (Nat.le_refl _) (Nat.le_refl _) ?_
                    exact run_bad hX hM.d3 (hM.ne 1 11 (by decide) (by decide) (by decide)) (hM.ne 1 12 (by decide) (by decide) (by decide)) (hM.ne 1 13 (by decide) (by decide) (by decide)) hK rfl hpk
              · exact (h15 (by decide)).elim
            · exact (h54 (by decide)).elim
          · refine V.eqI (I' := va_up I o (zf f (pevA g n (pps g n k)).2 0)) (by rw [hok1]; rfl) ?_
            refine V.iconst (v := nI 1) hF dX5_run_42 (by decide) ?_
            refine V.goto (tgt := 47) hF dX5_run_43 (by decide) ?_
            refine V.istore_n hF dX5_run_47 (by decide) ?_
            refine V.aload_n hF dX5_run_48 rfl ?_
            refine V.dup hF dX5_run_49 rfl ?_
            refine V.getIF hF dX5_run_50 fl_X5_126 hM.1.1 hM.1.2 rfl (va_up_self _ _ _) ?_
            refine V.topi (y := nI (pevA g n (pps g n k)).2) (zf_9 _ _ _) ?_
            refine V.iload_n hF dX5_run_53 rfl ?_
            refine V.if_eq (tgt := 61) hF dX5_run_54 (by decide) (fun h54 => ?_) (fun h54 => ?_)
            · exact absurd h54 (by decide)
            · refine V.iconst (v := nI 1) hF dX5_run_57 (by decide) ?_
              refine V.goto (tgt := 62) hF dX5_run_58 (by decide) ?_
              refine V.iadd hF dX5_run_62 ?_
              refine V.topi (y := nI ((pevA g n (pps g n k)).2 + 1)) (nI_add _ _) ?_
              refine V.putIU hF dX5_run_63 fl_X5_126 hM.1.1 hM.1.2 rfl rfl rfl ?_
              refine V.eqI (congrArg (va_up I o) (zf_u9 _ _ _ _)) ?_
              refine V.goto (tgt := 14) hF dX5_run_66 (by decide) ?_
              refine V.relv [0, 1, 2] rfl ?_
              refine V.eqI (I' := va_up I o (zf f (pps g n (k + 1)) 0)) rfl ?_
              exact ih14 (k + 1) _ _ _ (by omega) (lt_st ha (by rw [pgo, hok1, decide_eq_true h39]; rfl)) (hevs.step hev hok1)
  refine V.relv [0, 1, 2] rfl ?_
  exact L14 _ 0 _ _ _ (Nat.lt_succ_self _) (fun j h => absurd h (Nat.not_lt_zero _)) (fun j h => absurd h (Nat.not_lt_zero _))
end MD
