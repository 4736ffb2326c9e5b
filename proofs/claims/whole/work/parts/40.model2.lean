/-! the rest of the reference -/
theorem ycy_0 (g h : Nat → Int32) : ycy g h 0 = h := by funext j; simp [va_cpy]
theorem ycy_s (g h : Nat → Int32) (k : Nat) : upd (ycy g h k) k (g k) = ycy g h (k + 1) := by
  funext j
  simp only [upd_at, va_cpy]
  by_cases e : j = k
  · subst e; rw [if_pos rfl, if_pos (by omega)]; congr 1; omega
  · rw [if_neg e]
    by_cases h2 : j < k
    · rw [if_pos (by omega), if_pos (by omega)]
    · rw [if_neg (by omega), if_neg (by omega)]
theorem zchO_f {v : Rw} {x b : Int32} {g0 g : Rw} {m : Nat} (e : zchO v x g0 m = (g, b)) (h : ¬ v (350 + m) = x) : zchO v x g0 (m + 1) = (g, b) := by rw [zchO, if_neg h, e]
theorem zchO_t1 {v : Rw} {x b : Int32} {g0 g h : Rw} {m : Nat} (e : zchO v x g0 m = (g, b)) (hx : v (350 + m) = x) (e2 : zchI v m g m = h) (hb : h m ≤ b) : zchO v x g0 (m + 1) = (h, b) := by rw [zchO, if_pos hx, e]; dsimp only; rw [e2, if_pos hb]
theorem zchO_t2 {v : Rw} {x b : Int32} {g0 g h : Rw} {m : Nat} (e : zchO v x g0 m = (g, b)) (hx : v (350 + m) = x) (e2 : zchI v m g m = h) (hb : ¬ h m ≤ b) : zchO v x g0 (m + 1) = (h, h m) := by rw [zchO, if_pos hx, e]; dsimp only; rw [e2, if_neg hb]
theorem zdgO_e {v : Rw} {p q k j c : Nat} (hc : c = zdgO v p q k + zcB (zdgF v p q k) j) (ha : zdga v p q k < 0 → j = 0) (h : j = k ∨ zdga v p q k < 0) : c = zdgO v p q (k + 1) := by
  rw [zdgO, hc]
  by_cases hn : zdga v p q k < 0
  · rw [if_pos hn, ha hn]; rfl
  · rw [if_neg hn]
    rcases h with h | h
    · rw [h]
    · exact absurd h hn
theorem ov_nn : ∀ n, n < 151 → ∀ L, L < 151 → 0 < L → vf_n64 (FP.ddiv (FP.i2d (nI n)) (FP.i2d (nI L))) := by
  unfold vf_n64
  decide +kernel
/-! the reader's row: at, isFaulty -/
def zf (f : Rw) (a b : Nat) : Rw := upd (upd f 9 (nI a)) 10 (nI b)
theorem zf_9 (f : Rw) (a b : Nat) : zf f a b 9 = nI a := by rw [zf, upd_at, if_neg (by omega), upd_at, if_pos rfl]
theorem zf_10 (f : Rw) (a b : Nat) : zf f a b 10 = nI b := by rw [zf, upd_at, if_pos rfl]
theorem zf_o (f : Rw) (a b : Nat) {k : Nat} (h1 : k ≠ 9) (h2 : k ≠ 10) : zf f a b k = f k := by rw [zf, upd_at, if_neg h2, upd_at, if_neg h1]
theorem zf_u9 (f : Rw) (a b a' : Nat) : upd (zf f a b) 9 (nI a') = zf f a' b := by
  funext j
  simp only [zf, upd_at]
  by_cases h1 : j = 9
  · subst h1; simp
  · by_cases h2 : j = 10
    · subst h2; simp
    · simp [h1, h2]
theorem zf_u10 (f : Rw) (a b b' : Nat) : upd (zf f a b) 10 (nI b') = zf f a b' := by
  funext j
  simp only [zf, upd_at]
  by_cases h2 : j = 10
  · subst h2; simp
  · simp [h2]
def bN (b : Bool) : Nat := if b then 1 else 0
theorem zf_t {f : Rw} {a : Nat} {b : Bool} (h : b = true) : zf f (a + bN b) (bN (!b)) = zf f (a + 1) 0 := by subst h; rfl
theorem zf_f {f : Rw} {a : Nat} {b : Bool} (h : b = false) : zf f (a + bN b) (bN (!b)) = zf f a 1 := by subst h; rfl
theorem bN_0 {b : Bool} (h : ¬ nI (bN (!b)) = 0) : b = false := by cases b with
  | false => rfl
  | true => exact absurd (by decide : nI (bN (!true)) = 0) h
theorem bN_1 {b : Bool} (h : nI (bN (!b)) = 0) : b = true := by cases b with
  | true => rfl
  | false => exact absurd h (by decide)
/-! texts -/
def phe (g : Rw) (n a : Nat) : Int32 := if a < n then g a else -1
def pdg (g : Rw) (n a : Nat) : Bool := zisIn (phe g n a) (nI 48) (nI 57)
def ppr (g : Rw) (n a : Nat) : Bool := zisIn (phe g n a - nI 48) (nI 0) (nI 5)
def pcn (g : Rw) (n a : Nat) : Nat := if pdg g n a then (if pdg g n (a + 1) then (if pdg g n (a + 2) then 3 else 2) else 1) else 0
def pd (g : Rw) (n a : Nat) : Int32 := phe g n a - nI 48
def pnm (g : Rw) (n a : Nat) : Nat → Int32
  | 0 => nI 0
  | 1 => pd g n a
  | k + 2 => nI 10 * pnm g n a (k + 1) + pd g n (a + (k + 1))
def pnum (g : Rw) (n a : Nat) : Int32 := pnm g n a (pcn g n a)
def psg (c : Int32) : Int32 := if c = nI 98 then nI 61 else nI 44
def pneg (g : Rw) (n a : Nat) (c : Int32) : Bool := decide (c = nI 98) && decide (phe g n a = nI 45)
def pku (c : Int32) : Bool := decide (c = nI 98) || decide (c = nI 97) || decide (c = nI 103) || decide (c = nI 106) || decide (c = nI 108)
/-- an event that begins at a: is it one, and where does it end (or where is the fault) -/
def pevA (g : Rw) (n a : Nat) : Bool × Nat :=
  if phe g n a = nI 105 then (true, a + 1)
  else if pku (phe g n a) then
    if ppr g n (a + 1) then
      if phe g n a = nI 106 ∨ phe g n a = nI 108 then (true, a + 2)
      else if phe g n (a + 2) = psg (phe g n a) then
        if phe g n a = nI 103 then (if ppr g n (a + 3) then (true, a + 4) else (false, a + 3))
        else if pdg g n (a + 3 + bN (pneg g n (a + 3) (phe g n a))) then (true, a + 3 + bN (pneg g n (a + 3) (phe g n a)) + pcn g n (a + 3 + bN (pneg g n (a + 3) (phe g n a))))
          else (false, a + 3 + bN (pneg g n (a + 3) (phe g n a)))
      else (false, a + 2)
    else (false, a + 1)
  else (false, a)
def pevS (g : Rw) (n a : Nat) : Int32 := if phe g n a = nI 103 then pd g n (a + 3) else if pneg g n (a + 3) (phe g n a) then -(pnum g n (a + 4)) else pnum g n (a + 3)
theorem pdg_9 (x : Int32) : zisIn (x - nI 48) (nI 0) (nI 9) = zisIn x (nI 48) (nI 57) := by
  have e : x = (x - nI 48) + nI 48 := by simp
  generalize x - nI 48 = y at e
  subst e
  simp only [zisIn]
  have e0 : (nI 0).toInt = 0 := by decide
  have e9 : (nI 9).toInt = 9 := by decide
  have e48 : (nI 48).toInt = 48 := by decide
  have e57 : (nI 57).toInt = 57 := by decide
  have h : (y + nI 48).toInt = (y.toInt + 48).bmod (2 ^ 32) := by rw [Int32.toInt_add, e48]
  have hy1 := Int32.le_toInt y
  have hy2 := Int32.toInt_lt y
  rw [Bool.eq_iff_iff]
  simp only [Bool.and_eq_true, decide_eq_true_eq, Int32.le_iff_toInt_le, e0, e9, e48, e57, h]
  rw [Int.bmod_def]
  constructor <;> intro ⟨h1, h2⟩ <;> (split at * <;> omega)
/-! three rows -/
def N3 (X : IX) (a b c : Nat) (f g h : Nat → Int32) : IX := va_up (va_up (va_up X a f) b g) c h
def D3 (a b c : Nat) : Prop := a ≠ b ∧ a ≠ c ∧ b ≠ c
theorem N3_a {X : IX} {a b c : Nat} {f g h : Nat → Int32} (d : D3 a b c) : N3 X a b c f g h a = f := by rw [N3, va_up_ne _ _ d.2.1, va_up_ne _ _ d.1, va_up_self]
theorem N3_b {X : IX} {a b c : Nat} {f g h : Nat → Int32} (d : D3 a b c) : N3 X a b c f g h b = g := by rw [N3, va_up_ne _ _ d.2.2, va_up_self]
theorem N3_c {X : IX} {a b c : Nat} {f g h : Nat → Int32} : N3 X a b c f g h c = h := va_up_self _ _ _
theorem N3_o {X : IX} {a b c x : Nat} {f g h r : Nat → Int32} (h1 : x ≠ a) (h2 : x ≠ b) (h3 : x ≠ c) (e : X x = r) : N3 X a b c f g h x = r := by rw [N3, va_up_ne _ _ h3, va_up_ne _ _ h2, va_up_ne _ _ h1]; exact e
theorem N3_ua {X : IX} {a b c : Nat} {f g h f' : Nat → Int32} (d : D3 a b c) : va_up (N3 X a b c f g h) a f' = N3 X a b c f' g h := by
  funext x
  simp only [N3, va_up]
  by_cases e1 : x = a
  · subst e1; rw [if_pos rfl, if_neg d.2.1, if_neg d.1, if_pos rfl]
  · rw [if_neg e1, if_neg e1, if_neg e1]
theorem N3_ub {X : IX} {a b c : Nat} {f g h g' : Nat → Int32} (d : D3 a b c) : va_up (N3 X a b c f g h) b g' = N3 X a b c f g' h := by
  funext x
  simp only [N3, va_up]
  by_cases e1 : x = b
  · subst e1; rw [if_pos rfl, if_neg d.2.2, if_pos rfl]
  · rw [if_neg e1, if_neg e1, if_neg e1]
theorem N3_uc {X : IX} {a b c : Nat} {f g h h' : Nat → Int32} : va_up (N3 X a b c f g h) c h' = N3 X a b c f g h' := by unfold N3; rw [bx_uu]
theorem N3_eta {X : IX} {a b c : Nat} (d : D3 a b c) : N3 X a b c (X a) (X b) (X c) = X := by
  funext x
  simp only [N3, va_up]
  by_cases e3 : x = c
  · subst e3; rw [if_pos rfl]
  · rw [if_neg e3]
    by_cases e2 : x = b
    · subst e2; rw [if_pos rfl]
    · rw [if_neg e2]
      by_cases e1 : x = a
      · subst e1; rw [if_pos rfl]
      · rw [if_neg e1]
section VN
variable {pp : Program} {l : Launch} {ee : Env} {R : Room} {ss : State} {mm : MethodId} {args : Array Value} {below : List Frame} {meth : Method} {kc : Code} {D : va_G} {cy sa sv : Nat → Nat} {A : Nat → Prop} {Q : State → Prop} {cc : ByteArray} {nL : Nat} {own : String} {ret : Option FieldType} {cells slots : Nat} {σ : SH} {I X : IX} {pc : Nat} {lv : List (Nat × Value)} {st : List Value} {a b c : Nat} {f g h : Nat → Int32}
theorem V.n3a (hF : Fx pp l ss mm args meth kc D cy sa sv A nL own cc ret) {j : Nat} {i x : Int32} (d : decode cc pc = .ok (.iastore, 1)) (hm : a ∈ shL σ) (hK : shK σ a = 11) (hi : i = nI j) (hj : j < shN σ a) (hN : shN σ a < 2147483648) (d3 : D3 a b c) (kk : V pp l ee R ss mm args below meth kc D cy A Q nL cells slots σ I (N3 X a b c (upd f j x) g h) (pc + 1) lv st) : V pp l ee R ss mm args below meth kc D cy A Q nL cells slots σ I (N3 X a b c f g h) pc lv (.int x :: .int i :: .ref a :: st) := V.iastore hF d hm hK hi hj hN (by rw [N3_a d3, N3_ua d3]; exact kk)
theorem V.n3ac (hF : Fx pp l ss mm args meth kc D cy sa sv A nL own cc ret) {j : Nat} {i x : Int32} (d : decode cc pc = .ok (.castore, 1)) (hm : a ∈ shL σ) (hK : shK σ a = 10) (hi : i = nI j) (hj : j < shN σ a) (hN : shN σ a < 2147483648) (hc : vp_nar .char x = x) (d3 : D3 a b c) (kk : V pp l ee R ss mm args below meth kc D cy A Q nL cells slots σ I (N3 X a b c (upd f j x) g h) (pc + 1) lv st) : V pp l ee R ss mm args below meth kc D cy A Q nL cells slots σ I (N3 X a b c f g h) pc lv (.int x :: .int i :: .ref a :: st) := V.castore hF d hm hK hi hj hN hc (by rw [N3_a d3, N3_ua d3]; exact kk)
theorem V.n3b (hF : Fx pp l ss mm args meth kc D cy sa sv A nL own cc ret) {j : Nat} {i x : Int32} (d : decode cc pc = .ok (.iastore, 1)) (hm : b ∈ shL σ) (hK : shK σ b = 11) (hi : i = nI j) (hj : j < shN σ b) (hN : shN σ b < 2147483648) (d3 : D3 a b c) (kk : V pp l ee R ss mm args below meth kc D cy A Q nL cells slots σ I (N3 X a b c f (upd g j x) h) (pc + 1) lv st) : V pp l ee R ss mm args below meth kc D cy A Q nL cells slots σ I (N3 X a b c f g h) pc lv (.int x :: .int i :: .ref b :: st) := V.iastore hF d hm hK hi hj hN (by rw [N3_b d3, N3_ub d3]; exact kk)
theorem V.n3c (hF : Fx pp l ss mm args meth kc D cy sa sv A nL own cc ret) {j : Nat} {i x : Int32} (d : decode cc pc = .ok (.iastore, 1)) (hm : c ∈ shL σ) (hK : shK σ c = 11) (hi : i = nI j) (hj : j < shN σ c) (hN : shN σ c < 2147483648) (d3 : D3 a b c) (kk : V pp l ee R ss mm args below meth kc D cy A Q nL cells slots σ I (N3 X a b c f g (upd h j x)) (pc + 1) lv st) : V pp l ee R ss mm args below meth kc D cy A Q nL cells slots σ I (N3 X a b c f g h) pc lv (.int x :: .int i :: .ref c :: st) := V.iastore hF d hm hK hi hj hN (by rw [N3_c, N3_uc]; exact kk)
end VN
theorem pR.ed {x y : UInt64} {σ : SH} {I X I' X' : IX} (h : x = y) (hI : I' = I) (hX : X' = X) : pR (some (.double y)) σ I X (some (.double x)) σ I' X' := ⟨by rw [h], rfl, hI, hX⟩
theorem MS.d3 {σ : SH} {o : Nat} {ar : Nat → Nat} (h : MS σ o ar) : D3 (ar 11) (ar 12) (ar 13) := ⟨h.ne 11 12 (by decide) (by decide) (by decide), h.ne 11 13 (by decide) (by decide) (by decide), h.ne 12 13 (by decide) (by decide) (by decide)⟩
/-! events -/
section PEV
variable {g : Rw} {n a : Nat}
theorem pev_i (h : phe g n a = nI 105) : pevA g n a = (true, a + 1) := by rw [pevA, if_pos h]
theorem pev_o (h : phe g n a ≠ nI 105) (h2 : pku (phe g n a) = false) : pevA g n a = (false, a) := by rw [pevA, if_neg h, h2]; rfl
theorem pev_1 (h : phe g n a ≠ nI 105) (h2 : pku (phe g n a) = true) (h3 : ppr g n (a + 1) = false) : pevA g n a = (false, a + 1) := by rw [pevA, if_neg h, if_pos h2, h3]; rfl
theorem pev_jl (h : phe g n a ≠ nI 105) (h2 : pku (phe g n a) = true) (h3 : ppr g n (a + 1) = true) (h4 : phe g n a = nI 106 ∨ phe g n a = nI 108) : pevA g n a = (true, a + 2) := by rw [pevA, if_neg h, if_pos h2, if_pos h3, if_pos h4]
theorem pev_2 (h : phe g n a ≠ nI 105) (h2 : pku (phe g n a) = true) (h3 : ppr g n (a + 1) = true) (h4 : ¬ (phe g n a = nI 106 ∨ phe g n a = nI 108)) (h5 : ¬ phe g n (a + 2) = psg (phe g n a)) : pevA g n a = (false, a + 2) := by rw [pevA, if_neg h, if_pos h2, if_pos h3, if_neg h4, if_neg h5]
theorem pev_g0 (h : phe g n a ≠ nI 105) (h2 : pku (phe g n a) = true) (h3 : ppr g n (a + 1) = true) (h4 : ¬ (phe g n a = nI 106 ∨ phe g n a = nI 108)) (h5 : phe g n (a + 2) = psg (phe g n a)) (h6 : phe g n a = nI 103) (h7 : ppr g n (a + 3) = false) : pevA g n a = (false, a + 3) := by rw [pevA, if_neg h, if_pos h2, if_pos h3, if_neg h4, if_pos h5, if_pos h6, h7]; rfl
theorem pev_g1 (h : phe g n a ≠ nI 105) (h2 : pku (phe g n a) = true) (h3 : ppr g n (a + 1) = true) (h4 : ¬ (phe g n a = nI 106 ∨ phe g n a = nI 108)) (h5 : phe g n (a + 2) = psg (phe g n a)) (h6 : phe g n a = nI 103) (h7 : ppr g n (a + 3) = true) : pevA g n a = (true, a + 3 + 1) := by rw [pevA, if_neg h, if_pos h2, if_pos h3, if_neg h4, if_pos h5, if_pos h6, if_pos h7]
theorem pev_n0 {b : Bool} (h : phe g n a ≠ nI 105) (h2 : pku (phe g n a) = true) (h3 : ppr g n (a + 1) = true) (h4 : ¬ (phe g n a = nI 106 ∨ phe g n a = nI 108)) (h5 : phe g n (a + 2) = psg (phe g n a)) (h6 : ¬ phe g n a = nI 103) (h7 : pneg g n (a + 3) (phe g n a) = b) (h8 : pdg g n (a + 3 + bN b) = false) : pevA g n a = (false, a + 3 + bN b) := by rw [pevA, if_neg h, if_pos h2, if_pos h3, if_neg h4, if_pos h5, if_neg h6, h7, h8]; rfl
theorem pev_n1 {b : Bool} (h : phe g n a ≠ nI 105) (h2 : pku (phe g n a) = true) (h3 : ppr g n (a + 1) = true) (h4 : ¬ (phe g n a = nI 106 ∨ phe g n a = nI 108)) (h5 : phe g n (a + 2) = psg (phe g n a)) (h6 : ¬ phe g n a = nI 103) (h7 : pneg g n (a + 3) (phe g n a) = b) (h8 : pdg g n (a + 3 + bN b) = true) : pevA g n a = (true, a + 3 + bN b + pcn g n (a + 3 + bN b)) := by rw [pevA, if_neg h, if_pos h2, if_pos h3, if_neg h4, if_pos h5, if_neg h6, h7, if_pos h8]
end PEV
def Evt (g : Rw) (n a e : Nat) (gk gf gs gk' gf' gs' : Rw) : Prop := (∀ i, i ≠ e → gk' i = gk i ∧ gf' i = gf i ∧ gs' i = gs i) ∧ ((pevA g n a).1 = true → gk' e = phe g n a ∧ (phe g n a ≠ nI 105 → gf' e = pd g n (a + 1)) ∧ ((phe g n a = nI 98 ∨ phe g n a = nI 97 ∨ phe g n a = nI 103) → gs' e = pevS g n a))
section EVT
variable {g gk gf gs : Rw} {n a e : Nat} {x y z : Int32}
theorem evt_o (h : (pevA g n a).1 = false) : Evt g n a e gk gf gs gk gf gs := ⟨fun _ _ => ⟨rfl, rfl, rfl⟩, fun q => by rw [h] at q; cases q⟩
theorem evt_o2 (h : (pevA g n a).1 = false) : Evt g n a e gk gf gs (upd gk e x) (upd gf e y) gs := ⟨fun i hi => ⟨by rw [upd_at, if_neg hi], by rw [upd_at, if_neg hi], rfl⟩, fun q => by rw [h] at q; cases q⟩
theorem evt_o3 (h : (pevA g n a).1 = false) : Evt g n a e gk gf gs (upd gk e x) (upd gf e y) (upd gs e z) := ⟨fun i hi => ⟨by rw [upd_at, if_neg hi], by rw [upd_at, if_neg hi], by rw [upd_at, if_neg hi]⟩, fun q => by rw [h] at q; cases q⟩
theorem evt_k (h1 : x = phe g n a) (h2 : phe g n a ≠ nI 105 → gf e = pd g n (a + 1)) (h3 : (phe g n a = nI 98 ∨ phe g n a = nI 97 ∨ phe g n a = nI 103) → gs e = pevS g n a) : Evt g n a e gk gf gs (upd gk e x) gf gs := ⟨fun i hi => ⟨by rw [upd_at, if_neg hi], rfl, rfl⟩, fun _ => ⟨by rw [upd_at, if_pos rfl, h1], h2, h3⟩⟩
theorem evt_kf (h1 : x = phe g n a) (h2 : y = pd g n (a + 1)) (h3 : (phe g n a = nI 98 ∨ phe g n a = nI 97 ∨ phe g n a = nI 103) → gs e = pevS g n a) : Evt g n a e gk gf gs (upd gk e x) (upd gf e y) gs := ⟨fun i hi => ⟨by rw [upd_at, if_neg hi], by rw [upd_at, if_neg hi], rfl⟩, fun _ => ⟨by rw [upd_at, if_pos rfl, h1], fun _ => by rw [upd_at, if_pos rfl, h2], h3⟩⟩
theorem evt_all (h1 : x = phe g n a) (h2 : y = pd g n (a + 1)) (h3 : z = pevS g n a) : Evt g n a e gk gf gs (upd gk e x) (upd gf e y) (upd gs e z) := ⟨fun i hi => ⟨by rw [upd_at, if_neg hi], by rw [upd_at, if_neg hi], by rw [upd_at, if_neg hi]⟩, fun _ => ⟨by rw [upd_at, if_pos rfl, h1], fun _ => by rw [upd_at, if_pos rfl, h2], fun _ => by rw [upd_at, if_pos rfl, h3]⟩⟩
theorem evL {σ : SH} {I X : IX} {o : Nat} {ar : Nat → Nat} {f r gk' gf' gs' : Rw} {b : Bool} {q : Nat} (hp : pevA g n a = (b, q)) (hr : r = zf f q (bN (!b))) (h : Evt g n a e gk gf gs gk' gf' gs') :
    (none : Option Value) = none ∧ σ = σ ∧ va_up I o r = va_up I o (zf f (pevA g n a).2 (bN (!(pevA g n a).1))) ∧ ∃ k1 k2 k3 : Rw, N3 X (ar 11) (ar 12) (ar 13) gk' gf' gs' = N3 X (ar 11) (ar 12) (ar 13) k1 k2 k3 ∧ Evt g n a e gk gf gs k1 k2 k3 := ⟨rfl, rfl, by rw [hp, hr], _, _, _, rfl, h⟩
end EVT

section MD
variable {l : Launch} {D : va_G} {cy sa sv : Nat → Nat}
set_option maxRecDepth 20000 in
theorem ct_X5_copies (hst : l.stackTraces = false) (σ : SH) (I X : IX) (a b : Nat) (hma : a ∈ shL σ) (hKa : shK σ a = 11) (hNa : shN σ a = 4486) (hmb : b ∈ shL σ) (hKb : shK σ b = 11) (hNb : shN σ b = 4486) (hab : a ≠ b) (g h : Nat → Int32) (hga : X a = g) (hhb : X b = h) : Ct l D cy sa sv yX5_copies cX5_copies 3 none 0 0 0 [.ref a, .ref b] σ I X (pR none σ I (va_up X b (ycy g h 4486))) noX := by
  refine Ct.of (by decide) hst (Nat.le_of_ble_eq_true rfl) ?_
  intro pp ee ss mm args below meth kc A hF hnm hout
  refine V.etaX b hhb ?_
  refine V.iconst (v := nI 0) hF dX5_copies_0 (by decide) ?_
  refine V.istore_n hF dX5_copies_1 (by decide) ?_
  have L2 : ∀ (n2 : Nat) (k : Nat), 4486 - k < n2 → k ≤ 4486 → V pp l ee (Rm 0 0 0) ss mm args below meth kc D cy A (QM below args ss D cy A (pR none σ I (va_up X b (ycy g h 4486))) noX 0 0) 3 0 0 σ I (va_up X b (ycy g h k)) 2 [(0, .ref a), (1, .ref b), (2, .int (nI k))] [] := by
    intro n2
    induction n2 with
    | zero => intro k hlt2; exact absurd hlt2 (Nat.not_lt_zero _)
    | succ n2 ih2 =>
      intro k hlt2 hk
      refine V.iload_n hF dX5_copies_2 rfl ?_
      refine V.sipush (v := nI 4486) hF dX5_copies_3 (by decide) ?_
      refine V.icmp_ge (tgt := 21) hF dX5_copies_6 (by decide) (fun h6 => ?_) (fun h6 => ?_)
      · have hk6 : k = 4486 := by have := nI_ge' h6 (by omega) (by omega); omega
        subst hk6
        refine V.vret hF dX5_copies_21 (Nat.le_refl _) (Nat.le_refl _) ?_
        exact pR.v
      · have hk6 : k < 4486 := nI_nge h6 (by omega) (by omega)
        refine V.aload_n hF dX5_copies_9 rfl ?_
        refine V.iload_n hF dX5_copies_10 rfl ?_
        refine V.aload_n hF dX5_copies_11 rfl ?_
        refine V.iload_n hF dX5_copies_12 rfl ?_
        refine V.ialoadF (j := k) hF dX5_copies_13 hma hKa rfl ((fun h => hNa ▸ h : _ < 4486 → _ < shN σ a) (by omega)) (by omega) ((va_up_ne _ _ hab).trans hga) ?_
        refine V.iastoreU (j := k) hF dX5_copies_14 hmb hKb rfl ((fun h => hNb ▸ h : _ < 4486 → _ < shN σ b) (by omega)) (by omega) ?_
        refine V.iinc (v := nI (k + 1)) hF dX5_copies_15 rfl (by exact nI_1 _) (by decide) ?_
        refine V.goto (tgt := 2) hF dX5_copies_18 (by decide) ?_
        refine V.relv [0, 1, 2] rfl ?_
        refine V.eqX (congrArg (va_up X b) (ycy_s g h k)) ?_
        exact ih2 (k + 1) (by omega) (by omega)
  refine V.relv [0, 1, 2] rfl ?_
  refine V.eqX (congrArg (va_up X b) (ycy_0 g h).symm) ?_
  exact L2 _ 0 (Nat.lt_succ_self _) (by omega)
set_option maxRecDepth 20000 in
theorem ct_X5_longestChain (hst : l.stackTraces = false) (σ : SH) (I X : IX) (o : Nat) (ar : Nat → Nat) (hM : MS σ o ar) (f : Rw) (hI : I o = f) (v : Rw) (hX : X (ar 1) = v) (hv : WV v) (g0 : Rw) (h8 : X (ar 8) = g0) (x : Int32) : Ct l D cy sa sv yX5_longestChain cX5_longestChain 5 (some .int) 2 0 0 [.ref o, .int x] σ I X (pR (some (.int (if zisIn x (nI 0) (v 42) then (zchO v x g0 (vN v 44)).2 else nI 0))) σ (va_up I o (th f (if zisIn x (nI 0) (v 42) then nI 0 else nI 1))) (va_up X (ar 8) (if zisIn x (nI 0) (v 42) then (zchO v x g0 (vN v 44)).1 else g0))) noX := by
  refine Ct.of (by decide) hst (Nat.le_of_ble_eq_true rfl) ?_
  intro pp ee ss mm args below meth kc A hF hnm hout
  refine V.etaI o hI ?_
  refine V.etaX (ar 8) h8 ?_
  have hn150 := hv.n150
  refine V.aload_n hF dX5_longestChain_0 rfl ?_
  refine V.iconst (v := nI 0) hF dX5_longestChain_1 (by decide) ?_
  refine V.putIU hF dX5_longestChain_2 fl_X5_38 hM.1.1 hM.1.2 rfl rfl rfl ?_
  refine V.iload_n hF dX5_longestChain_5 rfl ?_
  refine V.iconst (v := nI 0) hF dX5_longestChain_6 (by decide) ?_
  refine V.aload_n hF dX5_longestChain_7 rfl ?_
  refine V.getR hF dX5_longestChain_8 fl_X5_9 hM.1.1 hM.1.2 rfl hM.m1.1 ?_
  refine V.bipush (v := nI 42) hF dX5_longestChain_11 (by decide) ?_
  refine V.ialoadF (j := 42) hF dX5_longestChain_13 hM.m1.2.1 hM.m1.2.2.1 rfl (hM.m1.lt (lt_of rfl)) (hM.m1.sm (by decide)) ((va_up_ne _ _ (hM.ne 1 8 (by decide) (by decide) (by decide))).trans hX) ?_
  refine V.sI hF dX5_longestChain_14 (ct_X5_isIn hst _ _ _ _ _ _) lk_X5_41 (fit_of rfl) (Nat.le_of_ble_eq_true rfl) rfl ?_
  refine V.if_neB (tgt := 26) hF dX5_longestChain_17 (by decide) (fun h17 => ?_) (fun h17 => ?_)
  · refine V.iconst (v := nI 0) hF dX5_longestChain_26 (by decide) ?_
    refine V.istore_n hF dX5_longestChain_27 (by decide) ?_
    refine V.iconst (v := nI 0) hF dX5_longestChain_28 (by decide) ?_
    refine V.istore_n hF dX5_longestChain_29 (by decide) ?_
    have L30 : ∀ (n30 : Nat) (k : Nat) (g : Rw) (b : Int32), vN v 44 - k < n30 → k ≤ vN v 44 → zchO v x g0 k = (g, b) → V pp l ee (Rm 2 0 0) ss mm args below meth kc D cy A (QM below args ss D cy A (pR (some (.int (if zisIn x (nI 0) (v 42) then (zchO v x g0 (vN v 44)).2 else nI 0))) σ (va_up I o (th f (if zisIn x (nI 0) (v 42) then nI 0 else nI 1))) (va_up X (ar 8) (if zisIn x (nI 0) (v 42) then (zchO v x g0 (vN v 44)).1 else g0))) noX 0 0) 5 0 0 σ (va_up I o (upd f 0 (nI 0))) (va_up X (ar 8) g) 30 [(0, .ref o), (1, .int x), (2, .int b), (3, .int (nI k))] [] := by
      intro n30
      induction n30 with
      | zero => intro k g b hlt30; exact absurd hlt30 (Nat.not_lt_zero _)
      | succ n30 ih30 =>
        intro k g b hlt30 hk hg
        refine V.iload_n hF dX5_longestChain_30 rfl ?_
        refine V.aload_n hF dX5_longestChain_31 rfl ?_
        refine V.getR hF dX5_longestChain_32 fl_X5_9 hM.1.1 hM.1.2 rfl hM.m1.1 ?_
        refine V.bipush (v := nI 44) hF dX5_longestChain_35 (by decide) ?_
        refine V.ialoadF (j := 44) hF dX5_longestChain_37 hM.m1.2.1 hM.m1.2.2.1 rfl (hM.m1.lt (lt_of rfl)) (hM.m1.sm (by decide)) ((va_up_ne _ _ (hM.ne 1 8 (by decide) (by decide) (by decide))).trans hX) ?_
        refine V.topi (y := nI (vN v 44)) hv.n ?_
        refine V.icmp_ge (tgt := 148) hF dX5_longestChain_38 (by decide) (fun h38 => ?_) (fun h38 => ?_)
        · have hk6 : k = vN v 44 := by have := nI_ge' h38 (by omega) (by omega); omega
          subst hk6
          refine V.iload_n hF dX5_longestChain_148 rfl ?_
          refine V.iret hF dX5_longestChain_149 (Nat.le_refl _) (Nat.le_refl _) ?_
          exact pR.e (by rw [if_pos h17, hg]) (by rw [if_pos h17]) (by rw [if_pos h17, hg])
        · have hk6 : k < vN v 44 := nI_nge h38 (by omega) (by omega)
          refine V.aload_n hF dX5_longestChain_41 rfl ?_
          refine V.getR hF dX5_longestChain_42 fl_X5_9 hM.1.1 hM.1.2 rfl hM.m1.1 ?_
          refine V.sipush (v := nI 350) hF dX5_longestChain_45 (by decide) ?_
          refine V.iload_n hF dX5_longestChain_48 rfl ?_
          refine V.iadd hF dX5_longestChain_49 ?_
          refine V.ialoadF (j := (350 + k)) hF dX5_longestChain_50 hM.m1.2.1 hM.m1.2.2.1 (by simp only [nI_add, pk_mul, Nat.zero_add, Nat.add_zero]) (hM.m1.lt (by omega)) (hM.m1.sm (by decide)) ((va_up_ne _ _ (hM.ne 1 8 (by decide) (by decide) (by decide))).trans hX) ?_
          refine V.iload_n hF dX5_longestChain_51 rfl ?_
          refine V.icmp_eq (tgt := 58) hF dX5_longestChain_52 (by decide) (fun h52 => ?_) (fun h52 => ?_)
          · refine V.aload_n hF dX5_longestChain_58 rfl ?_
            refine V.getR hF dX5_longestChain_59 fl_X5_26 hM.1.1 hM.1.2 rfl hM.m8.1 ?_
            refine V.iload_n hF dX5_longestChain_62 rfl ?_
            refine V.iconst (v := nI 1) hF dX5_longestChain_63 (by decide) ?_
            refine V.iastoreU (j := k) hF dX5_longestChain_64 hM.m8.2.1 hM.m8.2.2.1 rfl (hM.m8.lt (by omega)) (hM.m8.sm (by decide)) ?_
            refine V.iconst (v := nI 0) hF dX5_longestChain_65 (by decide) ?_
            refine V.istore hF dX5_longestChain_66 (by decide) ?_
            have L68 : ∀ (n68 : Nat) (j : Nat) (h : Rw), k - j < n68 → j ≤ k → zchI v k g j = h → V pp l ee (Rm 2 0 0) ss mm args below meth kc D cy A (QM below args ss D cy A (pR (some (.int (if zisIn x (nI 0) (v 42) then (zchO v x g0 (vN v 44)).2 else nI 0))) σ (va_up I o (th f (if zisIn x (nI 0) (v 42) then nI 0 else nI 1))) (va_up X (ar 8) (if zisIn x (nI 0) (v 42) then (zchO v x g0 (vN v 44)).1 else g0))) noX 0 0) 5 0 0 σ (va_up I o (upd f 0 (nI 0))) (va_up X (ar 8) h) 68 [(0, .ref o), (1, .int x), (2, .int b), (3, .int (nI k)), (4, .int (nI j))] [] := by
              intro n68
              induction n68 with
              | zero => intro j h hlt68; exact absurd hlt68 (Nat.not_lt_zero _)
              | succ n68 ih68 =>
                intro j h hlt68 hj hh
                refine V.iload hF dX5_longestChain_68 rfl ?_
                refine V.iload_n hF dX5_longestChain_70 rfl ?_
                refine V.icmp_ge (tgt := 121) hF dX5_longestChain_71 (by decide) (fun h71 => ?_) (fun h71 => ?_)
                · have hj6 : j = k := by have := nI_ge' h71 (by omega) (by omega); omega
                  rw [hj6] at hh
                  refine V.aload_n hF dX5_longestChain_121 rfl ?_
                  refine V.getR hF dX5_longestChain_122 fl_X5_26 hM.1.1 hM.1.2 rfl hM.m8.1 ?_
                  refine V.iload_n hF dX5_longestChain_125 rfl ?_
                  refine V.ialoadF (j := k) hF dX5_longestChain_126 hM.m8.2.1 hM.m8.2.2.1 rfl (hM.m8.lt (by omega)) (hM.m8.sm (by decide)) (va_up_self _ _ _) ?_
                  refine V.iload_n hF dX5_longestChain_127 rfl ?_
                  refine V.icmp_le (tgt := 140) hF dX5_longestChain_128 (by decide) (fun h128 => ?_) (fun h128 => ?_)
                  · have hz := zchO_t1 hg h52 hh h128
                    refine V.iload_n hF dX5_longestChain_140 rfl ?_
                    refine V.istore_n hF dX5_longestChain_141 (by decide) ?_
                    refine V.iinc (v := nI (k + 1)) hF dX5_longestChain_142 rfl (by exact nI_1 _) (by decide) ?_
                    refine V.goto (tgt := 30) hF dX5_longestChain_145 (by decide) ?_
                    refine V.relv [0, 1, 2, 3] rfl ?_
                    exact ih30 (k + 1) _ _ (by omega) (by omega) hz
                  · have hz := zchO_t2 hg h52 hh h128
                    refine V.aload_n hF dX5_longestChain_131 rfl ?_
                    refine V.getR hF dX5_longestChain_132 fl_X5_26 hM.1.1 hM.1.2 rfl hM.m8.1 ?_
                    refine V.iload_n hF dX5_longestChain_135 rfl ?_
                    refine V.ialoadF (j := k) hF dX5_longestChain_136 hM.m8.2.1 hM.m8.2.2.1 rfl (hM.m8.lt (by omega)) (hM.m8.sm (by decide)) (va_up_self _ _ _) ?_
                    refine V.goto (tgt := 141) hF dX5_longestChain_137 (by decide) ?_
                    refine V.istore_n hF dX5_longestChain_141 (by decide) ?_
                    refine V.iinc (v := nI (k + 1)) hF dX5_longestChain_142 rfl (by exact nI_1 _) (by decide) ?_
                    refine V.goto (tgt := 30) hF dX5_longestChain_145 (by decide) ?_
                    refine V.relv [0, 1, 2, 3] rfl ?_
                    exact ih30 (k + 1) _ _ (by omega) (by omega) hz
                · have hj6 : j < k := nI_nge h71 (by omega) (by omega)
                  refine V.aload_n hF dX5_longestChain_74 rfl ?_
                  refine V.iload hF dX5_longestChain_75 rfl ?_
                  refine V.iload_n hF dX5_longestChain_77 rfl ?_
                  refine V.vI hF dX5_longestChain_78 (ct_X5_isCauseOf hst _ _ _ _ _ hM _ ((va_up_ne _ _ (hM.ne 1 8 (by decide) (by decide) (by decide))).trans hX) hv j k (by omega) (by omega)) lk_X5_111 sl_X5_isCauseOf hM.1.1 hM.1.2 rfl (Nat.le_of_ble_eq_true rfl) (fit_of rfl) (Nat.le_of_ble_eq_true rfl) rfl ?_
                  refine V.if_eqB (tgt := 115) hF dX5_longestChain_81 (by decide) (fun h81 => ?_) (fun h81 => ?_)
                  · have hz2 := zchI_f1 hh h81
                    refine V.iinc (v := nI (j + 1)) hF dX5_longestChain_115 rfl (by exact nI_1 _) (by decide) ?_
                    refine V.goto (tgt := 68) hF dX5_longestChain_118 (by decide) ?_
                    refine V.relv [0, 1, 2, 3, 4] rfl ?_
                    exact ih68 (j + 1) _ (by omega) (by omega) hz2
                  · refine V.aload_n hF dX5_longestChain_84 rfl ?_
                    refine V.getR hF dX5_longestChain_85 fl_X5_26 hM.1.1 hM.1.2 rfl hM.m8.1 ?_
                    refine V.iload hF dX5_longestChain_88 rfl ?_
                    refine V.ialoadF (j := j) hF dX5_longestChain_90 hM.m8.2.1 hM.m8.2.2.1 rfl (hM.m8.lt (by omega)) (hM.m8.sm (by decide)) (va_up_self _ _ _) ?_
                    refine V.aload_n hF dX5_longestChain_91 rfl ?_
                    refine V.getR hF dX5_longestChain_92 fl_X5_26 hM.1.1 hM.1.2 rfl hM.m8.1 ?_
                    refine V.iload_n hF dX5_longestChain_95 rfl ?_
                    refine V.ialoadF (j := k) hF dX5_longestChain_96 hM.m8.2.1 hM.m8.2.2.1 rfl (hM.m8.lt (by omega)) (hM.m8.sm (by decide)) (va_up_self _ _ _) ?_
                    refine V.icmp_lt (tgt := 115) hF dX5_longestChain_97 (by decide) (fun h97 => ?_) (fun h97 => ?_)
                    · have hz2 := zchI_f2 hh h97
                      refine V.iinc (v := nI (j + 1)) hF dX5_longestChain_115 rfl (by exact nI_1 _) (by decide) ?_
                      refine V.goto (tgt := 68) hF dX5_longestChain_118 (by decide) ?_
                      refine V.relv [0, 1, 2, 3, 4] rfl ?_
                      exact ih68 (j + 1) _ (by omega) (by omega) hz2
                    · have hz2 := zchI_t hh h81 h97
                      refine V.aload_n hF dX5_longestChain_100 rfl ?_
                      refine V.getR hF dX5_longestChain_101 fl_X5_26 hM.1.1 hM.1.2 rfl hM.m8.1 ?_
                      refine V.iload_n hF dX5_longestChain_104 rfl ?_
                      refine V.aload_n hF dX5_longestChain_105 rfl ?_
                      refine V.getR hF dX5_longestChain_106 fl_X5_26 hM.1.1 hM.1.2 rfl hM.m8.1 ?_
                      refine V.iload hF dX5_longestChain_109 rfl ?_
                      refine V.ialoadF (j := j) hF dX5_longestChain_111 hM.m8.2.1 hM.m8.2.2.1 rfl (hM.m8.lt (by omega)) (hM.m8.sm (by decide)) (va_up_self _ _ _) ?_
                      refine V.iconst (v := nI 1) hF dX5_longestChain_112 (by decide) ?_
                      refine V.iadd hF dX5_longestChain_113 ?_
                      refine V.iastoreU (j := k) hF dX5_longestChain_114 hM.m8.2.1 hM.m8.2.2.1 rfl (hM.m8.lt (by omega)) (hM.m8.sm (by decide)) ?_
                      refine V.iinc (v := nI (j + 1)) hF dX5_longestChain_115 rfl (by exact nI_1 _) (by decide) ?_
                      refine V.goto (tgt := 68) hF dX5_longestChain_118 (by decide) ?_
                      refine V.relv [0, 1, 2, 3, 4] rfl ?_
                      exact ih68 (j + 1) _ (by omega) (by omega) hz2
            refine V.relv [0, 1, 2, 3, 4] rfl ?_
            exact L68 _ 0 _ (Nat.lt_succ_self _) (by omega) rfl
          · have hz := zchO_f hg h52
            refine V.goto (tgt := 142) hF dX5_longestChain_55 (by decide) ?_
            refine V.iinc (v := nI (k + 1)) hF dX5_longestChain_142 rfl (by exact nI_1 _) (by decide) ?_
            refine V.goto (tgt := 30) hF dX5_longestChain_145 (by decide) ?_
            refine V.relv [0, 1, 2, 3] rfl ?_
            exact ih30 (k + 1) _ _ (by omega) (by omega) hz
    refine V.relv [0, 1, 2, 3] rfl ?_
    exact L30 _ 0 _ _ (Nat.lt_succ_self _) (by omega) rfl
  · refine V.aload_n hF dX5_longestChain_20 rfl ?_
    refine V.iconst (v := nI 1) hF dX5_longestChain_21 (by decide) ?_
    refine V.vI hF dX5_longestChain_22 (ct_X5_no hst _ _ _ _ _ hM _ (va_up_self _ _ _) _) lk_X5_59 sl_X5_no hM.1.1 hM.1.2 rfl (Nat.le_of_ble_eq_true rfl) (fit_of rfl) (Nat.le_of_ble_eq_true rfl) rfl ?_
    refine V.collI ?_
    refine V.iret hF dX5_longestChain_25 (Nat.le_refl _) (Nat.le_refl _) ?_
    exact pR.e (by simp [h17]) (by simp [h17, th_th, upd_upd]) (by simp [h17])
set_option maxRecDepth 20000 in
theorem ct_X5_disagreements (hst : l.stackTraces = false) (σ : SH) (I X : IX) (o : Nat) (ar : Nat → Nat) (hM : MS σ o ar) (f : Rw) (hI : I o = f) (v : Rw) (hX : X (ar 1) = v) (hv : WV v) (x y : Int32) : Ct l D cy sa sv yX5_disagreements cX5_disagreements 7 (some .int) 2 0 0 [.ref o, .int x, .int y] σ I X (pR (some (.int (if zPr x && zPr y then nI (zdgO v x.toNatClampNeg y.toNatClampNeg (vN v (1550 + x.toNatClampNeg))) else nI 0))) σ (va_up I o (th f (if zPr x && zPr y then nI 0 else nI 1))) X) noX := by
  refine Ct.of (by decide) hst (Nat.le_of_ble_eq_true rfl) ?_
  intro pp ee ss mm args below meth kc A hF hnm hout
  refine V.etaI o hI ?_
  refine V.aload_n hF dX5_disagreements_0 rfl ?_
  refine V.iconst (v := nI 0) hF dX5_disagreements_1 (by decide) ?_
  refine V.putIU hF dX5_disagreements_2 fl_X5_38 hM.1.1 hM.1.2 rfl rfl rfl ?_
  refine V.iload_n hF dX5_disagreements_5 rfl ?_
  refine V.sI hF dX5_disagreements_6 (ct_X5_isProcess hst _ _ _ _) lk_X5_49 (fit_of rfl) (Nat.le_of_ble_eq_true rfl) rfl ?_
  refine V.if_eqB (tgt := 19) hF dX5_disagreements_9 (by decide) (fun h9 => ?_) (fun h9 => ?_)
  · refine V.aload_n hF dX5_disagreements_19 rfl ?_
    refine V.iconst (v := nI 1) hF dX5_disagreements_20 (by decide) ?_
    refine V.vI hF dX5_disagreements_21 (ct_X5_no hst _ _ _ _ _ hM _ (va_up_self _ _ _) _) lk_X5_59 sl_X5_no hM.1.1 hM.1.2 rfl (Nat.le_of_ble_eq_true rfl) (fit_of rfl) (Nat.le_of_ble_eq_true rfl) rfl ?_
    refine V.collI ?_
    refine V.iret hF dX5_disagreements_24 (Nat.le_refl _) (Nat.le_refl _) ?_
    exact pR.e (by simp [n10, *]) (by simp [n10, th_th, *]) rfl
  · refine V.iload_n hF dX5_disagreements_12 rfl ?_
    refine V.sI hF dX5_disagreements_13 (ct_X5_isProcess hst _ _ _ _) lk_X5_49 (fit_of rfl) (Nat.le_of_ble_eq_true rfl) rfl ?_
    refine V.if_neB (tgt := 25) hF dX5_disagreements_16 (by decide) (fun h16 => ?_) (fun h16 => ?_)
    · obtain ⟨p, hp, e⟩ := zPr_of h9
      subst e
      have cp : (nI p).toNatClampNeg = p := nI_clamp (by omega)
      obtain ⟨q, hq, e⟩ := zPr_of h16
      subst e
      have cq : (nI q).toNatClampNeg = q := nI_clamp (by omega)
      have hl150 := hv.l150 hp
      refine V.iconst (v := nI 0) hF dX5_disagreements_25 (by decide) ?_
      refine V.istore_n hF dX5_disagreements_26 (by decide) ?_
      refine V.iconst (v := nI 0) hF dX5_disagreements_27 (by decide) ?_
      refine V.istore hF dX5_disagreements_28 (by decide) ?_
      have L30 : ∀ (n30 : Nat) (k c : Nat), vN v (1550 + p) - k < n30 → k ≤ vN v (1550 + p) → c = zdgO v p q k → V pp l ee (Rm 2 0 0) ss mm args below meth kc D cy A (QM below args ss D cy A (pR (some (.int (if zPr (nI p) && zPr (nI q) then nI (zdgO v (nI p).toNatClampNeg (nI q).toNatClampNeg (vN v (1550 + (nI p).toNatClampNeg))) else nI 0))) σ (va_up I o (th f (if zPr (nI p) && zPr (nI q) then nI 0 else nI 1))) X) noX 0 0) 7 0 0 σ (va_up I o (upd f 0 (nI 0))) X 30 [(0, .ref o), (1, .int (nI p)), (2, .int (nI q)), (3, .int (nI c)), (4, .int (nI k))] [] := by
        intro n30
        induction n30 with
        | zero => intro k c hlt30; exact absurd hlt30 (Nat.not_lt_zero _)
        | succ n30 ih30 =>
          intro k c hlt30 hk hc
          refine V.iload hF dX5_disagreements_30 rfl ?_
          refine V.aload_n hF dX5_disagreements_32 rfl ?_
          refine V.getR hF dX5_disagreements_33 fl_X5_9 hM.1.1 hM.1.2 rfl hM.m1.1 ?_
          refine V.sipush (v := nI 1550) hF dX5_disagreements_36 (by decide) ?_
          refine V.iload_n hF dX5_disagreements_39 rfl ?_
          refine V.iadd hF dX5_disagreements_40 ?_
          refine V.ialoadF (j := (1550 + p)) hF dX5_disagreements_41 hM.m1.2.1 hM.m1.2.2.1 (by simp only [nI_add, pk_mul, Nat.zero_add, Nat.add_zero]) (hM.m1.lt (by omega)) (hM.m1.sm (by decide)) hX ?_
          refine V.topi (y := nI (vN v (1550 + p))) (hv.l hp) ?_
          refine V.icmp_ge (tgt := 131) hF dX5_disagreements_42 (by decide) (fun h42 => ?_) (fun h42 => ?_)
          · have hk6 : k = vN v (1550 + p) := by have := nI_ge' h42 (by omega) (by omega); omega
            subst hk6
            refine V.iload_n hF dX5_disagreements_131 rfl ?_
            refine V.iret hF dX5_disagreements_132 (Nat.le_refl _) (Nat.le_refl _) ?_
            exact pR.e (by rw [h9, h16, cp, cq, hc]; rfl) (by rw [h9, h16]; rfl) rfl
          · have hk6 : k < vN v (1550 + p) := nI_nge h42 (by omega) (by omega)
            refine V.aload_n hF dX5_disagreements_45 rfl ?_
            refine V.iload_n hF dX5_disagreements_46 rfl ?_
            refine V.aload_n hF dX5_disagreements_47 rfl ?_
            refine V.getR hF dX5_disagreements_48 fl_X5_9 hM.1.1 hM.1.2 rfl hM.m1.1 ?_
            refine V.sipush (v := nI 1560) hF dX5_disagreements_51 (by decide) ?_
            refine V.sipush (v := nI 150) hF dX5_disagreements_54 (by decide) ?_
            refine V.iload_n hF dX5_disagreements_57 rfl ?_
            refine V.imul hF dX5_disagreements_58 ?_
            refine V.iadd hF dX5_disagreements_59 ?_
            refine V.iload hF dX5_disagreements_60 rfl ?_
            refine V.iadd hF dX5_disagreements_62 ?_
            refine V.ialoadF (j := ((1560 + (150 * p)) + k)) hF dX5_disagreements_63 hM.m1.2.1 hM.m1.2.2.1 (by simp only [nI_add, pk_mul, Nat.zero_add, Nat.add_zero]) (hM.m1.lt (by omega)) (hM.m1.sm (by decide)) hX ?_
            refine V.vI hF dX5_disagreements_64 (ct_X5_placeOf hst _ _ _ _ _ hM _ hX hv q (by omega) _) lk_X5_114 sl_X5_placeOf hM.1.1 hM.1.2 rfl (Nat.le_of_ble_eq_true rfl) (fit_of rfl) (Nat.le_of_ble_eq_true rfl) rfl ?_
            refine V.istore hF dX5_disagreements_67 (by decide) ?_
            refine V.iconst (v := nI 0) hF dX5_disagreements_69 (by decide) ?_
            refine V.istore hF dX5_disagreements_70 (by decide) ?_
            have L72 : ∀ (n72 : Nat) (j c2 : Nat), k - j < n72 → j ≤ k → c2 = zdgO v p q k + zcB (zdgF v p q k) j → (zdga v p q k < 0 → j = 0) → V pp l ee (Rm 2 0 0) ss mm args below meth kc D cy A (QM below args ss D cy A (pR (some (.int (if zPr (nI p) && zPr (nI q) then nI (zdgO v (nI p).toNatClampNeg (nI q).toNatClampNeg (vN v (1550 + (nI p).toNatClampNeg))) else nI 0))) σ (va_up I o (th f (if zPr (nI p) && zPr (nI q) then nI 0 else nI 1))) X) noX 0 0) 7 0 0 σ (va_up I o (upd f 0 (nI 0))) X 72 [(0, .ref o), (1, .int (nI p)), (2, .int (nI q)), (3, .int (nI c2)), (4, .int (nI k)), (5, .int (zdga v p q k)), (6, .int (nI j))] [] := by
              intro n72
              induction n72 with
              | zero => intro j c2 hlt72; exact absurd hlt72 (Nat.not_lt_zero _)
              | succ n72 ih72 =>
                intro j c2 hlt72 hj hc2 ha
                refine V.iload hF dX5_disagreements_72 rfl ?_
                refine V.iload hF dX5_disagreements_74 rfl ?_
                refine V.icmp_ge (tgt := 125) hF dX5_disagreements_76 (by decide) (fun h76 => ?_) (fun h76 => ?_)
                · have hj6 : j = k := by have := nI_ge' h76 (by omega) (by omega); omega
                  have hz := zdgO_e hc2 ha (Or.inl hj6)
                  refine V.iinc (v := nI (k + 1)) hF dX5_disagreements_125 rfl (by exact nI_1 _) (by decide) ?_
                  refine V.goto (tgt := 30) hF dX5_disagreements_128 (by decide) ?_
                  refine V.relv [0, 1, 2, 3, 4] rfl ?_
                  exact ih30 (k + 1) _ (by omega) (by omega) hz
                · have hj6 : j < k := nI_nge h76 (by omega) (by omega)
                  refine V.iload hF dX5_disagreements_79 rfl ?_
                  refine V.if_lt (tgt := 125) hF dX5_disagreements_81 (by decide) (fun h81 => ?_) (fun h81 => ?_)
                  · have hz := zdgO_e hc2 ha (Or.inr h81)
                    refine V.iinc (v := nI (k + 1)) hF dX5_disagreements_125 rfl (by exact nI_1 _) (by decide) ?_
                    refine V.goto (tgt := 30) hF dX5_disagreements_128 (by decide) ?_
                    refine V.relv [0, 1, 2, 3, 4] rfl ?_
                    exact ih30 (k + 1) _ (by omega) (by omega) hz
                  · refine V.iload_n hF dX5_disagreements_84 rfl ?_
                    refine V.aload_n hF dX5_disagreements_85 rfl ?_
                    refine V.iload_n hF dX5_disagreements_86 rfl ?_
                    refine V.aload_n hF dX5_disagreements_87 rfl ?_
                    refine V.getR hF dX5_disagreements_88 fl_X5_9 hM.1.1 hM.1.2 rfl hM.m1.1 ?_
                    refine V.sipush (v := nI 1560) hF dX5_disagreements_91 (by decide) ?_
                    refine V.sipush (v := nI 150) hF dX5_disagreements_94 (by decide) ?_
                    refine V.iload_n hF dX5_disagreements_97 rfl ?_
                    refine V.imul hF dX5_disagreements_98 ?_
                    refine V.iadd hF dX5_disagreements_99 ?_
                    refine V.iload hF dX5_disagreements_100 rfl ?_
                    refine V.iadd hF dX5_disagreements_102 ?_
                    refine V.ialoadF (j := ((1560 + (150 * p)) + j)) hF dX5_disagreements_103 hM.m1.2.1 hM.m1.2.2.1 (by simp only [nI_add, pk_mul, Nat.zero_add, Nat.add_zero]) (hM.m1.lt (by omega)) (hM.m1.sm (by decide)) hX ?_
                    refine V.vI hF dX5_disagreements_104 (ct_X5_placeOf hst _ _ _ _ _ hM _ hX hv q (by omega) _) lk_X5_114 sl_X5_placeOf hM.1.1 hM.1.2 rfl (Nat.le_of_ble_eq_true rfl) (fit_of rfl) (Nat.le_of_ble_eq_true rfl) rfl ?_
                    refine V.iload hF dX5_disagreements_107 rfl ?_
                    refine V.icmp_le (tgt := 116) hF dX5_disagreements_109 (by decide) (fun h109 => ?_) (fun h109 => ?_)
                    · have hzf : zdgF v p q k j = false := by have h : zdga v p q j ≤ zdga v p q k := h109; simp [zdgF, h]
                      refine V.iconst (v := nI 0) hF dX5_disagreements_116 (by decide) ?_
                      refine V.iadd hF dX5_disagreements_117 ?_
                      refine V.topi (y := nI c2) (by simp only [nI_add, pk_mul, Nat.zero_add, Nat.add_zero]) ?_
                      refine V.istore_n hF dX5_disagreements_118 (by decide) ?_
                      refine V.iinc (v := nI (j + 1)) hF dX5_disagreements_119 rfl (by exact nI_1 _) (by decide) ?_
                      refine V.goto (tgt := 72) hF dX5_disagreements_122 (by decide) ?_
                      refine V.relv [0, 1, 2, 3, 4, 5, 6] rfl ?_
                      exact ih72 (j + 1) _ (by omega) (by omega) (by rw [zcB, hzf, hc2]; simp [Nat.add_assoc]) (fun h => absurd h h81)
                    · have hzf : zdgF v p q k j = true := by have h : ¬ zdga v p q j ≤ zdga v p q k := h109; rw [zdgF, decide_eq_false h]; rfl
                      refine V.iconst (v := nI 1) hF dX5_disagreements_112 (by decide) ?_
                      refine V.goto (tgt := 117) hF dX5_disagreements_113 (by decide) ?_
                      refine V.iadd hF dX5_disagreements_117 ?_
                      refine V.topi (y := nI (c2 + 1)) (by simp only [nI_add, pk_mul, Nat.zero_add, Nat.add_zero]) ?_
                      refine V.istore_n hF dX5_disagreements_118 (by decide) ?_
                      refine V.iinc (v := nI (j + 1)) hF dX5_disagreements_119 rfl (by exact nI_1 _) (by decide) ?_
                      refine V.goto (tgt := 72) hF dX5_disagreements_122 (by decide) ?_
                      refine V.relv [0, 1, 2, 3, 4, 5, 6] rfl ?_
                      exact ih72 (j + 1) _ (by omega) (by omega) (by rw [zcB, hzf, hc2]; simp [Nat.add_assoc]) (fun h => absurd h h81)
            refine V.relv [0, 1, 2, 3, 4, 5, 6] rfl ?_
            exact L72 _ 0 _ (Nat.lt_succ_self _) (by omega) (by rw [hc]; rfl) (fun _ => rfl)
      refine V.relv [0, 1, 2, 3, 4] rfl ?_
      exact L30 _ 0 0 (Nat.lt_succ_self _) (by omega) rfl
    · refine V.aload_n hF dX5_disagreements_19 rfl ?_
      refine V.iconst (v := nI 1) hF dX5_disagreements_20 (by decide) ?_
      refine V.vI hF dX5_disagreements_21 (ct_X5_no hst _ _ _ _ _ hM _ (va_up_self _ _ _) _) lk_X5_59 sl_X5_no hM.1.1 hM.1.2 rfl (Nat.le_of_ble_eq_true rfl) (fit_of rfl) (Nat.le_of_ble_eq_true rfl) rfl ?_
      refine V.collI ?_
      refine V.iret hF dX5_disagreements_24 (Nat.le_refl _) (Nat.le_refl _) ?_
      exact pR.e (by simp [n10, *]) (by simp [n10, th_th, *]) rfl
set_option maxRecDepth 20000 in
theorem ct_X5_overlap (hst : l.stackTraces = false) (σ : SH) (I X : IX) (o : Nat) (ar : Nat → Nat) (hM : MS σ o ar) (f : Rw) (hI : I o = f) (v : Rw) (hX : X (ar 1) = v) (hv : WV v) (x y : Int32) : Ct l D cy sa sv yX5_overlap cX5_overlap 5 (some .double) 2 0 0 [.ref o, .int x, .int y] σ I X (pR (some (.double (if (if zPr x && zPr y then (if v (1550 + x.toNatClampNeg) = 0 then nI 2 else nI 0) else nI 1) = nI 0 then FP.ddiv (FP.i2d (nI (zcB (zshF v x.toNatClampNeg y.toNatClampNeg) (vN v (1550 + x.toNatClampNeg))))) (FP.i2d (nI (vN v (1550 + x.toNatClampNeg)))) else FP.dconst0))) σ (va_up I o (th f (if zPr x && zPr y then (if v (1550 + x.toNatClampNeg) = 0 then nI 2 else nI 0) else nI 1))) X) noX := by
  refine Ct.of (by decide) hst (Nat.le_of_ble_eq_true rfl) ?_
  intro pp ee ss mm args below meth kc A hF hnm hout
  refine V.etaI o hI ?_
  refine V.aload_n hF dX5_overlap_0 rfl ?_
  refine V.iload_n hF dX5_overlap_1 rfl ?_
  refine V.sI hF dX5_overlap_2 (ct_X5_isProcess hst _ _ _ _) lk_X5_49 (fit_of rfl) (Nat.le_of_ble_eq_true rfl) rfl ?_
  refine V.if_eqB (tgt := 15) hF dX5_overlap_5 (by decide) (fun h5 => ?_) (fun h5 => ?_)
  · refine V.iconst (v := nI 1) hF dX5_overlap_15 (by decide) ?_
    refine V.goto (tgt := 37) hF dX5_overlap_16 (by decide) ?_
    refine V.putIU hF dX5_overlap_37 fl_X5_38 hM.1.1 hM.1.2 rfl rfl rfl ?_
    refine V.aload_n hF dX5_overlap_40 rfl ?_
    refine V.getIF hF dX5_overlap_41 fl_X5_38 hM.1.1 hM.1.2 rfl (va_up_self _ _ _) ?_
    refine V.topi (y := nI 1) (by rw [upd_at, if_pos rfl]) ?_
    refine V.if_eq (tgt := 49) hF dX5_overlap_44 (by decide) (fun h44 => ?_) (fun h44 => ?_)
    · exact absurd h44 (by decide)
    · refine V.dconst0 hF dX5_overlap_47 ?_
      refine V.dret hF dX5_overlap_48 (Nat.le_refl _) (Nat.le_refl _) ?_
      exact pR.ed (by simp [n10, n20, *]) (by simp [th, *]) rfl
  · refine V.iload_n hF dX5_overlap_8 rfl ?_
    refine V.sI hF dX5_overlap_9 (ct_X5_isProcess hst _ _ _ _) lk_X5_49 (fit_of rfl) (Nat.le_of_ble_eq_true rfl) rfl ?_
    refine V.if_neB (tgt := 19) hF dX5_overlap_12 (by decide) (fun h12 => ?_) (fun h12 => ?_)
    · obtain ⟨p, hp, e⟩ := zPr_of h5
      subst e
      have cp : (nI p).toNatClampNeg = p := nI_clamp (by omega)
      obtain ⟨q, hq, e⟩ := zPr_of h12
      subst e
      have cq : (nI q).toNatClampNeg = q := nI_clamp (by omega)
      have hl150 := hv.l150 hp
      refine V.aload_n hF dX5_overlap_19 rfl ?_
      refine V.getR hF dX5_overlap_20 fl_X5_9 hM.1.1 hM.1.2 rfl hM.m1.1 ?_
      refine V.sipush (v := nI 1550) hF dX5_overlap_23 (by decide) ?_
      refine V.iload_n hF dX5_overlap_26 rfl ?_
      refine V.iadd hF dX5_overlap_27 ?_
      refine V.ialoadF (j := (1550 + p)) hF dX5_overlap_28 hM.m1.2.1 hM.m1.2.2.1 (by simp only [nI_add, pk_mul, Nat.zero_add, Nat.add_zero]) (hM.m1.lt (by omega)) (hM.m1.sm (by decide)) hX ?_
      refine V.if_ne (tgt := 36) hF dX5_overlap_29 (by decide) (fun h29 => ?_) (fun h29 => ?_)
      · have hL : vN v (1550 + p) ≠ 0 := fun q => h29 (by rw [hv.l hp, q]; rfl)
        have hT : (if zPr (nI p) && zPr (nI q) then (if v (1550 + (nI p).toNatClampNeg) = 0 then nI 2 else nI 0) else nI 1) = nI 0 := by rw [h5, h12, cp]; exact if_neg h29
        refine V.iconst (v := nI 0) hF dX5_overlap_36 (by decide) ?_
        refine V.putIU hF dX5_overlap_37 fl_X5_38 hM.1.1 hM.1.2 rfl rfl rfl ?_
        refine V.aload_n hF dX5_overlap_40 rfl ?_
        refine V.getIF hF dX5_overlap_41 fl_X5_38 hM.1.1 hM.1.2 rfl (va_up_self _ _ _) ?_
        refine V.topi (y := nI 0) (by rw [upd_at, if_pos rfl]) ?_
        refine V.if_eq (tgt := 49) hF dX5_overlap_44 (by decide) (fun h44 => ?_) (fun h44 => ?_)
        · refine V.iconst (v := nI 0) hF dX5_overlap_49 (by decide) ?_
          refine V.istore_n hF dX5_overlap_50 (by decide) ?_
          refine V.iconst (v := nI 0) hF dX5_overlap_51 (by decide) ?_
          refine V.istore hF dX5_overlap_52 (by decide) ?_
          have L54 : ∀ (n54 : Nat) (k c : Nat), vN v (1550 + p) - k < n54 → k ≤ vN v (1550 + p) → c = zcB (zshF v p q) k → V pp l ee (Rm 2 0 0) ss mm args below meth kc D cy A (QM below args ss D cy A (pR (some (.double (if (if zPr (nI p) && zPr (nI q) then (if v (1550 + (nI p).toNatClampNeg) = 0 then nI 2 else nI 0) else nI 1) = nI 0 then FP.ddiv (FP.i2d (nI (zcB (zshF v (nI p).toNatClampNeg (nI q).toNatClampNeg) (vN v (1550 + (nI p).toNatClampNeg))))) (FP.i2d (nI (vN v (1550 + (nI p).toNatClampNeg)))) else FP.dconst0))) σ (va_up I o (th f (if zPr (nI p) && zPr (nI q) then (if v (1550 + (nI p).toNatClampNeg) = 0 then nI 2 else nI 0) else nI 1))) X) noX 0 0) 5 0 0 σ (va_up I o (upd f 0 (nI 0))) X 54 [(0, .ref o), (1, .int (nI p)), (2, .int (nI q)), (3, .int (nI c)), (4, .int (nI k))] [] := by
            intro n54
            induction n54 with
            | zero => intro k c hlt54; exact absurd hlt54 (Nat.not_lt_zero _)
            | succ n54 ih54 =>
              intro k c hlt54 hk hc
              have hcb : c < 151 := by have := zcB_le (zshF v p q) k; omega
              refine V.iload hF dX5_overlap_54 rfl ?_
              refine V.aload_n hF dX5_overlap_56 rfl ?_
              refine V.getR hF dX5_overlap_57 fl_X5_9 hM.1.1 hM.1.2 rfl hM.m1.1 ?_
              refine V.sipush (v := nI 1550) hF dX5_overlap_60 (by decide) ?_
              refine V.iload_n hF dX5_overlap_63 rfl ?_
              refine V.iadd hF dX5_overlap_64 ?_
              refine V.ialoadF (j := (1550 + p)) hF dX5_overlap_65 hM.m1.2.1 hM.m1.2.2.1 (by simp only [nI_add, pk_mul, Nat.zero_add, Nat.add_zero]) (hM.m1.lt (by omega)) (hM.m1.sm (by decide)) hX ?_
              refine V.topi (y := nI (vN v (1550 + p))) (hv.l hp) ?_
              refine V.icmp_ge (tgt := 108) hF dX5_overlap_66 (by decide) (fun h66 => ?_) (fun h66 => ?_)
              · have hk6 : k = vN v (1550 + p) := by have := nI_ge' h66 (by omega) (by omega); omega
                subst hk6
                refine V.iload_n hF dX5_overlap_108 rfl ?_
                refine V.i2d hF dX5_overlap_109 ?_
                refine V.aload_n hF dX5_overlap_110 rfl ?_
                refine V.getR hF dX5_overlap_111 fl_X5_9 hM.1.1 hM.1.2 rfl hM.m1.1 ?_
                refine V.sipush (v := nI 1550) hF dX5_overlap_114 (by decide) ?_
                refine V.iload_n hF dX5_overlap_117 rfl ?_
                refine V.iadd hF dX5_overlap_118 ?_
                refine V.ialoadF (j := (1550 + p)) hF dX5_overlap_119 hM.m1.2.1 hM.m1.2.2.1 (by simp only [nI_add, pk_mul, Nat.zero_add, Nat.add_zero]) (hM.m1.lt (by omega)) (hM.m1.sm (by decide)) hX ?_
                refine V.topi (y := nI (vN v (1550 + p))) (hv.l hp) ?_
                refine V.i2d hF dX5_overlap_120 ?_
                refine V.ddiv hF dX5_overlap_121 (ov_nn _ hcb _ (by omega) (by omega)) ?_
                refine V.dret hF dX5_overlap_122 (Nat.le_refl _) (Nat.le_refl _) ?_
                exact pR.ed (by rw [if_pos hT, cp, cq, hc]) (by rw [hT]) rfl
              · have hk6 : k < vN v (1550 + p) := nI_nge h66 (by omega) (by omega)
                have hg150 := hv.g150 hp (show k < 150 by omega)
                refine V.iload_n hF dX5_overlap_69 rfl ?_
                refine V.aload_n hF dX5_overlap_70 rfl ?_
                refine V.iload_n hF dX5_overlap_71 rfl ?_
                refine V.aload_n hF dX5_overlap_72 rfl ?_
                refine V.getR hF dX5_overlap_73 fl_X5_9 hM.1.1 hM.1.2 rfl hM.m1.1 ?_
                refine V.sipush (v := nI 1560) hF dX5_overlap_76 (by decide) ?_
                refine V.sipush (v := nI 150) hF dX5_overlap_79 (by decide) ?_
                refine V.iload_n hF dX5_overlap_82 rfl ?_
                refine V.imul hF dX5_overlap_83 ?_
                refine V.iadd hF dX5_overlap_84 ?_
                refine V.iload hF dX5_overlap_85 rfl ?_
                refine V.iadd hF dX5_overlap_87 ?_
                refine V.ialoadF (j := ((1560 + (150 * p)) + k)) hF dX5_overlap_88 hM.m1.2.1 hM.m1.2.2.1 (by simp only [nI_add, pk_mul, Nat.zero_add, Nat.add_zero]) (hM.m1.lt (by omega)) (hM.m1.sm (by decide)) hX ?_
                refine V.topi (y := nI (vN v (1560 + 150 * p + k))) (hv.g hp (by omega)) ?_
                refine V.vI hF dX5_overlap_89 (ct_X5_isLogged hst _ _ _ _ _ hM _ hX q (vN v (1560 + 150 * p + k)) (by omega) (by omega)) lk_X5_72 sl_X5_isLogged hM.1.1 hM.1.2 rfl (Nat.le_of_ble_eq_true rfl) (fit_of rfl) (Nat.le_of_ble_eq_true rfl) rfl ?_
                refine V.if_eqB (tgt := 99) hF dX5_overlap_92 (by decide) (fun h92 => ?_) (fun h92 => ?_)
                · refine V.iconst (v := nI 0) hF dX5_overlap_99 (by decide) ?_
                  refine V.iadd hF dX5_overlap_100 ?_
                  refine V.topi (y := nI c) (by simp only [nI_add, pk_mul, Nat.zero_add, Nat.add_zero]) ?_
                  refine V.istore_n hF dX5_overlap_101 (by decide) ?_
                  refine V.iinc (v := nI (k + 1)) hF dX5_overlap_102 rfl (by exact nI_1 _) (by decide) ?_
                  refine V.goto (tgt := 54) hF dX5_overlap_105 (by decide) ?_
                  refine V.relv [0, 1, 2, 3, 4] rfl ?_
                  exact ih54 (k + 1) _ (by omega) (by omega) (by simp [zcB, zshF, hc, *])
                · refine V.iconst (v := nI 1) hF dX5_overlap_95 (by decide) ?_
                  refine V.goto (tgt := 100) hF dX5_overlap_96 (by decide) ?_
                  refine V.iadd hF dX5_overlap_100 ?_
                  refine V.topi (y := nI (c + 1)) (by simp only [nI_add, pk_mul, Nat.zero_add, Nat.add_zero]) ?_
                  refine V.istore_n hF dX5_overlap_101 (by decide) ?_
                  refine V.iinc (v := nI (k + 1)) hF dX5_overlap_102 rfl (by exact nI_1 _) (by decide) ?_
                  refine V.goto (tgt := 54) hF dX5_overlap_105 (by decide) ?_
                  refine V.relv [0, 1, 2, 3, 4] rfl ?_
                  exact ih54 (k + 1) _ (by omega) (by omega) (by simp [zcB, zshF, hc, *])
          refine V.relv [0, 1, 2, 3, 4] rfl ?_
          exact L54 _ 0 0 (Nat.lt_succ_self _) (by omega) rfl
        · exact (h44 (by decide)).elim
      · refine V.iconst (v := nI 2) hF dX5_overlap_32 (by decide) ?_
        refine V.goto (tgt := 37) hF dX5_overlap_33 (by decide) ?_
        refine V.putIU hF dX5_overlap_37 fl_X5_38 hM.1.1 hM.1.2 rfl rfl rfl ?_
        refine V.aload_n hF dX5_overlap_40 rfl ?_
        refine V.getIF hF dX5_overlap_41 fl_X5_38 hM.1.1 hM.1.2 rfl (va_up_self _ _ _) ?_
        refine V.topi (y := nI 2) (by rw [upd_at, if_pos rfl]) ?_
        refine V.if_eq (tgt := 49) hF dX5_overlap_44 (by decide) (fun h44 => ?_) (fun h44 => ?_)
        · exact absurd h44 (by decide)
        · refine V.dconst0 hF dX5_overlap_47 ?_
          refine V.dret hF dX5_overlap_48 (Nat.le_refl _) (Nat.le_refl _) ?_
          exact pR.ed (by simp [n10, n20, *]) (by simp [th, *]) rfl
    · refine V.iconst (v := nI 1) hF dX5_overlap_15 (by decide) ?_
      refine V.goto (tgt := 37) hF dX5_overlap_16 (by decide) ?_
      refine V.putIU hF dX5_overlap_37 fl_X5_38 hM.1.1 hM.1.2 rfl rfl rfl ?_
      refine V.aload_n hF dX5_overlap_40 rfl ?_
      refine V.getIF hF dX5_overlap_41 fl_X5_38 hM.1.1 hM.1.2 rfl (va_up_self _ _ _) ?_
      refine V.topi (y := nI 1) (by rw [upd_at, if_pos rfl]) ?_
      refine V.if_eq (tgt := 49) hF dX5_overlap_44 (by decide) (fun h44 => ?_) (fun h44 => ?_)
      · exact absurd h44 (by decide)
      · refine V.dconst0 hF dX5_overlap_47 ?_
        refine V.dret hF dX5_overlap_48 (Nat.le_refl _) (Nat.le_refl _) ?_
        exact pR.ed (by simp [n10, n20, *]) (by simp [th, *]) rfl
set_option maxRecDepth 20000 in
theorem ct_X5_append (hst : l.stackTraces = false) (σ : SH) (I X : IX) (o : Nat) (ar : Nat → Nat) (hM : MS σ o ar) (f : Rw) (hI : I o = f) (g : Rw) (hg : X (ar 5) = g) (n : Nat) (h6 : f 6 = nI n) (hn : n ≤ 60) (x : Int32) : Ct l D cy sa sv yX5_append cX5_append 2 (some .int) 1 0 0 [.ref o, .int x] σ I X (pR (some (.int (if zisIn x (nI 32) (nI 126) then (if n = 60 then nI 0 else nI (n + 1)) else nI 0))) σ (va_up I o (if zisIn x (nI 32) (nI 126) then (if n = 60 then th f (nI 2) else upd (th f (nI 0)) 6 (nI (n + 1))) else th f (nI 1))) (va_up X (ar 5) (if zisIn x (nI 32) (nI 126) && !decide (n = 60) then upd g n x else g))) noX := by
  refine Ct.of (by decide) hst (Nat.le_of_ble_eq_true rfl) ?_
  intro pp ee ss mm args below meth kc A hF hnm hout
  refine V.etaI o hI ?_
  refine V.etaX (ar 5) hg ?_
  refine V.aload_n hF dX5_append_0 rfl ?_
  refine V.iconst (v := nI 0) hF dX5_append_1 (by decide) ?_
  refine V.putIU hF dX5_append_2 fl_X5_38 hM.1.1 hM.1.2 rfl rfl rfl ?_
  refine V.iload_n hF dX5_append_5 rfl ?_
  refine V.bipush (v := nI 32) hF dX5_append_6 (by decide) ?_
  refine V.bipush (v := nI 126) hF dX5_append_8 (by decide) ?_
  refine V.sI hF dX5_append_10 (ct_X5_isIn hst _ _ _ _ _ _) lk_X5_41 (fit_of rfl) (Nat.le_of_ble_eq_true rfl) rfl ?_
  refine V.if_neB (tgt := 22) hF dX5_append_13 (by decide) (fun h13 => ?_) (fun h13 => ?_)
  · refine V.aload_n hF dX5_append_22 rfl ?_
    refine V.getIF hF dX5_append_23 fl_X5_123 hM.1.1 hM.1.2 rfl (va_up_self _ _ _) ?_
    refine V.topi (y := nI n) (by rw [upd_at, if_neg (by omega)]; exact h6) ?_
    refine V.bipush (v := nI 60) hF dX5_append_26 (by decide) ?_
    refine V.icmp_ne (tgt := 37) hF dX5_append_28 (by decide) (fun h28 => ?_) (fun h28 => ?_)
    · have hn6 : n ≠ 60 := fun q => h28 (by rw [q])
      refine V.aload_n hF dX5_append_37 rfl ?_
      refine V.getR hF dX5_append_38 fl_X5_19 hM.1.1 hM.1.2 rfl hM.m5.1 ?_
      refine V.aload_n hF dX5_append_41 rfl ?_
      refine V.getIF hF dX5_append_42 fl_X5_123 hM.1.1 hM.1.2 rfl (va_up_self _ _ _) ?_
      refine V.topi (y := nI n) (by rw [upd_at, if_neg (by omega)]; exact h6) ?_
      refine V.iload_n hF dX5_append_45 rfl ?_
      refine V.iastoreU (j := n) hF dX5_append_46 hM.m5.2.1 hM.m5.2.2.1 rfl (hM.m5.lt (by omega)) (hM.m5.sm (by decide)) ?_
      refine V.aload_n hF dX5_append_47 rfl ?_
      refine V.dup hF dX5_append_48 rfl ?_
      refine V.getIF hF dX5_append_49 fl_X5_123 hM.1.1 hM.1.2 rfl (va_up_self _ _ _) ?_
      refine V.topi (y := nI n) (by rw [upd_at, if_neg (by omega)]; exact h6) ?_
      refine V.iconst (v := nI 1) hF dX5_append_52 (by decide) ?_
      refine V.iadd hF dX5_append_53 ?_
      refine V.topi (y := nI (n + 1)) (nI_add _ _) ?_
      refine V.putIU hF dX5_append_54 fl_X5_123 hM.1.1 hM.1.2 rfl rfl rfl ?_
      refine V.aload_n hF dX5_append_57 rfl ?_
      refine V.getIF hF dX5_append_58 fl_X5_123 hM.1.1 hM.1.2 rfl (va_up_self _ _ _) ?_
      refine V.topi (y := nI (n + 1)) (by rw [upd_at, if_pos rfl]) ?_
      refine V.iret hF dX5_append_61 (Nat.le_refl _) (Nat.le_refl _) ?_
      exact pR.e (by simp [*]) (by simp [th_th, upd_upd, *]) (by simp [*])
    · have hn6 : n = 60 := nI_eq' h28 (by omega) (by omega)
      refine V.aload_n hF dX5_append_31 rfl ?_
      refine V.iconst (v := nI 2) hF dX5_append_32 (by decide) ?_
      refine V.vI hF dX5_append_33 (ct_X5_no hst _ _ _ _ _ hM _ (va_up_self _ _ _) _) lk_X5_59 sl_X5_no hM.1.1 hM.1.2 rfl (Nat.le_of_ble_eq_true rfl) (fit_of rfl) (Nat.le_of_ble_eq_true rfl) rfl ?_
      refine V.collI ?_
      refine V.iret hF dX5_append_36 (Nat.le_refl _) (Nat.le_refl _) ?_
      exact pR.e (by simp [*]) (by simp [th_th, upd_upd, *]) (by simp [*])
  · refine V.aload_n hF dX5_append_16 rfl ?_
    refine V.iconst (v := nI 1) hF dX5_append_17 (by decide) ?_
    refine V.vI hF dX5_append_18 (ct_X5_no hst _ _ _ _ _ hM _ (va_up_self _ _ _) _) lk_X5_59 sl_X5_no hM.1.1 hM.1.2 rfl (Nat.le_of_ble_eq_true rfl) (fit_of rfl) (Nat.le_of_ble_eq_true rfl) rfl ?_
    refine V.collI ?_
    refine V.iret hF dX5_append_21 (Nat.le_refl _) (Nat.le_refl _) ?_
    exact pR.e (by simp [*]) (by simp [th_th, upd_upd, *]) (by simp [*])
set_option maxRecDepth 20000 in
theorem ct_X5_here (hst : l.stackTraces = false) (σ : SH) (I X : IX) (o : Nat) (ar : Nat → Nat) (hM : MS σ o ar) (f : Rw) (hI : I o = f) (g : Rw) (hg : X (ar 5) = g) (n a : Nat) (h6 : f 6 = nI n) (h9 : f 9 = nI a) (hn : n ≤ 60) (ha : a ≤ 70) : Ct l D cy sa sv yX5_here cX5_here 1 (some .int) 0 0 0 [.ref o] σ I X (pR (some (.int (phe g n a))) σ I X) noX := by
  refine Ct.of (by decide) hst (Nat.le_of_ble_eq_true rfl) ?_
  intro pp ee ss mm args below meth kc A hF hnm hout
  refine V.aload_n hF dX5_here_0 rfl ?_
  refine V.getIF hF dX5_here_1 fl_X5_126 hM.1.1 hM.1.2 rfl hI ?_
  refine V.topi (y := nI a) h9 ?_
  refine V.aload_n hF dX5_here_4 rfl ?_
  refine V.getIF hF dX5_here_5 fl_X5_123 hM.1.1 hM.1.2 rfl hI ?_
  refine V.topi (y := nI n) h6 ?_
  refine V.icmp_ge (tgt := 23) hF dX5_here_8 (by decide) (fun h8 => ?_) (fun h8 => ?_)
  · have hna := nI_ge' h8 (by omega) (by omega)
    refine V.iconst (v := -1) hF dX5_here_23 (by decide) ?_
    refine V.iret hF dX5_here_24 (Nat.le_refl _) (Nat.le_refl _) ?_
    exact pR.i (by rw [phe, if_neg (by omega)])
  · have hna : a < n := nI_nge h8 (by omega) (by omega)
    refine V.aload_n hF dX5_here_11 rfl ?_
    refine V.getR hF dX5_here_12 fl_X5_19 hM.1.1 hM.1.2 rfl hM.m5.1 ?_
    refine V.aload_n hF dX5_here_15 rfl ?_
    refine V.getIF hF dX5_here_16 fl_X5_126 hM.1.1 hM.1.2 rfl hI ?_
    refine V.topi (y := nI a) h9 ?_
    refine V.ialoadF (j := a) hF dX5_here_19 hM.m5.2.1 hM.m5.2.2.1 rfl (hM.m5.lt (by omega)) (hM.m5.sm (by decide)) hg ?_
    refine V.goto (tgt := 24) hF dX5_here_20 (by decide) ?_
    refine V.iret hF dX5_here_24 (Nat.le_refl _) (Nat.le_refl _) ?_
    exact pR.i (by rw [phe, if_pos hna])
set_option maxRecDepth 20000 in
theorem ct_X5_digit (hst : l.stackTraces = false) (σ : SH) (I X : IX) (o : Nat) (ar : Nat → Nat) (hM : MS σ o ar) (f : Rw) (g : Rw) (hg : X (ar 5) = g) (n a : Nat) (h6 : f 6 = nI n) (hn : n ≤ 60) (ha : a ≤ 70) (x : Int32) : Ct l D cy sa sv yX5_digit cX5_digit 3 (some .int) 1 0 0 [.ref o, .int x] σ (va_up I o (zf f a 0)) X (pR (some (.int (pd g n a))) σ (va_up I o (zf f (a + bN (zisIn (pd g n a) (nI 0) x)) (bN (!(zisIn (pd g n a) (nI 0) x))))) X) noX := by
  refine Ct.of (by decide) hst (Nat.le_of_ble_eq_true rfl) ?_
  intro pp ee ss mm args below meth kc A hF hnm hout
  refine V.aload_n hF dX5_digit_0 rfl ?_
  refine V.vI hF dX5_digit_1 (ct_X5_here hst _ _ _ _ _ hM _ (va_up_self _ _ _) _ hg _ _ ((zf_o _ _ _ (by decide) (by decide)).trans h6) (zf_9 _ _ _) hn (by omega)) lk_X5_129 sl_X5_here hM.1.1 hM.1.2 rfl (Nat.le_of_ble_eq_true rfl) (fit_of rfl) (Nat.le_of_ble_eq_true rfl) rfl ?_
  refine V.bipush (v := nI 48) hF dX5_digit_4 (by decide) ?_
  refine V.isub hF dX5_digit_6 ?_
  refine V.istore_n hF dX5_digit_7 (by decide) ?_
  refine V.aload_n hF dX5_digit_8 rfl ?_
  refine V.dup hF dX5_digit_9 rfl ?_
  refine V.getIF hF dX5_digit_10 fl_X5_132 hM.1.1 hM.1.2 rfl (va_up_self _ _ _) ?_
  refine V.topi (y := nI 0) (zf_10 _ _ _) ?_
  refine V.iload_n hF dX5_digit_13 rfl ?_
  refine V.iconst (v := nI 0) hF dX5_digit_14 (by decide) ?_
  refine V.iload_n hF dX5_digit_15 rfl ?_
  refine V.sI hF dX5_digit_16 (ct_X5_isIn hst _ _ _ _ _ _) lk_X5_41 (fit_of rfl) (Nat.le_of_ble_eq_true rfl) rfl ?_
  refine V.if_neB (tgt := 26) hF dX5_digit_19 (by decide) (fun h19 => ?_) (fun h19 => ?_)
  · refine V.iconst (v := nI 0) hF dX5_digit_26 (by decide) ?_
    refine V.ior hF dX5_digit_27 ?_
    refine V.topi (y := nI 0) (by decide) ?_
    refine V.putIU hF dX5_digit_28 fl_X5_132 hM.1.1 hM.1.2 rfl rfl rfl ?_
    refine V.eqI (congrArg (va_up I o) (zf_u10 _ _ _ _)) ?_
    refine V.aload_n hF dX5_digit_31 rfl ?_
    refine V.dup hF dX5_digit_32 rfl ?_
    refine V.getIF hF dX5_digit_33 fl_X5_126 hM.1.1 hM.1.2 rfl (va_up_self _ _ _) ?_
    refine V.topi (y := nI a) (zf_9 _ _ _) ?_
    refine V.aload_n hF dX5_digit_36 rfl ?_
    refine V.getIF hF dX5_digit_37 fl_X5_132 hM.1.1 hM.1.2 rfl (va_up_self _ _ _) ?_
    refine V.topi (y := nI 0) (zf_10 _ _ _) ?_
    refine V.if_eq (tgt := 47) hF dX5_digit_40 (by decide) (fun h40 => ?_) (fun h40 => ?_)
    · refine V.iconst (v := nI 1) hF dX5_digit_47 (by decide) ?_
      refine V.iadd hF dX5_digit_48 ?_
      refine V.topi (y := nI (a + 1)) (nI_add _ _) ?_
      refine V.putIU hF dX5_digit_49 fl_X5_126 hM.1.1 hM.1.2 rfl rfl rfl ?_
      refine V.eqI (congrArg (va_up I o) (zf_u9 _ _ _ _)) ?_
      refine V.iload_n hF dX5_digit_52 rfl ?_
      refine V.iret hF dX5_digit_53 (Nat.le_refl _) (Nat.le_refl _) ?_
      exact pR.e rfl (by first | (rw [show zisIn (pd g n a) (nI 0) x = true from h19]; rfl) | (rw [show zisIn (pd g n a) (nI 0) x = false from h19]; rfl)) rfl
    · exact (h40 (by decide)).elim
  · refine V.iconst (v := nI 1) hF dX5_digit_22 (by decide) ?_
    refine V.goto (tgt := 27) hF dX5_digit_23 (by decide) ?_
    refine V.ior hF dX5_digit_27 ?_
    refine V.topi (y := nI 1) (by decide) ?_
    refine V.putIU hF dX5_digit_28 fl_X5_132 hM.1.1 hM.1.2 rfl rfl rfl ?_
    refine V.eqI (congrArg (va_up I o) (zf_u10 _ _ _ _)) ?_
    refine V.aload_n hF dX5_digit_31 rfl ?_
    refine V.dup hF dX5_digit_32 rfl ?_
    refine V.getIF hF dX5_digit_33 fl_X5_126 hM.1.1 hM.1.2 rfl (va_up_self _ _ _) ?_
    refine V.topi (y := nI a) (zf_9 _ _ _) ?_
    refine V.aload_n hF dX5_digit_36 rfl ?_
    refine V.getIF hF dX5_digit_37 fl_X5_132 hM.1.1 hM.1.2 rfl (va_up_self _ _ _) ?_
    refine V.topi (y := nI 1) (zf_10 _ _ _) ?_
    refine V.if_eq (tgt := 47) hF dX5_digit_40 (by decide) (fun h40 => ?_) (fun h40 => ?_)
    · exact absurd h40 (by decide)
    · refine V.iconst (v := nI 0) hF dX5_digit_43 (by decide) ?_
      refine V.goto (tgt := 48) hF dX5_digit_44 (by decide) ?_
      refine V.iadd hF dX5_digit_48 ?_
      refine V.topi (y := nI (a + 0)) (nI_add _ _) ?_
      refine V.putIU hF dX5_digit_49 fl_X5_126 hM.1.1 hM.1.2 rfl rfl rfl ?_
      refine V.eqI (congrArg (va_up I o) (zf_u9 _ _ _ _)) ?_
      refine V.iload_n hF dX5_digit_52 rfl ?_
      refine V.iret hF dX5_digit_53 (Nat.le_refl _) (Nat.le_refl _) ?_
      exact pR.e rfl (by first | (rw [show zisIn (pd g n a) (nI 0) x = true from h19]; rfl) | (rw [show zisIn (pd g n a) (nI 0) x = false from h19]; rfl)) rfl
set_option maxRecDepth 20000 in
theorem ct_X5_sign (hst : l.stackTraces = false) (σ : SH) (I X : IX) (o : Nat) (ar : Nat → Nat) (hM : MS σ o ar) (f : Rw) (g : Rw) (hg : X (ar 5) = g) (n a : Nat) (h6 : f 6 = nI n) (hn : n ≤ 60) (ha : a ≤ 70) (x : Int32) : Ct l D cy sa sv yX5_sign cX5_sign 2 none 1 0 0 [.ref o, .int x] σ (va_up I o (zf f a 0)) X (pR none σ (va_up I o (zf f (a + bN (decide (phe g n a = x))) (bN (!(decide (phe g n a = x)))))) X) noX := by
  refine Ct.of (by decide) hst (Nat.le_of_ble_eq_true rfl) ?_
  intro pp ee ss mm args below meth kc A hF hnm hout
  refine V.aload_n hF dX5_sign_0 rfl ?_
  refine V.dup hF dX5_sign_1 rfl ?_
  refine V.getIF hF dX5_sign_2 fl_X5_132 hM.1.1 hM.1.2 rfl (va_up_self _ _ _) ?_
  refine V.topi (y := nI 0) (zf_10 _ _ _) ?_
  refine V.aload_n hF dX5_sign_5 rfl ?_
  refine V.vI hF dX5_sign_6 (ct_X5_here hst _ _ _ _ _ hM _ (va_up_self _ _ _) _ hg _ _ ((zf_o _ _ _ (by decide) (by decide)).trans h6) (zf_9 _ _ _) hn (by omega)) lk_X5_129 sl_X5_here hM.1.1 hM.1.2 rfl (Nat.le_of_ble_eq_true rfl) (fit_of rfl) (Nat.le_of_ble_eq_true rfl) rfl ?_
  refine V.iload_n hF dX5_sign_9 rfl ?_
  refine V.icmp_eq (tgt := 17) hF dX5_sign_10 (by decide) (fun h10 => ?_) (fun h10 => ?_)
  · refine V.iconst (v := nI 0) hF dX5_sign_17 (by decide) ?_
    refine V.ior hF dX5_sign_18 ?_
    refine V.topi (y := nI 0) (by decide) ?_
    refine V.putIU hF dX5_sign_19 fl_X5_132 hM.1.1 hM.1.2 rfl rfl rfl ?_
    refine V.eqI (congrArg (va_up I o) (zf_u10 _ _ _ _)) ?_
    refine V.aload_n hF dX5_sign_22 rfl ?_
    refine V.dup hF dX5_sign_23 rfl ?_
    refine V.getIF hF dX5_sign_24 fl_X5_126 hM.1.1 hM.1.2 rfl (va_up_self _ _ _) ?_
    refine V.topi (y := nI a) (zf_9 _ _ _) ?_
    refine V.aload_n hF dX5_sign_27 rfl ?_
    refine V.getIF hF dX5_sign_28 fl_X5_132 hM.1.1 hM.1.2 rfl (va_up_self _ _ _) ?_
    refine V.topi (y := nI 0) (zf_10 _ _ _) ?_
    refine V.if_eq (tgt := 38) hF dX5_sign_31 (by decide) (fun h31 => ?_) (fun h31 => ?_)
    · refine V.iconst (v := nI 1) hF dX5_sign_38 (by decide) ?_
      refine V.iadd hF dX5_sign_39 ?_
      refine V.topi (y := nI (a + 1)) (nI_add _ _) ?_
      refine V.putIU hF dX5_sign_40 fl_X5_126 hM.1.1 hM.1.2 rfl rfl rfl ?_
      refine V.eqI (congrArg (va_up I o) (zf_u9 _ _ _ _)) ?_
      refine V.vret hF dX5_sign_43 (Nat.le_refl _) (Nat.le_refl _) ?_
      exact pR.ve (by first | (rw [decide_eq_true h10]; rfl) | (rw [decide_eq_false h10]; rfl)) rfl
    · exact (h31 (by decide)).elim
  · refine V.iconst (v := nI 1) hF dX5_sign_13 (by decide) ?_
    refine V.goto (tgt := 18) hF dX5_sign_14 (by decide) ?_
    refine V.ior hF dX5_sign_18 ?_
    refine V.topi (y := nI 1) (by decide) ?_
    refine V.putIU hF dX5_sign_19 fl_X5_132 hM.1.1 hM.1.2 rfl rfl rfl ?_
    refine V.eqI (congrArg (va_up I o) (zf_u10 _ _ _ _)) ?_
    refine V.aload_n hF dX5_sign_22 rfl ?_
    refine V.dup hF dX5_sign_23 rfl ?_
    refine V.getIF hF dX5_sign_24 fl_X5_126 hM.1.1 hM.1.2 rfl (va_up_self _ _ _) ?_
    refine V.topi (y := nI a) (zf_9 _ _ _) ?_
    refine V.aload_n hF dX5_sign_27 rfl ?_
    refine V.getIF hF dX5_sign_28 fl_X5_132 hM.1.1 hM.1.2 rfl (va_up_self _ _ _) ?_
    refine V.topi (y := nI 1) (zf_10 _ _ _) ?_
    refine V.if_eq (tgt := 38) hF dX5_sign_31 (by decide) (fun h31 => ?_) (fun h31 => ?_)
    · exact absurd h31 (by decide)
    · refine V.iconst (v := nI 0) hF dX5_sign_34 (by decide) ?_
      refine V.goto (tgt := 39) hF dX5_sign_35 (by decide) ?_
      refine V.iadd hF dX5_sign_39 ?_
      refine V.topi (y := nI (a + 0)) (nI_add _ _) ?_
      refine V.putIU hF dX5_sign_40 fl_X5_126 hM.1.1 hM.1.2 rfl rfl rfl ?_
      refine V.eqI (congrArg (va_up I o) (zf_u9 _ _ _ _)) ?_
      refine V.vret hF dX5_sign_43 (Nat.le_refl _) (Nat.le_refl _) ?_
      exact pR.ve (by first | (rw [decide_eq_true h10]; rfl) | (rw [decide_eq_false h10]; rfl)) rfl
set_option maxRecDepth 20000 in
theorem ct_X5_number (hst : l.stackTraces = false) (σ : SH) (I X : IX) (o : Nat) (ar : Nat → Nat) (hM : MS σ o ar) (f : Rw) (g : Rw) (hg : X (ar 5) = g) (n a : Nat) (h6 : f 6 = nI n) (hn : n ≤ 60) (ha : a ≤ 66) : Ct l D cy sa sv yX5_number cX5_number 3 (some .int) 2 0 0 [.ref o] σ (va_up I o (zf f a 0)) X (pR (some (.int (if pdg g n a then pnum g n a else pd g n a))) σ (va_up I o (zf f (a + pcn g n a) (bN (!pdg g n a)))) X) noX := by
  refine Ct.of (by decide) hst (Nat.le_of_ble_eq_true rfl) ?_
  intro pp ee ss mm args below meth kc A hF hnm hout
  refine V.aload_n hF dX5_number_0 rfl ?_
  refine V.getIF hF dX5_number_1 fl_X5_132 hM.1.1 hM.1.2 rfl (va_up_self _ _ _) ?_
  refine V.topi (y := nI 0) (zf_10 _ _ _) ?_
  refine V.if_eq (tgt := 11) hF dX5_number_4 (by decide) (fun h4 => ?_) (fun h4 => ?_)
  · refine V.aload_n hF dX5_number_11 rfl ?_
    refine V.bipush (v := nI 9) hF dX5_number_12 (by decide) ?_
    refine V.vI hF dX5_number_14 (ct_X5_digit hst _ _ _ _ _ hM f _ hg n a h6 hn (by omega) _) lk_X5_136 sl_X5_digit hM.1.1 hM.1.2 rfl (Nat.le_of_ble_eq_true rfl) (fit_of rfl) (Nat.le_of_ble_eq_true rfl) rfl ?_
    refine V.istore_n hF dX5_number_17 (by decide) ?_
    refine V.iconst (v := nI 1) hF dX5_number_18 (by decide) ?_
    refine V.istore_n hF dX5_number_19 (by decide) ?_
    refine V.iload_n hF dX5_number_20 rfl ?_
    refine V.iconst (v := nI 3) hF dX5_number_21 (by decide) ?_
    refine V.icmp_ge (tgt := 64) hF dX5_number_22 (by decide) (fun h22 => ?_) (fun h22 => ?_)
    · exact absurd h22 (by decide)
    · refine V.aload_n hF dX5_number_25 rfl ?_
      refine V.getIF hF dX5_number_26 fl_X5_132 hM.1.1 hM.1.2 rfl (va_up_self _ _ _) ?_
      refine V.topi (y := nI (bN (!(zisIn (pd g n a) (nI 0) (nI 9))))) (zf_10 _ _ _) ?_
      refine V.if_ne (tgt := 64) hF dX5_number_29 (by decide) (fun h29 => ?_) (fun h29 => ?_)
      · have hk := bN_0 h29
        refine V.eqI (congrArg (va_up I o) (zf_f hk)) ?_
        have hn0 : pdg g n a = false := by rw [pdg, ← pdg_9]; exact hk
        refine V.iload_n hF dX5_number_64 rfl ?_
        refine V.iret hF dX5_number_65 (Nat.le_refl _) (Nat.le_refl _) ?_
        exact pR.e (by simp [hn0]) (by simp [hn0, pcn, bN]) rfl
      · have hk := bN_1 h29
        refine V.eqI (I' := va_up I o (zf f (a + 1) 0)) (congrArg (va_up I o) (zf_t hk)) ?_
        have hd0 : pdg g n a = true := by rw [pdg, ← pdg_9]; exact hk
        refine V.aload_n hF dX5_number_32 rfl ?_
        refine V.vI hF dX5_number_33 (ct_X5_here hst _ _ _ _ _ hM _ (va_up_self _ _ _) _ hg _ _ ((zf_o _ _ _ (by decide) (by decide)).trans h6) (zf_9 _ _ _) hn (by omega)) lk_X5_129 sl_X5_here hM.1.1 hM.1.2 rfl (Nat.le_of_ble_eq_true rfl) (fit_of rfl) (Nat.le_of_ble_eq_true rfl) rfl ?_
        refine V.bipush (v := nI 48) hF dX5_number_36 (by decide) ?_
        refine V.bipush (v := nI 57) hF dX5_number_38 (by decide) ?_
        refine V.sI hF dX5_number_40 (ct_X5_isIn hst _ _ _ _ _ _) lk_X5_41 (fit_of rfl) (Nat.le_of_ble_eq_true rfl) rfl ?_
        refine V.if_eqB (tgt := 64) hF dX5_number_43 (by decide) (fun h43 => ?_) (fun h43 => ?_)
        · have hd1 : pdg g n (a + 1) = false := h43
          refine V.iload_n hF dX5_number_64 rfl ?_
          refine V.iret hF dX5_number_65 (Nat.le_refl _) (Nat.le_refl _) ?_
          exact pR.e (by simp [hd0, hd1, pnum, pcn, pnm]) (by simp [hd0, hd1, pcn, bN]) rfl
        · have hd1 : pdg g n (a + 1) = true := h43
          refine V.bipush (v := nI 10) hF dX5_number_46 (by decide) ?_
          refine V.iload_n hF dX5_number_48 rfl ?_
          refine V.imul hF dX5_number_49 ?_
          refine V.aload_n hF dX5_number_50 rfl ?_
          refine V.bipush (v := nI 9) hF dX5_number_51 (by decide) ?_
          refine V.vI hF dX5_number_53 (ct_X5_digit hst _ _ _ _ _ hM f _ hg n (a + 1) h6 hn (by omega) _) lk_X5_136 sl_X5_digit hM.1.1 hM.1.2 rfl (Nat.le_of_ble_eq_true rfl) (fit_of rfl) (Nat.le_of_ble_eq_true rfl) rfl ?_
          refine V.iadd hF dX5_number_56 ?_
          refine V.istore_n hF dX5_number_57 (by decide) ?_
          refine V.iinc (v := nI 2) hF dX5_number_58 rfl (by decide) (by decide) ?_
          refine V.goto (tgt := 20) hF dX5_number_61 (by decide) ?_
          refine V.iload_n hF dX5_number_20 rfl ?_
          refine V.iconst (v := nI 3) hF dX5_number_21 (by decide) ?_
          refine V.icmp_ge (tgt := 64) hF dX5_number_22 (by decide) (fun h22 => ?_) (fun h22 => ?_)
          · exact absurd h22 (by decide)
          · refine V.aload_n hF dX5_number_25 rfl ?_
            refine V.getIF hF dX5_number_26 fl_X5_132 hM.1.1 hM.1.2 rfl (va_up_self _ _ _) ?_
            refine V.topi (y := nI (bN (!(zisIn (pd g n (a + 1)) (nI 0) (nI 9))))) (zf_10 _ _ _) ?_
            refine V.if_ne (tgt := 64) hF dX5_number_29 (by decide) (fun h29 => ?_) (fun h29 => ?_)
            · exact absurd ((bN_0 h29).symm.trans (show zisIn (pd g n (a + 1)) (nI 0) (nI 9) = true by rw [pd, pdg_9]; exact hd1)) (by decide)
            · have hk := bN_1 h29
              refine V.eqI (I' := va_up I o (zf f (a + 2) 0)) (congrArg (va_up I o) (zf_t hk)) ?_
              refine V.aload_n hF dX5_number_32 rfl ?_
              refine V.vI hF dX5_number_33 (ct_X5_here hst _ _ _ _ _ hM _ (va_up_self _ _ _) _ hg _ _ ((zf_o _ _ _ (by decide) (by decide)).trans h6) (zf_9 _ _ _) hn (by omega)) lk_X5_129 sl_X5_here hM.1.1 hM.1.2 rfl (Nat.le_of_ble_eq_true rfl) (fit_of rfl) (Nat.le_of_ble_eq_true rfl) rfl ?_
              refine V.bipush (v := nI 48) hF dX5_number_36 (by decide) ?_
              refine V.bipush (v := nI 57) hF dX5_number_38 (by decide) ?_
              refine V.sI hF dX5_number_40 (ct_X5_isIn hst _ _ _ _ _ _) lk_X5_41 (fit_of rfl) (Nat.le_of_ble_eq_true rfl) rfl ?_
              refine V.if_eqB (tgt := 64) hF dX5_number_43 (by decide) (fun h43 => ?_) (fun h43 => ?_)
              · have hd2 : pdg g n (a + 2) = false := h43
                refine V.iload_n hF dX5_number_64 rfl ?_
                refine V.iret hF dX5_number_65 (Nat.le_refl _) (Nat.le_refl _) ?_
                exact pR.e (by simp [hd0, hd1, hd2, pnum, pcn, pnm]) (by simp [hd0, hd1, hd2, pcn, bN]) rfl
              · have hd2 : pdg g n (a + 2) = true := h43
                refine V.bipush (v := nI 10) hF dX5_number_46 (by decide) ?_
                refine V.iload_n hF dX5_number_48 rfl ?_
                refine V.imul hF dX5_number_49 ?_
                refine V.aload_n hF dX5_number_50 rfl ?_
                refine V.bipush (v := nI 9) hF dX5_number_51 (by decide) ?_
                refine V.vI hF dX5_number_53 (ct_X5_digit hst _ _ _ _ _ hM f _ hg n (a + 2) h6 hn (by omega) _) lk_X5_136 sl_X5_digit hM.1.1 hM.1.2 rfl (Nat.le_of_ble_eq_true rfl) (fit_of rfl) (Nat.le_of_ble_eq_true rfl) rfl ?_
                refine V.iadd hF dX5_number_56 ?_
                refine V.istore_n hF dX5_number_57 (by decide) ?_
                refine V.iinc (v := nI 3) hF dX5_number_58 rfl (by decide) (by decide) ?_
                refine V.goto (tgt := 20) hF dX5_number_61 (by decide) ?_
                refine V.iload_n hF dX5_number_20 rfl ?_
                refine V.iconst (v := nI 3) hF dX5_number_21 (by decide) ?_
                refine V.icmp_ge (tgt := 64) hF dX5_number_22 (by decide) (fun h22 => ?_) (fun h22 => ?_)
                · refine V.iload_n hF dX5_number_64 rfl ?_
                  refine V.iret hF dX5_number_65 (Nat.le_refl _) (Nat.le_refl _) ?_
                  have hk3 : zisIn (pd g n (a + 2)) (nI 0) (nI 9) = true := by rw [pd, pdg_9]; exact hd2
                  exact pR.e (by simp [hd0, hd1, hd2, pnum, pcn, pnm]) (by simp [hd0, hd1, hd2, hk3, pcn, bN]) rfl
                · exact absurd h22 (by decide)
  · exact (h4 (by decide)).elim
set_option maxRecDepth 20000 in
theorem ct_X5_saveSnapshot (hst : l.stackTraces = false) (σ : SH) (I X : IX) (o : Nat) (ar : Nat → Nat) (hM : MS σ o ar) (f : Rw) (hI : I o = f) (v : Rw) (hX : X (ar 1) = v) (kp : Rw) (hk2 : X (ar 2) = kp) : Ct l D cy sa sv yX5_saveSnapshot cX5_saveSnapshot 1 (some .int) 1 0 0 [.ref o] σ I X (pR (some (.int (v 44))) σ (va_up I o (upd (th f (nI 0)) 4 (nI 1))) (va_up X (ar 2) (ycy v kp 4486))) noX := by
  refine Ct.of (by decide) hst (Nat.le_of_ble_eq_true rfl) ?_
  intro pp ee ss mm args below meth kc A hF hnm hout
  refine V.etaI o hI ?_
  refine V.aload_n hF dX5_saveSnapshot_0 rfl ?_
  refine V.iconst (v := nI 0) hF dX5_saveSnapshot_1 (by decide) ?_
  refine V.putIU hF dX5_saveSnapshot_2 fl_X5_38 hM.1.1 hM.1.2 rfl rfl rfl ?_
  refine V.aload_n hF dX5_saveSnapshot_5 rfl ?_
  refine V.getR hF dX5_saveSnapshot_6 fl_X5_9 hM.1.1 hM.1.2 rfl hM.m1.1 ?_
  refine V.aload_n hF dX5_saveSnapshot_9 rfl ?_
  refine V.getR hF dX5_saveSnapshot_10 fl_X5_13 hM.1.1 hM.1.2 rfl hM.m2.1 ?_
  refine V.sV hF dX5_saveSnapshot_13 (ct_X5_copies hst _ _ _ _ _ hM.m1.2.1 hM.m1.2.2.1 hM.m1.2.2.2 hM.m2.2.1 hM.m2.2.2.1 hM.m2.2.2.2 (hM.ne 1 2 (by decide) (by decide) (by decide)) _ _ hX hk2) lk_X5_167 (fit_of rfl) (Nat.le_of_ble_eq_true rfl) rfl ?_
  refine V.aload_n hF dX5_saveSnapshot_16 rfl ?_
  refine V.iconst (v := nI 1) hF dX5_saveSnapshot_17 (by decide) ?_
  refine V.putIU hF dX5_saveSnapshot_18 fl_X5_174 hM.1.1 hM.1.2 rfl rfl rfl ?_
  refine V.aload_n hF dX5_saveSnapshot_21 rfl ?_
  refine V.getR hF dX5_saveSnapshot_22 fl_X5_9 hM.1.1 hM.1.2 rfl hM.m1.1 ?_
  refine V.bipush (v := nI 44) hF dX5_saveSnapshot_25 (by decide) ?_
  refine V.ialoadF (j := 44) hF dX5_saveSnapshot_27 hM.m1.2.1 hM.m1.2.2.1 rfl (hM.m1.lt (lt_of rfl)) (hM.m1.sm (by decide)) ((va_up_ne _ _ (hM.ne 1 2 (by decide) (by decide) (by decide))).trans hX) ?_
  refine V.iret hF dX5_saveSnapshot_28 (Nat.le_refl _) (Nat.le_refl _) ?_
  exact pR.i rfl
set_option maxRecDepth 20000 in
theorem ct_X5_restoreSnapshot (hst : l.stackTraces = false) (σ : SH) (I X : IX) (o : Nat) (ar : Nat → Nat) (hM : MS σ o ar) (f : Rw) (hI : I o = f) (v : Rw) (hX : X (ar 1) = v) (kp : Rw) (hk2 : X (ar 2) = kp) (b : Bool) (h4 : f 4 = bI b) : Ct l D cy sa sv yX5_restoreSnapshot cX5_restoreSnapshot 1 (some .int) 1 0 0 [.ref o] σ I X (pR (some (.int (if b then ycy kp v 4486 44 else nI 0))) σ (va_up I o (th f (if b then nI 0 else nI 1))) (if b then va_up X (ar 1) (ycy kp v 4486) else X)) noX := by
  refine Ct.of (by decide) hst (Nat.le_of_ble_eq_true rfl) ?_
  intro pp ee ss mm args below meth kc A hF hnm hout
  refine V.etaI o hI ?_
  refine V.aload_n hF dX5_restoreSnapshot_0 rfl ?_
  refine V.aload_n hF dX5_restoreSnapshot_1 rfl ?_
  refine V.getIF hF dX5_restoreSnapshot_2 fl_X5_174 hM.1.1 hM.1.2 rfl (va_up_self _ _ _) ?_
  refine V.topi (y := bI b) h4 ?_
  refine V.if_eqB (tgt := 12) hF dX5_restoreSnapshot_5 (by decide) (fun h5 => ?_) (fun h5 => ?_)
  · refine V.iconst (v := nI 1) hF dX5_restoreSnapshot_12 (by decide) ?_
    refine V.putIU hF dX5_restoreSnapshot_13 fl_X5_38 hM.1.1 hM.1.2 rfl rfl rfl ?_
    refine V.aload_n hF dX5_restoreSnapshot_16 rfl ?_
    refine V.getIF hF dX5_restoreSnapshot_17 fl_X5_174 hM.1.1 hM.1.2 rfl (va_up_self _ _ _) ?_
    refine V.topi (y := bI b) (by rw [upd_at, if_neg (by omega)]; exact h4) ?_
    refine V.if_neB (tgt := 25) hF dX5_restoreSnapshot_20 (by decide) (fun h20 => ?_) (fun h20 => ?_)
    · exact absurd (h20.symm.trans h5) (by decide)
    · refine V.iconst (v := nI 0) hF dX5_restoreSnapshot_23 (by decide) ?_
      refine V.iret hF dX5_restoreSnapshot_24 (Nat.le_refl _) (Nat.le_refl _) ?_
      exact pR.e (by simp [*]) (by simp [*]) (by simp [*])
  · refine V.iconst (v := nI 0) hF dX5_restoreSnapshot_8 (by decide) ?_
    refine V.goto (tgt := 13) hF dX5_restoreSnapshot_9 (by decide) ?_
    refine V.putIU hF dX5_restoreSnapshot_13 fl_X5_38 hM.1.1 hM.1.2 rfl rfl rfl ?_
    refine V.aload_n hF dX5_restoreSnapshot_16 rfl ?_
    refine V.getIF hF dX5_restoreSnapshot_17 fl_X5_174 hM.1.1 hM.1.2 rfl (va_up_self _ _ _) ?_
    refine V.topi (y := bI b) (by rw [upd_at, if_neg (by omega)]; exact h4) ?_
    refine V.if_neB (tgt := 25) hF dX5_restoreSnapshot_20 (by decide) (fun h20 => ?_) (fun h20 => ?_)
    · refine V.aload_n hF dX5_restoreSnapshot_25 rfl ?_
      refine V.getR hF dX5_restoreSnapshot_26 fl_X5_13 hM.1.1 hM.1.2 rfl hM.m2.1 ?_
      refine V.aload_n hF dX5_restoreSnapshot_29 rfl ?_
      refine V.getR hF dX5_restoreSnapshot_30 fl_X5_9 hM.1.1 hM.1.2 rfl hM.m1.1 ?_
      refine V.sV hF dX5_restoreSnapshot_33 (ct_X5_copies hst _ _ _ _ _ hM.m2.2.1 hM.m2.2.2.1 hM.m2.2.2.2 hM.m1.2.1 hM.m1.2.2.1 hM.m1.2.2.2 (hM.ne 2 1 (by decide) (by decide) (by decide)) _ _ hk2 hX) lk_X5_167 (fit_of rfl) (Nat.le_of_ble_eq_true rfl) rfl ?_
      refine V.aload_n hF dX5_restoreSnapshot_36 rfl ?_
      refine V.getR hF dX5_restoreSnapshot_37 fl_X5_9 hM.1.1 hM.1.2 rfl hM.m1.1 ?_
      refine V.bipush (v := nI 44) hF dX5_restoreSnapshot_40 (by decide) ?_
      refine V.ialoadF (j := 44) hF dX5_restoreSnapshot_42 hM.m1.2.1 hM.m1.2.2.1 rfl (hM.m1.lt (lt_of rfl)) (hM.m1.sm (by decide)) (va_up_self _ _ _) ?_
      refine V.iret hF dX5_restoreSnapshot_43 (Nat.le_refl _) (Nat.le_refl _) ?_
      exact pR.e (by simp [*]) (by simp [*]) (by simp [*])
    · exact absurd (h20.symm.trans h5) (by decide)
set_option maxRecDepth 20000 in
theorem ct_X5_errorPosition (hst : l.stackTraces = false) (σ : SH) (I X : IX) (o : Nat) (ar : Nat → Nat) (hM : MS σ o ar) (f : Rw) (hI : I o = f) : Ct l D cy sa sv yX5_errorPosition cX5_errorPosition 1 (some .int) 0 0 0 [.ref o] σ I X (pR (some (.int (if f 7 < 0 then nI 0 else f 7))) σ (va_up I o (th f (if f 7 < 0 then nI 1 else nI 0))) X) noX := by
  refine Ct.of (by decide) hst (Nat.le_of_ble_eq_true rfl) ?_
  intro pp ee ss mm args below meth kc A hF hnm hout
  refine V.etaI o hI ?_
  refine V.aload_n hF dX5_errorPosition_0 rfl ?_
  refine V.aload_n hF dX5_errorPosition_1 rfl ?_
  refine V.getIF hF dX5_errorPosition_2 fl_X5_22 hM.1.1 hM.1.2 rfl (va_up_self _ _ _) ?_
  refine V.if_ge (tgt := 12) hF dX5_errorPosition_5 (by decide) (fun h5 => ?_) (fun h5 => ?_)
  · have hp := le_nlt h5
    refine V.iconst (v := nI 0) hF dX5_errorPosition_12 (by decide) ?_
    refine V.putIU hF dX5_errorPosition_13 fl_X5_38 hM.1.1 hM.1.2 rfl rfl rfl ?_
    refine V.aload_n hF dX5_errorPosition_16 rfl ?_
    refine V.getIF hF dX5_errorPosition_17 fl_X5_22 hM.1.1 hM.1.2 rfl (va_up_self _ _ _) ?_
    refine V.topi (y := f 7) (by rw [upd_at, if_neg (by omega)]) ?_
    refine V.if_ge (tgt := 27) hF dX5_errorPosition_20 (by decide) (fun h20 => ?_) (fun h20 => ?_)
    · refine V.aload_n hF dX5_errorPosition_27 rfl ?_
      refine V.getIF hF dX5_errorPosition_28 fl_X5_22 hM.1.1 hM.1.2 rfl (va_up_self _ _ _) ?_
      refine V.topi (y := f 7) (by rw [upd_at, if_neg (by omega)]) ?_
      refine V.iret hF dX5_errorPosition_31 (Nat.le_refl _) (Nat.le_refl _) ?_
      exact pR.e (by simp [*]) (by simp [*]) rfl
    · exact absurd h5 h20
  · have hp := nle_lt h5
    refine V.iconst (v := nI 1) hF dX5_errorPosition_8 (by decide) ?_
    refine V.goto (tgt := 13) hF dX5_errorPosition_9 (by decide) ?_
    refine V.putIU hF dX5_errorPosition_13 fl_X5_38 hM.1.1 hM.1.2 rfl rfl rfl ?_
    refine V.aload_n hF dX5_errorPosition_16 rfl ?_
    refine V.getIF hF dX5_errorPosition_17 fl_X5_22 hM.1.1 hM.1.2 rfl (va_up_self _ _ _) ?_
    refine V.topi (y := f 7) (by rw [upd_at, if_neg (by omega)]) ?_
    refine V.if_ge (tgt := 27) hF dX5_errorPosition_20 (by decide) (fun h20 => ?_) (fun h20 => ?_)
    · exact absurd h20 h5
    · refine V.iconst (v := nI 0) hF dX5_errorPosition_23 (by decide) ?_
      refine V.goto (tgt := 31) hF dX5_errorPosition_24 (by decide) ?_
      refine V.iret hF dX5_errorPosition_31 (Nat.le_refl _) (Nat.le_refl _) ?_
      exact pR.e (by simp [*]) (by simp [*]) rfl
set_option maxRecDepth 20000 in
theorem ct_X5_event_98 (hst : l.stackTraces = false) (σ : SH) (I X : IX) (o : Nat) (ar : Nat → Nat) (hM : MS σ o ar) (f : Rw) (g : Rw) (hg : X (ar 5) = g) (n a : Nat) (h6 : f 6 = nI n) (hn : n ≤ 60) (ha : a ≤ 60) (gk gf gs : Rw) (e : Nat) (he : e < 60) (hc : phe g n a = nI 98) : Ct l D cy sa sv yX5_event cX5_event 5 none 3 0 0 [.ref o, .int (nI e)] σ (va_up I o (zf f a 0)) (N3 X (ar 11) (ar 12) (ar 13) gk gf gs) (fun v' σ' I' X' => v' = none ∧ σ' = σ ∧ I' = va_up I o (zf f (pevA g n a).2 (bN (!(pevA g n a).1))) ∧ ∃ gk' gf' gs' : Rw, X' = N3 X (ar 11) (ar 12) (ar 13) gk' gf' gs' ∧ Evt g n a e gk gf gs gk' gf' gs') noX := by
  refine Ct.of (by decide) hst (Nat.le_of_ble_eq_true rfl) ?_
  intro pp ee ss mm args below meth kc A hF hnm hout
  refine V.aload_n hF dX5_event_0 rfl ?_
  refine V.vI hF dX5_event_1 (ct_X5_here hst _ _ _ _ _ hM _ (va_up_self _ _ _) _ (N3_o (hM.ne 5 11 (by decide) (by decide) (by decide)) (hM.ne 5 12 (by decide) (by decide) (by decide)) (hM.ne 5 13 (by decide) (by decide) (by decide)) hg) _ _ ((zf_o _ _ _ (by decide) (by decide)).trans h6) (zf_9 _ _ _) hn (by omega)) lk_X5_129 sl_X5_here hM.1.1 hM.1.2 rfl (Nat.le_of_ble_eq_true rfl) (fit_of rfl) (Nat.le_of_ble_eq_true rfl) rfl ?_
  refine V.topi (y := nI 98) hc ?_
  refine V.istore_n hF dX5_event_4 (by decide) ?_
  refine V.aload_n hF dX5_event_5 rfl ?_
  refine V.dup hF dX5_event_6 rfl ?_
  refine V.getIF hF dX5_event_7 fl_X5_132 hM.1.1 hM.1.2 rfl (va_up_self _ _ _) ?_
  refine V.topi (y := nI 0) (zf_10 _ _ _) ?_
  refine V.iload_n hF dX5_event_10 rfl ?_
  refine V.bipush (v := nI 98) hF dX5_event_11 (by decide) ?_
  refine V.icmp_eq (tgt := 50) hF dX5_event_13 (by decide) (fun h13 => ?_) (fun h13 => ?_)
  · refine V.iconst (v := nI 0) hF dX5_event_50 (by decide) ?_
    refine V.ior hF dX5_event_51 ?_
    refine V.topi (y := nI 0) (by decide) ?_
    refine V.putIU hF dX5_event_52 fl_X5_132 hM.1.1 hM.1.2 rfl rfl rfl ?_
    refine V.eqI (congrArg (va_up I o) (zf_u10 _ _ _ _)) ?_
    refine V.aload_n hF dX5_event_55 rfl ?_
    refine V.getIF hF dX5_event_56 fl_X5_132 hM.1.1 hM.1.2 rfl (va_up_self _ _ _) ?_
    refine V.topi (y := nI 0) (zf_10 _ _ _) ?_
    refine V.if_eq (tgt := 63) hF dX5_event_59 (by decide) (fun h59 => ?_) (fun h59 => ?_)
    · refine V.aload_n hF dX5_event_63 rfl ?_
      refine V.dup hF dX5_event_64 rfl ?_
      refine V.getIF hF dX5_event_65 fl_X5_126 hM.1.1 hM.1.2 rfl (va_up_self _ _ _) ?_
      refine V.topi (y := nI a) (zf_9 _ _ _) ?_
      refine V.iconst (v := nI 1) hF dX5_event_68 (by decide) ?_
      refine V.iadd hF dX5_event_69 ?_
      refine V.topi (y := nI (a + 1)) (nI_add _ _) ?_
      refine V.putIU hF dX5_event_70 fl_X5_126 hM.1.1 hM.1.2 rfl rfl rfl ?_
      refine V.eqI (congrArg (va_up I o) (zf_u9 _ _ _ _)) ?_
      refine V.aload_n hF dX5_event_73 rfl ?_
      refine V.getR hF dX5_event_74 fl_X5_29 hM.1.1 hM.1.2 rfl hM.m11.1 ?_
      refine V.iload_n hF dX5_event_77 rfl ?_
      refine V.iload_n hF dX5_event_78 rfl ?_
      refine V.n3a (j := e) hF dX5_event_79 hM.m11.2.1 hM.m11.2.2.1 rfl (hM.m11.lt (by omega)) (hM.m11.sm (by decide)) hM.d3 ?_
      refine V.iload_n hF dX5_event_80 rfl ?_
      refine V.bipush (v := nI 105) hF dX5_event_81 (by decide) ?_
      refine V.icmp_ne (tgt := 87) hF dX5_event_83 (by decide) (fun h83 => ?_) (fun h83 => ?_)
      · refine V.aload_n hF dX5_event_87 rfl ?_
        refine V.getR hF dX5_event_88 fl_X5_32 hM.1.1 hM.1.2 rfl hM.m12.1 ?_
        refine V.iload_n hF dX5_event_91 rfl ?_
        refine V.aload_n hF dX5_event_92 rfl ?_
        refine V.iconst (v := nI 5) hF dX5_event_93 (by decide) ?_
        refine V.vI hF dX5_event_94 (ct_X5_digit hst _ _ _ _ _ hM f _ (N3_o (hM.ne 5 11 (by decide) (by decide) (by decide)) (hM.ne 5 12 (by decide) (by decide) (by decide)) (hM.ne 5 13 (by decide) (by decide) (by decide)) hg) n (a + 1) h6 hn (by omega) _) lk_X5_136 sl_X5_digit hM.1.1 hM.1.2 rfl (Nat.le_of_ble_eq_true rfl) (fit_of rfl) (Nat.le_of_ble_eq_true rfl) rfl ?_
        refine V.n3b (j := e) hF dX5_event_97 hM.m12.2.1 hM.m12.2.2.1 rfl (hM.m12.lt (by omega)) (hM.m12.sm (by decide)) hM.d3 ?_
        refine V.aload_n hF dX5_event_98 rfl ?_
        refine V.getIF hF dX5_event_99 fl_X5_132 hM.1.1 hM.1.2 rfl (va_up_self _ _ _) ?_
        refine V.topi (y := nI (bN (!(zisIn (pd g n (a + 1)) (nI 0) (nI 5))))) (zf_10 _ _ _) ?_
        refine V.if_ne (tgt := 117) hF dX5_event_102 (by decide) (fun h102 => ?_) (fun h102 => ?_)
        · have hk := bN_0 h102
          refine V.vret hF dX5_event_117 (Nat.le_refl _) (Nat.le_refl _) ?_
          have hp := pev_1 (show phe g n a ≠ nI 105 by rw [hc]; decide) (show pku (phe g n a) = true by rw [hc]; decide) hk
          exact evL hp (zf_f hk) (evt_o2 (by rw [hp]))
        · have hk := bN_1 h102
          refine V.eqI (I' := va_up I o (zf f (a + 2) 0)) (congrArg (va_up I o) (zf_t hk)) ?_
          refine V.iload_n hF dX5_event_105 rfl ?_
          refine V.bipush (v := nI 106) hF dX5_event_106 (by decide) ?_
          refine V.icmp_eq (tgt := 117) hF dX5_event_108 (by decide) (fun h108 => ?_) (fun h108 => ?_)
          · exact absurd h108 (by decide)
          · refine V.iload_n hF dX5_event_111 rfl ?_
            refine V.bipush (v := nI 108) hF dX5_event_112 (by decide) ?_
            refine V.icmp_ne (tgt := 118) hF dX5_event_114 (by decide) (fun h114 => ?_) (fun h114 => ?_)
            · refine V.aload_n hF dX5_event_118 rfl ?_
              refine V.iload_n hF dX5_event_119 rfl ?_
              refine V.bipush (v := nI 98) hF dX5_event_120 (by decide) ?_
              refine V.icmp_ne (tgt := 130) hF dX5_event_122 (by decide) (fun h122 => ?_) (fun h122 => ?_)
              · exact absurd h122 (by decide)
              · refine V.bipush (v := nI 61) hF dX5_event_125 (by decide) ?_
                refine V.goto (tgt := 132) hF dX5_event_127 (by decide) ?_
                refine V.vV hF dX5_event_132 (ct_X5_sign hst _ _ _ _ _ hM f _ (N3_o (hM.ne 5 11 (by decide) (by decide) (by decide)) (hM.ne 5 12 (by decide) (by decide) (by decide)) (hM.ne 5 13 (by decide) (by decide) (by decide)) hg) n (a + 2) h6 hn (by omega) _) lk_X5_139 sl_X5_sign hM.1.1 hM.1.2 rfl (Nat.le_of_ble_eq_true rfl) (fit_of rfl) (Nat.le_of_ble_eq_true rfl) rfl ?_
                refine V.aload_n hF dX5_event_135 rfl ?_
                refine V.getIF hF dX5_event_136 fl_X5_132 hM.1.1 hM.1.2 rfl (va_up_self _ _ _) ?_
                refine V.topi (y := nI (bN (!(decide (phe g n (a + 2) = nI 61))))) (zf_10 _ _ _) ?_
                refine V.if_eq (tgt := 143) hF dX5_event_139 (by decide) (fun h139 => ?_) (fun h139 => ?_)
                · have hk2 := bN_1 h139
                  refine V.eqI (I' := va_up I o (zf f (a + 3) 0)) (congrArg (va_up I o) (zf_t hk2)) ?_
                  refine V.iload_n hF dX5_event_143 rfl ?_
                  refine V.bipush (v := nI 103) hF dX5_event_144 (by decide) ?_
                  refine V.icmp_ne (tgt := 161) hF dX5_event_146 (by decide) (fun h146 => ?_) (fun h146 => ?_)
                  · refine V.iload_n hF dX5_event_161 rfl ?_
                    refine V.bipush (v := nI 98) hF dX5_event_162 (by decide) ?_
                    refine V.icmp_ne (tgt := 180) hF dX5_event_164 (by decide) (fun h164 => ?_) (fun h164 => ?_)
                    · exact absurd h164 (by decide)
                    · refine V.aload_n hF dX5_event_167 rfl ?_
                      refine V.vI hF dX5_event_168 (ct_X5_here hst _ _ _ _ _ hM _ (va_up_self _ _ _) _ (N3_o (hM.ne 5 11 (by decide) (by decide) (by decide)) (hM.ne 5 12 (by decide) (by decide) (by decide)) (hM.ne 5 13 (by decide) (by decide) (by decide)) hg) _ _ ((zf_o _ _ _ (by decide) (by decide)).trans h6) (zf_9 _ _ _) hn (by omega)) lk_X5_129 sl_X5_here hM.1.1 hM.1.2 rfl (Nat.le_of_ble_eq_true rfl) (fit_of rfl) (Nat.le_of_ble_eq_true rfl) rfl ?_
                      refine V.bipush (v := nI 45) hF dX5_event_171 (by decide) ?_
                      refine V.icmp_ne (tgt := 180) hF dX5_event_173 (by decide) (fun h173 => ?_) (fun h173 => ?_)
                      · refine V.iconst (v := nI 0) hF dX5_event_180 (by decide) ?_
                        refine V.istore_n hF dX5_event_181 (by decide) ?_
                        refine V.aload_n hF dX5_event_182 rfl ?_
                        refine V.dup hF dX5_event_183 rfl ?_
                        refine V.getIF hF dX5_event_184 fl_X5_126 hM.1.1 hM.1.2 rfl (va_up_self _ _ _) ?_
                        refine V.topi (y := nI (a + 3)) (zf_9 _ _ _) ?_
                        refine V.iload_n hF dX5_event_187 rfl ?_
                        refine V.if_eq (tgt := 195) hF dX5_event_188 (by decide) (fun h188 => ?_) (fun h188 => ?_)
                        · refine V.iconst (v := nI 0) hF dX5_event_195 (by decide) ?_
                          refine V.iadd hF dX5_event_196 ?_
                          refine V.topi (y := nI (a + 3 + 0)) (nI_add _ _) ?_
                          refine V.putIU hF dX5_event_197 fl_X5_126 hM.1.1 hM.1.2 rfl rfl rfl ?_
                          refine V.eqI (congrArg (va_up I o) (zf_u9 _ _ _ _)) ?_
                          refine V.aload_n hF dX5_event_200 rfl ?_
                          refine V.vI hF dX5_event_201 (ct_X5_number hst _ _ _ _ _ hM f _ (N3_o (hM.ne 5 11 (by decide) (by decide) (by decide)) (hM.ne 5 12 (by decide) (by decide) (by decide)) (hM.ne 5 13 (by decide) (by decide) (by decide)) hg) n (a + 3 + 0) h6 hn (by omega)) lk_X5_143 sl_X5_number hM.1.1 hM.1.2 rfl (Nat.le_of_ble_eq_true rfl) (fit_of rfl) (Nat.le_of_ble_eq_true rfl) rfl ?_
                          refine V.istore hF dX5_event_204 (by decide) ?_
                          refine V.aload_n hF dX5_event_206 rfl ?_
                          refine V.getR hF dX5_event_207 fl_X5_35 hM.1.1 hM.1.2 rfl hM.m13.1 ?_
                          refine V.iload_n hF dX5_event_210 rfl ?_
                          refine V.iload_n hF dX5_event_211 rfl ?_
                          refine V.if_eq (tgt := 221) hF dX5_event_212 (by decide) (fun h212 => ?_) (fun h212 => ?_)
                          · refine V.iload hF dX5_event_221 rfl ?_
                            refine V.n3c (j := e) hF dX5_event_223 hM.m13.2.1 hM.m13.2.2.1 rfl (hM.m13.lt (by omega)) (hM.m13.sm (by decide)) hM.d3 ?_
                            refine V.vret hF dX5_event_224 (Nat.le_refl _) (Nat.le_refl _) ?_
                            have hng := (show pneg g n (a + 3) (phe g n a) = false by rw [hc]; simp only [pneg, decide_eq_false h173]; rfl)
                            cases hk3 : pdg g n (a + 3 + 0) with
                            | false =>
                              have hp := pev_n0 (show phe g n a ≠ nI 105 by rw [hc]; decide) (show pku (phe g n a) = true by rw [hc]; decide) hk (show ¬ (phe g n a = nI 106 ∨ phe g n a = nI 108) by rw [hc]; decide) (show phe g n (a + 2) = psg (phe g n a) by rw [hc]; exact of_decide_eq_true hk2) (by rw [hc]; decide) hng hk3
                              exact evL hp (by rw [pcn, hk3]; rfl) (evt_o3 (by rw [hp]))
                            | true =>
                              have hp := pev_n1 (show phe g n a ≠ nI 105 by rw [hc]; decide) (show pku (phe g n a) = true by rw [hc]; decide) hk (show ¬ (phe g n a = nI 106 ∨ phe g n a = nI 108) by rw [hc]; decide) (show phe g n (a + 2) = psg (phe g n a) by rw [hc]; exact of_decide_eq_true hk2) (by rw [hc]; decide) hng hk3
                              exact evL hp rfl (evt_all (by rw [hc]) rfl (by rw [show pevS g n a = pnum g n (a + 3) by rw [pevS, if_neg (by rw [hc]; decide), hng]; rfl]; rfl))
                          · exact (h212 (by decide)).elim
                        · exact (h188 (by decide)).elim
                      · refine V.iconst (v := nI 1) hF dX5_event_176 (by decide) ?_
                        refine V.goto (tgt := 181) hF dX5_event_177 (by decide) ?_
                        refine V.istore_n hF dX5_event_181 (by decide) ?_
                        refine V.aload_n hF dX5_event_182 rfl ?_
                        refine V.dup hF dX5_event_183 rfl ?_
                        refine V.getIF hF dX5_event_184 fl_X5_126 hM.1.1 hM.1.2 rfl (va_up_self _ _ _) ?_
                        refine V.topi (y := nI (a + 3)) (zf_9 _ _ _) ?_
                        refine V.iload_n hF dX5_event_187 rfl ?_
                        refine V.if_eq (tgt := 195) hF dX5_event_188 (by decide) (fun h188 => ?_) (fun h188 => ?_)
                        · exact absurd h188 (by decide)
                        · refine V.iconst (v := nI 1) hF dX5_event_191 (by decide) ?_
                          refine V.goto (tgt := 196) hF dX5_event_192 (by decide) ?_
                          refine V.iadd hF dX5_event_196 ?_
                          refine V.topi (y := nI (a + 3 + 1)) (nI_add _ _) ?_
                          refine V.putIU hF dX5_event_197 fl_X5_126 hM.1.1 hM.1.2 rfl rfl rfl ?_
                          refine V.eqI (congrArg (va_up I o) (zf_u9 _ _ _ _)) ?_
                          refine V.aload_n hF dX5_event_200 rfl ?_
                          refine V.vI hF dX5_event_201 (ct_X5_number hst _ _ _ _ _ hM f _ (N3_o (hM.ne 5 11 (by decide) (by decide) (by decide)) (hM.ne 5 12 (by decide) (by decide) (by decide)) (hM.ne 5 13 (by decide) (by decide) (by decide)) hg) n (a + 3 + 1) h6 hn (by omega)) lk_X5_143 sl_X5_number hM.1.1 hM.1.2 rfl (Nat.le_of_ble_eq_true rfl) (fit_of rfl) (Nat.le_of_ble_eq_true rfl) rfl ?_
                          refine V.istore hF dX5_event_204 (by decide) ?_
                          refine V.aload_n hF dX5_event_206 rfl ?_
                          refine V.getR hF dX5_event_207 fl_X5_35 hM.1.1 hM.1.2 rfl hM.m13.1 ?_
                          refine V.iload_n hF dX5_event_210 rfl ?_
                          refine V.iload_n hF dX5_event_211 rfl ?_
                          refine V.if_eq (tgt := 221) hF dX5_event_212 (by decide) (fun h212 => ?_) (fun h212 => ?_)
                          · exact absurd h212 (by decide)
                          · refine V.iload hF dX5_event_215 rfl ?_
                            refine V.ineg hF dX5_event_217 ?_
                            refine V.goto (tgt := 223) hF dX5_event_218 (by decide) ?_
                            refine V.n3c (j := e) hF dX5_event_223 hM.m13.2.1 hM.m13.2.2.1 rfl (hM.m13.lt (by omega)) (hM.m13.sm (by decide)) hM.d3 ?_
                            refine V.vret hF dX5_event_224 (Nat.le_refl _) (Nat.le_refl _) ?_
                            have hng := (show pneg g n (a + 3) (phe g n a) = true by rw [hc]; simp only [pneg, decide_eq_true h173]; rfl)
                            cases hk3 : pdg g n (a + 3 + 1) with
                            | false =>
                              have hp := pev_n0 (show phe g n a ≠ nI 105 by rw [hc]; decide) (show pku (phe g n a) = true by rw [hc]; decide) hk (show ¬ (phe g n a = nI 106 ∨ phe g n a = nI 108) by rw [hc]; decide) (show phe g n (a + 2) = psg (phe g n a) by rw [hc]; exact of_decide_eq_true hk2) (by rw [hc]; decide) hng hk3
                              exact evL hp (by rw [pcn, hk3]; rfl) (evt_o3 (by rw [hp]))
                            | true =>
                              have hp := pev_n1 (show phe g n a ≠ nI 105 by rw [hc]; decide) (show pku (phe g n a) = true by rw [hc]; decide) hk (show ¬ (phe g n a = nI 106 ∨ phe g n a = nI 108) by rw [hc]; decide) (show phe g n (a + 2) = psg (phe g n a) by rw [hc]; exact of_decide_eq_true hk2) (by rw [hc]; decide) hng hk3
                              exact evL hp rfl (evt_all (by rw [hc]) rfl (by rw [show pevS g n a = -(pnum g n (a + 4)) by rw [pevS, if_neg (by rw [hc]; decide), hng]; rfl]; rfl))
                  · exact absurd h146 (by decide)
                · have hk2 := bN_0 h139
                  refine V.vret hF dX5_event_142 (Nat.le_refl _) (Nat.le_refl _) ?_
                  have hp := pev_2 (show phe g n a ≠ nI 105 by rw [hc]; decide) (show pku (phe g n a) = true by rw [hc]; decide) hk (show ¬ (phe g n a = nI 106 ∨ phe g n a = nI 108) by rw [hc]; decide) (show ¬ phe g n (a + 2) = psg (phe g n a) by rw [hc]; exact of_decide_eq_false hk2)
                  exact evL hp (zf_f hk2) (evt_o2 (by rw [hp]))
            · exact absurd h114 (by decide)
      · exact absurd h83 (by decide)
    · exact (h59 (by decide)).elim
  · exact absurd h13 (by decide)
set_option maxRecDepth 20000 in
theorem ct_X5_event_97 (hst : l.stackTraces = false) (σ : SH) (I X : IX) (o : Nat) (ar : Nat → Nat) (hM : MS σ o ar) (f : Rw) (g : Rw) (hg : X (ar 5) = g) (n a : Nat) (h6 : f 6 = nI n) (hn : n ≤ 60) (ha : a ≤ 60) (gk gf gs : Rw) (e : Nat) (he : e < 60) (hc : phe g n a = nI 97) : Ct l D cy sa sv yX5_event cX5_event 5 none 3 0 0 [.ref o, .int (nI e)] σ (va_up I o (zf f a 0)) (N3 X (ar 11) (ar 12) (ar 13) gk gf gs) (fun v' σ' I' X' => v' = none ∧ σ' = σ ∧ I' = va_up I o (zf f (pevA g n a).2 (bN (!(pevA g n a).1))) ∧ ∃ gk' gf' gs' : Rw, X' = N3 X (ar 11) (ar 12) (ar 13) gk' gf' gs' ∧ Evt g n a e gk gf gs gk' gf' gs') noX := by
  refine Ct.of (by decide) hst (Nat.le_of_ble_eq_true rfl) ?_
  intro pp ee ss mm args below meth kc A hF hnm hout
  refine V.aload_n hF dX5_event_0 rfl ?_
  refine V.vI hF dX5_event_1 (ct_X5_here hst _ _ _ _ _ hM _ (va_up_self _ _ _) _ (N3_o (hM.ne 5 11 (by decide) (by decide) (by decide)) (hM.ne 5 12 (by decide) (by decide) (by decide)) (hM.ne 5 13 (by decide) (by decide) (by decide)) hg) _ _ ((zf_o _ _ _ (by decide) (by decide)).trans h6) (zf_9 _ _ _) hn (by omega)) lk_X5_129 sl_X5_here hM.1.1 hM.1.2 rfl (Nat.le_of_ble_eq_true rfl) (fit_of rfl) (Nat.le_of_ble_eq_true rfl) rfl ?_
  refine V.topi (y := nI 97) hc ?_
  refine V.istore_n hF dX5_event_4 (by decide) ?_
  refine V.aload_n hF dX5_event_5 rfl ?_
  refine V.dup hF dX5_event_6 rfl ?_
  refine V.getIF hF dX5_event_7 fl_X5_132 hM.1.1 hM.1.2 rfl (va_up_self _ _ _) ?_
  refine V.topi (y := nI 0) (zf_10 _ _ _) ?_
  refine V.iload_n hF dX5_event_10 rfl ?_
  refine V.bipush (v := nI 98) hF dX5_event_11 (by decide) ?_
  refine V.icmp_eq (tgt := 50) hF dX5_event_13 (by decide) (fun h13 => ?_) (fun h13 => ?_)
  · exact absurd h13 (by decide)
  · refine V.iload_n hF dX5_event_16 rfl ?_
    refine V.bipush (v := nI 97) hF dX5_event_17 (by decide) ?_
    refine V.icmp_eq (tgt := 50) hF dX5_event_19 (by decide) (fun h19 => ?_) (fun h19 => ?_)
    · refine V.iconst (v := nI 0) hF dX5_event_50 (by decide) ?_
      refine V.ior hF dX5_event_51 ?_
      refine V.topi (y := nI 0) (by decide) ?_
      refine V.putIU hF dX5_event_52 fl_X5_132 hM.1.1 hM.1.2 rfl rfl rfl ?_
      refine V.eqI (congrArg (va_up I o) (zf_u10 _ _ _ _)) ?_
      refine V.aload_n hF dX5_event_55 rfl ?_
      refine V.getIF hF dX5_event_56 fl_X5_132 hM.1.1 hM.1.2 rfl (va_up_self _ _ _) ?_
      refine V.topi (y := nI 0) (zf_10 _ _ _) ?_
      refine V.if_eq (tgt := 63) hF dX5_event_59 (by decide) (fun h59 => ?_) (fun h59 => ?_)
      · refine V.aload_n hF dX5_event_63 rfl ?_
        refine V.dup hF dX5_event_64 rfl ?_
        refine V.getIF hF dX5_event_65 fl_X5_126 hM.1.1 hM.1.2 rfl (va_up_self _ _ _) ?_
        refine V.topi (y := nI a) (zf_9 _ _ _) ?_
        refine V.iconst (v := nI 1) hF dX5_event_68 (by decide) ?_
        refine V.iadd hF dX5_event_69 ?_
        refine V.topi (y := nI (a + 1)) (nI_add _ _) ?_
        refine V.putIU hF dX5_event_70 fl_X5_126 hM.1.1 hM.1.2 rfl rfl rfl ?_
        refine V.eqI (congrArg (va_up I o) (zf_u9 _ _ _ _)) ?_
        refine V.aload_n hF dX5_event_73 rfl ?_
        refine V.getR hF dX5_event_74 fl_X5_29 hM.1.1 hM.1.2 rfl hM.m11.1 ?_
        refine V.iload_n hF dX5_event_77 rfl ?_
        refine V.iload_n hF dX5_event_78 rfl ?_
        refine V.n3a (j := e) hF dX5_event_79 hM.m11.2.1 hM.m11.2.2.1 rfl (hM.m11.lt (by omega)) (hM.m11.sm (by decide)) hM.d3 ?_
        refine V.iload_n hF dX5_event_80 rfl ?_
        refine V.bipush (v := nI 105) hF dX5_event_81 (by decide) ?_
        refine V.icmp_ne (tgt := 87) hF dX5_event_83 (by decide) (fun h83 => ?_) (fun h83 => ?_)
        · refine V.aload_n hF dX5_event_87 rfl ?_
          refine V.getR hF dX5_event_88 fl_X5_32 hM.1.1 hM.1.2 rfl hM.m12.1 ?_
          refine V.iload_n hF dX5_event_91 rfl ?_
          refine V.aload_n hF dX5_event_92 rfl ?_
          refine V.iconst (v := nI 5) hF dX5_event_93 (by decide) ?_
          refine V.vI hF dX5_event_94 (ct_X5_digit hst _ _ _ _ _ hM f _ (N3_o (hM.ne 5 11 (by decide) (by decide) (by decide)) (hM.ne 5 12 (by decide) (by decide) (by decide)) (hM.ne 5 13 (by decide) (by decide) (by decide)) hg) n (a + 1) h6 hn (by omega) _) lk_X5_136 sl_X5_digit hM.1.1 hM.1.2 rfl (Nat.le_of_ble_eq_true rfl) (fit_of rfl) (Nat.le_of_ble_eq_true rfl) rfl ?_
          refine V.n3b (j := e) hF dX5_event_97 hM.m12.2.1 hM.m12.2.2.1 rfl (hM.m12.lt (by omega)) (hM.m12.sm (by decide)) hM.d3 ?_
          refine V.aload_n hF dX5_event_98 rfl ?_
          refine V.getIF hF dX5_event_99 fl_X5_132 hM.1.1 hM.1.2 rfl (va_up_self _ _ _) ?_
          refine V.topi (y := nI (bN (!(zisIn (pd g n (a + 1)) (nI 0) (nI 5))))) (zf_10 _ _ _) ?_
          refine V.if_ne (tgt := 117) hF dX5_event_102 (by decide) (fun h102 => ?_) (fun h102 => ?_)
          · have hk := bN_0 h102
            refine V.vret hF dX5_event_117 (Nat.le_refl _) (Nat.le_refl _) ?_
            have hp := pev_1 (show phe g n a ≠ nI 105 by rw [hc]; decide) (show pku (phe g n a) = true by rw [hc]; decide) hk
            exact evL hp (zf_f hk) (evt_o2 (by rw [hp]))
          · have hk := bN_1 h102
            refine V.eqI (I' := va_up I o (zf f (a + 2) 0)) (congrArg (va_up I o) (zf_t hk)) ?_
            refine V.iload_n hF dX5_event_105 rfl ?_
            refine V.bipush (v := nI 106) hF dX5_event_106 (by decide) ?_
            refine V.icmp_eq (tgt := 117) hF dX5_event_108 (by decide) (fun h108 => ?_) (fun h108 => ?_)
            · exact absurd h108 (by decide)
            · refine V.iload_n hF dX5_event_111 rfl ?_
              refine V.bipush (v := nI 108) hF dX5_event_112 (by decide) ?_
              refine V.icmp_ne (tgt := 118) hF dX5_event_114 (by decide) (fun h114 => ?_) (fun h114 => ?_)
              · refine V.aload_n hF dX5_event_118 rfl ?_
                refine V.iload_n hF dX5_event_119 rfl ?_
                refine V.bipush (v := nI 98) hF dX5_event_120 (by decide) ?_
                refine V.icmp_ne (tgt := 130) hF dX5_event_122 (by decide) (fun h122 => ?_) (fun h122 => ?_)
                · refine V.bipush (v := nI 44) hF dX5_event_130 (by decide) ?_
                  refine V.vV hF dX5_event_132 (ct_X5_sign hst _ _ _ _ _ hM f _ (N3_o (hM.ne 5 11 (by decide) (by decide) (by decide)) (hM.ne 5 12 (by decide) (by decide) (by decide)) (hM.ne 5 13 (by decide) (by decide) (by decide)) hg) n (a + 2) h6 hn (by omega) _) lk_X5_139 sl_X5_sign hM.1.1 hM.1.2 rfl (Nat.le_of_ble_eq_true rfl) (fit_of rfl) (Nat.le_of_ble_eq_true rfl) rfl ?_
                  refine V.aload_n hF dX5_event_135 rfl ?_
                  refine V.getIF hF dX5_event_136 fl_X5_132 hM.1.1 hM.1.2 rfl (va_up_self _ _ _) ?_
                  refine V.topi (y := nI (bN (!(decide (phe g n (a + 2) = nI 44))))) (zf_10 _ _ _) ?_
                  refine V.if_eq (tgt := 143) hF dX5_event_139 (by decide) (fun h139 => ?_) (fun h139 => ?_)
                  · have hk2 := bN_1 h139
                    refine V.eqI (I' := va_up I o (zf f (a + 3) 0)) (congrArg (va_up I o) (zf_t hk2)) ?_
                    refine V.iload_n hF dX5_event_143 rfl ?_
                    refine V.bipush (v := nI 103) hF dX5_event_144 (by decide) ?_
                    refine V.icmp_ne (tgt := 161) hF dX5_event_146 (by decide) (fun h146 => ?_) (fun h146 => ?_)
                    · refine V.iload_n hF dX5_event_161 rfl ?_
                      refine V.bipush (v := nI 98) hF dX5_event_162 (by decide) ?_
                      refine V.icmp_ne (tgt := 180) hF dX5_event_164 (by decide) (fun h164 => ?_) (fun h164 => ?_)
                      · refine V.iconst (v := nI 0) hF dX5_event_180 (by decide) ?_
                        refine V.istore_n hF dX5_event_181 (by decide) ?_
                        refine V.aload_n hF dX5_event_182 rfl ?_
                        refine V.dup hF dX5_event_183 rfl ?_
                        refine V.getIF hF dX5_event_184 fl_X5_126 hM.1.1 hM.1.2 rfl (va_up_self _ _ _) ?_
                        refine V.topi (y := nI (a + 3)) (zf_9 _ _ _) ?_
                        refine V.iload_n hF dX5_event_187 rfl ?_
                        refine V.if_eq (tgt := 195) hF dX5_event_188 (by decide) (fun h188 => ?_) (fun h188 => ?_)
                        · refine V.iconst (v := nI 0) hF dX5_event_195 (by decide) ?_
                          refine V.iadd hF dX5_event_196 ?_
                          refine V.topi (y := nI (a + 3 + 0)) (nI_add _ _) ?_
                          refine V.putIU hF dX5_event_197 fl_X5_126 hM.1.1 hM.1.2 rfl rfl rfl ?_
                          refine V.eqI (congrArg (va_up I o) (zf_u9 _ _ _ _)) ?_
                          refine V.aload_n hF dX5_event_200 rfl ?_
                          refine V.vI hF dX5_event_201 (ct_X5_number hst _ _ _ _ _ hM f _ (N3_o (hM.ne 5 11 (by decide) (by decide) (by decide)) (hM.ne 5 12 (by decide) (by decide) (by decide)) (hM.ne 5 13 (by decide) (by decide) (by decide)) hg) n (a + 3) h6 hn (by omega)) lk_X5_143 sl_X5_number hM.1.1 hM.1.2 rfl (Nat.le_of_ble_eq_true rfl) (fit_of rfl) (Nat.le_of_ble_eq_true rfl) rfl ?_
                          refine V.istore hF dX5_event_204 (by decide) ?_
                          refine V.aload_n hF dX5_event_206 rfl ?_
                          refine V.getR hF dX5_event_207 fl_X5_35 hM.1.1 hM.1.2 rfl hM.m13.1 ?_
                          refine V.iload_n hF dX5_event_210 rfl ?_
                          refine V.iload_n hF dX5_event_211 rfl ?_
                          refine V.if_eq (tgt := 221) hF dX5_event_212 (by decide) (fun h212 => ?_) (fun h212 => ?_)
                          · refine V.iload hF dX5_event_221 rfl ?_
                            refine V.n3c (j := e) hF dX5_event_223 hM.m13.2.1 hM.m13.2.2.1 rfl (hM.m13.lt (by omega)) (hM.m13.sm (by decide)) hM.d3 ?_
                            refine V.vret hF dX5_event_224 (Nat.le_refl _) (Nat.le_refl _) ?_
                            have hng := (show pneg g n (a + 3) (phe g n a) = false by rw [hc]; rfl)
                            cases hk3 : pdg g n (a + 3) with
                            | false =>
                              have hp := pev_n0 (show phe g n a ≠ nI 105 by rw [hc]; decide) (show pku (phe g n a) = true by rw [hc]; decide) hk (show ¬ (phe g n a = nI 106 ∨ phe g n a = nI 108) by rw [hc]; decide) (show phe g n (a + 2) = psg (phe g n a) by rw [hc]; exact of_decide_eq_true hk2) (by rw [hc]; decide) hng hk3
                              exact evL hp (by rw [pcn, hk3]; rfl) (evt_o3 (by rw [hp]))
                            | true =>
                              have hp := pev_n1 (show phe g n a ≠ nI 105 by rw [hc]; decide) (show pku (phe g n a) = true by rw [hc]; decide) hk (show ¬ (phe g n a = nI 106 ∨ phe g n a = nI 108) by rw [hc]; decide) (show phe g n (a + 2) = psg (phe g n a) by rw [hc]; exact of_decide_eq_true hk2) (by rw [hc]; decide) hng hk3
                              exact evL hp rfl (evt_all (by rw [hc]) rfl (by rw [show pevS g n a = pnum g n (a + 3) by rw [pevS, if_neg (by rw [hc]; decide), hng]; rfl]; rfl))
                          · exact (h212 (by decide)).elim
                        · exact (h188 (by decide)).elim
                      · exact absurd h164 (by decide)
                    · exact absurd h146 (by decide)
                  · have hk2 := bN_0 h139
                    refine V.vret hF dX5_event_142 (Nat.le_refl _) (Nat.le_refl _) ?_
                    have hp := pev_2 (show phe g n a ≠ nI 105 by rw [hc]; decide) (show pku (phe g n a) = true by rw [hc]; decide) hk (show ¬ (phe g n a = nI 106 ∨ phe g n a = nI 108) by rw [hc]; decide) (show ¬ phe g n (a + 2) = psg (phe g n a) by rw [hc]; exact of_decide_eq_false hk2)
                    exact evL hp (zf_f hk2) (evt_o2 (by rw [hp]))
                · exact absurd h122 (by decide)
              · exact absurd h114 (by decide)
        · exact absurd h83 (by decide)
      · exact (h59 (by decide)).elim
    · exact absurd h19 (by decide)
set_option maxRecDepth 20000 in
theorem ct_X5_event_103 (hst : l.stackTraces = false) (σ : SH) (I X : IX) (o : Nat) (ar : Nat → Nat) (hM : MS σ o ar) (f : Rw) (g : Rw) (hg : X (ar 5) = g) (n a : Nat) (h6 : f 6 = nI n) (hn : n ≤ 60) (ha : a ≤ 60) (gk gf gs : Rw) (e : Nat) (he : e < 60) (hc : phe g n a = nI 103) : Ct l D cy sa sv yX5_event cX5_event 5 none 3 0 0 [.ref o, .int (nI e)] σ (va_up I o (zf f a 0)) (N3 X (ar 11) (ar 12) (ar 13) gk gf gs) (fun v' σ' I' X' => v' = none ∧ σ' = σ ∧ I' = va_up I o (zf f (pevA g n a).2 (bN (!(pevA g n a).1))) ∧ ∃ gk' gf' gs' : Rw, X' = N3 X (ar 11) (ar 12) (ar 13) gk' gf' gs' ∧ Evt g n a e gk gf gs gk' gf' gs') noX := by
  refine Ct.of (by decide) hst (Nat.le_of_ble_eq_true rfl) ?_
  intro pp ee ss mm args below meth kc A hF hnm hout
  refine V.aload_n hF dX5_event_0 rfl ?_
  refine V.vI hF dX5_event_1 (ct_X5_here hst _ _ _ _ _ hM _ (va_up_self _ _ _) _ (N3_o (hM.ne 5 11 (by decide) (by decide) (by decide)) (hM.ne 5 12 (by decide) (by decide) (by decide)) (hM.ne 5 13 (by decide) (by decide) (by decide)) hg) _ _ ((zf_o _ _ _ (by decide) (by decide)).trans h6) (zf_9 _ _ _) hn (by omega)) lk_X5_129 sl_X5_here hM.1.1 hM.1.2 rfl (Nat.le_of_ble_eq_true rfl) (fit_of rfl) (Nat.le_of_ble_eq_true rfl) rfl ?_
  refine V.topi (y := nI 103) hc ?_
  refine V.istore_n hF dX5_event_4 (by decide) ?_
  refine V.aload_n hF dX5_event_5 rfl ?_
  refine V.dup hF dX5_event_6 rfl ?_
  refine V.getIF hF dX5_event_7 fl_X5_132 hM.1.1 hM.1.2 rfl (va_up_self _ _ _) ?_
  refine V.topi (y := nI 0) (zf_10 _ _ _) ?_
  refine V.iload_n hF dX5_event_10 rfl ?_
  refine V.bipush (v := nI 98) hF dX5_event_11 (by decide) ?_
  refine V.icmp_eq (tgt := 50) hF dX5_event_13 (by decide) (fun h13 => ?_) (fun h13 => ?_)
  · exact absurd h13 (by decide)
  · refine V.iload_n hF dX5_event_16 rfl ?_
    refine V.bipush (v := nI 97) hF dX5_event_17 (by decide) ?_
    refine V.icmp_eq (tgt := 50) hF dX5_event_19 (by decide) (fun h19 => ?_) (fun h19 => ?_)
    · exact absurd h19 (by decide)
    · refine V.iload_n hF dX5_event_22 rfl ?_
      refine V.bipush (v := nI 103) hF dX5_event_23 (by decide) ?_
      refine V.icmp_eq (tgt := 50) hF dX5_event_25 (by decide) (fun h25 => ?_) (fun h25 => ?_)
      · refine V.iconst (v := nI 0) hF dX5_event_50 (by decide) ?_
        refine V.ior hF dX5_event_51 ?_
        refine V.topi (y := nI 0) (by decide) ?_
        refine V.putIU hF dX5_event_52 fl_X5_132 hM.1.1 hM.1.2 rfl rfl rfl ?_
        refine V.eqI (congrArg (va_up I o) (zf_u10 _ _ _ _)) ?_
        refine V.aload_n hF dX5_event_55 rfl ?_
        refine V.getIF hF dX5_event_56 fl_X5_132 hM.1.1 hM.1.2 rfl (va_up_self _ _ _) ?_
        refine V.topi (y := nI 0) (zf_10 _ _ _) ?_
        refine V.if_eq (tgt := 63) hF dX5_event_59 (by decide) (fun h59 => ?_) (fun h59 => ?_)
        · refine V.aload_n hF dX5_event_63 rfl ?_
          refine V.dup hF dX5_event_64 rfl ?_
          refine V.getIF hF dX5_event_65 fl_X5_126 hM.1.1 hM.1.2 rfl (va_up_self _ _ _) ?_
          refine V.topi (y := nI a) (zf_9 _ _ _) ?_
          refine V.iconst (v := nI 1) hF dX5_event_68 (by decide) ?_
          refine V.iadd hF dX5_event_69 ?_
          refine V.topi (y := nI (a + 1)) (nI_add _ _) ?_
          refine V.putIU hF dX5_event_70 fl_X5_126 hM.1.1 hM.1.2 rfl rfl rfl ?_
          refine V.eqI (congrArg (va_up I o) (zf_u9 _ _ _ _)) ?_
          refine V.aload_n hF dX5_event_73 rfl ?_
          refine V.getR hF dX5_event_74 fl_X5_29 hM.1.1 hM.1.2 rfl hM.m11.1 ?_
          refine V.iload_n hF dX5_event_77 rfl ?_
          refine V.iload_n hF dX5_event_78 rfl ?_
          refine V.n3a (j := e) hF dX5_event_79 hM.m11.2.1 hM.m11.2.2.1 rfl (hM.m11.lt (by omega)) (hM.m11.sm (by decide)) hM.d3 ?_
          refine V.iload_n hF dX5_event_80 rfl ?_
          refine V.bipush (v := nI 105) hF dX5_event_81 (by decide) ?_
          refine V.icmp_ne (tgt := 87) hF dX5_event_83 (by decide) (fun h83 => ?_) (fun h83 => ?_)
          · refine V.aload_n hF dX5_event_87 rfl ?_
            refine V.getR hF dX5_event_88 fl_X5_32 hM.1.1 hM.1.2 rfl hM.m12.1 ?_
            refine V.iload_n hF dX5_event_91 rfl ?_
            refine V.aload_n hF dX5_event_92 rfl ?_
            refine V.iconst (v := nI 5) hF dX5_event_93 (by decide) ?_
            refine V.vI hF dX5_event_94 (ct_X5_digit hst _ _ _ _ _ hM f _ (N3_o (hM.ne 5 11 (by decide) (by decide) (by decide)) (hM.ne 5 12 (by decide) (by decide) (by decide)) (hM.ne 5 13 (by decide) (by decide) (by decide)) hg) n (a + 1) h6 hn (by omega) _) lk_X5_136 sl_X5_digit hM.1.1 hM.1.2 rfl (Nat.le_of_ble_eq_true rfl) (fit_of rfl) (Nat.le_of_ble_eq_true rfl) rfl ?_
            refine V.n3b (j := e) hF dX5_event_97 hM.m12.2.1 hM.m12.2.2.1 rfl (hM.m12.lt (by omega)) (hM.m12.sm (by decide)) hM.d3 ?_
            refine V.aload_n hF dX5_event_98 rfl ?_
            refine V.getIF hF dX5_event_99 fl_X5_132 hM.1.1 hM.1.2 rfl (va_up_self _ _ _) ?_
            refine V.topi (y := nI (bN (!(zisIn (pd g n (a + 1)) (nI 0) (nI 5))))) (zf_10 _ _ _) ?_
            refine V.if_ne (tgt := 117) hF dX5_event_102 (by decide) (fun h102 => ?_) (fun h102 => ?_)
            · have hk := bN_0 h102
              refine V.vret hF dX5_event_117 (Nat.le_refl _) (Nat.le_refl _) ?_
              have hp := pev_1 (show phe g n a ≠ nI 105 by rw [hc]; decide) (show pku (phe g n a) = true by rw [hc]; decide) hk
              exact evL hp (zf_f hk) (evt_o2 (by rw [hp]))
            · have hk := bN_1 h102
              refine V.eqI (I' := va_up I o (zf f (a + 2) 0)) (congrArg (va_up I o) (zf_t hk)) ?_
              refine V.iload_n hF dX5_event_105 rfl ?_
              refine V.bipush (v := nI 106) hF dX5_event_106 (by decide) ?_
              refine V.icmp_eq (tgt := 117) hF dX5_event_108 (by decide) (fun h108 => ?_) (fun h108 => ?_)
              · exact absurd h108 (by decide)
              · refine V.iload_n hF dX5_event_111 rfl ?_
                refine V.bipush (v := nI 108) hF dX5_event_112 (by decide) ?_
                refine V.icmp_ne (tgt := 118) hF dX5_event_114 (by decide) (fun h114 => ?_) (fun h114 => ?_)
                · refine V.aload_n hF dX5_event_118 rfl ?_
                  refine V.iload_n hF dX5_event_119 rfl ?_
                  refine V.bipush (v := nI 98) hF dX5_event_120 (by decide) ?_
                  refine V.icmp_ne (tgt := 130) hF dX5_event_122 (by decide) (fun h122 => ?_) (fun h122 => ?_)
                  · refine V.bipush (v := nI 44) hF dX5_event_130 (by decide) ?_
                    refine V.vV hF dX5_event_132 (ct_X5_sign hst _ _ _ _ _ hM f _ (N3_o (hM.ne 5 11 (by decide) (by decide) (by decide)) (hM.ne 5 12 (by decide) (by decide) (by decide)) (hM.ne 5 13 (by decide) (by decide) (by decide)) hg) n (a + 2) h6 hn (by omega) _) lk_X5_139 sl_X5_sign hM.1.1 hM.1.2 rfl (Nat.le_of_ble_eq_true rfl) (fit_of rfl) (Nat.le_of_ble_eq_true rfl) rfl ?_
                    refine V.aload_n hF dX5_event_135 rfl ?_
                    refine V.getIF hF dX5_event_136 fl_X5_132 hM.1.1 hM.1.2 rfl (va_up_self _ _ _) ?_
                    refine V.topi (y := nI (bN (!(decide (phe g n (a + 2) = nI 44))))) (zf_10 _ _ _) ?_
                    refine V.if_eq (tgt := 143) hF dX5_event_139 (by decide) (fun h139 => ?_) (fun h139 => ?_)
                    · have hk2 := bN_1 h139
                      refine V.eqI (I' := va_up I o (zf f (a + 3) 0)) (congrArg (va_up I o) (zf_t hk2)) ?_
                      refine V.iload_n hF dX5_event_143 rfl ?_
                      refine V.bipush (v := nI 103) hF dX5_event_144 (by decide) ?_
                      refine V.icmp_ne (tgt := 161) hF dX5_event_146 (by decide) (fun h146 => ?_) (fun h146 => ?_)
                      · exact absurd h146 (by decide)
                      · refine V.aload_n hF dX5_event_149 rfl ?_
                        refine V.getR hF dX5_event_150 fl_X5_35 hM.1.1 hM.1.2 rfl hM.m13.1 ?_
                        refine V.iload_n hF dX5_event_153 rfl ?_
                        refine V.aload_n hF dX5_event_154 rfl ?_
                        refine V.iconst (v := nI 5) hF dX5_event_155 (by decide) ?_
                        refine V.vI hF dX5_event_156 (ct_X5_digit hst _ _ _ _ _ hM f _ (N3_o (hM.ne 5 11 (by decide) (by decide) (by decide)) (hM.ne 5 12 (by decide) (by decide) (by decide)) (hM.ne 5 13 (by decide) (by decide) (by decide)) hg) n (a + 3) h6 hn (by omega) _) lk_X5_136 sl_X5_digit hM.1.1 hM.1.2 rfl (Nat.le_of_ble_eq_true rfl) (fit_of rfl) (Nat.le_of_ble_eq_true rfl) rfl ?_
                        refine V.n3c (j := e) hF dX5_event_159 hM.m13.2.1 hM.m13.2.2.1 rfl (hM.m13.lt (by omega)) (hM.m13.sm (by decide)) hM.d3 ?_
                        refine V.vret hF dX5_event_160 (Nat.le_refl _) (Nat.le_refl _) ?_
                        cases hk3 : ppr g n (a + 3) with
                        | false =>
                          have hp := pev_g0 (show phe g n a ≠ nI 105 by rw [hc]; decide) (show pku (phe g n a) = true by rw [hc]; decide) hk (show ¬ (phe g n a = nI 106 ∨ phe g n a = nI 108) by rw [hc]; decide) (show phe g n (a + 2) = psg (phe g n a) by rw [hc]; exact of_decide_eq_true hk2) hc hk3
                          exact evL hp (zf_f hk3) (evt_o3 (by rw [hp]))
                        | true =>
                          have hp := pev_g1 (show phe g n a ≠ nI 105 by rw [hc]; decide) (show pku (phe g n a) = true by rw [hc]; decide) hk (show ¬ (phe g n a = nI 106 ∨ phe g n a = nI 108) by rw [hc]; decide) (show phe g n (a + 2) = psg (phe g n a) by rw [hc]; exact of_decide_eq_true hk2) hc hk3
                          exact evL hp (zf_t hk3) (evt_all (by rw [hc]) rfl (by rw [pevS, if_pos hc]))
                    · have hk2 := bN_0 h139
                      refine V.vret hF dX5_event_142 (Nat.le_refl _) (Nat.le_refl _) ?_
                      have hp := pev_2 (show phe g n a ≠ nI 105 by rw [hc]; decide) (show pku (phe g n a) = true by rw [hc]; decide) hk (show ¬ (phe g n a = nI 106 ∨ phe g n a = nI 108) by rw [hc]; decide) (show ¬ phe g n (a + 2) = psg (phe g n a) by rw [hc]; exact of_decide_eq_false hk2)
                      exact evL hp (zf_f hk2) (evt_o2 (by rw [hp]))
                  · exact absurd h122 (by decide)
                · exact absurd h114 (by decide)
          · exact absurd h83 (by decide)
        · exact (h59 (by decide)).elim
      · exact absurd h25 (by decide)
set_option maxRecDepth 20000 in
theorem ct_X5_event_106 (hst : l.stackTraces = false) (σ : SH) (I X : IX) (o : Nat) (ar : Nat → Nat) (hM : MS σ o ar) (f : Rw) (g : Rw) (hg : X (ar 5) = g) (n a : Nat) (h6 : f 6 = nI n) (hn : n ≤ 60) (ha : a ≤ 60) (gk gf gs : Rw) (e : Nat) (he : e < 60) (hc : phe g n a = nI 106) : Ct l D cy sa sv yX5_event cX5_event 5 none 3 0 0 [.ref o, .int (nI e)] σ (va_up I o (zf f a 0)) (N3 X (ar 11) (ar 12) (ar 13) gk gf gs) (fun v' σ' I' X' => v' = none ∧ σ' = σ ∧ I' = va_up I o (zf f (pevA g n a).2 (bN (!(pevA g n a).1))) ∧ ∃ gk' gf' gs' : Rw, X' = N3 X (ar 11) (ar 12) (ar 13) gk' gf' gs' ∧ Evt g n a e gk gf gs gk' gf' gs') noX := by
  refine Ct.of (by decide) hst (Nat.le_of_ble_eq_true rfl) ?_
  intro pp ee ss mm args below meth kc A hF hnm hout
  refine V.aload_n hF dX5_event_0 rfl ?_
  refine V.vI hF dX5_event_1 (ct_X5_here hst _ _ _ _ _ hM _ (va_up_self _ _ _) _ (N3_o (hM.ne 5 11 (by decide) (by decide) (by decide)) (hM.ne 5 12 (by decide) (by decide) (by decide)) (hM.ne 5 13 (by decide) (by decide) (by decide)) hg) _ _ ((zf_o _ _ _ (by decide) (by decide)).trans h6) (zf_9 _ _ _) hn (by omega)) lk_X5_129 sl_X5_here hM.1.1 hM.1.2 rfl (Nat.le_of_ble_eq_true rfl) (fit_of rfl) (Nat.le_of_ble_eq_true rfl) rfl ?_
  refine V.topi (y := nI 106) hc ?_
  refine V.istore_n hF dX5_event_4 (by decide) ?_
  refine V.aload_n hF dX5_event_5 rfl ?_
  refine V.dup hF dX5_event_6 rfl ?_
  refine V.getIF hF dX5_event_7 fl_X5_132 hM.1.1 hM.1.2 rfl (va_up_self _ _ _) ?_
  refine V.topi (y := nI 0) (zf_10 _ _ _) ?_
  refine V.iload_n hF dX5_event_10 rfl ?_
  refine V.bipush (v := nI 98) hF dX5_event_11 (by decide) ?_
  refine V.icmp_eq (tgt := 50) hF dX5_event_13 (by decide) (fun h13 => ?_) (fun h13 => ?_)
  · exact absurd h13 (by decide)
  · refine V.iload_n hF dX5_event_16 rfl ?_
    refine V.bipush (v := nI 97) hF dX5_event_17 (by decide) ?_
    refine V.icmp_eq (tgt := 50) hF dX5_event_19 (by decide) (fun h19 => ?_) (fun h19 => ?_)
    · exact absurd h19 (by decide)
    · refine V.iload_n hF dX5_event_22 rfl ?_
      refine V.bipush (v := nI 103) hF dX5_event_23 (by decide) ?_
      refine V.icmp_eq (tgt := 50) hF dX5_event_25 (by decide) (fun h25 => ?_) (fun h25 => ?_)
      · exact absurd h25 (by decide)
      · refine V.iload_n hF dX5_event_28 rfl ?_
        refine V.bipush (v := nI 106) hF dX5_event_29 (by decide) ?_
        refine V.icmp_eq (tgt := 50) hF dX5_event_31 (by decide) (fun h31 => ?_) (fun h31 => ?_)
        · refine V.iconst (v := nI 0) hF dX5_event_50 (by decide) ?_
          refine V.ior hF dX5_event_51 ?_
          refine V.topi (y := nI 0) (by decide) ?_
          refine V.putIU hF dX5_event_52 fl_X5_132 hM.1.1 hM.1.2 rfl rfl rfl ?_
          refine V.eqI (congrArg (va_up I o) (zf_u10 _ _ _ _)) ?_
          refine V.aload_n hF dX5_event_55 rfl ?_
          refine V.getIF hF dX5_event_56 fl_X5_132 hM.1.1 hM.1.2 rfl (va_up_self _ _ _) ?_
          refine V.topi (y := nI 0) (zf_10 _ _ _) ?_
          refine V.if_eq (tgt := 63) hF dX5_event_59 (by decide) (fun h59 => ?_) (fun h59 => ?_)
          · refine V.aload_n hF dX5_event_63 rfl ?_
            refine V.dup hF dX5_event_64 rfl ?_
            refine V.getIF hF dX5_event_65 fl_X5_126 hM.1.1 hM.1.2 rfl (va_up_self _ _ _) ?_
            refine V.topi (y := nI a) (zf_9 _ _ _) ?_
            refine V.iconst (v := nI 1) hF dX5_event_68 (by decide) ?_
            refine V.iadd hF dX5_event_69 ?_
            refine V.topi (y := nI (a + 1)) (nI_add _ _) ?_
            refine V.putIU hF dX5_event_70 fl_X5_126 hM.1.1 hM.1.2 rfl rfl rfl ?_
            refine V.eqI (congrArg (va_up I o) (zf_u9 _ _ _ _)) ?_
            refine V.aload_n hF dX5_event_73 rfl ?_
            refine V.getR hF dX5_event_74 fl_X5_29 hM.1.1 hM.1.2 rfl hM.m11.1 ?_
            refine V.iload_n hF dX5_event_77 rfl ?_
            refine V.iload_n hF dX5_event_78 rfl ?_
            refine V.n3a (j := e) hF dX5_event_79 hM.m11.2.1 hM.m11.2.2.1 rfl (hM.m11.lt (by omega)) (hM.m11.sm (by decide)) hM.d3 ?_
            refine V.iload_n hF dX5_event_80 rfl ?_
            refine V.bipush (v := nI 105) hF dX5_event_81 (by decide) ?_
            refine V.icmp_ne (tgt := 87) hF dX5_event_83 (by decide) (fun h83 => ?_) (fun h83 => ?_)
            · refine V.aload_n hF dX5_event_87 rfl ?_
              refine V.getR hF dX5_event_88 fl_X5_32 hM.1.1 hM.1.2 rfl hM.m12.1 ?_
              refine V.iload_n hF dX5_event_91 rfl ?_
              refine V.aload_n hF dX5_event_92 rfl ?_
              refine V.iconst (v := nI 5) hF dX5_event_93 (by decide) ?_
              refine V.vI hF dX5_event_94 (ct_X5_digit hst _ _ _ _ _ hM f _ (N3_o (hM.ne 5 11 (by decide) (by decide) (by decide)) (hM.ne 5 12 (by decide) (by decide) (by decide)) (hM.ne 5 13 (by decide) (by decide) (by decide)) hg) n (a + 1) h6 hn (by omega) _) lk_X5_136 sl_X5_digit hM.1.1 hM.1.2 rfl (Nat.le_of_ble_eq_true rfl) (fit_of rfl) (Nat.le_of_ble_eq_true rfl) rfl ?_
              refine V.n3b (j := e) hF dX5_event_97 hM.m12.2.1 hM.m12.2.2.1 rfl (hM.m12.lt (by omega)) (hM.m12.sm (by decide)) hM.d3 ?_
              refine V.aload_n hF dX5_event_98 rfl ?_
              refine V.getIF hF dX5_event_99 fl_X5_132 hM.1.1 hM.1.2 rfl (va_up_self _ _ _) ?_
              refine V.topi (y := nI (bN (!(zisIn (pd g n (a + 1)) (nI 0) (nI 5))))) (zf_10 _ _ _) ?_
              refine V.if_ne (tgt := 117) hF dX5_event_102 (by decide) (fun h102 => ?_) (fun h102 => ?_)
              · have hk := bN_0 h102
                refine V.vret hF dX5_event_117 (Nat.le_refl _) (Nat.le_refl _) ?_
                have hp := pev_1 (show phe g n a ≠ nI 105 by rw [hc]; decide) (show pku (phe g n a) = true by rw [hc]; decide) hk
                exact evL hp (zf_f hk) (evt_o2 (by rw [hp]))
              · have hk := bN_1 h102
                refine V.eqI (I' := va_up I o (zf f (a + 2) 0)) (congrArg (va_up I o) (zf_t hk)) ?_
                refine V.iload_n hF dX5_event_105 rfl ?_
                refine V.bipush (v := nI 106) hF dX5_event_106 (by decide) ?_
                refine V.icmp_eq (tgt := 117) hF dX5_event_108 (by decide) (fun h108 => ?_) (fun h108 => ?_)
                · refine V.vret hF dX5_event_117 (Nat.le_refl _) (Nat.le_refl _) ?_
                  have hp := pev_jl (show phe g n a ≠ nI 105 by rw [hc]; decide) (show pku (phe g n a) = true by rw [hc]; decide) hk (by rw [hc]; decide)
                  exact evL hp rfl (evt_kf (by rw [hc]) rfl (fun h => by rw [hc] at h; exact absurd h (by decide)))
                · exact absurd h108 (by decide)
            · exact absurd h83 (by decide)
          · exact (h59 (by decide)).elim
        · exact absurd h31 (by decide)
set_option maxRecDepth 20000 in
theorem ct_X5_event_108 (hst : l.stackTraces = false) (σ : SH) (I X : IX) (o : Nat) (ar : Nat → Nat) (hM : MS σ o ar) (f : Rw) (g : Rw) (hg : X (ar 5) = g) (n a : Nat) (h6 : f 6 = nI n) (hn : n ≤ 60) (ha : a ≤ 60) (gk gf gs : Rw) (e : Nat) (he : e < 60) (hc : phe g n a = nI 108) : Ct l D cy sa sv yX5_event cX5_event 5 none 3 0 0 [.ref o, .int (nI e)] σ (va_up I o (zf f a 0)) (N3 X (ar 11) (ar 12) (ar 13) gk gf gs) (fun v' σ' I' X' => v' = none ∧ σ' = σ ∧ I' = va_up I o (zf f (pevA g n a).2 (bN (!(pevA g n a).1))) ∧ ∃ gk' gf' gs' : Rw, X' = N3 X (ar 11) (ar 12) (ar 13) gk' gf' gs' ∧ Evt g n a e gk gf gs gk' gf' gs') noX := by
  refine Ct.of (by decide) hst (Nat.le_of_ble_eq_true rfl) ?_
  intro pp ee ss mm args below meth kc A hF hnm hout
  refine V.aload_n hF dX5_event_0 rfl ?_
  refine V.vI hF dX5_event_1 (ct_X5_here hst _ _ _ _ _ hM _ (va_up_self _ _ _) _ (N3_o (hM.ne 5 11 (by decide) (by decide) (by decide)) (hM.ne 5 12 (by decide) (by decide) (by decide)) (hM.ne 5 13 (by decide) (by decide) (by decide)) hg) _ _ ((zf_o _ _ _ (by decide) (by decide)).trans h6) (zf_9 _ _ _) hn (by omega)) lk_X5_129 sl_X5_here hM.1.1 hM.1.2 rfl (Nat.le_of_ble_eq_true rfl) (fit_of rfl) (Nat.le_of_ble_eq_true rfl) rfl ?_
  refine V.topi (y := nI 108) hc ?_
  refine V.istore_n hF dX5_event_4 (by decide) ?_
  refine V.aload_n hF dX5_event_5 rfl ?_
  refine V.dup hF dX5_event_6 rfl ?_
  refine V.getIF hF dX5_event_7 fl_X5_132 hM.1.1 hM.1.2 rfl (va_up_self _ _ _) ?_
  refine V.topi (y := nI 0) (zf_10 _ _ _) ?_
  refine V.iload_n hF dX5_event_10 rfl ?_
  refine V.bipush (v := nI 98) hF dX5_event_11 (by decide) ?_
  refine V.icmp_eq (tgt := 50) hF dX5_event_13 (by decide) (fun h13 => ?_) (fun h13 => ?_)
  · exact absurd h13 (by decide)
  · refine V.iload_n hF dX5_event_16 rfl ?_
    refine V.bipush (v := nI 97) hF dX5_event_17 (by decide) ?_
    refine V.icmp_eq (tgt := 50) hF dX5_event_19 (by decide) (fun h19 => ?_) (fun h19 => ?_)
    · exact absurd h19 (by decide)
    · refine V.iload_n hF dX5_event_22 rfl ?_
      refine V.bipush (v := nI 103) hF dX5_event_23 (by decide) ?_
      refine V.icmp_eq (tgt := 50) hF dX5_event_25 (by decide) (fun h25 => ?_) (fun h25 => ?_)
      · exact absurd h25 (by decide)
      · refine V.iload_n hF dX5_event_28 rfl ?_
        refine V.bipush (v := nI 106) hF dX5_event_29 (by decide) ?_
        refine V.icmp_eq (tgt := 50) hF dX5_event_31 (by decide) (fun h31 => ?_) (fun h31 => ?_)
        · exact absurd h31 (by decide)
        · refine V.iload_n hF dX5_event_34 rfl ?_
          refine V.bipush (v := nI 108) hF dX5_event_35 (by decide) ?_
          refine V.icmp_eq (tgt := 50) hF dX5_event_37 (by decide) (fun h37 => ?_) (fun h37 => ?_)
          · refine V.iconst (v := nI 0) hF dX5_event_50 (by decide) ?_
            refine V.ior hF dX5_event_51 ?_
            refine V.topi (y := nI 0) (by decide) ?_
            refine V.putIU hF dX5_event_52 fl_X5_132 hM.1.1 hM.1.2 rfl rfl rfl ?_
            refine V.eqI (congrArg (va_up I o) (zf_u10 _ _ _ _)) ?_
            refine V.aload_n hF dX5_event_55 rfl ?_
            refine V.getIF hF dX5_event_56 fl_X5_132 hM.1.1 hM.1.2 rfl (va_up_self _ _ _) ?_
            refine V.topi (y := nI 0) (zf_10 _ _ _) ?_
            refine V.if_eq (tgt := 63) hF dX5_event_59 (by decide) (fun h59 => ?_) (fun h59 => ?_)
            · refine V.aload_n hF dX5_event_63 rfl ?_
              refine V.dup hF dX5_event_64 rfl ?_
              refine V.getIF hF dX5_event_65 fl_X5_126 hM.1.1 hM.1.2 rfl (va_up_self _ _ _) ?_
              refine V.topi (y := nI a) (zf_9 _ _ _) ?_
              refine V.iconst (v := nI 1) hF dX5_event_68 (by decide) ?_
              refine V.iadd hF dX5_event_69 ?_
              refine V.topi (y := nI (a + 1)) (nI_add _ _) ?_
              refine V.putIU hF dX5_event_70 fl_X5_126 hM.1.1 hM.1.2 rfl rfl rfl ?_
              refine V.eqI (congrArg (va_up I o) (zf_u9 _ _ _ _)) ?_
              refine V.aload_n hF dX5_event_73 rfl ?_
              refine V.getR hF dX5_event_74 fl_X5_29 hM.1.1 hM.1.2 rfl hM.m11.1 ?_
              refine V.iload_n hF dX5_event_77 rfl ?_
              refine V.iload_n hF dX5_event_78 rfl ?_
              refine V.n3a (j := e) hF dX5_event_79 hM.m11.2.1 hM.m11.2.2.1 rfl (hM.m11.lt (by omega)) (hM.m11.sm (by decide)) hM.d3 ?_
              refine V.iload_n hF dX5_event_80 rfl ?_
              refine V.bipush (v := nI 105) hF dX5_event_81 (by decide) ?_
              refine V.icmp_ne (tgt := 87) hF dX5_event_83 (by decide) (fun h83 => ?_) (fun h83 => ?_)
              · refine V.aload_n hF dX5_event_87 rfl ?_
                refine V.getR hF dX5_event_88 fl_X5_32 hM.1.1 hM.1.2 rfl hM.m12.1 ?_
                refine V.iload_n hF dX5_event_91 rfl ?_
                refine V.aload_n hF dX5_event_92 rfl ?_
                refine V.iconst (v := nI 5) hF dX5_event_93 (by decide) ?_
                refine V.vI hF dX5_event_94 (ct_X5_digit hst _ _ _ _ _ hM f _ (N3_o (hM.ne 5 11 (by decide) (by decide) (by decide)) (hM.ne 5 12 (by decide) (by decide) (by decide)) (hM.ne 5 13 (by decide) (by decide) (by decide)) hg) n (a + 1) h6 hn (by omega) _) lk_X5_136 sl_X5_digit hM.1.1 hM.1.2 rfl (Nat.le_of_ble_eq_true rfl) (fit_of rfl) (Nat.le_of_ble_eq_true rfl) rfl ?_
                refine V.n3b (j := e) hF dX5_event_97 hM.m12.2.1 hM.m12.2.2.1 rfl (hM.m12.lt (by omega)) (hM.m12.sm (by decide)) hM.d3 ?_
                refine V.aload_n hF dX5_event_98 rfl ?_
                refine V.getIF hF dX5_event_99 fl_X5_132 hM.1.1 hM.1.2 rfl (va_up_self _ _ _) ?_
                refine V.topi (y := nI (bN (!(zisIn (pd g n (a + 1)) (nI 0) (nI 5))))) (zf_10 _ _ _) ?_
                refine V.if_ne (tgt := 117) hF dX5_event_102 (by decide) (fun h102 => ?_) (fun h102 => ?_)
                · have hk := bN_0 h102
                  refine V.vret hF dX5_event_117 (Nat.le_refl _) (Nat.le_refl _) ?_
                  have hp := pev_1 (show phe g n a ≠ nI 105 by rw [hc]; decide) (show pku (phe g n a) = true by rw [hc]; decide) hk
                  exact evL hp (zf_f hk) (evt_o2 (by rw [hp]))
                · have hk := bN_1 h102
                  refine V.eqI (I' := va_up I o (zf f (a + 2) 0)) (congrArg (va_up I o) (zf_t hk)) ?_
                  refine V.iload_n hF dX5_event_105 rfl ?_
                  refine V.bipush (v := nI 106) hF dX5_event_106 (by decide) ?_
                  refine V.icmp_eq (tgt := 117) hF dX5_event_108 (by decide) (fun h108 => ?_) (fun h108 => ?_)
                  · exact absurd h108 (by decide)
                  · refine V.iload_n hF dX5_event_111 rfl ?_
                    refine V.bipush (v := nI 108) hF dX5_event_112 (by decide) ?_
                    refine V.icmp_ne (tgt := 118) hF dX5_event_114 (by decide) (fun h114 => ?_) (fun h114 => ?_)
                    · exact absurd h114 (by decide)
                    · refine V.vret hF dX5_event_117 (Nat.le_refl _) (Nat.le_refl _) ?_
                      have hp := pev_jl (show phe g n a ≠ nI 105 by rw [hc]; decide) (show pku (phe g n a) = true by rw [hc]; decide) hk (by rw [hc]; decide)
                      exact evL hp rfl (evt_kf (by rw [hc]) rfl (fun h => by rw [hc] at h; exact absurd h (by decide)))
              · exact absurd h83 (by decide)
            · exact (h59 (by decide)).elim
          · exact absurd h37 (by decide)
set_option maxRecDepth 20000 in
theorem ct_X5_event_105 (hst : l.stackTraces = false) (σ : SH) (I X : IX) (o : Nat) (ar : Nat → Nat) (hM : MS σ o ar) (f : Rw) (g : Rw) (hg : X (ar 5) = g) (n a : Nat) (h6 : f 6 = nI n) (hn : n ≤ 60) (ha : a ≤ 60) (gk gf gs : Rw) (e : Nat) (he : e < 60) (hc : phe g n a = nI 105) : Ct l D cy sa sv yX5_event cX5_event 5 none 3 0 0 [.ref o, .int (nI e)] σ (va_up I o (zf f a 0)) (N3 X (ar 11) (ar 12) (ar 13) gk gf gs) (fun v' σ' I' X' => v' = none ∧ σ' = σ ∧ I' = va_up I o (zf f (pevA g n a).2 (bN (!(pevA g n a).1))) ∧ ∃ gk' gf' gs' : Rw, X' = N3 X (ar 11) (ar 12) (ar 13) gk' gf' gs' ∧ Evt g n a e gk gf gs gk' gf' gs') noX := by
  refine Ct.of (by decide) hst (Nat.le_of_ble_eq_true rfl) ?_
  intro pp ee ss mm args below meth kc A hF hnm hout
  refine V.aload_n hF dX5_event_0 rfl ?_
  refine V.vI hF dX5_event_1 (ct_X5_here hst _ _ _ _ _ hM _ (va_up_self _ _ _) _ (N3_o (hM.ne 5 11 (by decide) (by decide) (by decide)) (hM.ne 5 12 (by decide) (by decide) (by decide)) (hM.ne 5 13 (by decide) (by decide) (by decide)) hg) _ _ ((zf_o _ _ _ (by decide) (by decide)).trans h6) (zf_9 _ _ _) hn (by omega)) lk_X5_129 sl_X5_here hM.1.1 hM.1.2 rfl (Nat.le_of_ble_eq_true rfl) (fit_of rfl) (Nat.le_of_ble_eq_true rfl) rfl ?_
  refine V.topi (y := nI 105) hc ?_
  refine V.istore_n hF dX5_event_4 (by decide) ?_
  refine V.aload_n hF dX5_event_5 rfl ?_
  refine V.dup hF dX5_event_6 rfl ?_
  refine V.getIF hF dX5_event_7 fl_X5_132 hM.1.1 hM.1.2 rfl (va_up_self _ _ _) ?_
  refine V.topi (y := nI 0) (zf_10 _ _ _) ?_
  refine V.iload_n hF dX5_event_10 rfl ?_
  refine V.bipush (v := nI 98) hF dX5_event_11 (by decide) ?_
  refine V.icmp_eq (tgt := 50) hF dX5_event_13 (by decide) (fun h13 => ?_) (fun h13 => ?_)
  · exact absurd h13 (by decide)
  · refine V.iload_n hF dX5_event_16 rfl ?_
    refine V.bipush (v := nI 97) hF dX5_event_17 (by decide) ?_
    refine V.icmp_eq (tgt := 50) hF dX5_event_19 (by decide) (fun h19 => ?_) (fun h19 => ?_)
    · exact absurd h19 (by decide)
    · refine V.iload_n hF dX5_event_22 rfl ?_
      refine V.bipush (v := nI 103) hF dX5_event_23 (by decide) ?_
      refine V.icmp_eq (tgt := 50) hF dX5_event_25 (by decide) (fun h25 => ?_) (fun h25 => ?_)
      · exact absurd h25 (by decide)
      · refine V.iload_n hF dX5_event_28 rfl ?_
        refine V.bipush (v := nI 106) hF dX5_event_29 (by decide) ?_
        refine V.icmp_eq (tgt := 50) hF dX5_event_31 (by decide) (fun h31 => ?_) (fun h31 => ?_)
        · exact absurd h31 (by decide)
        · refine V.iload_n hF dX5_event_34 rfl ?_
          refine V.bipush (v := nI 108) hF dX5_event_35 (by decide) ?_
          refine V.icmp_eq (tgt := 50) hF dX5_event_37 (by decide) (fun h37 => ?_) (fun h37 => ?_)
          · exact absurd h37 (by decide)
          · refine V.iload_n hF dX5_event_40 rfl ?_
            refine V.bipush (v := nI 105) hF dX5_event_41 (by decide) ?_
            refine V.icmp_eq (tgt := 50) hF dX5_event_43 (by decide) (fun h43 => ?_) (fun h43 => ?_)
            · refine V.iconst (v := nI 0) hF dX5_event_50 (by decide) ?_
              refine V.ior hF dX5_event_51 ?_
              refine V.topi (y := nI 0) (by decide) ?_
              refine V.putIU hF dX5_event_52 fl_X5_132 hM.1.1 hM.1.2 rfl rfl rfl ?_
              refine V.eqI (congrArg (va_up I o) (zf_u10 _ _ _ _)) ?_
              refine V.aload_n hF dX5_event_55 rfl ?_
              refine V.getIF hF dX5_event_56 fl_X5_132 hM.1.1 hM.1.2 rfl (va_up_self _ _ _) ?_
              refine V.topi (y := nI 0) (zf_10 _ _ _) ?_
              refine V.if_eq (tgt := 63) hF dX5_event_59 (by decide) (fun h59 => ?_) (fun h59 => ?_)
              · refine V.aload_n hF dX5_event_63 rfl ?_
                refine V.dup hF dX5_event_64 rfl ?_
                refine V.getIF hF dX5_event_65 fl_X5_126 hM.1.1 hM.1.2 rfl (va_up_self _ _ _) ?_
                refine V.topi (y := nI a) (zf_9 _ _ _) ?_
                refine V.iconst (v := nI 1) hF dX5_event_68 (by decide) ?_
                refine V.iadd hF dX5_event_69 ?_
                refine V.topi (y := nI (a + 1)) (nI_add _ _) ?_
                refine V.putIU hF dX5_event_70 fl_X5_126 hM.1.1 hM.1.2 rfl rfl rfl ?_
                refine V.eqI (congrArg (va_up I o) (zf_u9 _ _ _ _)) ?_
                refine V.aload_n hF dX5_event_73 rfl ?_
                refine V.getR hF dX5_event_74 fl_X5_29 hM.1.1 hM.1.2 rfl hM.m11.1 ?_
                refine V.iload_n hF dX5_event_77 rfl ?_
                refine V.iload_n hF dX5_event_78 rfl ?_
                refine V.n3a (j := e) hF dX5_event_79 hM.m11.2.1 hM.m11.2.2.1 rfl (hM.m11.lt (by omega)) (hM.m11.sm (by decide)) hM.d3 ?_
                refine V.iload_n hF dX5_event_80 rfl ?_
                refine V.bipush (v := nI 105) hF dX5_event_81 (by decide) ?_
                refine V.icmp_ne (tgt := 87) hF dX5_event_83 (by decide) (fun h83 => ?_) (fun h83 => ?_)
                · exact absurd h83 (by decide)
                · refine V.vret hF dX5_event_86 (Nat.le_refl _) (Nat.le_refl _) ?_
                  have hp := pev_i hc
                  exact evL hp rfl (evt_k (by rw [hc]) (fun h => absurd hc h) (fun h => by rw [hc] at h; exact absurd h (by decide)))
              · exact (h59 (by decide)).elim
            · exact absurd h43 (by decide)
set_option maxRecDepth 20000 in
theorem ct_X5_event_0 (hst : l.stackTraces = false) (σ : SH) (I X : IX) (o : Nat) (ar : Nat → Nat) (hM : MS σ o ar) (f : Rw) (g : Rw) (hg : X (ar 5) = g) (n a : Nat) (h6 : f 6 = nI n) (hn : n ≤ 60) (ha : a ≤ 60) (gk gf gs : Rw) (e : Nat) (he : e < 60) (hc1 : phe g n a ≠ nI 105) (hc2 : pku (phe g n a) = false) : Ct l D cy sa sv yX5_event cX5_event 5 none 3 0 0 [.ref o, .int (nI e)] σ (va_up I o (zf f a 0)) (N3 X (ar 11) (ar 12) (ar 13) gk gf gs) (fun v' σ' I' X' => v' = none ∧ σ' = σ ∧ I' = va_up I o (zf f (pevA g n a).2 (bN (!(pevA g n a).1))) ∧ ∃ gk' gf' gs' : Rw, X' = N3 X (ar 11) (ar 12) (ar 13) gk' gf' gs' ∧ Evt g n a e gk gf gs gk' gf' gs') noX := by
  refine Ct.of (by decide) hst (Nat.le_of_ble_eq_true rfl) ?_
  intro pp ee ss mm args below meth kc A hF hnm hout
  refine V.aload_n hF dX5_event_0 rfl ?_
  refine V.vI hF dX5_event_1 (ct_X5_here hst _ _ _ _ _ hM _ (va_up_self _ _ _) _ (N3_o (hM.ne 5 11 (by decide) (by decide) (by decide)) (hM.ne 5 12 (by decide) (by decide) (by decide)) (hM.ne 5 13 (by decide) (by decide) (by decide)) hg) _ _ ((zf_o _ _ _ (by decide) (by decide)).trans h6) (zf_9 _ _ _) hn (by omega)) lk_X5_129 sl_X5_here hM.1.1 hM.1.2 rfl (Nat.le_of_ble_eq_true rfl) (fit_of rfl) (Nat.le_of_ble_eq_true rfl) rfl ?_
  refine V.istore_n hF dX5_event_4 (by decide) ?_
  refine V.aload_n hF dX5_event_5 rfl ?_
  refine V.dup hF dX5_event_6 rfl ?_
  refine V.getIF hF dX5_event_7 fl_X5_132 hM.1.1 hM.1.2 rfl (va_up_self _ _ _) ?_
  refine V.topi (y := nI 0) (zf_10 _ _ _) ?_
  refine V.iload_n hF dX5_event_10 rfl ?_
  refine V.bipush (v := nI 98) hF dX5_event_11 (by decide) ?_
  refine V.icmp_eq (tgt := 50) hF dX5_event_13 (by decide) (fun h13 => ?_) (fun h13 => ?_)
  · exact absurd h13 (fun q => by rw [q] at hc2; exact absurd hc2 (by decide))
  · refine V.iload_n hF dX5_event_16 rfl ?_
    refine V.bipush (v := nI 97) hF dX5_event_17 (by decide) ?_
    refine V.icmp_eq (tgt := 50) hF dX5_event_19 (by decide) (fun h19 => ?_) (fun h19 => ?_)
    · exact absurd h19 (fun q => by rw [q] at hc2; exact absurd hc2 (by decide))
    · refine V.iload_n hF dX5_event_22 rfl ?_
      refine V.bipush (v := nI 103) hF dX5_event_23 (by decide) ?_
      refine V.icmp_eq (tgt := 50) hF dX5_event_25 (by decide) (fun h25 => ?_) (fun h25 => ?_)
      · exact absurd h25 (fun q => by rw [q] at hc2; exact absurd hc2 (by decide))
      · refine V.iload_n hF dX5_event_28 rfl ?_
        refine V.bipush (v := nI 106) hF dX5_event_29 (by decide) ?_
        refine V.icmp_eq (tgt := 50) hF dX5_event_31 (by decide) (fun h31 => ?_) (fun h31 => ?_)
        · exact absurd h31 (fun q => by rw [q] at hc2; exact absurd hc2 (by decide))
        · refine V.iload_n hF dX5_event_34 rfl ?_
          refine V.bipush (v := nI 108) hF dX5_event_35 (by decide) ?_
          refine V.icmp_eq (tgt := 50) hF dX5_event_37 (by decide) (fun h37 => ?_) (fun h37 => ?_)
          · exact absurd h37 (fun q => by rw [q] at hc2; exact absurd hc2 (by decide))
          · refine V.iload_n hF dX5_event_40 rfl ?_
            refine V.bipush (v := nI 105) hF dX5_event_41 (by decide) ?_
            refine V.icmp_eq (tgt := 50) hF dX5_event_43 (by decide) (fun h43 => ?_) (fun h43 => ?_)
            · exact absurd h43 hc1
            · refine V.iconst (v := nI 1) hF dX5_event_46 (by decide) ?_
              refine V.goto (tgt := 51) hF dX5_event_47 (by decide) ?_
              refine V.ior hF dX5_event_51 ?_
              refine V.topi (y := nI 1) (by decide) ?_
              refine V.putIU hF dX5_event_52 fl_X5_132 hM.1.1 hM.1.2 rfl rfl rfl ?_
              refine V.eqI (congrArg (va_up I o) (zf_u10 _ _ _ _)) ?_
              refine V.aload_n hF dX5_event_55 rfl ?_
              refine V.getIF hF dX5_event_56 fl_X5_132 hM.1.1 hM.1.2 rfl (va_up_self _ _ _) ?_
              refine V.topi (y := nI 1) (zf_10 _ _ _) ?_
              refine V.if_eq (tgt := 63) hF dX5_event_59 (by decide) (fun h59 => ?_) (fun h59 => ?_)
              · exact absurd h59 (by decide)
              · refine V.vret hF dX5_event_62 (Nat.le_refl _) (Nat.le_refl _) ?_
                have hp := pev_o hc1 hc2
                exact evL hp rfl (evt_o (by rw [hp]))
end MD
