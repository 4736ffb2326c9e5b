/-! THE LAW: what stands between two calls -/
def tagOk (tg : Nat → Nat) (t : Nat) (ad : Nat → Nat) : Prop := ∀ k, k ∈ idI ++ idX → tg (ad k) = t
def GB (σ : SH) (I X : IX) (tg : Nat → Nat) (t : Nat) (ad : Nat → Nat) (C : IX) : Prop := GS σ ad ∧ tagOk tg t ad ∧ (∀ k, k ∈ idI → I (ad k) = C k) ∧ ∀ k, k ∈ idX → X (ad k) = C k
def mIx : List Nat := [1, 2, 3, 5, 8, 11, 12, 13]
def LSh (σ : SH) (o so om out dout : Nat) (ta ar : Nat → Nat) : Prop := (o ∈ shL σ ∧ shK σ o = 4) ∧ shR σ o 0 = some so ∧ SS σ so ta ∧ MS σ om ar ∧ (out ∈ shL σ ∧ shK σ out = 13 ∧ shN σ out = 1) ∧ (dout ∈ shL σ ∧ shK σ dout = 14 ∧ shN σ dout = 1)
def LT (tg : Nat → Nat) (ta ar : Nat → Nat) (t1 t2 t3 : Nat) : Prop := (t1 < 4 ∧ t2 < 4 ∧ t3 < 4 ∧ t1 ≠ t2 ∧ t1 ≠ t3 ∧ t2 ≠ t3) ∧ (∀ j, j ∈ [0, 2, 3, 4] → tg (ta j) = 4) ∧ ∀ j, j ∈ mIx → tg (ar j) = 5
def Tri (σ : SH) (I X : IX) (o : Nat) (tg : Nat → Nat) (t : Nat) : Prop := shR σ o 2 = none ∨ ∃ (td : Nat → Nat) (E : IX), shR σ o 2 = some (td 100) ∧ GB σ I X tg t td E ∧ ∀ p, p < 6 → E (10 + p) 0 = nI p
def Sna (σ : SH) (I X : IX) (o om : Nat) (ar : Nat → Nat) (tg : Nat → Nat) (t : Nat) : Prop := (shR σ o 3 = none ∧ I om 4 = bI false) ∨ ∃ (sd : Nat → Nat) (E : IX), shR σ o 3 = some (sd 100) ∧ GB σ I X tg t sd E ∧ RG E (X (ar 2)) ∧ I om 4 = bI true
def Inp (I X : IX) (so om : Nat) (ta ar : Nat → Nat) (n : Nat) : Prop := I so 1 = nI n ∧ n ≤ 60 ∧ I om 6 = nI n ∧ ∀ i, i < n → X (ta 0) i = X (ar 5) i
def Err (I : IX) (o om : Nat) : Prop := I o 4 = I om 7 ∧ (I om 7 = -1 ∨ ∃ k, k ≤ 70 ∧ I om 7 = nI k)
def LWx (σ : SH) (I X : IX) (o so om out dout : Nat) (ta ar : Nat → Nat) (tg ad : Nat → Nat) (C : IX) (n t1 t2 t3 : Nat) : Prop :=
  LSh σ o so om out dout ta ar ∧ LT tg ta ar t1 t2 t3 ∧ shR σ o 1 = some (ad 100) ∧ GB σ I X tg t1 ad C ∧ RG C (X (ar 1)) ∧ Tri σ I X o tg t2 ∧ Sna σ I X o om ar tg t3 ∧ Inp I X so om ta ar n ∧ Err I o om
def LW (σ : SH) (I X : IX) (o so om out dout : Nat) (ta ar : Nat → Nat) : Prop := ∃ (tg ad : Nat → Nat) (C : IX) (n t1 t2 t3 : Nat), LWx σ I X o so om out dout ta ar tg ad C n t1 t2 t3
theorem idI_c : ∀ k, k ∈ idI → k = 100 ∨ k = 2 ∨ k = 10 ∨ k = 11 ∨ k = 12 ∨ k = 13 ∨ k = 14 ∨ k = 15 := by decide
theorem GS.kI {σ : SH} {ad : Nat → Nat} (h : GS σ ad) {k : Nat} (hk : k ∈ idI) : shK σ (ad k) < 3 := by
  have hp : ∀ p, p < 6 → shK σ (ad (10 + p)) < 3 := fun p hp => by rw [(h.rp hp).2]; omega
  rcases idI_c k hk with rfl | rfl | rfl | rfl | rfl | rfl | rfl | rfl
  · rw [h.g.2]; omega
  · rw [h.m.2]; omega
  · exact hp 0 (by omega)
  · exact hp 1 (by omega)
  · exact hp 2 (by omega)
  · exact hp 3 (by omega)
  · exact hp 4 (by omega)
  · exact hp 5 (by omega)
theorem GB.nI {σ : SH} {I X : IX} {tg : Nat → Nat} {t : Nat} {ad : Nat → Nat} {C : IX} (h : GB σ I X tg t ad C) {a : Nat} (ha : ¬ shK σ a < 3) : ∀ k ∈ idI, ad k ≠ a := fun k hk e => ha (e ▸ h.1.kI hk)
theorem GB.nX {σ : SH} {I X : IX} {tg : Nat → Nat} {t : Nat} {ad : Nat → Nat} {C : IX} (h : GB σ I X tg t ad C) {a : Nat} (ha : tg a ≠ t) : ∀ k ∈ idX, ad k ≠ a := fun k hk e => ha (e ▸ h.2.1 k (mem_b hk))
theorem GB.nn {σ : SH} {I X : IX} {tg : Nat → Nat} {t t' : Nat} {ad bd : Nat → Nat} {C E : IX} (h : GB σ I X tg t ad C) (g : GB σ I X tg t' bd E) (ht : t ≠ t') {k j : Nat} (hk : k ∈ idI ++ idX) (hj : j ∈ idI ++ idX) : ad k ≠ bd j := fun e => ht ((h.2.1 k hk).symm.trans (e ▸ g.2.1 j hj))
theorem mIx_of {j : Nat} (h : j ∈ mIx) : j ∈ [1, 2, 3, 5, 8, 11, 12, 13] := h
section LWs
variable {σ : SH} {I X : IX} {o so om out dout : Nat} {ta ar : Nat → Nat} {tg ad : Nat → Nat} {C : IX} {n t1 t2 t3 : Nat}
theorem LWx.fs (h : LWx σ I X o so om out dout ta ar tg ad C n t1 t2 t3) : FS σ o ad := ⟨h.1.1, h.2.2.1⟩
theorem LWx.gb (h : LWx σ I X o so om out dout ta ar tg ad C n t1 t2 t3) : GB σ I X tg t1 ad C := h.2.2.2.1
theorem LWx.rg (h : LWx σ I X o so om out dout ta ar tg ad C n t1 t2 t3) : RG C (X (ar 1)) := h.2.2.2.2.1
theorem LWx.ms (h : LWx σ I X o so om out dout ta ar tg ad C n t1 t2 t3) : MS σ om ar := h.1.2.2.2.1
theorem LWx.ss (h : LWx σ I X o so om out dout ta ar tg ad C n t1 t2 t3) : SS σ so ta := h.1.2.2.1
theorem LWx.eI (h : LWx σ I X o so om out dout ta ar tg ad C n t1 t2 t3) : I = put idI I ad C := (put_eta h.gb.2.2.1).symm
theorem LWx.eX (h : LWx σ I X o so om out dout ta ar tg ad C n t1 t2 t3) : X = put idX X ad C := (put_eta h.gb.2.2.2).symm
theorem LWx.nom (h : LWx σ I X o so om out dout ta ar tg ad C n t1 t2 t3) : ∀ k ∈ idI, ad k ≠ om := h.gb.nI (by rw [h.ms.1.2]; omega)
theorem LWx.aj (h : LWx σ I X o so om out dout ta ar tg ad C n t1 t2 t3) {j : Nat} (hj : j ∈ mIx) : ∀ k ∈ idX, ad k ≠ ar j := h.gb.nX (by rw [h.2.1.2.2 j hj]; have := h.2.1.1.1; omega)
theorem LWx.pm (h : LWx σ I X o so om out dout ta ar tg ad C n t1 t2 t3) (C' : IX) : put idI I ad C' om = I om := put_off h.nom
theorem LWx.pa (h : LWx σ I X o so om out dout ta ar tg ad C n t1 t2 t3) (C' : IX) {j : Nat} (hj : j ∈ mIx) : put idX X ad C' (ar j) = X (ar j) := put_off (h.aj hj)
/-- a call that changes the group, the reference's row, and no more -/
theorem LWx.step (h : LWx σ I X o so om out dout ta ar tg ad C n t1 t2 t3) {σ' : SH} {I' X' : IX} {C' : IX} (hσ : ∃ (J : Nat → Nat → Int64) (Z : Nat → Nat → UInt64), σ' = (shL σ, shK σ, shR σ, shN σ, shY σ, J, Z))
    (hI : ∀ a, (∀ k ∈ idI, ad k ≠ a) → a ≠ om → I' a = I a) (hm : ∀ j, j ≠ 0 → I' om j = I om j) (hIC : ∀ k, k ∈ idI → I' (ad k) = C' k) (hX : ∀ a, (∀ k ∈ idX, ad k ≠ a) → a ≠ ar 1 → a ≠ ar 8 → X' a = X a) (hXC : ∀ k, k ∈ idX → X' (ad k) = C' k) (hR : RG C' (X' (ar 1))) : LWx σ' I' X' o so om out dout ta ar tg ad C' n t1 t2 t3 := by
  obtain ⟨J, Z, rfl⟩ := hσ
  obtain ⟨hS, hT, h1, hG, hRG, hTr, hSn, hIn, hEr⟩ := h
  have hms := hS.2.2.2.1
  have hss := hS.2.2.1
  have oth : ∀ {t : Nat} {bd : Nat → Nat} {E : IX}, t1 ≠ t → t < 4 → GB σ I X tg t bd E → GB (shL σ, shK σ, shR σ, shN σ, shY σ, J, Z) I' X' tg t bd E := fun {t} {bd} {E} ht h4 g => by
    refine ⟨g.1, g.2.1, fun k hk => ?_, fun k hk => ?_⟩
    · rw [hI _ (fun j hj => hG.nn g ht (mem_a hj) (mem_a hk)) (g.nI (by rw [hms.1.2]; omega) k hk)]; exact g.2.2.1 k hk
    · have e1 : bd k ≠ ar 1 := g.nX (by rw [hT.2.2 1 (by decide)]; omega) k hk
      have e8 : bd k ≠ ar 8 := g.nX (by rw [hT.2.2 8 (by decide)]; omega) k hk
      rw [hX _ (fun j hj => hG.nn g ht (mem_b hj) (mem_b hk)) e1 e8]; exact g.2.2.2 k hk
  have xr : ∀ j, j ∈ mIx → j ≠ 1 → j ≠ 8 → X' (ar j) = X (ar j) := fun j hj n1 n8 => hX _ (hG.nX (by rw [hT.2.2 j hj]; have := hT.1.1; omega)) (hms.ne j 1 hj (by decide) n1) (hms.ne j 8 hj (by decide) n8)
  have so_ : I' so = I so := hI _ (hG.nI (by rw [hss.1.2]; omega)) (fun e => by have := hss.1.2; rw [e, hms.1.2] at this; omega)
  have o_ : I' o = I o := hI _ (hG.nI (by rw [hS.1.2]; omega)) (fun e => by have := hS.1.2; rw [e, hms.1.2] at this; omega)
  have t0 : X' (ta 0) = X (ta 0) := by
    have k0 : shK σ (ta 0) = 10 := hss.a0.2.2.1
    refine hX _ (hG.nX (by rw [hT.2.1 0 (by decide)]; have := hT.1.1; omega)) (fun e => ?_) (fun e => ?_)
    · have := hms.m1.2.2.1; rw [← e, k0] at this; omega
    · have := hms.m8.2.2.1; rw [← e, k0] at this; omega
  refine ⟨hS, hT, h1, ⟨hG.1, hG.2.1, hIC, hXC⟩, hR, ?_, ?_, ⟨by rw [so_]; exact hIn.1, hIn.2.1, by rw [hm 6 (by omega)]; exact hIn.2.2.1, fun i hi => by rw [t0, xr 5 (by decide) (by omega) (by omega)]; exact hIn.2.2.2 i hi⟩, ⟨by rw [o_, hm 7 (by omega)]; exact hEr.1, by rw [hm 7 (by omega)]; exact hEr.2⟩⟩
  · rcases hTr with q | ⟨td, E, q1, q2, q3⟩
    · exact Or.inl q
    · exact Or.inr ⟨td, E, q1, oth hT.1.2.2.2.1 hT.1.2.1 q2, q3⟩
  · rcases hSn with ⟨q1, q2⟩ | ⟨sd, E, q1, q2, q3, q4⟩
    · exact Or.inl ⟨q1, by rw [hm 4 (by omega)]; exact q2⟩
    · exact Or.inr ⟨sd, E, q1, oth hT.1.2.2.2.2.1 hT.1.2.2.1 q2, by rw [xr 2 (by decide) (by omega) (by omega)]; exact q3, by rw [hm 4 (by omega)]; exact q4⟩
theorem LWx.stdI (h : LWx σ I X o so om out dout ta ar tg ad C n t1 t2 t3) (C' : IX) (T : Int32) : (∀ a, (∀ k ∈ idI, ad k ≠ a) → a ≠ om → va_up (put idI I ad C') om (th (I om) T) a = I a) ∧ (∀ j, j ≠ 0 → va_up (put idI I ad C') om (th (I om) T) om j = I om j) ∧ ∀ k, k ∈ idI → va_up (put idI I ad C') om (th (I om) T) (ad k) = C' k :=
  ⟨fun a ha hn => by rw [va_up_ne _ _ hn]; exact put_off ha, fun j hj => by rw [va_up_self]; exact th_n hj, fun k hk => by rw [va_up_ne _ _ (h.nom k hk)]; exact put_at h.gb.1.jI hk⟩
theorem LWx.std (h : LWx σ I X o so om out dout ta ar tg ad C n t1 t2 t3) {σ' : SH} (hσ : ∃ (J : Nat → Nat → Int64) (Z : Nat → Nat → UInt64), σ' = (shL σ, shK σ, shR σ, shN σ, shY σ, J, Z)) {C' : IX} {w : Rw} (T : Int32) (hR : RG C' w) : LW σ' (va_up (put idI I ad C') om (th (I om) T)) (va_up (put idX X ad C') (ar 1) w) o so om out dout ta ar := by
  obtain ⟨a1, a2, a3⟩ := h.stdI C' T
  exact ⟨tg, ad, C', n, t1, t2, t3, h.step hσ a1 a2 a3 (fun a ha n1 _ => by rw [va_up_ne _ _ n1]; exact put_off ha) (fun k hk => by rw [va_up_ne _ _ (h.aj (by decide) k hk)]; exact put_at h.gb.1.jX hk) (by rw [va_up_self]; exact hR)⟩
theorem LWx.std0 (h : LWx σ I X o so om out dout ta ar tg ad C n t1 t2 t3) {σ' : SH} (hσ : ∃ (J : Nat → Nat → Int64) (Z : Nat → Nat → UInt64), σ' = (shL σ, shK σ, shR σ, shN σ, shY σ, J, Z)) {C' : IX} (T : Int32) (hR : RG C' (X (ar 1))) : LW σ' (va_up (put idI I ad C') om (th (I om) T)) (put idX X ad C') o so om out dout ta ar := by
  obtain ⟨a1, a2, a3⟩ := h.stdI C' T
  exact ⟨tg, ad, C', n, t1, t2, t3, h.step hσ a1 a2 a3 (fun a ha _ _ => put_off ha) (fun k hk => put_at h.gb.1.jX hk) (by rw [h.pa C' (by decide)]; exact hR)⟩
theorem LWx.std8 (h : LWx σ I X o so om out dout ta ar tg ad C n t1 t2 t3) {σ' : SH} (hσ : ∃ (J : Nat → Nat → Int64) (Z : Nat → Nat → UInt64), σ' = (shL σ, shK σ, shR σ, shN σ, shY σ, J, Z)) {C' : IX} {g8 : Rw} (T : Int32) (hR : RG C' (X (ar 1))) : LW σ' (va_up (put idI I ad C') om (th (I om) T)) (va_up (put idX X ad C') (ar 8) g8) o so om out dout ta ar := by
  obtain ⟨a1, a2, a3⟩ := h.stdI C' T
  exact ⟨tg, ad, C', n, t1, t2, t3, h.step hσ a1 a2 a3 (fun a ha _ n8 => by rw [va_up_ne _ _ n8]; exact put_off ha) (fun k hk => by rw [va_up_ne _ _ (h.aj (by decide) k hk)]; exact put_at h.gb.1.jX hk) (by rw [va_up_ne _ _ (h.ms.ne 1 8 (by decide) (by decide) (by decide)), h.pa C' (by decide)]; exact hR)⟩
end LWs
section VLa
variable {p : Program} {l : Launch} {e : Env} {R : Room} {s : State} {m : MethodId} {args : Array Value} {below : List Frame} {meth : Method} {c : Code} {D : va_G} {cy sa sv : Nat → Nat} {A : Nat → Prop} {Q : State → Prop} {cc : ByteArray} {nL : Nat} {own : String} {ret : Option FieldType} {cells slots : Nat} {σ : SH} {I X : IX} {pc : Nat} {lv : List (Nat × Value)} {st : List Value}
theorem V.topl {x y : Int64} (h : x = y) (k : V p l e R s m args below meth c D cy A Q nL cells slots σ I X pc lv (.long y :: st)) : V p l e R s m args below meth c D cy A Q nL cells slots σ I X pc lv (.long x :: st) := h ▸ k
theorem V.topd {x y : UInt64} (h : x = y) (k : V p l e R s m args below meth c D cy A Q nL cells slots σ I X pc lv (.double y :: st)) : V p l e R s m args below meth c D cy A Q nL cells slots σ I X pc lv (.double x :: st) := h ▸ k
theorem V.sld (hF : Fx p l s m args meth c D cy sa sv A nL own cc ret) {b L j : Nat} {xs : Nat → Int32} {i : Int32} (hX : va_X b L xs s s.heap) (hbl : b < s.heap.size) (hbA : ¬ A b) (hi : i = nI j) (hj : j < L) (hL : L ≤ 2048) (d : decode cc pc = .ok (.iaload, 1)) (kk : V p l e R s m args below meth c D cy A Q nL cells slots σ I X (pc + 1) lv (.int (xs j) :: st)) : V p l e R s m args below meth c D cy A Q nL cells slots σ I X pc lv (.int i :: .ref b :: st) := fun H locs ls hP hD hS hl => by
  subst hi
  have e := nI_clamp (n := j) (by omega)
  refine va_sld hF.1 hF.2.1 hX hbl hbA hS (vp_in_nI hj (by omega)) d ?_
  rw [e]
  exact kk H locs ls hP hD hS hl
theorem V.slen (hF : Fx p l s m args meth c D cy sa sv A nL own cc ret) {b L : Nat} {xs : Nat → Int32} (hX : va_X b L xs s s.heap) (hbl : b < s.heap.size) (hbA : ¬ A b) (d : decode cc pc = .ok (.arraylength, 1)) (kk : V p l e R s m args below meth c D cy A Q nL cells slots σ I X (pc + 1) lv (.int (nI L) :: st)) : V p l e R s m args below meth c D cy A Q nL cells slots σ I X pc lv (.ref b :: st) := fun H locs ls hP hD hS hl => va_slen hF.1 hF.2.1 hX hbl hbA hS d (kk H locs ls hP hD hS hl)
end VLa
theorem lg_self (x : Int64) : lg_cmp x x = 0 := by simp [lg_cmp]

section Cs
variable {p : Program} {l : Launch} {e : Env} {R : Room} {s : State} {m : MethodId} {args : Array Value} {below : List Frame} {meth : Method} {c : Code} {D : va_G} {cy sa sv : Nat → Nat} {A : Nat → Prop} {Q : State → Prop} {cells slots : Nat} {σ : SH} {I X : IX} {b L i : Nat} {xs : Nat → Int32} {o so om out dout : Nat} {ta ar tg ad : Nat → Nat} {C : IX} {n t1 t2 t3 : Nat}
set_option maxRecDepth 20000 in
theorem lcase_view (hF : Fx p l s m args meth c D cy sa sv A 9 RL cL_law (some .boolean)) (hst : l.stackTraces = false) (hnc : NC s) (hXs : va_X b L xs s s.heap) (hbl : b < s.heap.size) (hbA : ¬ A b) (hi : i + 3 < L) (hL : L ≤ 2048) (hw : LWx σ I X o so om out dout ta ar tg ad C n t1 t2 t3) (hc1 : cells + 60 ≤ R.cells) (hs1 : slots + 5000 ≤ R.slots) (hR1 : 20 ≤ R.frames) (hR2 : 10000 ≤ R.locals)
    (K : ∀ (σ' : SH) (I' X' : IX), LW σ' I' X' o so om out dout ta ar → V p l e R s m args below meth c D cy A Q 9 (cells + 60) (slots + 5000) σ' I' X' 2493 [(0, .ref b), (1, .ref o), (2, .ref om), (3, .ref out), (4, .ref dout), (5, .int (nI i))] []) : V p l e R s m args below meth c D cy A Q 9 cells slots σ I X 280 [(0, .ref b), (1, .ref o), (2, .ref om), (3, .ref out), (4, .ref dout), (5, .int (nI i))] [] := by
  have hms := hw.ms
  refine V.eqI hw.eI ?_
  refine V.eqX hw.eX ?_
  refine V.aload_n hF dL_law_280 rfl ?_
  refine V.vI hF dL_law_281 (ct_X4_view hst σ I X o ad hw.fs hw.gb.1 C) lk_L_148 sl_X4_view hw.1.1.1 hw.1.1.2 rfl (Nat.le_of_ble_eq_true rfl) ⟨by omega, by omega, by omega, by omega⟩ (Nat.le_of_ble_eq_true rfl) rfl ?_
  refine V.aload_n hF dL_law_284 rfl ?_
  refine V.vI hF dL_law_285 (ct_X5_view hst _ _ _ om ar hms _ (hw.pm C) _ (hw.pa C (by decide))) lk_L_151 sl_X5_view hms.1.1 hms.1.2 rfl (Nat.le_of_ble_eq_true rfl) ⟨by omega, by omega, by omega, by omega⟩ (Nat.le_of_ble_eq_true rfl) rfl ?_
  refine V.icmp_eq (tgt := 2493) hF dL_law_288 (by decide) (fun _ => ?_) (fun hq => absurd hw.rg.1.hd.1 hq)
  refine V.relv [0, 1, 2, 3, 4, 5] rfl ?_
  refine V.widen (k := cells + 60) (n := slots + 5000) (by omega) (by omega) ?_
  exact K _ _ _ (hw.std0 ⟨_, _, rfl⟩ _ hw.rg)
set_option maxRecDepth 20000 in
theorem lcase_proposed (hF : Fx p l s m args meth c D cy sa sv A 9 RL cL_law (some .boolean)) (hst : l.stackTraces = false) (hnc : NC s) (hXs : va_X b L xs s s.heap) (hbl : b < s.heap.size) (hbA : ¬ A b) (hi : i + 3 < L) (hL : L ≤ 2048) (hw : LWx σ I X o so om out dout ta ar tg ad C n t1 t2 t3) (hc1 : cells + 60 ≤ R.cells) (hs1 : slots + 5000 ≤ R.slots) (hR1 : 20 ≤ R.frames) (hR2 : 10000 ≤ R.locals)
    (K : ∀ (σ' : SH) (I' X' : IX), LW σ' I' X' o so om out dout ta ar → V p l e R s m args below meth c D cy A Q 9 (cells + 60) (slots + 5000) σ' I' X' 2493 [(0, .ref b), (1, .ref o), (2, .ref om), (3, .ref out), (4, .ref dout), (5, .int (nI i))] []) : V p l e R s m args below meth c D cy A Q 9 cells slots σ I X 405 [(0, .ref b), (1, .ref o), (2, .ref om), (3, .ref out), (4, .ref dout), (5, .int (nI i))] [] := by
  have hms := hw.ms
  refine V.eqI hw.eI ?_
  refine V.eqX hw.eX ?_
  refine V.aload_n hF dL_law_405 rfl ?_
  refine V.vI hF dL_law_406 (ct_X4_proposed hst σ I X o ad hw.fs hw.gb.1 C) lk_L_158 sl_X4_proposed hw.1.1.1 hw.1.1.2 rfl (Nat.le_of_ble_eq_true rfl) ⟨by omega, by omega, by omega, by omega⟩ (Nat.le_of_ble_eq_true rfl) rfl ?_
  refine V.aload_n hF dL_law_409 rfl ?_
  refine V.vI hF dL_law_410 (ct_X5_proposed hst _ _ _ om ar hms _ (hw.pm C) _ (hw.pa C (by decide))) lk_L_161 sl_X5_proposed hms.1.1 hms.1.2 rfl (Nat.le_of_ble_eq_true rfl) ⟨by omega, by omega, by omega, by omega⟩ (Nat.le_of_ble_eq_true rfl) rfl ?_
  refine V.icmp_eq (tgt := 2493) hF dL_law_413 (by decide) (fun _ => ?_) (fun hq => absurd hw.rg.1.hd.2.1 hq)
  refine V.relv [0, 1, 2, 3, 4, 5] rfl ?_
  refine V.widen (k := cells + 60) (n := slots + 5000) (by omega) (by omega) ?_
  exact K _ _ _ (hw.std0 ⟨_, _, rfl⟩ _ hw.rg)
set_option maxRecDepth 20000 in
theorem lcase_messageCount (hF : Fx p l s m args meth c D cy sa sv A 9 RL cL_law (some .boolean)) (hst : l.stackTraces = false) (hnc : NC s) (hXs : va_X b L xs s s.heap) (hbl : b < s.heap.size) (hbA : ¬ A b) (hi : i + 3 < L) (hL : L ≤ 2048) (hw : LWx σ I X o so om out dout ta ar tg ad C n t1 t2 t3) (hc1 : cells + 60 ≤ R.cells) (hs1 : slots + 5000 ≤ R.slots) (hR1 : 20 ≤ R.frames) (hR2 : 10000 ≤ R.locals)
    (K : ∀ (σ' : SH) (I' X' : IX), LW σ' I' X' o so om out dout ta ar → V p l e R s m args below meth c D cy A Q 9 (cells + 60) (slots + 5000) σ' I' X' 2493 [(0, .ref b), (1, .ref o), (2, .ref om), (3, .ref out), (4, .ref dout), (5, .int (nI i))] []) : V p l e R s m args below meth c D cy A Q 9 cells slots σ I X 834 [(0, .ref b), (1, .ref o), (2, .ref om), (3, .ref out), (4, .ref dout), (5, .int (nI i))] [] := by
  have hms := hw.ms
  refine V.eqI hw.eI ?_
  refine V.eqX hw.eX ?_
  refine V.aload_n hF dL_law_834 rfl ?_
  refine V.vI hF dL_law_835 (ct_X4_messageCount hst σ I X o ad hw.fs hw.gb.1 C) lk_L_185 sl_X4_messageCount hw.1.1.1 hw.1.1.2 rfl (Nat.le_of_ble_eq_true rfl) ⟨by omega, by omega, by omega, by omega⟩ (Nat.le_of_ble_eq_true rfl) rfl ?_
  refine V.aload_n hF dL_law_838 rfl ?_
  refine V.vI hF dL_law_839 (ct_X5_messageCount hst _ _ _ om ar hms _ (hw.pm C) _ (hw.pa C (by decide))) lk_L_188 sl_X5_messageCount hms.1.1 hms.1.2 rfl (Nat.le_of_ble_eq_true rfl) ⟨by omega, by omega, by omega, by omega⟩ (Nat.le_of_ble_eq_true rfl) rfl ?_
  refine V.icmp_eq (tgt := 2493) hF dL_law_842 (by decide) (fun _ => ?_) (fun hq => absurd hw.rg.1.hd.2.2.2 hq)
  refine V.relv [0, 1, 2, 3, 4, 5] rfl ?_
  refine V.widen (k := cells + 60) (n := slots + 5000) (by omega) (by omega) ?_
  exact K _ _ _ (hw.std0 ⟨_, _, rfl⟩ _ hw.rg)
set_option maxRecDepth 20000 in
theorem lcase_duplicates (hF : Fx p l s m args meth c D cy sa sv A 9 RL cL_law (some .boolean)) (hst : l.stackTraces = false) (hnc : NC s) (hXs : va_X b L xs s s.heap) (hbl : b < s.heap.size) (hbA : ¬ A b) (hi : i + 3 < L) (hL : L ≤ 2048) (hw : LWx σ I X o so om out dout ta ar tg ad C n t1 t2 t3) (hc1 : cells + 60 ≤ R.cells) (hs1 : slots + 5000 ≤ R.slots) (hR1 : 20 ≤ R.frames) (hR2 : 10000 ≤ R.locals)
    (K : ∀ (σ' : SH) (I' X' : IX), LW σ' I' X' o so om out dout ta ar → V p l e R s m args below meth c D cy A Q 9 (cells + 60) (slots + 5000) σ' I' X' 2493 [(0, .ref b), (1, .ref o), (2, .ref om), (3, .ref out), (4, .ref dout), (5, .int (nI i))] []) : V p l e R s m args below meth c D cy A Q 9 cells slots σ I X 1226 [(0, .ref b), (1, .ref o), (2, .ref om), (3, .ref out), (4, .ref dout), (5, .int (nI i))] [] := by
  have hms := hw.ms
  refine V.eqI hw.eI ?_
  refine V.eqX hw.eX ?_
  refine V.aload_n hF dL_law_1226 rfl ?_
  refine V.vI hF dL_law_1227 (ct_X4_duplicates hst σ I X o ad hw.fs hw.gb.1 C) lk_L_207 sl_X4_duplicates hw.1.1.1 hw.1.1.2 rfl (Nat.le_of_ble_eq_true rfl) ⟨by omega, by omega, by omega, by omega⟩ (Nat.le_of_ble_eq_true rfl) rfl ?_
  refine V.aload_n hF dL_law_1230 rfl ?_
  refine V.vI hF dL_law_1231 (ct_X5_duplicates hst _ _ _ om ar hms _ (hw.pm C) _ (hw.pa C (by decide))) lk_L_210 sl_X5_duplicates hms.1.1 hms.1.2 rfl (Nat.le_of_ble_eq_true rfl) ⟨by omega, by omega, by omega, by omega⟩ (Nat.le_of_ble_eq_true rfl) rfl ?_
  refine V.icmp_eq (tgt := 2493) hF dL_law_1234 (by decide) (fun _ => ?_) (fun hq => absurd hw.rg.1.hd.2.2.1 hq)
  refine V.relv [0, 1, 2, 3, 4, 5] rfl ?_
  refine V.widen (k := cells + 60) (n := slots + 5000) (by omega) (by omega) ?_
  exact K _ _ _ (hw.std0 ⟨_, _, rfl⟩ _ hw.rg)
set_option maxRecDepth 20000 in
theorem lcase_reset (hF : Fx p l s m args meth c D cy sa sv A 9 RL cL_law (some .boolean)) (hst : l.stackTraces = false) (hnc : NC s) (hXs : va_X b L xs s s.heap) (hbl : b < s.heap.size) (hbA : ¬ A b) (hi : i + 3 < L) (hL : L ≤ 2048) (hw : LWx σ I X o so om out dout ta ar tg ad C n t1 t2 t3) (hc1 : cells + 60 ≤ R.cells) (hs1 : slots + 5000 ≤ R.slots) (hR1 : 20 ≤ R.frames) (hR2 : 10000 ≤ R.locals)
    (K : ∀ (σ' : SH) (I' X' : IX), LW σ' I' X' o so om out dout ta ar → V p l e R s m args below meth c D cy A Q 9 (cells + 60) (slots + 5000) σ' I' X' 2493 [(0, .ref b), (1, .ref o), (2, .ref om), (3, .ref out), (4, .ref dout), (5, .int (nI i))] []) : V p l e R s m args below meth c D cy A Q 9 cells slots σ I X 224 [(0, .ref b), (1, .ref o), (2, .ref om), (3, .ref out), (4, .ref dout), (5, .int (nI i))] [] := by
  have hms := hw.ms
  refine V.eqI hw.eI ?_
  refine V.eqX hw.eX ?_
  refine V.aload_n hF dL_law_224 rfl ?_
  refine V.aload_n hF dL_law_225 rfl ?_
  refine V.iload hF dL_law_226 rfl ?_
  refine V.iconst (v := nI 1) hF dL_law_228 (by decide) ?_
  refine V.iadd hF dL_law_229 ?_
  refine V.sld (j := i + 1) hF hXs hbl hbA (by simp only [nI_add]) (by omega) hL dL_law_230 ?_
  refine V.aload_n hF dL_law_231 rfl ?_
  refine V.callSW hF dL_law_232 (ct_L_reset hst σ I X o ad hw.fs hw.gb.1 C (X (ar 1)) hw.rg out hw.1.2.2.2.2.1.1 hw.1.2.2.2.2.1.2.1 hw.1.2.2.2.2.1.2.2 (xs (i + 1))) lw_L_reset hnc ⟨by omega, by omega, by omega, by omega⟩ (Nat.le_of_ble_eq_true rfl) (fun r s2 I2 X2 hx => ?_) rfl
  obtain ⟨e0, C2, g, hR2, e1, e2, e3, hg⟩ := hx
  rw [e0, e1, e2, e3]
  refine V.istore hF dL_law_235 (by decide) ?_
  refine V.aload_n hF dL_law_237 rfl ?_
  refine V.aload_n hF dL_law_238 rfl ?_
  refine V.iload hF dL_law_239 rfl ?_
  refine V.iconst (v := nI 1) hF dL_law_241 (by decide) ?_
  refine V.iadd hF dL_law_242 ?_
  refine V.sld (j := i + 1) hF hXs hbl hbA (by simp only [nI_add]) (by omega) hL dL_law_243 ?_
  refine V.vI hF dL_law_244 (ct_X5_reset hst (shSetJ σ out g) _ _ om ar hms _ (hw.pm C2) _ (hw.pa C2 (by decide)) (xs (i + 1))) lk_L_144 sl_X5_reset hms.1.1 hms.1.2 rfl (Nat.le_of_ble_eq_true rfl) ⟨by omega, by omega, by omega, by omega⟩ (Nat.le_of_ble_eq_true rfl) rfl ?_
  refine V.istore hF dL_law_247 (by decide) ?_
  refine V.aload_n hF dL_law_249 rfl ?_
  refine V.vI hF dL_law_250 (ct_X5_thrown hst (shSetJ σ out g) _ _ om ar hms _ (va_up_self _ _ _)) lk_L_145 sl_X5_thrown hms.1.1 hms.1.2 rfl (Nat.le_of_ble_eq_true rfl) ⟨by omega, by omega, by omega, by omega⟩ (Nat.le_of_ble_eq_true rfl) rfl ?_
  refine V.topi (th_0 _ _) ?_
  refine V.iload hF dL_law_253 rfl ?_
  refine V.icmp_eq (tgt := 260) hF dL_law_255 (by decide) (fun _ => ?_) (fun hq => absurd rfl hq)
  refine V.iload hF dL_law_260 rfl ?_
  refine V.if_ne (tgt := 277) hF dL_law_262 (by decide) (fun _ => ?_) (fun h0 => ?_)
  · refine V.goto (tgt := 2493) hF dL_law_277 (by decide) ?_
    refine V.relv [0, 1, 2, 3, 4, 5] rfl ?_
    refine V.widen (k := cells + 60) (n := slots + 5000) (by omega) (by omega) ?_
    exact K _ _ _ (hw.std ⟨_, _, rfl⟩ _ hR2)
  · refine V.aload_n hF dL_law_265 rfl ?_
    refine V.iconst (v := nI 0) hF dL_law_266 (by decide) ?_
    refine V.laload (j := 0) hF dL_law_267 hw.1.2.2.2.2.1.1 hw.1.2.2.2.2.1.2.1 rfl (by show 0 < shN σ out; rw [hw.1.2.2.2.2.1.2.2]; omega) (by show shN σ out < _; rw [hw.1.2.2.2.2.1.2.2]; omega) ?_
    refine V.topl ((congrFun (va_up_self (shJ σ) out g) 0).trans (hg h0)) ?_
    refine V.iload hF dL_law_268 rfl ?_
    refine V.i2l hF dL_law_270 ?_
    refine V.lcmp hF dL_law_271 ?_
    refine V.if_eq (tgt := 277) hF dL_law_272 (by decide) (fun _ => ?_) (fun hq => absurd (lg_self _) hq)
    refine V.goto (tgt := 2493) hF dL_law_277 (by decide) ?_
    refine V.relv [0, 1, 2, 3, 4, 5] rfl ?_
    refine V.widen (k := cells + 60) (n := slots + 5000) (by omega) (by omega) ?_
    exact K _ _ _ (hw.std ⟨_, _, rfl⟩ _ hR2)
set_option maxRecDepth 20000 in
theorem lcase_membersOf (hF : Fx p l s m args meth c D cy sa sv A 9 RL cL_law (some .boolean)) (hst : l.stackTraces = false) (hnc : NC s) (hXs : va_X b L xs s s.heap) (hbl : b < s.heap.size) (hbA : ¬ A b) (hi : i + 3 < L) (hL : L ≤ 2048) (hw : LWx σ I X o so om out dout ta ar tg ad C n t1 t2 t3) (hc1 : cells + 60 ≤ R.cells) (hs1 : slots + 5000 ≤ R.slots) (hR1 : 20 ≤ R.frames) (hR2 : 10000 ≤ R.locals)
    (K : ∀ (σ' : SH) (I' X' : IX), LW σ' I' X' o so om out dout ta ar → V p l e R s m args below meth c D cy A Q 9 (cells + 60) (slots + 5000) σ' I' X' 2493 [(0, .ref b), (1, .ref o), (2, .ref om), (3, .ref out), (4, .ref dout), (5, .int (nI i))] []) : V p l e R s m args below meth c D cy A Q 9 cells slots σ I X 293 [(0, .ref b), (1, .ref o), (2, .ref om), (3, .ref out), (4, .ref dout), (5, .int (nI i))] [] := by
  have hms := hw.ms
  refine V.eqI hw.eI ?_
  refine V.eqX hw.eX ?_
  refine V.aload_n hF dL_law_293 rfl ?_
  refine V.aload_n hF dL_law_294 rfl ?_
  refine V.iload hF dL_law_295 rfl ?_
  refine V.iconst (v := nI 1) hF dL_law_297 (by decide) ?_
  refine V.iadd hF dL_law_298 ?_
  refine V.sld (j := i + 1) hF hXs hbl hbA (by simp only [nI_add]) (by omega) hL dL_law_299 ?_
  refine V.aload_n hF dL_law_300 rfl ?_
  refine V.callSW hF dL_law_301 (ct_L_membersOf hst σ I X o ad hw.fs hw.gb.1 C (X (ar 1)) hw.rg out hw.1.2.2.2.2.1.1 hw.1.2.2.2.2.1.2.1 hw.1.2.2.2.2.1.2.2 (xs (i + 1))) lw_L_membersOf hnc ⟨by omega, by omega, by omega, by omega⟩ (Nat.le_of_ble_eq_true rfl) (fun r s2 I2 X2 hx => ?_) rfl
  obtain ⟨e0, C2, g, hR2, e1, e2, e3, hg⟩ := hx
  rw [e0, e1, e2, e3]
  refine V.istore hF dL_law_304 (by decide) ?_
  refine V.aload_n hF dL_law_306 rfl ?_
  refine V.aload_n hF dL_law_307 rfl ?_
  refine V.iload hF dL_law_308 rfl ?_
  refine V.iconst (v := nI 1) hF dL_law_310 (by decide) ?_
  refine V.iadd hF dL_law_311 ?_
  refine V.sld (j := i + 1) hF hXs hbl hbA (by simp only [nI_add]) (by omega) hL dL_law_312 ?_
  refine V.vI hF dL_law_313 (ct_X5_membersOf hst (shSetJ σ out g) _ _ om ar hms _ (hw.pm C2) _ (hw.pa C2 (by decide)) hw.rg.1.wv (xs (i + 1))) lk_L_154 sl_X5_membersOf hms.1.1 hms.1.2 rfl (Nat.le_of_ble_eq_true rfl) ⟨by omega, by omega, by omega, by omega⟩ (Nat.le_of_ble_eq_true rfl) rfl ?_
  refine V.istore hF dL_law_316 (by decide) ?_
  refine V.aload_n hF dL_law_318 rfl ?_
  refine V.vI hF dL_law_319 (ct_X5_thrown hst (shSetJ σ out g) _ _ om ar hms _ (va_up_self _ _ _)) lk_L_145 sl_X5_thrown hms.1.1 hms.1.2 rfl (Nat.le_of_ble_eq_true rfl) ⟨by omega, by omega, by omega, by omega⟩ (Nat.le_of_ble_eq_true rfl) rfl ?_
  refine V.topi (th_0 _ _) ?_
  refine V.iload hF dL_law_322 rfl ?_
  refine V.icmp_eq (tgt := 329) hF dL_law_324 (by decide) (fun _ => ?_) (fun hq => absurd rfl hq)
  refine V.iload hF dL_law_329 rfl ?_
  refine V.if_ne (tgt := 346) hF dL_law_331 (by decide) (fun _ => ?_) (fun h0 => ?_)
  · refine V.goto (tgt := 2493) hF dL_law_346 (by decide) ?_
    refine V.relv [0, 1, 2, 3, 4, 5] rfl ?_
    refine V.widen (k := cells + 60) (n := slots + 5000) (by omega) (by omega) ?_
    exact K _ _ _ (hw.std0 ⟨_, _, rfl⟩ _ hR2)
  · refine V.aload_n hF dL_law_334 rfl ?_
    refine V.iconst (v := nI 0) hF dL_law_335 (by decide) ?_
    refine V.laload (j := 0) hF dL_law_336 hw.1.2.2.2.2.1.1 hw.1.2.2.2.2.1.2.1 rfl (by show 0 < shN σ out; rw [hw.1.2.2.2.2.1.2.2]; omega) (by show shN σ out < _; rw [hw.1.2.2.2.2.1.2.2]; omega) ?_
    refine V.topl ((congrFun (va_up_self (shJ σ) out g) 0).trans (hg h0)) ?_
    refine V.iload hF dL_law_337 rfl ?_
    refine V.i2l hF dL_law_339 ?_
    refine V.lcmp hF dL_law_340 ?_
    refine V.if_eq (tgt := 346) hF dL_law_341 (by decide) (fun _ => ?_) (fun hq => absurd (lg_self _) hq)
    refine V.goto (tgt := 2493) hF dL_law_346 (by decide) ?_
    refine V.relv [0, 1, 2, 3, 4, 5] rfl ?_
    refine V.widen (k := cells + 60) (n := slots + 5000) (by omega) (by omega) ?_
    exact K _ _ _ (hw.std0 ⟨_, _, rfl⟩ _ hR2)
set_option maxRecDepth 20000 in
theorem lcase_forcedIn (hF : Fx p l s m args meth c D cy sa sv A 9 RL cL_law (some .boolean)) (hst : l.stackTraces = false) (hnc : NC s) (hXs : va_X b L xs s s.heap) (hbl : b < s.heap.size) (hbA : ¬ A b) (hi : i + 3 < L) (hL : L ≤ 2048) (hw : LWx σ I X o so om out dout ta ar tg ad C n t1 t2 t3) (hc1 : cells + 60 ≤ R.cells) (hs1 : slots + 5000 ≤ R.slots) (hR1 : 20 ≤ R.frames) (hR2 : 10000 ≤ R.locals)
    (K : ∀ (σ' : SH) (I' X' : IX), LW σ' I' X' o so om out dout ta ar → V p l e R s m args below meth c D cy A Q 9 (cells + 60) (slots + 5000) σ' I' X' 2493 [(0, .ref b), (1, .ref o), (2, .ref om), (3, .ref out), (4, .ref dout), (5, .int (nI i))] []) : V p l e R s m args below meth c D cy A Q 9 cells slots σ I X 349 [(0, .ref b), (1, .ref o), (2, .ref om), (3, .ref out), (4, .ref dout), (5, .int (nI i))] [] := by
  have hms := hw.ms
  refine V.eqI hw.eI ?_
  refine V.eqX hw.eX ?_
  refine V.aload_n hF dL_law_349 rfl ?_
  refine V.aload_n hF dL_law_350 rfl ?_
  refine V.iload hF dL_law_351 rfl ?_
  refine V.iconst (v := nI 1) hF dL_law_353 (by decide) ?_
  refine V.iadd hF dL_law_354 ?_
  refine V.sld (j := i + 1) hF hXs hbl hbA (by simp only [nI_add]) (by omega) hL dL_law_355 ?_
  refine V.aload_n hF dL_law_356 rfl ?_
  refine V.callSW hF dL_law_357 (ct_L_forcedIn hst σ I X o ad hw.fs hw.gb.1 C (X (ar 1)) hw.rg out hw.1.2.2.2.2.1.1 hw.1.2.2.2.2.1.2.1 hw.1.2.2.2.2.1.2.2 (xs (i + 1))) lw_L_forcedIn hnc ⟨by omega, by omega, by omega, by omega⟩ (Nat.le_of_ble_eq_true rfl) (fun r s2 I2 X2 hx => ?_) rfl
  obtain ⟨e0, C2, g, hR2, e1, e2, e3, hg⟩ := hx
  rw [e0, e1, e2, e3]
  refine V.istore hF dL_law_360 (by decide) ?_
  refine V.aload_n hF dL_law_362 rfl ?_
  refine V.aload_n hF dL_law_363 rfl ?_
  refine V.iload hF dL_law_364 rfl ?_
  refine V.iconst (v := nI 1) hF dL_law_366 (by decide) ?_
  refine V.iadd hF dL_law_367 ?_
  refine V.sld (j := i + 1) hF hXs hbl hbA (by simp only [nI_add]) (by omega) hL dL_law_368 ?_
  refine V.vI hF dL_law_369 (ct_X5_forcedIn hst (shSetJ σ out g) _ _ om ar hms _ (hw.pm C2) _ (hw.pa C2 (by decide)) hw.rg.1.wv (xs (i + 1))) lk_L_157 sl_X5_forcedIn hms.1.1 hms.1.2 rfl (Nat.le_of_ble_eq_true rfl) ⟨by omega, by omega, by omega, by omega⟩ (Nat.le_of_ble_eq_true rfl) rfl ?_
  refine V.istore hF dL_law_372 (by decide) ?_
  refine V.aload_n hF dL_law_374 rfl ?_
  refine V.vI hF dL_law_375 (ct_X5_thrown hst (shSetJ σ out g) _ _ om ar hms _ (va_up_self _ _ _)) lk_L_145 sl_X5_thrown hms.1.1 hms.1.2 rfl (Nat.le_of_ble_eq_true rfl) ⟨by omega, by omega, by omega, by omega⟩ (Nat.le_of_ble_eq_true rfl) rfl ?_
  refine V.topi (th_0 _ _) ?_
  refine V.iload hF dL_law_378 rfl ?_
  refine V.icmp_eq (tgt := 385) hF dL_law_380 (by decide) (fun _ => ?_) (fun hq => absurd rfl hq)
  refine V.iload hF dL_law_385 rfl ?_
  refine V.if_ne (tgt := 402) hF dL_law_387 (by decide) (fun _ => ?_) (fun h0 => ?_)
  · refine V.goto (tgt := 2493) hF dL_law_402 (by decide) ?_
    refine V.relv [0, 1, 2, 3, 4, 5] rfl ?_
    refine V.widen (k := cells + 60) (n := slots + 5000) (by omega) (by omega) ?_
    exact K _ _ _ (hw.std0 ⟨_, _, rfl⟩ _ hR2)
  · refine V.aload_n hF dL_law_390 rfl ?_
    refine V.iconst (v := nI 0) hF dL_law_391 (by decide) ?_
    refine V.laload (j := 0) hF dL_law_392 hw.1.2.2.2.2.1.1 hw.1.2.2.2.2.1.2.1 rfl (by show 0 < shN σ out; rw [hw.1.2.2.2.2.1.2.2]; omega) (by show shN σ out < _; rw [hw.1.2.2.2.2.1.2.2]; omega) ?_
    refine V.topl ((congrFun (va_up_self (shJ σ) out g) 0).trans (hg h0)) ?_
    refine V.iload hF dL_law_393 rfl ?_
    refine V.i2l hF dL_law_395 ?_
    refine V.lcmp hF dL_law_396 ?_
    refine V.if_eq (tgt := 402) hF dL_law_397 (by decide) (fun _ => ?_) (fun hq => absurd (lg_self _) hq)
    refine V.goto (tgt := 2493) hF dL_law_402 (by decide) ?_
    refine V.relv [0, 1, 2, 3, 4, 5] rfl ?_
    refine V.widen (k := cells + 60) (n := slots + 5000) (by omega) (by omega) ?_
    exact K _ _ _ (hw.std0 ⟨_, _, rfl⟩ _ hR2)
set_option maxRecDepth 20000 in
theorem lcase_requestJoin (hF : Fx p l s m args meth c D cy sa sv A 9 RL cL_law (some .boolean)) (hst : l.stackTraces = false) (hnc : NC s) (hXs : va_X b L xs s s.heap) (hbl : b < s.heap.size) (hbA : ¬ A b) (hi : i + 3 < L) (hL : L ≤ 2048) (hw : LWx σ I X o so om out dout ta ar tg ad C n t1 t2 t3) (hc1 : cells + 60 ≤ R.cells) (hs1 : slots + 5000 ≤ R.slots) (hR1 : 20 ≤ R.frames) (hR2 : 10000 ≤ R.locals)
    (K : ∀ (σ' : SH) (I' X' : IX), LW σ' I' X' o so om out dout ta ar → V p l e R s m args below meth c D cy A Q 9 (cells + 60) (slots + 5000) σ' I' X' 2493 [(0, .ref b), (1, .ref o), (2, .ref om), (3, .ref out), (4, .ref dout), (5, .int (nI i))] []) : V p l e R s m args below meth c D cy A Q 9 cells slots σ I X 418 [(0, .ref b), (1, .ref o), (2, .ref om), (3, .ref out), (4, .ref dout), (5, .int (nI i))] [] := by
  have hms := hw.ms
  refine V.eqI hw.eI ?_
  refine V.eqX hw.eX ?_
  refine V.aload_n hF dL_law_418 rfl ?_
  refine V.aload_n hF dL_law_419 rfl ?_
  refine V.iload hF dL_law_420 rfl ?_
  refine V.iconst (v := nI 1) hF dL_law_422 (by decide) ?_
  refine V.iadd hF dL_law_423 ?_
  refine V.sld (j := i + 1) hF hXs hbl hbA (by simp only [nI_add]) (by omega) hL dL_law_424 ?_
  refine V.aload_n hF dL_law_425 rfl ?_
  refine V.callSW hF dL_law_426 (ct_L_requestJoin hst σ I X o ad hw.fs hw.gb.1 C (X (ar 1)) hw.rg out hw.1.2.2.2.2.1.1 hw.1.2.2.2.2.1.2.1 hw.1.2.2.2.2.1.2.2 (xs (i + 1))) lw_L_requestJoin hnc ⟨by omega, by omega, by omega, by omega⟩ (Nat.le_of_ble_eq_true rfl) (fun r s2 I2 X2 hx => ?_) rfl
  obtain ⟨e0, C2, g, hR2, e1, e2, e3, hg⟩ := hx
  rw [e0, e1, e2, e3]
  refine V.istore hF dL_law_429 (by decide) ?_
  refine V.aload_n hF dL_law_431 rfl ?_
  refine V.aload_n hF dL_law_432 rfl ?_
  refine V.iload hF dL_law_433 rfl ?_
  refine V.iconst (v := nI 1) hF dL_law_435 (by decide) ?_
  refine V.iadd hF dL_law_436 ?_
  refine V.sld (j := i + 1) hF hXs hbl hbA (by simp only [nI_add]) (by omega) hL dL_law_437 ?_
  refine V.vI hF dL_law_438 (ct_X5_requestJoin hst (shSetJ σ out g) _ _ om ar hms _ (hw.pm C2) _ (hw.pa C2 (by decide)) (xs (i + 1))) lk_L_164 sl_X5_requestJoin hms.1.1 hms.1.2 rfl (Nat.le_of_ble_eq_true rfl) ⟨by omega, by omega, by omega, by omega⟩ (Nat.le_of_ble_eq_true rfl) rfl ?_
  refine V.istore hF dL_law_441 (by decide) ?_
  refine V.aload_n hF dL_law_443 rfl ?_
  refine V.vI hF dL_law_444 (ct_X5_thrown hst (shSetJ σ out g) _ _ om ar hms _ (va_up_self _ _ _)) lk_L_145 sl_X5_thrown hms.1.1 hms.1.2 rfl (Nat.le_of_ble_eq_true rfl) ⟨by omega, by omega, by omega, by omega⟩ (Nat.le_of_ble_eq_true rfl) rfl ?_
  refine V.topi (th_0 _ _) ?_
  refine V.iload hF dL_law_447 rfl ?_
  refine V.icmp_eq (tgt := 454) hF dL_law_449 (by decide) (fun _ => ?_) (fun hq => absurd rfl hq)
  refine V.iload hF dL_law_454 rfl ?_
  refine V.if_ne (tgt := 471) hF dL_law_456 (by decide) (fun _ => ?_) (fun h0 => ?_)
  · refine V.goto (tgt := 2493) hF dL_law_471 (by decide) ?_
    refine V.relv [0, 1, 2, 3, 4, 5] rfl ?_
    refine V.widen (k := cells + 60) (n := slots + 5000) (by omega) (by omega) ?_
    exact K _ _ _ (hw.std ⟨_, _, rfl⟩ _ hR2)
  · refine V.aload_n hF dL_law_459 rfl ?_
    refine V.iconst (v := nI 0) hF dL_law_460 (by decide) ?_
    refine V.laload (j := 0) hF dL_law_461 hw.1.2.2.2.2.1.1 hw.1.2.2.2.2.1.2.1 rfl (by show 0 < shN σ out; rw [hw.1.2.2.2.2.1.2.2]; omega) (by show shN σ out < _; rw [hw.1.2.2.2.2.1.2.2]; omega) ?_
    refine V.topl ((congrFun (va_up_self (shJ σ) out g) 0).trans (hg h0)) ?_
    refine V.iload hF dL_law_462 rfl ?_
    refine V.i2l hF dL_law_464 ?_
    refine V.lcmp hF dL_law_465 ?_
    refine V.if_eq (tgt := 471) hF dL_law_466 (by decide) (fun _ => ?_) (fun hq => absurd (lg_self _) hq)
    refine V.goto (tgt := 2493) hF dL_law_471 (by decide) ?_
    refine V.relv [0, 1, 2, 3, 4, 5] rfl ?_
    refine V.widen (k := cells + 60) (n := slots + 5000) (by omega) (by omega) ?_
    exact K _ _ _ (hw.std ⟨_, _, rfl⟩ _ hR2)
set_option maxRecDepth 20000 in
theorem lcase_requestLeave (hF : Fx p l s m args meth c D cy sa sv A 9 RL cL_law (some .boolean)) (hst : l.stackTraces = false) (hnc : NC s) (hXs : va_X b L xs s s.heap) (hbl : b < s.heap.size) (hbA : ¬ A b) (hi : i + 3 < L) (hL : L ≤ 2048) (hw : LWx σ I X o so om out dout ta ar tg ad C n t1 t2 t3) (hc1 : cells + 60 ≤ R.cells) (hs1 : slots + 5000 ≤ R.slots) (hR1 : 20 ≤ R.frames) (hR2 : 10000 ≤ R.locals)
    (K : ∀ (σ' : SH) (I' X' : IX), LW σ' I' X' o so om out dout ta ar → V p l e R s m args below meth c D cy A Q 9 (cells + 60) (slots + 5000) σ' I' X' 2493 [(0, .ref b), (1, .ref o), (2, .ref om), (3, .ref out), (4, .ref dout), (5, .int (nI i))] []) : V p l e R s m args below meth c D cy A Q 9 cells slots σ I X 474 [(0, .ref b), (1, .ref o), (2, .ref om), (3, .ref out), (4, .ref dout), (5, .int (nI i))] [] := by
  have hms := hw.ms
  refine V.eqI hw.eI ?_
  refine V.eqX hw.eX ?_
  refine V.aload_n hF dL_law_474 rfl ?_
  refine V.aload_n hF dL_law_475 rfl ?_
  refine V.iload hF dL_law_476 rfl ?_
  refine V.iconst (v := nI 1) hF dL_law_478 (by decide) ?_
  refine V.iadd hF dL_law_479 ?_
  refine V.sld (j := i + 1) hF hXs hbl hbA (by simp only [nI_add]) (by omega) hL dL_law_480 ?_
  refine V.aload_n hF dL_law_481 rfl ?_
  refine V.callSW hF dL_law_482 (ct_L_requestLeave hst σ I X o ad hw.fs hw.gb.1 C (X (ar 1)) hw.rg out hw.1.2.2.2.2.1.1 hw.1.2.2.2.2.1.2.1 hw.1.2.2.2.2.1.2.2 (xs (i + 1))) lw_L_requestLeave hnc ⟨by omega, by omega, by omega, by omega⟩ (Nat.le_of_ble_eq_true rfl) (fun r s2 I2 X2 hx => ?_) rfl
  obtain ⟨e0, C2, g, hR2, e1, e2, e3, hg⟩ := hx
  rw [e0, e1, e2, e3]
  refine V.istore hF dL_law_485 (by decide) ?_
  refine V.aload_n hF dL_law_487 rfl ?_
  refine V.aload_n hF dL_law_488 rfl ?_
  refine V.iload hF dL_law_489 rfl ?_
  refine V.iconst (v := nI 1) hF dL_law_491 (by decide) ?_
  refine V.iadd hF dL_law_492 ?_
  refine V.sld (j := i + 1) hF hXs hbl hbA (by simp only [nI_add]) (by omega) hL dL_law_493 ?_
  refine V.vI hF dL_law_494 (ct_X5_requestLeave hst (shSetJ σ out g) _ _ om ar hms _ (hw.pm C2) _ (hw.pa C2 (by decide)) hw.rg.1.wv (xs (i + 1))) lk_L_167 sl_X5_requestLeave hms.1.1 hms.1.2 rfl (Nat.le_of_ble_eq_true rfl) ⟨by omega, by omega, by omega, by omega⟩ (Nat.le_of_ble_eq_true rfl) rfl ?_
  refine V.istore hF dL_law_497 (by decide) ?_
  refine V.aload_n hF dL_law_499 rfl ?_
  refine V.vI hF dL_law_500 (ct_X5_thrown hst (shSetJ σ out g) _ _ om ar hms _ (va_up_self _ _ _)) lk_L_145 sl_X5_thrown hms.1.1 hms.1.2 rfl (Nat.le_of_ble_eq_true rfl) ⟨by omega, by omega, by omega, by omega⟩ (Nat.le_of_ble_eq_true rfl) rfl ?_
  refine V.topi (th_0 _ _) ?_
  refine V.iload hF dL_law_503 rfl ?_
  refine V.icmp_eq (tgt := 510) hF dL_law_505 (by decide) (fun _ => ?_) (fun hq => absurd rfl hq)
  refine V.iload hF dL_law_510 rfl ?_
  refine V.if_ne (tgt := 527) hF dL_law_512 (by decide) (fun _ => ?_) (fun h0 => ?_)
  · refine V.goto (tgt := 2493) hF dL_law_527 (by decide) ?_
    refine V.relv [0, 1, 2, 3, 4, 5] rfl ?_
    refine V.widen (k := cells + 60) (n := slots + 5000) (by omega) (by omega) ?_
    exact K _ _ _ (hw.std ⟨_, _, rfl⟩ _ hR2)
  · refine V.aload_n hF dL_law_515 rfl ?_
    refine V.iconst (v := nI 0) hF dL_law_516 (by decide) ?_
    refine V.laload (j := 0) hF dL_law_517 hw.1.2.2.2.2.1.1 hw.1.2.2.2.2.1.2.1 rfl (by show 0 < shN σ out; rw [hw.1.2.2.2.2.1.2.2]; omega) (by show shN σ out < _; rw [hw.1.2.2.2.2.1.2.2]; omega) ?_
    refine V.topl ((congrFun (va_up_self (shJ σ) out g) 0).trans (hg h0)) ?_
    refine V.iload hF dL_law_518 rfl ?_
    refine V.i2l hF dL_law_520 ?_
    refine V.lcmp hF dL_law_521 ?_
    refine V.if_eq (tgt := 527) hF dL_law_522 (by decide) (fun _ => ?_) (fun hq => absurd (lg_self _) hq)
    refine V.goto (tgt := 2493) hF dL_law_527 (by decide) ?_
    refine V.relv [0, 1, 2, 3, 4, 5] rfl ?_
    refine V.widen (k := cells + 60) (n := slots + 5000) (by omega) (by omega) ?_
    exact K _ _ _ (hw.std ⟨_, _, rfl⟩ _ hR2)
set_option maxRecDepth 20000 in
theorem lcase_install (hF : Fx p l s m args meth c D cy sa sv A 9 RL cL_law (some .boolean)) (hst : l.stackTraces = false) (hnc : NC s) (hXs : va_X b L xs s s.heap) (hbl : b < s.heap.size) (hbA : ¬ A b) (hi : i + 3 < L) (hL : L ≤ 2048) (hw : LWx σ I X o so om out dout ta ar tg ad C n t1 t2 t3) (hc1 : cells + 60 ≤ R.cells) (hs1 : slots + 5000 ≤ R.slots) (hR1 : 20 ≤ R.frames) (hR2 : 10000 ≤ R.locals)
    (K : ∀ (σ' : SH) (I' X' : IX), LW σ' I' X' o so om out dout ta ar → V p l e R s m args below meth c D cy A Q 9 (cells + 60) (slots + 5000) σ' I' X' 2493 [(0, .ref b), (1, .ref o), (2, .ref om), (3, .ref out), (4, .ref dout), (5, .int (nI i))] []) : V p l e R s m args below meth c D cy A Q 9 cells slots σ I X 530 [(0, .ref b), (1, .ref o), (2, .ref om), (3, .ref out), (4, .ref dout), (5, .int (nI i))] [] := by
  have hms := hw.ms
  refine V.eqI hw.eI ?_
  refine V.eqX hw.eX ?_
  refine V.aload_n hF dL_law_530 rfl ?_
  refine V.aload_n hF dL_law_531 rfl ?_
  refine V.callSW hF dL_law_532 (ct_L_install hst σ I X o ad hw.fs hw.gb.1 C (X (ar 1)) hw.rg out hw.1.2.2.2.2.1.1 hw.1.2.2.2.2.1.2.1 hw.1.2.2.2.2.1.2.2) lw_L_install hnc ⟨by omega, by omega, by omega, by omega⟩ (Nat.le_of_ble_eq_true rfl) (fun r s2 I2 X2 hx => ?_) rfl
  obtain ⟨e0, C2, g, hR2, e1, e2, e3, hg⟩ := hx
  rw [e0, e1, e2, e3]
  refine V.istore hF dL_law_535 (by decide) ?_
  refine V.aload_n hF dL_law_537 rfl ?_
  refine V.vI hF dL_law_538 (ct_X5_install hst (shSetJ σ out g) _ _ om ar hms _ (hw.pm C2) _ (hw.pa C2 (by decide)) hw.rg.1.wv hw.rg.1.ws) lk_L_171 sl_X5_install hms.1.1 hms.1.2 rfl (Nat.le_of_ble_eq_true rfl) ⟨by omega, by omega, by omega, by omega⟩ (Nat.le_of_ble_eq_true rfl) rfl ?_
  refine V.istore hF dL_law_541 (by decide) ?_
  refine V.aload_n hF dL_law_543 rfl ?_
  refine V.vI hF dL_law_544 (ct_X5_thrown hst (shSetJ σ out g) _ _ om ar hms _ (va_up_self _ _ _)) lk_L_145 sl_X5_thrown hms.1.1 hms.1.2 rfl (Nat.le_of_ble_eq_true rfl) ⟨by omega, by omega, by omega, by omega⟩ (Nat.le_of_ble_eq_true rfl) rfl ?_
  refine V.topi (th_0 _ _) ?_
  refine V.iload hF dL_law_547 rfl ?_
  refine V.icmp_eq (tgt := 554) hF dL_law_549 (by decide) (fun _ => ?_) (fun hq => absurd rfl hq)
  refine V.iload hF dL_law_554 rfl ?_
  refine V.if_ne (tgt := 571) hF dL_law_556 (by decide) (fun _ => ?_) (fun h0 => ?_)
  · refine V.goto (tgt := 2493) hF dL_law_571 (by decide) ?_
    refine V.relv [0, 1, 2, 3, 4, 5] rfl ?_
    refine V.widen (k := cells + 60) (n := slots + 5000) (by omega) (by omega) ?_
    exact K _ _ _ (hw.std ⟨_, _, rfl⟩ _ hR2)
  · refine V.aload_n hF dL_law_559 rfl ?_
    refine V.iconst (v := nI 0) hF dL_law_560 (by decide) ?_
    refine V.laload (j := 0) hF dL_law_561 hw.1.2.2.2.2.1.1 hw.1.2.2.2.2.1.2.1 rfl (by show 0 < shN σ out; rw [hw.1.2.2.2.2.1.2.2]; omega) (by show shN σ out < _; rw [hw.1.2.2.2.2.1.2.2]; omega) ?_
    refine V.topl ((congrFun (va_up_self (shJ σ) out g) 0).trans (hg h0)) ?_
    refine V.iload hF dL_law_562 rfl ?_
    refine V.i2l hF dL_law_564 ?_
    refine V.lcmp hF dL_law_565 ?_
    refine V.if_eq (tgt := 571) hF dL_law_566 (by decide) (fun _ => ?_) (fun hq => absurd (lg_self _) hq)
    refine V.goto (tgt := 2493) hF dL_law_571 (by decide) ?_
    refine V.relv [0, 1, 2, 3, 4, 5] rfl ?_
    refine V.widen (k := cells + 60) (n := slots + 5000) (by omega) (by omega) ?_
    exact K _ _ _ (hw.std ⟨_, _, rfl⟩ _ hR2)
set_option maxRecDepth 20000 in
theorem lcase_broadcast (hF : Fx p l s m args meth c D cy sa sv A 9 RL cL_law (some .boolean)) (hst : l.stackTraces = false) (hnc : NC s) (hXs : va_X b L xs s s.heap) (hbl : b < s.heap.size) (hbA : ¬ A b) (hi : i + 3 < L) (hL : L ≤ 2048) (hw : LWx σ I X o so om out dout ta ar tg ad C n t1 t2 t3) (hc1 : cells + 60 ≤ R.cells) (hs1 : slots + 5000 ≤ R.slots) (hR1 : 20 ≤ R.frames) (hR2 : 10000 ≤ R.locals)
    (K : ∀ (σ' : SH) (I' X' : IX), LW σ' I' X' o so om out dout ta ar → V p l e R s m args below meth c D cy A Q 9 (cells + 60) (slots + 5000) σ' I' X' 2493 [(0, .ref b), (1, .ref o), (2, .ref om), (3, .ref out), (4, .ref dout), (5, .int (nI i))] []) : V p l e R s m args below meth c D cy A Q 9 cells slots σ I X 574 [(0, .ref b), (1, .ref o), (2, .ref om), (3, .ref out), (4, .ref dout), (5, .int (nI i))] [] := by
  have hms := hw.ms
  refine V.eqI hw.eI ?_
  refine V.eqX hw.eX ?_
  refine V.aload_n hF dL_law_574 rfl ?_
  refine V.aload_n hF dL_law_575 rfl ?_
  refine V.iload hF dL_law_576 rfl ?_
  refine V.iconst (v := nI 1) hF dL_law_578 (by decide) ?_
  refine V.iadd hF dL_law_579 ?_
  refine V.sld (j := i + 1) hF hXs hbl hbA (by simp only [nI_add]) (by omega) hL dL_law_580 ?_
  refine V.aload_n hF dL_law_581 rfl ?_
  refine V.iload hF dL_law_582 rfl ?_
  refine V.iconst (v := nI 2) hF dL_law_584 (by decide) ?_
  refine V.iadd hF dL_law_585 ?_
  refine V.sld (j := i + 2) hF hXs hbl hbA (by simp only [nI_add]) (by omega) hL dL_law_586 ?_
  refine V.aload_n hF dL_law_587 rfl ?_
  refine V.callSW hF dL_law_588 (ct_L_broadcast hst σ I X o ad hw.fs hw.gb.1 C (X (ar 1)) hw.rg out hw.1.2.2.2.2.1.1 hw.1.2.2.2.2.1.2.1 hw.1.2.2.2.2.1.2.2 (xs (i + 1)) (xs (i + 2))) lw_L_broadcast hnc ⟨by omega, by omega, by omega, by omega⟩ (Nat.le_of_ble_eq_true rfl) (fun r s2 I2 X2 hx => ?_) rfl
  obtain ⟨e0, C2, g, hR2, e1, e2, e3, hg⟩ := hx
  rw [e0, e1, e2, e3]
  refine V.istore hF dL_law_591 (by decide) ?_
  refine V.aload_n hF dL_law_593 rfl ?_
  refine V.aload_n hF dL_law_594 rfl ?_
  refine V.iload hF dL_law_595 rfl ?_
  refine V.iconst (v := nI 1) hF dL_law_597 (by decide) ?_
  refine V.iadd hF dL_law_598 ?_
  refine V.sld (j := i + 1) hF hXs hbl hbA (by simp only [nI_add]) (by omega) hL dL_law_599 ?_
  refine V.aload_n hF dL_law_600 rfl ?_
  refine V.iload hF dL_law_601 rfl ?_
  refine V.iconst (v := nI 2) hF dL_law_603 (by decide) ?_
  refine V.iadd hF dL_law_604 ?_
  refine V.sld (j := i + 2) hF hXs hbl hbA (by simp only [nI_add]) (by omega) hL dL_law_605 ?_
  refine V.vI hF dL_law_606 (ct_X5_broadcast hst (shSetJ σ out g) _ _ om ar hms _ (hw.pm C2) _ (hw.pa C2 (by decide)) hw.rg.1.wv (xs (i + 1)) (xs (i + 2))) lk_L_175 sl_X5_broadcast hms.1.1 hms.1.2 rfl (Nat.le_of_ble_eq_true rfl) ⟨by omega, by omega, by omega, by omega⟩ (Nat.le_of_ble_eq_true rfl) rfl ?_
  refine V.istore hF dL_law_609 (by decide) ?_
  refine V.aload_n hF dL_law_611 rfl ?_
  refine V.vI hF dL_law_612 (ct_X5_thrown hst (shSetJ σ out g) _ _ om ar hms _ (va_up_self _ _ _)) lk_L_145 sl_X5_thrown hms.1.1 hms.1.2 rfl (Nat.le_of_ble_eq_true rfl) ⟨by omega, by omega, by omega, by omega⟩ (Nat.le_of_ble_eq_true rfl) rfl ?_
  refine V.topi (th_0 _ _) ?_
  refine V.iload hF dL_law_615 rfl ?_
  refine V.icmp_eq (tgt := 622) hF dL_law_617 (by decide) (fun _ => ?_) (fun hq => absurd rfl hq)
  refine V.iload hF dL_law_622 rfl ?_
  refine V.if_ne (tgt := 639) hF dL_law_624 (by decide) (fun _ => ?_) (fun h0 => ?_)
  · refine V.goto (tgt := 2493) hF dL_law_639 (by decide) ?_
    refine V.relv [0, 1, 2, 3, 4, 5] rfl ?_
    refine V.widen (k := cells + 60) (n := slots + 5000) (by omega) (by omega) ?_
    exact K _ _ _ (hw.std ⟨_, _, rfl⟩ _ hR2)
  · refine V.aload_n hF dL_law_627 rfl ?_
    refine V.iconst (v := nI 0) hF dL_law_628 (by decide) ?_
    refine V.laload (j := 0) hF dL_law_629 hw.1.2.2.2.2.1.1 hw.1.2.2.2.2.1.2.1 rfl (by show 0 < shN σ out; rw [hw.1.2.2.2.2.1.2.2]; omega) (by show shN σ out < _; rw [hw.1.2.2.2.2.1.2.2]; omega) ?_
    refine V.topl ((congrFun (va_up_self (shJ σ) out g) 0).trans (hg h0)) ?_
    refine V.iload hF dL_law_630 rfl ?_
    refine V.i2l hF dL_law_632 ?_
    refine V.lcmp hF dL_law_633 ?_
    refine V.if_eq (tgt := 639) hF dL_law_634 (by decide) (fun _ => ?_) (fun hq => absurd (lg_self _) hq)
    refine V.goto (tgt := 2493) hF dL_law_639 (by decide) ?_
    refine V.relv [0, 1, 2, 3, 4, 5] rfl ?_
    refine V.widen (k := cells + 60) (n := slots + 5000) (by omega) (by omega) ?_
    exact K _ _ _ (hw.std ⟨_, _, rfl⟩ _ hR2)
set_option maxRecDepth 20000 in
theorem lcase_arrive (hF : Fx p l s m args meth c D cy sa sv A 9 RL cL_law (some .boolean)) (hst : l.stackTraces = false) (hnc : NC s) (hXs : va_X b L xs s s.heap) (hbl : b < s.heap.size) (hbA : ¬ A b) (hi : i + 3 < L) (hL : L ≤ 2048) (hw : LWx σ I X o so om out dout ta ar tg ad C n t1 t2 t3) (hc1 : cells + 60 ≤ R.cells) (hs1 : slots + 5000 ≤ R.slots) (hR1 : 20 ≤ R.frames) (hR2 : 10000 ≤ R.locals)
    (K : ∀ (σ' : SH) (I' X' : IX), LW σ' I' X' o so om out dout ta ar → V p l e R s m args below meth c D cy A Q 9 (cells + 60) (slots + 5000) σ' I' X' 2493 [(0, .ref b), (1, .ref o), (2, .ref om), (3, .ref out), (4, .ref dout), (5, .int (nI i))] []) : V p l e R s m args below meth c D cy A Q 9 cells slots σ I X 642 [(0, .ref b), (1, .ref o), (2, .ref om), (3, .ref out), (4, .ref dout), (5, .int (nI i))] [] := by
  have hms := hw.ms
  refine V.eqI hw.eI ?_
  refine V.eqX hw.eX ?_
  refine V.aload_n hF dL_law_642 rfl ?_
  refine V.aload_n hF dL_law_643 rfl ?_
  refine V.iload hF dL_law_644 rfl ?_
  refine V.iconst (v := nI 1) hF dL_law_646 (by decide) ?_
  refine V.iadd hF dL_law_647 ?_
  refine V.sld (j := i + 1) hF hXs hbl hbA (by simp only [nI_add]) (by omega) hL dL_law_648 ?_
  refine V.aload_n hF dL_law_649 rfl ?_
  refine V.iload hF dL_law_650 rfl ?_
  refine V.iconst (v := nI 2) hF dL_law_652 (by decide) ?_
  refine V.iadd hF dL_law_653 ?_
  refine V.sld (j := i + 2) hF hXs hbl hbA (by simp only [nI_add]) (by omega) hL dL_law_654 ?_
  refine V.aload_n hF dL_law_655 rfl ?_
  refine V.callSW hF dL_law_656 (ct_L_arrive hst σ I X o ad hw.fs hw.gb.1 C (X (ar 1)) hw.rg out hw.1.2.2.2.2.1.1 hw.1.2.2.2.2.1.2.1 hw.1.2.2.2.2.1.2.2 (xs (i + 1)) (xs (i + 2))) lw_L_arrive hnc ⟨by omega, by omega, by omega, by omega⟩ (Nat.le_of_ble_eq_true rfl) (fun r s2 I2 X2 hx => ?_) rfl
  obtain ⟨e0, C2, g, hR2, e1, e2, e3, hg⟩ := hx
  rw [e0, e1, e2, e3]
  refine V.istore hF dL_law_659 (by decide) ?_
  refine V.aload_n hF dL_law_661 rfl ?_
  refine V.aload_n hF dL_law_662 rfl ?_
  refine V.iload hF dL_law_663 rfl ?_
  refine V.iconst (v := nI 1) hF dL_law_665 (by decide) ?_
  refine V.iadd hF dL_law_666 ?_
  refine V.sld (j := i + 1) hF hXs hbl hbA (by simp only [nI_add]) (by omega) hL dL_law_667 ?_
  refine V.aload_n hF dL_law_668 rfl ?_
  refine V.iload hF dL_law_669 rfl ?_
  refine V.iconst (v := nI 2) hF dL_law_671 (by decide) ?_
  refine V.iadd hF dL_law_672 ?_
  refine V.sld (j := i + 2) hF hXs hbl hbA (by simp only [nI_add]) (by omega) hL dL_law_673 ?_
  refine V.vI hF dL_law_674 (ct_X5_arrive hst (shSetJ σ out g) _ _ om ar hms _ (hw.pm C2) _ (hw.pa C2 (by decide)) hw.rg.1.wv (xs (i + 1)) (xs (i + 2))) lk_L_178 sl_X5_arrive hms.1.1 hms.1.2 rfl (Nat.le_of_ble_eq_true rfl) ⟨by omega, by omega, by omega, by omega⟩ (Nat.le_of_ble_eq_true rfl) rfl ?_
  refine V.istore hF dL_law_677 (by decide) ?_
  refine V.aload_n hF dL_law_679 rfl ?_
  refine V.vI hF dL_law_680 (ct_X5_thrown hst (shSetJ σ out g) _ _ om ar hms _ (va_up_self _ _ _)) lk_L_145 sl_X5_thrown hms.1.1 hms.1.2 rfl (Nat.le_of_ble_eq_true rfl) ⟨by omega, by omega, by omega, by omega⟩ (Nat.le_of_ble_eq_true rfl) rfl ?_
  refine V.topi (th_0 _ _) ?_
  refine V.iload hF dL_law_683 rfl ?_
  refine V.icmp_eq (tgt := 690) hF dL_law_685 (by decide) (fun _ => ?_) (fun hq => absurd rfl hq)
  refine V.iload hF dL_law_690 rfl ?_
  refine V.if_ne (tgt := 707) hF dL_law_692 (by decide) (fun _ => ?_) (fun h0 => ?_)
  · refine V.goto (tgt := 2493) hF dL_law_707 (by decide) ?_
    refine V.relv [0, 1, 2, 3, 4, 5] rfl ?_
    refine V.widen (k := cells + 60) (n := slots + 5000) (by omega) (by omega) ?_
    exact K _ _ _ (hw.std ⟨_, _, rfl⟩ _ hR2)
  · refine V.aload_n hF dL_law_695 rfl ?_
    refine V.iconst (v := nI 0) hF dL_law_696 (by decide) ?_
    refine V.laload (j := 0) hF dL_law_697 hw.1.2.2.2.2.1.1 hw.1.2.2.2.2.1.2.1 rfl (by show 0 < shN σ out; rw [hw.1.2.2.2.2.1.2.2]; omega) (by show shN σ out < _; rw [hw.1.2.2.2.2.1.2.2]; omega) ?_
    refine V.topl ((congrFun (va_up_self (shJ σ) out g) 0).trans (hg h0)) ?_
    refine V.iload hF dL_law_698 rfl ?_
    refine V.i2l hF dL_law_700 ?_
    refine V.lcmp hF dL_law_701 ?_
    refine V.if_eq (tgt := 707) hF dL_law_702 (by decide) (fun _ => ?_) (fun hq => absurd (lg_self _) hq)
    refine V.goto (tgt := 2493) hF dL_law_707 (by decide) ?_
    refine V.relv [0, 1, 2, 3, 4, 5] rfl ?_
    refine V.widen (k := cells + 60) (n := slots + 5000) (by omega) (by omega) ?_
    exact K _ _ _ (hw.std ⟨_, _, rfl⟩ _ hR2)
set_option maxRecDepth 20000 in
theorem lcase_arriveAll (hF : Fx p l s m args meth c D cy sa sv A 9 RL cL_law (some .boolean)) (hst : l.stackTraces = false) (hnc : NC s) (hXs : va_X b L xs s s.heap) (hbl : b < s.heap.size) (hbA : ¬ A b) (hi : i + 3 < L) (hL : L ≤ 2048) (hw : LWx σ I X o so om out dout ta ar tg ad C n t1 t2 t3) (hc1 : cells + 60 ≤ R.cells) (hs1 : slots + 5000 ≤ R.slots) (hR1 : 20 ≤ R.frames) (hR2 : 10000 ≤ R.locals)
    (K : ∀ (σ' : SH) (I' X' : IX), LW σ' I' X' o so om out dout ta ar → V p l e R s m args below meth c D cy A Q 9 (cells + 60) (slots + 5000) σ' I' X' 2493 [(0, .ref b), (1, .ref o), (2, .ref om), (3, .ref out), (4, .ref dout), (5, .int (nI i))] []) : V p l e R s m args below meth c D cy A Q 9 cells slots σ I X 710 [(0, .ref b), (1, .ref o), (2, .ref om), (3, .ref out), (4, .ref dout), (5, .int (nI i))] [] := by
  have hms := hw.ms
  refine V.eqI hw.eI ?_
  refine V.eqX hw.eX ?_
  refine V.aload_n hF dL_law_710 rfl ?_
  refine V.aload_n hF dL_law_711 rfl ?_
  refine V.iload hF dL_law_712 rfl ?_
  refine V.iconst (v := nI 1) hF dL_law_714 (by decide) ?_
  refine V.iadd hF dL_law_715 ?_
  refine V.sld (j := i + 1) hF hXs hbl hbA (by simp only [nI_add]) (by omega) hL dL_law_716 ?_
  refine V.aload_n hF dL_law_717 rfl ?_
  refine V.callSW hF dL_law_718 (ct_L_arriveAll hst σ I X o ad hw.fs hw.gb.1 C (X (ar 1)) hw.rg out hw.1.2.2.2.2.1.1 hw.1.2.2.2.2.1.2.1 hw.1.2.2.2.2.1.2.2 (xs (i + 1))) lw_L_arriveAll hnc ⟨by omega, by omega, by omega, by omega⟩ (Nat.le_of_ble_eq_true rfl) (fun r s2 I2 X2 hx => ?_) rfl
  obtain ⟨e0, C2, g, hR2, e1, e2, e3, hg⟩ := hx
  rw [e0, e1, e2, e3]
  refine V.istore hF dL_law_721 (by decide) ?_
  refine V.aload_n hF dL_law_723 rfl ?_
  refine V.aload_n hF dL_law_724 rfl ?_
  refine V.iload hF dL_law_725 rfl ?_
  refine V.iconst (v := nI 1) hF dL_law_727 (by decide) ?_
  refine V.iadd hF dL_law_728 ?_
  refine V.sld (j := i + 1) hF hXs hbl hbA (by simp only [nI_add]) (by omega) hL dL_law_729 ?_
  refine V.vI hF dL_law_730 (ct_X5_arriveAll hst (shSetJ σ out g) _ _ om ar hms _ (hw.pm C2) _ (hw.pa C2 (by decide)) hw.rg.1.wv (xs (i + 1))) lk_L_181 sl_X5_arriveAll hms.1.1 hms.1.2 rfl (Nat.le_of_ble_eq_true rfl) ⟨by omega, by omega, by omega, by omega⟩ (Nat.le_of_ble_eq_true rfl) rfl ?_
  refine V.istore hF dL_law_733 (by decide) ?_
  refine V.aload_n hF dL_law_735 rfl ?_
  refine V.vI hF dL_law_736 (ct_X5_thrown hst (shSetJ σ out g) _ _ om ar hms _ (va_up_self _ _ _)) lk_L_145 sl_X5_thrown hms.1.1 hms.1.2 rfl (Nat.le_of_ble_eq_true rfl) ⟨by omega, by omega, by omega, by omega⟩ (Nat.le_of_ble_eq_true rfl) rfl ?_
  refine V.topi (th_0 _ _) ?_
  refine V.iload hF dL_law_739 rfl ?_
  refine V.icmp_eq (tgt := 746) hF dL_law_741 (by decide) (fun _ => ?_) (fun hq => absurd rfl hq)
  refine V.iload hF dL_law_746 rfl ?_
  refine V.if_ne (tgt := 763) hF dL_law_748 (by decide) (fun _ => ?_) (fun h0 => ?_)
  · refine V.goto (tgt := 2493) hF dL_law_763 (by decide) ?_
    refine V.relv [0, 1, 2, 3, 4, 5] rfl ?_
    refine V.widen (k := cells + 60) (n := slots + 5000) (by omega) (by omega) ?_
    exact K _ _ _ (hw.std ⟨_, _, rfl⟩ _ hR2)
  · refine V.aload_n hF dL_law_751 rfl ?_
    refine V.iconst (v := nI 0) hF dL_law_752 (by decide) ?_
    refine V.laload (j := 0) hF dL_law_753 hw.1.2.2.2.2.1.1 hw.1.2.2.2.2.1.2.1 rfl (by show 0 < shN σ out; rw [hw.1.2.2.2.2.1.2.2]; omega) (by show shN σ out < _; rw [hw.1.2.2.2.2.1.2.2]; omega) ?_
    refine V.topl ((congrFun (va_up_self (shJ σ) out g) 0).trans (hg h0)) ?_
    refine V.iload hF dL_law_754 rfl ?_
    refine V.i2l hF dL_law_756 ?_
    refine V.lcmp hF dL_law_757 ?_
    refine V.if_eq (tgt := 763) hF dL_law_758 (by decide) (fun _ => ?_) (fun hq => absurd (lg_self _) hq)
    refine V.goto (tgt := 2493) hF dL_law_763 (by decide) ?_
    refine V.relv [0, 1, 2, 3, 4, 5] rfl ?_
    refine V.widen (k := cells + 60) (n := slots + 5000) (by omega) (by omega) ?_
    exact K _ _ _ (hw.std ⟨_, _, rfl⟩ _ hR2)
set_option maxRecDepth 20000 in
theorem lcase_gossip (hF : Fx p l s m args meth c D cy sa sv A 9 RL cL_law (some .boolean)) (hst : l.stackTraces = false) (hnc : NC s) (hXs : va_X b L xs s s.heap) (hbl : b < s.heap.size) (hbA : ¬ A b) (hi : i + 3 < L) (hL : L ≤ 2048) (hw : LWx σ I X o so om out dout ta ar tg ad C n t1 t2 t3) (hc1 : cells + 60 ≤ R.cells) (hs1 : slots + 5000 ≤ R.slots) (hR1 : 20 ≤ R.frames) (hR2 : 10000 ≤ R.locals)
    (K : ∀ (σ' : SH) (I' X' : IX), LW σ' I' X' o so om out dout ta ar → V p l e R s m args below meth c D cy A Q 9 (cells + 60) (slots + 5000) σ' I' X' 2493 [(0, .ref b), (1, .ref o), (2, .ref om), (3, .ref out), (4, .ref dout), (5, .int (nI i))] []) : V p l e R s m args below meth c D cy A Q 9 cells slots σ I X 766 [(0, .ref b), (1, .ref o), (2, .ref om), (3, .ref out), (4, .ref dout), (5, .int (nI i))] [] := by
  have hms := hw.ms
  refine V.eqI hw.eI ?_
  refine V.eqX hw.eX ?_
  refine V.aload_n hF dL_law_766 rfl ?_
  refine V.aload_n hF dL_law_767 rfl ?_
  refine V.iload hF dL_law_768 rfl ?_
  refine V.iconst (v := nI 1) hF dL_law_770 (by decide) ?_
  refine V.iadd hF dL_law_771 ?_
  refine V.sld (j := i + 1) hF hXs hbl hbA (by simp only [nI_add]) (by omega) hL dL_law_772 ?_
  refine V.aload_n hF dL_law_773 rfl ?_
  refine V.iload hF dL_law_774 rfl ?_
  refine V.iconst (v := nI 2) hF dL_law_776 (by decide) ?_
  refine V.iadd hF dL_law_777 ?_
  refine V.sld (j := i + 2) hF hXs hbl hbA (by simp only [nI_add]) (by omega) hL dL_law_778 ?_
  refine V.aload_n hF dL_law_779 rfl ?_
  refine V.callSW hF dL_law_780 (ct_L_gossip hst σ I X o ad hw.fs hw.gb.1 C (X (ar 1)) hw.rg out hw.1.2.2.2.2.1.1 hw.1.2.2.2.2.1.2.1 hw.1.2.2.2.2.1.2.2 (xs (i + 1)) (xs (i + 2))) lw_L_gossip hnc ⟨by omega, by omega, by omega, by omega⟩ (Nat.le_of_ble_eq_true rfl) (fun r s2 I2 X2 hx => ?_) rfl
  obtain ⟨e0, C2, g, hR2, e1, e2, e3, hg⟩ := hx
  rw [e0, e1, e2, e3]
  refine V.istore hF dL_law_783 (by decide) ?_
  refine V.aload_n hF dL_law_785 rfl ?_
  refine V.aload_n hF dL_law_786 rfl ?_
  refine V.iload hF dL_law_787 rfl ?_
  refine V.iconst (v := nI 1) hF dL_law_789 (by decide) ?_
  refine V.iadd hF dL_law_790 ?_
  refine V.sld (j := i + 1) hF hXs hbl hbA (by simp only [nI_add]) (by omega) hL dL_law_791 ?_
  refine V.aload_n hF dL_law_792 rfl ?_
  refine V.iload hF dL_law_793 rfl ?_
  refine V.iconst (v := nI 2) hF dL_law_795 (by decide) ?_
  refine V.iadd hF dL_law_796 ?_
  refine V.sld (j := i + 2) hF hXs hbl hbA (by simp only [nI_add]) (by omega) hL dL_law_797 ?_
  refine V.vI hF dL_law_798 (ct_X5_gossip hst (shSetJ σ out g) _ _ om ar hms _ (hw.pm C2) _ (hw.pa C2 (by decide)) hw.rg.1.wv (xs (i + 1)) (xs (i + 2))) lk_L_184 sl_X5_gossip hms.1.1 hms.1.2 rfl (Nat.le_of_ble_eq_true rfl) ⟨by omega, by omega, by omega, by omega⟩ (Nat.le_of_ble_eq_true rfl) rfl ?_
  refine V.istore hF dL_law_801 (by decide) ?_
  refine V.aload_n hF dL_law_803 rfl ?_
  refine V.vI hF dL_law_804 (ct_X5_thrown hst (shSetJ σ out g) _ _ om ar hms _ (va_up_self _ _ _)) lk_L_145 sl_X5_thrown hms.1.1 hms.1.2 rfl (Nat.le_of_ble_eq_true rfl) ⟨by omega, by omega, by omega, by omega⟩ (Nat.le_of_ble_eq_true rfl) rfl ?_
  refine V.topi (th_0 _ _) ?_
  refine V.iload hF dL_law_807 rfl ?_
  refine V.icmp_eq (tgt := 814) hF dL_law_809 (by decide) (fun _ => ?_) (fun hq => absurd rfl hq)
  refine V.iload hF dL_law_814 rfl ?_
  refine V.if_ne (tgt := 831) hF dL_law_816 (by decide) (fun _ => ?_) (fun h0 => ?_)
  · refine V.goto (tgt := 2493) hF dL_law_831 (by decide) ?_
    refine V.relv [0, 1, 2, 3, 4, 5] rfl ?_
    refine V.widen (k := cells + 60) (n := slots + 5000) (by omega) (by omega) ?_
    exact K _ _ _ (hw.std ⟨_, _, rfl⟩ _ hR2)
  · refine V.aload_n hF dL_law_819 rfl ?_
    refine V.iconst (v := nI 0) hF dL_law_820 (by decide) ?_
    refine V.laload (j := 0) hF dL_law_821 hw.1.2.2.2.2.1.1 hw.1.2.2.2.2.1.2.1 rfl (by show 0 < shN σ out; rw [hw.1.2.2.2.2.1.2.2]; omega) (by show shN σ out < _; rw [hw.1.2.2.2.2.1.2.2]; omega) ?_
    refine V.topl ((congrFun (va_up_self (shJ σ) out g) 0).trans (hg h0)) ?_
    refine V.iload hF dL_law_822 rfl ?_
    refine V.i2l hF dL_law_824 ?_
    refine V.lcmp hF dL_law_825 ?_
    refine V.if_eq (tgt := 831) hF dL_law_826 (by decide) (fun _ => ?_) (fun hq => absurd (lg_self _) hq)
    refine V.goto (tgt := 2493) hF dL_law_831 (by decide) ?_
    refine V.relv [0, 1, 2, 3, 4, 5] rfl ?_
    refine V.widen (k := cells + 60) (n := slots + 5000) (by omega) (by omega) ?_
    exact K _ _ _ (hw.std ⟨_, _, rfl⟩ _ hR2)
set_option maxRecDepth 20000 in
theorem lcase_messageClock (hF : Fx p l s m args meth c D cy sa sv A 9 RL cL_law (some .boolean)) (hst : l.stackTraces = false) (hnc : NC s) (hXs : va_X b L xs s s.heap) (hbl : b < s.heap.size) (hbA : ¬ A b) (hi : i + 3 < L) (hL : L ≤ 2048) (hw : LWx σ I X o so om out dout ta ar tg ad C n t1 t2 t3) (hc1 : cells + 60 ≤ R.cells) (hs1 : slots + 5000 ≤ R.slots) (hR1 : 20 ≤ R.frames) (hR2 : 10000 ≤ R.locals)
    (K : ∀ (σ' : SH) (I' X' : IX), LW σ' I' X' o so om out dout ta ar → V p l e R s m args below meth c D cy A Q 9 (cells + 60) (slots + 5000) σ' I' X' 2493 [(0, .ref b), (1, .ref o), (2, .ref om), (3, .ref out), (4, .ref dout), (5, .int (nI i))] []) : V p l e R s m args below meth c D cy A Q 9 cells slots σ I X 915 [(0, .ref b), (1, .ref o), (2, .ref om), (3, .ref out), (4, .ref dout), (5, .int (nI i))] [] := by
  have hms := hw.ms
  refine V.eqI hw.eI ?_
  refine V.eqX hw.eX ?_
  refine V.aload_n hF dL_law_915 rfl ?_
  refine V.aload_n hF dL_law_916 rfl ?_
  refine V.iload hF dL_law_917 rfl ?_
  refine V.iconst (v := nI 1) hF dL_law_919 (by decide) ?_
  refine V.iadd hF dL_law_920 ?_
  refine V.sld (j := i + 1) hF hXs hbl hbA (by simp only [nI_add]) (by omega) hL dL_law_921 ?_
  refine V.aload_n hF dL_law_922 rfl ?_
  refine V.iload hF dL_law_923 rfl ?_
  refine V.iconst (v := nI 2) hF dL_law_925 (by decide) ?_
  refine V.iadd hF dL_law_926 ?_
  refine V.sld (j := i + 2) hF hXs hbl hbA (by simp only [nI_add]) (by omega) hL dL_law_927 ?_
  refine V.aload_n hF dL_law_928 rfl ?_
  refine V.callSW hF dL_law_929 (ct_L_messageClock hst σ I X o ad hw.fs hw.gb.1 C (X (ar 1)) hw.rg out hw.1.2.2.2.2.1.1 hw.1.2.2.2.2.1.2.1 hw.1.2.2.2.2.1.2.2 (xs (i + 1)) (xs (i + 2))) lw_L_messageClock hnc ⟨by omega, by omega, by omega, by omega⟩ (Nat.le_of_ble_eq_true rfl) (fun r s2 I2 X2 hx => ?_) rfl
  obtain ⟨e0, C2, g, hR2, e1, e2, e3, hg⟩ := hx
  rw [e0, e1, e2, e3]
  refine V.istore hF dL_law_932 (by decide) ?_
  refine V.aload_n hF dL_law_934 rfl ?_
  refine V.aload_n hF dL_law_935 rfl ?_
  refine V.iload hF dL_law_936 rfl ?_
  refine V.iconst (v := nI 1) hF dL_law_938 (by decide) ?_
  refine V.iadd hF dL_law_939 ?_
  refine V.sld (j := i + 1) hF hXs hbl hbA (by simp only [nI_add]) (by omega) hL dL_law_940 ?_
  refine V.aload_n hF dL_law_941 rfl ?_
  refine V.iload hF dL_law_942 rfl ?_
  refine V.iconst (v := nI 2) hF dL_law_944 (by decide) ?_
  refine V.iadd hF dL_law_945 ?_
  refine V.sld (j := i + 2) hF hXs hbl hbA (by simp only [nI_add]) (by omega) hL dL_law_946 ?_
  refine V.vI hF dL_law_947 (ct_X5_messageClock hst (shSetJ σ out g) _ _ om ar hms _ (hw.pm C2) _ (hw.pa C2 (by decide)) hw.rg.1.wv (xs (i + 1)) (xs (i + 2))) lk_L_194 sl_X5_messageClock hms.1.1 hms.1.2 rfl (Nat.le_of_ble_eq_true rfl) ⟨by omega, by omega, by omega, by omega⟩ (Nat.le_of_ble_eq_true rfl) rfl ?_
  refine V.istore hF dL_law_950 (by decide) ?_
  refine V.aload_n hF dL_law_952 rfl ?_
  refine V.vI hF dL_law_953 (ct_X5_thrown hst (shSetJ σ out g) _ _ om ar hms _ (va_up_self _ _ _)) lk_L_145 sl_X5_thrown hms.1.1 hms.1.2 rfl (Nat.le_of_ble_eq_true rfl) ⟨by omega, by omega, by omega, by omega⟩ (Nat.le_of_ble_eq_true rfl) rfl ?_
  refine V.topi (th_0 _ _) ?_
  refine V.iload hF dL_law_956 rfl ?_
  refine V.icmp_eq (tgt := 963) hF dL_law_958 (by decide) (fun _ => ?_) (fun hq => absurd rfl hq)
  refine V.iload hF dL_law_963 rfl ?_
  refine V.if_ne (tgt := 980) hF dL_law_965 (by decide) (fun _ => ?_) (fun h0 => ?_)
  · refine V.goto (tgt := 2493) hF dL_law_980 (by decide) ?_
    refine V.relv [0, 1, 2, 3, 4, 5] rfl ?_
    refine V.widen (k := cells + 60) (n := slots + 5000) (by omega) (by omega) ?_
    exact K _ _ _ (hw.std0 ⟨_, _, rfl⟩ _ hR2)
  · refine V.aload_n hF dL_law_968 rfl ?_
    refine V.iconst (v := nI 0) hF dL_law_969 (by decide) ?_
    refine V.laload (j := 0) hF dL_law_970 hw.1.2.2.2.2.1.1 hw.1.2.2.2.2.1.2.1 rfl (by show 0 < shN σ out; rw [hw.1.2.2.2.2.1.2.2]; omega) (by show shN σ out < _; rw [hw.1.2.2.2.2.1.2.2]; omega) ?_
    refine V.topl ((congrFun (va_up_self (shJ σ) out g) 0).trans (hg h0)) ?_
    refine V.iload hF dL_law_971 rfl ?_
    refine V.i2l hF dL_law_973 ?_
    refine V.lcmp hF dL_law_974 ?_
    refine V.if_eq (tgt := 980) hF dL_law_975 (by decide) (fun _ => ?_) (fun hq => absurd (lg_self _) hq)
    refine V.goto (tgt := 2493) hF dL_law_980 (by decide) ?_
    refine V.relv [0, 1, 2, 3, 4, 5] rfl ?_
    refine V.widen (k := cells + 60) (n := slots + 5000) (by omega) (by omega) ?_
    exact K _ _ _ (hw.std0 ⟨_, _, rfl⟩ _ hR2)
set_option maxRecDepth 20000 in
theorem lcase_isCause (hF : Fx p l s m args meth c D cy sa sv A 9 RL cL_law (some .boolean)) (hst : l.stackTraces = false) (hnc : NC s) (hXs : va_X b L xs s s.heap) (hbl : b < s.heap.size) (hbA : ¬ A b) (hi : i + 3 < L) (hL : L ≤ 2048) (hw : LWx σ I X o so om out dout ta ar tg ad C n t1 t2 t3) (hc1 : cells + 60 ≤ R.cells) (hs1 : slots + 5000 ≤ R.slots) (hR1 : 20 ≤ R.frames) (hR2 : 10000 ≤ R.locals)
    (K : ∀ (σ' : SH) (I' X' : IX), LW σ' I' X' o so om out dout ta ar → V p l e R s m args below meth c D cy A Q 9 (cells + 60) (slots + 5000) σ' I' X' 2493 [(0, .ref b), (1, .ref o), (2, .ref om), (3, .ref out), (4, .ref dout), (5, .int (nI i))] []) : V p l e R s m args below meth c D cy A Q 9 cells slots σ I X 983 [(0, .ref b), (1, .ref o), (2, .ref om), (3, .ref out), (4, .ref dout), (5, .int (nI i))] [] := by
  have hms := hw.ms
  refine V.eqI hw.eI ?_
  refine V.eqX hw.eX ?_
  refine V.aload_n hF dL_law_983 rfl ?_
  refine V.aload_n hF dL_law_984 rfl ?_
  refine V.iload hF dL_law_985 rfl ?_
  refine V.iconst (v := nI 1) hF dL_law_987 (by decide) ?_
  refine V.iadd hF dL_law_988 ?_
  refine V.sld (j := i + 1) hF hXs hbl hbA (by simp only [nI_add]) (by omega) hL dL_law_989 ?_
  refine V.aload_n hF dL_law_990 rfl ?_
  refine V.iload hF dL_law_991 rfl ?_
  refine V.iconst (v := nI 2) hF dL_law_993 (by decide) ?_
  refine V.iadd hF dL_law_994 ?_
  refine V.sld (j := i + 2) hF hXs hbl hbA (by simp only [nI_add]) (by omega) hL dL_law_995 ?_
  refine V.aload_n hF dL_law_996 rfl ?_
  refine V.callSW hF dL_law_997 (ct_L_isCause hst σ I X o ad hw.fs hw.gb.1 C (X (ar 1)) hw.rg out hw.1.2.2.2.2.1.1 hw.1.2.2.2.2.1.2.1 hw.1.2.2.2.2.1.2.2 (xs (i + 1)) (xs (i + 2))) lw_L_isCause hnc ⟨by omega, by omega, by omega, by omega⟩ (Nat.le_of_ble_eq_true rfl) (fun r s2 I2 X2 hx => ?_) rfl
  obtain ⟨e0, C2, g, hR2, e1, e2, e3, hg⟩ := hx
  rw [e0, e1, e2, e3]
  refine V.istore hF dL_law_1000 (by decide) ?_
  refine V.aload_n hF dL_law_1002 rfl ?_
  refine V.aload_n hF dL_law_1003 rfl ?_
  refine V.iload hF dL_law_1004 rfl ?_
  refine V.iconst (v := nI 1) hF dL_law_1006 (by decide) ?_
  refine V.iadd hF dL_law_1007 ?_
  refine V.sld (j := i + 1) hF hXs hbl hbA (by simp only [nI_add]) (by omega) hL dL_law_1008 ?_
  refine V.aload_n hF dL_law_1009 rfl ?_
  refine V.iload hF dL_law_1010 rfl ?_
  refine V.iconst (v := nI 2) hF dL_law_1012 (by decide) ?_
  refine V.iadd hF dL_law_1013 ?_
  refine V.sld (j := i + 2) hF hXs hbl hbA (by simp only [nI_add]) (by omega) hL dL_law_1014 ?_
  refine V.vI hF dL_law_1015 (ct_X5_isCause hst (shSetJ σ out g) _ _ om ar hms _ (hw.pm C2) _ (hw.pa C2 (by decide)) hw.rg.1.wv (xs (i + 1)) (xs (i + 2))) lk_L_197 sl_X5_isCause hms.1.1 hms.1.2 rfl (Nat.le_of_ble_eq_true rfl) ⟨by omega, by omega, by omega, by omega⟩ (Nat.le_of_ble_eq_true rfl) rfl ?_
  refine V.istore hF dL_law_1018 (by decide) ?_
  refine V.aload_n hF dL_law_1020 rfl ?_
  refine V.vI hF dL_law_1021 (ct_X5_thrown hst (shSetJ σ out g) _ _ om ar hms _ (va_up_self _ _ _)) lk_L_145 sl_X5_thrown hms.1.1 hms.1.2 rfl (Nat.le_of_ble_eq_true rfl) ⟨by omega, by omega, by omega, by omega⟩ (Nat.le_of_ble_eq_true rfl) rfl ?_
  refine V.topi (th_0 _ _) ?_
  refine V.iload hF dL_law_1024 rfl ?_
  refine V.icmp_eq (tgt := 1031) hF dL_law_1026 (by decide) (fun _ => ?_) (fun hq => absurd rfl hq)
  refine V.iload hF dL_law_1031 rfl ?_
  refine V.if_ne (tgt := 1055) hF dL_law_1033 (by decide) (fun _ => ?_) (fun h0 => ?_)
  · refine V.goto (tgt := 2493) hF dL_law_1055 (by decide) ?_
    refine V.relv [0, 1, 2, 3, 4, 5] rfl ?_
    refine V.widen (k := cells + 60) (n := slots + 5000) (by omega) (by omega) ?_
    exact K _ _ _ (hw.std0 ⟨_, _, rfl⟩ _ hR2)
  · refine V.aload_n hF dL_law_1036 rfl ?_
    refine V.iconst (v := nI 0) hF dL_law_1037 (by decide) ?_
    refine V.laload (j := 0) hF dL_law_1038 hw.1.2.2.2.2.1.1 hw.1.2.2.2.2.1.2.1 rfl (by show 0 < shN σ out; rw [hw.1.2.2.2.2.1.2.2]; omega) (by show shN σ out < _; rw [hw.1.2.2.2.2.1.2.2]; omega) ?_
    refine V.topl ((congrFun (va_up_self (shJ σ) out g) 0).trans (hg h0)) ?_
    refine V.iload hF dL_law_1039 rfl ?_
    refine V.if_eqB (tgt := 1048) hF dL_law_1041 (by decide) (fun hb => ?_) (fun hb => ?_)
    · refine V.lconst (v := 0) hF dL_law_1048 rfl ?_
      refine V.topl (y := (bI false).toInt64) rfl ?_
      rw [hb]
      refine V.lcmp hF dL_law_1049 ?_
      refine V.if_eq (tgt := 1055) hF dL_law_1050 (by decide) (fun _ => ?_) (fun hq => absurd (lg_self _) hq)
      refine V.goto (tgt := 2493) hF dL_law_1055 (by decide) ?_
      refine V.relv [0, 1, 2, 3, 4, 5] rfl ?_
      refine V.widen (k := cells + 60) (n := slots + 5000) (by omega) (by omega) ?_
      exact K _ _ _ (hw.std0 ⟨_, _, rfl⟩ _ hR2)
    · refine V.lconst (v := 1) hF dL_law_1044 rfl ?_
      refine V.goto (tgt := 1049) hF dL_law_1045 (by decide) ?_
      refine V.topl (y := (bI true).toInt64) rfl ?_
      rw [hb]
      refine V.lcmp hF dL_law_1049 ?_
      refine V.if_eq (tgt := 1055) hF dL_law_1050 (by decide) (fun _ => ?_) (fun hq => absurd (lg_self _) hq)
      refine V.goto (tgt := 2493) hF dL_law_1055 (by decide) ?_
      refine V.relv [0, 1, 2, 3, 4, 5] rfl ?_
      refine V.widen (k := cells + 60) (n := slots + 5000) (by omega) (by omega) ?_
      exact K _ _ _ (hw.std0 ⟨_, _, rfl⟩ _ hR2)
set_option maxRecDepth 20000 in
theorem lcase_causes (hF : Fx p l s m args meth c D cy sa sv A 9 RL cL_law (some .boolean)) (hst : l.stackTraces = false) (hnc : NC s) (hXs : va_X b L xs s s.heap) (hbl : b < s.heap.size) (hbA : ¬ A b) (hi : i + 3 < L) (hL : L ≤ 2048) (hw : LWx σ I X o so om out dout ta ar tg ad C n t1 t2 t3) (hc1 : cells + 60 ≤ R.cells) (hs1 : slots + 5000 ≤ R.slots) (hR1 : 20 ≤ R.frames) (hR2 : 10000 ≤ R.locals)
    (K : ∀ (σ' : SH) (I' X' : IX), LW σ' I' X' o so om out dout ta ar → V p l e R s m args below meth c D cy A Q 9 (cells + 60) (slots + 5000) σ' I' X' 2493 [(0, .ref b), (1, .ref o), (2, .ref om), (3, .ref out), (4, .ref dout), (5, .int (nI i))] []) : V p l e R s m args below meth c D cy A Q 9 cells slots σ I X 1058 [(0, .ref b), (1, .ref o), (2, .ref om), (3, .ref out), (4, .ref dout), (5, .int (nI i))] [] := by
  have hms := hw.ms
  refine V.eqI hw.eI ?_
  refine V.eqX hw.eX ?_
  refine V.aload_n hF dL_law_1058 rfl ?_
  refine V.aload_n hF dL_law_1059 rfl ?_
  refine V.iload hF dL_law_1060 rfl ?_
  refine V.iconst (v := nI 1) hF dL_law_1062 (by decide) ?_
  refine V.iadd hF dL_law_1063 ?_
  refine V.sld (j := i + 1) hF hXs hbl hbA (by simp only [nI_add]) (by omega) hL dL_law_1064 ?_
  refine V.aload_n hF dL_law_1065 rfl ?_
  refine V.callSW hF dL_law_1066 (ct_L_causes hst σ I X o ad hw.fs hw.gb.1 C (X (ar 1)) hw.rg out hw.1.2.2.2.2.1.1 hw.1.2.2.2.2.1.2.1 hw.1.2.2.2.2.1.2.2 (xs (i + 1))) lw_L_causes hnc ⟨by omega, by omega, by omega, by omega⟩ (Nat.le_of_ble_eq_true rfl) (fun r s2 I2 X2 hx => ?_) rfl
  obtain ⟨e0, C2, g, hR2, e1, e2, e3, hg⟩ := hx
  rw [e0, e1, e2, e3]
  refine V.istore hF dL_law_1069 (by decide) ?_
  refine V.aload_n hF dL_law_1071 rfl ?_
  refine V.aload_n hF dL_law_1072 rfl ?_
  refine V.iload hF dL_law_1073 rfl ?_
  refine V.iconst (v := nI 1) hF dL_law_1075 (by decide) ?_
  refine V.iadd hF dL_law_1076 ?_
  refine V.sld (j := i + 1) hF hXs hbl hbA (by simp only [nI_add]) (by omega) hL dL_law_1077 ?_
  refine V.vI hF dL_law_1078 (ct_X5_causes hst (shSetJ σ out g) _ _ om ar hms _ (hw.pm C2) _ (hw.pa C2 (by decide)) hw.rg.1.wv (xs (i + 1))) lk_L_200 sl_X5_causes hms.1.1 hms.1.2 rfl (Nat.le_of_ble_eq_true rfl) ⟨by omega, by omega, by omega, by omega⟩ (Nat.le_of_ble_eq_true rfl) rfl ?_
  refine V.istore hF dL_law_1081 (by decide) ?_
  refine V.aload_n hF dL_law_1083 rfl ?_
  refine V.vI hF dL_law_1084 (ct_X5_thrown hst (shSetJ σ out g) _ _ om ar hms _ (va_up_self _ _ _)) lk_L_145 sl_X5_thrown hms.1.1 hms.1.2 rfl (Nat.le_of_ble_eq_true rfl) ⟨by omega, by omega, by omega, by omega⟩ (Nat.le_of_ble_eq_true rfl) rfl ?_
  refine V.topi (th_0 _ _) ?_
  refine V.iload hF dL_law_1087 rfl ?_
  refine V.icmp_eq (tgt := 1094) hF dL_law_1089 (by decide) (fun _ => ?_) (fun hq => absurd rfl hq)
  refine V.iload hF dL_law_1094 rfl ?_
  refine V.if_ne (tgt := 1111) hF dL_law_1096 (by decide) (fun _ => ?_) (fun h0 => ?_)
  · refine V.goto (tgt := 2493) hF dL_law_1111 (by decide) ?_
    refine V.relv [0, 1, 2, 3, 4, 5] rfl ?_
    refine V.widen (k := cells + 60) (n := slots + 5000) (by omega) (by omega) ?_
    exact K _ _ _ (hw.std0 ⟨_, _, rfl⟩ _ hR2)
  · refine V.aload_n hF dL_law_1099 rfl ?_
    refine V.iconst (v := nI 0) hF dL_law_1100 (by decide) ?_
    refine V.laload (j := 0) hF dL_law_1101 hw.1.2.2.2.2.1.1 hw.1.2.2.2.2.1.2.1 rfl (by show 0 < shN σ out; rw [hw.1.2.2.2.2.1.2.2]; omega) (by show shN σ out < _; rw [hw.1.2.2.2.2.1.2.2]; omega) ?_
    refine V.topl ((congrFun (va_up_self (shJ σ) out g) 0).trans (hg h0)) ?_
    refine V.iload hF dL_law_1102 rfl ?_
    refine V.i2l hF dL_law_1104 ?_
    refine V.lcmp hF dL_law_1105 ?_
    refine V.if_eq (tgt := 1111) hF dL_law_1106 (by decide) (fun _ => ?_) (fun hq => absurd (lg_self _) hq)
    refine V.goto (tgt := 2493) hF dL_law_1111 (by decide) ?_
    refine V.relv [0, 1, 2, 3, 4, 5] rfl ?_
    refine V.widen (k := cells + 60) (n := slots + 5000) (by omega) (by omega) ?_
    exact K _ _ _ (hw.std0 ⟨_, _, rfl⟩ _ hR2)
set_option maxRecDepth 20000 in
theorem lcase_concurrent (hF : Fx p l s m args meth c D cy sa sv A 9 RL cL_law (some .boolean)) (hst : l.stackTraces = false) (hnc : NC s) (hXs : va_X b L xs s s.heap) (hbl : b < s.heap.size) (hbA : ¬ A b) (hi : i + 3 < L) (hL : L ≤ 2048) (hw : LWx σ I X o so om out dout ta ar tg ad C n t1 t2 t3) (hc1 : cells + 60 ≤ R.cells) (hs1 : slots + 5000 ≤ R.slots) (hR1 : 20 ≤ R.frames) (hR2 : 10000 ≤ R.locals)
    (K : ∀ (σ' : SH) (I' X' : IX), LW σ' I' X' o so om out dout ta ar → V p l e R s m args below meth c D cy A Q 9 (cells + 60) (slots + 5000) σ' I' X' 2493 [(0, .ref b), (1, .ref o), (2, .ref om), (3, .ref out), (4, .ref dout), (5, .int (nI i))] []) : V p l e R s m args below meth c D cy A Q 9 cells slots σ I X 1114 [(0, .ref b), (1, .ref o), (2, .ref om), (3, .ref out), (4, .ref dout), (5, .int (nI i))] [] := by
  have hms := hw.ms
  refine V.eqI hw.eI ?_
  refine V.eqX hw.eX ?_
  refine V.aload_n hF dL_law_1114 rfl ?_
  refine V.aload_n hF dL_law_1115 rfl ?_
  refine V.iload hF dL_law_1116 rfl ?_
  refine V.iconst (v := nI 1) hF dL_law_1118 (by decide) ?_
  refine V.iadd hF dL_law_1119 ?_
  refine V.sld (j := i + 1) hF hXs hbl hbA (by simp only [nI_add]) (by omega) hL dL_law_1120 ?_
  refine V.aload_n hF dL_law_1121 rfl ?_
  refine V.callSW hF dL_law_1122 (ct_L_concurrent hst σ I X o ad hw.fs hw.gb.1 C (X (ar 1)) hw.rg out hw.1.2.2.2.2.1.1 hw.1.2.2.2.2.1.2.1 hw.1.2.2.2.2.1.2.2 (xs (i + 1))) lw_L_concurrent hnc ⟨by omega, by omega, by omega, by omega⟩ (Nat.le_of_ble_eq_true rfl) (fun r s2 I2 X2 hx => ?_) rfl
  obtain ⟨e0, C2, g, hR2, e1, e2, e3, hg⟩ := hx
  rw [e0, e1, e2, e3]
  refine V.istore hF dL_law_1125 (by decide) ?_
  refine V.aload_n hF dL_law_1127 rfl ?_
  refine V.aload_n hF dL_law_1128 rfl ?_
  refine V.iload hF dL_law_1129 rfl ?_
  refine V.iconst (v := nI 1) hF dL_law_1131 (by decide) ?_
  refine V.iadd hF dL_law_1132 ?_
  refine V.sld (j := i + 1) hF hXs hbl hbA (by simp only [nI_add]) (by omega) hL dL_law_1133 ?_
  refine V.vI hF dL_law_1134 (ct_X5_concurrent hst (shSetJ σ out g) _ _ om ar hms _ (hw.pm C2) _ (hw.pa C2 (by decide)) hw.rg.1.wv (xs (i + 1))) lk_L_203 sl_X5_concurrent hms.1.1 hms.1.2 rfl (Nat.le_of_ble_eq_true rfl) ⟨by omega, by omega, by omega, by omega⟩ (Nat.le_of_ble_eq_true rfl) rfl ?_
  refine V.istore hF dL_law_1137 (by decide) ?_
  refine V.aload_n hF dL_law_1139 rfl ?_
  refine V.vI hF dL_law_1140 (ct_X5_thrown hst (shSetJ σ out g) _ _ om ar hms _ (va_up_self _ _ _)) lk_L_145 sl_X5_thrown hms.1.1 hms.1.2 rfl (Nat.le_of_ble_eq_true rfl) ⟨by omega, by omega, by omega, by omega⟩ (Nat.le_of_ble_eq_true rfl) rfl ?_
  refine V.topi (th_0 _ _) ?_
  refine V.iload hF dL_law_1143 rfl ?_
  refine V.icmp_eq (tgt := 1150) hF dL_law_1145 (by decide) (fun _ => ?_) (fun hq => absurd rfl hq)
  refine V.iload hF dL_law_1150 rfl ?_
  refine V.if_ne (tgt := 1167) hF dL_law_1152 (by decide) (fun _ => ?_) (fun h0 => ?_)
  · refine V.goto (tgt := 2493) hF dL_law_1167 (by decide) ?_
    refine V.relv [0, 1, 2, 3, 4, 5] rfl ?_
    refine V.widen (k := cells + 60) (n := slots + 5000) (by omega) (by omega) ?_
    exact K _ _ _ (hw.std0 ⟨_, _, rfl⟩ _ hR2)
  · refine V.aload_n hF dL_law_1155 rfl ?_
    refine V.iconst (v := nI 0) hF dL_law_1156 (by decide) ?_
    refine V.laload (j := 0) hF dL_law_1157 hw.1.2.2.2.2.1.1 hw.1.2.2.2.2.1.2.1 rfl (by show 0 < shN σ out; rw [hw.1.2.2.2.2.1.2.2]; omega) (by show shN σ out < _; rw [hw.1.2.2.2.2.1.2.2]; omega) ?_
    refine V.topl ((congrFun (va_up_self (shJ σ) out g) 0).trans (hg h0)) ?_
    refine V.iload hF dL_law_1158 rfl ?_
    refine V.i2l hF dL_law_1160 ?_
    refine V.lcmp hF dL_law_1161 ?_
    refine V.if_eq (tgt := 1167) hF dL_law_1162 (by decide) (fun _ => ?_) (fun hq => absurd (lg_self _) hq)
    refine V.goto (tgt := 2493) hF dL_law_1167 (by decide) ?_
    refine V.relv [0, 1, 2, 3, 4, 5] rfl ?_
    refine V.widen (k := cells + 60) (n := slots + 5000) (by omega) (by omega) ?_
    exact K _ _ _ (hw.std0 ⟨_, _, rfl⟩ _ hR2)
set_option maxRecDepth 20000 in
theorem lcase_longestChain (hF : Fx p l s m args meth c D cy sa sv A 9 RL cL_law (some .boolean)) (hst : l.stackTraces = false) (hnc : NC s) (hXs : va_X b L xs s s.heap) (hbl : b < s.heap.size) (hbA : ¬ A b) (hi : i + 3 < L) (hL : L ≤ 2048) (hw : LWx σ I X o so om out dout ta ar tg ad C n t1 t2 t3) (hc1 : cells + 60 ≤ R.cells) (hs1 : slots + 5000 ≤ R.slots) (hR1 : 20 ≤ R.frames) (hR2 : 10000 ≤ R.locals)
    (K : ∀ (σ' : SH) (I' X' : IX), LW σ' I' X' o so om out dout ta ar → V p l e R s m args below meth c D cy A Q 9 (cells + 60) (slots + 5000) σ' I' X' 2493 [(0, .ref b), (1, .ref o), (2, .ref om), (3, .ref out), (4, .ref dout), (5, .int (nI i))] []) : V p l e R s m args below meth c D cy A Q 9 cells slots σ I X 1170 [(0, .ref b), (1, .ref o), (2, .ref om), (3, .ref out), (4, .ref dout), (5, .int (nI i))] [] := by
  have hms := hw.ms
  refine V.eqI hw.eI ?_
  refine V.eqX hw.eX ?_
  refine V.aload_n hF dL_law_1170 rfl ?_
  refine V.aload_n hF dL_law_1171 rfl ?_
  refine V.iload hF dL_law_1172 rfl ?_
  refine V.iconst (v := nI 1) hF dL_law_1174 (by decide) ?_
  refine V.iadd hF dL_law_1175 ?_
  refine V.sld (j := i + 1) hF hXs hbl hbA (by simp only [nI_add]) (by omega) hL dL_law_1176 ?_
  refine V.aload_n hF dL_law_1177 rfl ?_
  refine V.callSW hF dL_law_1178 (ct_L_longestChain hst σ I X o ad hw.fs hw.gb.1 C (X (ar 1)) hw.rg out hw.1.2.2.2.2.1.1 hw.1.2.2.2.2.1.2.1 hw.1.2.2.2.2.1.2.2 (X (ar 8)) (xs (i + 1))) lw_L_longestChain hnc ⟨by omega, by omega, by omega, by omega⟩ (Nat.le_of_ble_eq_true rfl) (fun r s2 I2 X2 hx => ?_) rfl
  obtain ⟨e0, C2, g, hR2, e1, e2, e3, hg⟩ := hx
  rw [e0, e1, e2, e3]
  refine V.istore hF dL_law_1181 (by decide) ?_
  refine V.aload_n hF dL_law_1183 rfl ?_
  refine V.aload_n hF dL_law_1184 rfl ?_
  refine V.iload hF dL_law_1185 rfl ?_
  refine V.iconst (v := nI 1) hF dL_law_1187 (by decide) ?_
  refine V.iadd hF dL_law_1188 ?_
  refine V.sld (j := i + 1) hF hXs hbl hbA (by simp only [nI_add]) (by omega) hL dL_law_1189 ?_
  refine V.vI hF dL_law_1190 (ct_X5_longestChain hst (shSetJ σ out g) _ _ om ar hms _ (hw.pm C2) _ (hw.pa C2 (by decide)) hw.rg.1.wv _ (hw.pa _ (by decide)) (xs (i + 1))) lk_L_206 sl_X5_longestChain hms.1.1 hms.1.2 rfl (Nat.le_of_ble_eq_true rfl) ⟨by omega, by omega, by omega, by omega⟩ (Nat.le_of_ble_eq_true rfl) rfl ?_
  refine V.istore hF dL_law_1193 (by decide) ?_
  refine V.aload_n hF dL_law_1195 rfl ?_
  refine V.vI hF dL_law_1196 (ct_X5_thrown hst (shSetJ σ out g) _ _ om ar hms _ (va_up_self _ _ _)) lk_L_145 sl_X5_thrown hms.1.1 hms.1.2 rfl (Nat.le_of_ble_eq_true rfl) ⟨by omega, by omega, by omega, by omega⟩ (Nat.le_of_ble_eq_true rfl) rfl ?_
  refine V.topi (th_0 _ _) ?_
  refine V.iload hF dL_law_1199 rfl ?_
  refine V.icmp_eq (tgt := 1206) hF dL_law_1201 (by decide) (fun _ => ?_) (fun hq => absurd rfl hq)
  refine V.iload hF dL_law_1206 rfl ?_
  refine V.if_ne (tgt := 1223) hF dL_law_1208 (by decide) (fun _ => ?_) (fun h0 => ?_)
  · refine V.goto (tgt := 2493) hF dL_law_1223 (by decide) ?_
    refine V.relv [0, 1, 2, 3, 4, 5] rfl ?_
    refine V.widen (k := cells + 60) (n := slots + 5000) (by omega) (by omega) ?_
    exact K _ _ _ (hw.std8 ⟨_, _, rfl⟩ _ hR2)
  · refine V.aload_n hF dL_law_1211 rfl ?_
    refine V.iconst (v := nI 0) hF dL_law_1212 (by decide) ?_
    refine V.laload (j := 0) hF dL_law_1213 hw.1.2.2.2.2.1.1 hw.1.2.2.2.2.1.2.1 rfl (by show 0 < shN σ out; rw [hw.1.2.2.2.2.1.2.2]; omega) (by show shN σ out < _; rw [hw.1.2.2.2.2.1.2.2]; omega) ?_
    refine V.topl ((congrFun (va_up_self (shJ σ) out g) 0).trans (hg h0)) ?_
    refine V.iload hF dL_law_1214 rfl ?_
    refine V.i2l hF dL_law_1216 ?_
    refine V.lcmp hF dL_law_1217 ?_
    refine V.if_eq (tgt := 1223) hF dL_law_1218 (by decide) (fun _ => ?_) (fun hq => absurd (lg_self _) hq)
    refine V.goto (tgt := 2493) hF dL_law_1223 (by decide) ?_
    refine V.relv [0, 1, 2, 3, 4, 5] rfl ?_
    refine V.widen (k := cells + 60) (n := slots + 5000) (by omega) (by omega) ?_
    exact K _ _ _ (hw.std8 ⟨_, _, rfl⟩ _ hR2)
set_option maxRecDepth 20000 in
theorem lcase_logLength (hF : Fx p l s m args meth c D cy sa sv A 9 RL cL_law (some .boolean)) (hst : l.stackTraces = false) (hnc : NC s) (hXs : va_X b L xs s s.heap) (hbl : b < s.heap.size) (hbA : ¬ A b) (hi : i + 3 < L) (hL : L ≤ 2048) (hw : LWx σ I X o so om out dout ta ar tg ad C n t1 t2 t3) (hc1 : cells + 60 ≤ R.cells) (hs1 : slots + 5000 ≤ R.slots) (hR1 : 20 ≤ R.frames) (hR2 : 10000 ≤ R.locals)
    (K : ∀ (σ' : SH) (I' X' : IX), LW σ' I' X' o so om out dout ta ar → V p l e R s m args below meth c D cy A Q 9 (cells + 60) (slots + 5000) σ' I' X' 2493 [(0, .ref b), (1, .ref o), (2, .ref om), (3, .ref out), (4, .ref dout), (5, .int (nI i))] []) : V p l e R s m args below meth c D cy A Q 9 cells slots σ I X 1239 [(0, .ref b), (1, .ref o), (2, .ref om), (3, .ref out), (4, .ref dout), (5, .int (nI i))] [] := by
  have hms := hw.ms
  refine V.eqI hw.eI ?_
  refine V.eqX hw.eX ?_
  refine V.aload_n hF dL_law_1239 rfl ?_
  refine V.aload_n hF dL_law_1240 rfl ?_
  refine V.iload hF dL_law_1241 rfl ?_
  refine V.iconst (v := nI 1) hF dL_law_1243 (by decide) ?_
  refine V.iadd hF dL_law_1244 ?_
  refine V.sld (j := i + 1) hF hXs hbl hbA (by simp only [nI_add]) (by omega) hL dL_law_1245 ?_
  refine V.aload_n hF dL_law_1246 rfl ?_
  refine V.callSW hF dL_law_1247 (ct_L_logLength hst σ I X o ad hw.fs hw.gb.1 C (X (ar 1)) hw.rg out hw.1.2.2.2.2.1.1 hw.1.2.2.2.2.1.2.1 hw.1.2.2.2.2.1.2.2 (xs (i + 1))) lw_L_logLength hnc ⟨by omega, by omega, by omega, by omega⟩ (Nat.le_of_ble_eq_true rfl) (fun r s2 I2 X2 hx => ?_) rfl
  obtain ⟨e0, C2, g, hR2, e1, e2, e3, hg⟩ := hx
  rw [e0, e1, e2, e3]
  refine V.istore hF dL_law_1250 (by decide) ?_
  refine V.aload_n hF dL_law_1252 rfl ?_
  refine V.aload_n hF dL_law_1253 rfl ?_
  refine V.iload hF dL_law_1254 rfl ?_
  refine V.iconst (v := nI 1) hF dL_law_1256 (by decide) ?_
  refine V.iadd hF dL_law_1257 ?_
  refine V.sld (j := i + 1) hF hXs hbl hbA (by simp only [nI_add]) (by omega) hL dL_law_1258 ?_
  refine V.vI hF dL_law_1259 (ct_X5_logLength hst (shSetJ σ out g) _ _ om ar hms _ (hw.pm C2) _ (hw.pa C2 (by decide)) hw.rg.1.wv (xs (i + 1))) lk_L_213 sl_X5_logLength hms.1.1 hms.1.2 rfl (Nat.le_of_ble_eq_true rfl) ⟨by omega, by omega, by omega, by omega⟩ (Nat.le_of_ble_eq_true rfl) rfl ?_
  refine V.istore hF dL_law_1262 (by decide) ?_
  refine V.aload_n hF dL_law_1264 rfl ?_
  refine V.vI hF dL_law_1265 (ct_X5_thrown hst (shSetJ σ out g) _ _ om ar hms _ (va_up_self _ _ _)) lk_L_145 sl_X5_thrown hms.1.1 hms.1.2 rfl (Nat.le_of_ble_eq_true rfl) ⟨by omega, by omega, by omega, by omega⟩ (Nat.le_of_ble_eq_true rfl) rfl ?_
  refine V.topi (th_0 _ _) ?_
  refine V.iload hF dL_law_1268 rfl ?_
  refine V.icmp_eq (tgt := 1275) hF dL_law_1270 (by decide) (fun _ => ?_) (fun hq => absurd rfl hq)
  refine V.iload hF dL_law_1275 rfl ?_
  refine V.if_ne (tgt := 1292) hF dL_law_1277 (by decide) (fun _ => ?_) (fun h0 => ?_)
  · refine V.goto (tgt := 2493) hF dL_law_1292 (by decide) ?_
    refine V.relv [0, 1, 2, 3, 4, 5] rfl ?_
    refine V.widen (k := cells + 60) (n := slots + 5000) (by omega) (by omega) ?_
    exact K _ _ _ (hw.std0 ⟨_, _, rfl⟩ _ hR2)
  · refine V.aload_n hF dL_law_1280 rfl ?_
    refine V.iconst (v := nI 0) hF dL_law_1281 (by decide) ?_
    refine V.laload (j := 0) hF dL_law_1282 hw.1.2.2.2.2.1.1 hw.1.2.2.2.2.1.2.1 rfl (by show 0 < shN σ out; rw [hw.1.2.2.2.2.1.2.2]; omega) (by show shN σ out < _; rw [hw.1.2.2.2.2.1.2.2]; omega) ?_
    refine V.topl ((congrFun (va_up_self (shJ σ) out g) 0).trans (hg h0)) ?_
    refine V.iload hF dL_law_1283 rfl ?_
    refine V.i2l hF dL_law_1285 ?_
    refine V.lcmp hF dL_law_1286 ?_
    refine V.if_eq (tgt := 1292) hF dL_law_1287 (by decide) (fun _ => ?_) (fun hq => absurd (lg_self _) hq)
    refine V.goto (tgt := 2493) hF dL_law_1292 (by decide) ?_
    refine V.relv [0, 1, 2, 3, 4, 5] rfl ?_
    refine V.widen (k := cells + 60) (n := slots + 5000) (by omega) (by omega) ?_
    exact K _ _ _ (hw.std0 ⟨_, _, rfl⟩ _ hR2)
set_option maxRecDepth 20000 in
theorem lcase_logged (hF : Fx p l s m args meth c D cy sa sv A 9 RL cL_law (some .boolean)) (hst : l.stackTraces = false) (hnc : NC s) (hXs : va_X b L xs s s.heap) (hbl : b < s.heap.size) (hbA : ¬ A b) (hi : i + 3 < L) (hL : L ≤ 2048) (hw : LWx σ I X o so om out dout ta ar tg ad C n t1 t2 t3) (hc1 : cells + 60 ≤ R.cells) (hs1 : slots + 5000 ≤ R.slots) (hR1 : 20 ≤ R.frames) (hR2 : 10000 ≤ R.locals)
    (K : ∀ (σ' : SH) (I' X' : IX), LW σ' I' X' o so om out dout ta ar → V p l e R s m args below meth c D cy A Q 9 (cells + 60) (slots + 5000) σ' I' X' 2493 [(0, .ref b), (1, .ref o), (2, .ref om), (3, .ref out), (4, .ref dout), (5, .int (nI i))] []) : V p l e R s m args below meth c D cy A Q 9 cells slots σ I X 1295 [(0, .ref b), (1, .ref o), (2, .ref om), (3, .ref out), (4, .ref dout), (5, .int (nI i))] [] := by
  have hms := hw.ms
  refine V.eqI hw.eI ?_
  refine V.eqX hw.eX ?_
  refine V.aload_n hF dL_law_1295 rfl ?_
  refine V.aload_n hF dL_law_1296 rfl ?_
  refine V.iload hF dL_law_1297 rfl ?_
  refine V.iconst (v := nI 1) hF dL_law_1299 (by decide) ?_
  refine V.iadd hF dL_law_1300 ?_
  refine V.sld (j := i + 1) hF hXs hbl hbA (by simp only [nI_add]) (by omega) hL dL_law_1301 ?_
  refine V.aload_n hF dL_law_1302 rfl ?_
  refine V.iload hF dL_law_1303 rfl ?_
  refine V.iconst (v := nI 2) hF dL_law_1305 (by decide) ?_
  refine V.iadd hF dL_law_1306 ?_
  refine V.sld (j := i + 2) hF hXs hbl hbA (by simp only [nI_add]) (by omega) hL dL_law_1307 ?_
  refine V.aload_n hF dL_law_1308 rfl ?_
  refine V.callSW hF dL_law_1309 (ct_L_logged hst σ I X o ad hw.fs hw.gb.1 C (X (ar 1)) hw.rg out hw.1.2.2.2.2.1.1 hw.1.2.2.2.2.1.2.1 hw.1.2.2.2.2.1.2.2 (xs (i + 1)) (xs (i + 2))) lw_L_logged hnc ⟨by omega, by omega, by omega, by omega⟩ (Nat.le_of_ble_eq_true rfl) (fun r s2 I2 X2 hx => ?_) rfl
  obtain ⟨e0, C2, g, hR2, e1, e2, e3, hg⟩ := hx
  rw [e0, e1, e2, e3]
  refine V.istore hF dL_law_1312 (by decide) ?_
  refine V.aload_n hF dL_law_1314 rfl ?_
  refine V.aload_n hF dL_law_1315 rfl ?_
  refine V.iload hF dL_law_1316 rfl ?_
  refine V.iconst (v := nI 1) hF dL_law_1318 (by decide) ?_
  refine V.iadd hF dL_law_1319 ?_
  refine V.sld (j := i + 1) hF hXs hbl hbA (by simp only [nI_add]) (by omega) hL dL_law_1320 ?_
  refine V.aload_n hF dL_law_1321 rfl ?_
  refine V.iload hF dL_law_1322 rfl ?_
  refine V.iconst (v := nI 2) hF dL_law_1324 (by decide) ?_
  refine V.iadd hF dL_law_1325 ?_
  refine V.sld (j := i + 2) hF hXs hbl hbA (by simp only [nI_add]) (by omega) hL dL_law_1326 ?_
  refine V.vI hF dL_law_1327 (ct_X5_logged hst (shSetJ σ out g) _ _ om ar hms _ (hw.pm C2) _ (hw.pa C2 (by decide)) hw.rg.1.wv (xs (i + 1)) (xs (i + 2))) lk_L_216 sl_X5_logged hms.1.1 hms.1.2 rfl (Nat.le_of_ble_eq_true rfl) ⟨by omega, by omega, by omega, by omega⟩ (Nat.le_of_ble_eq_true rfl) rfl ?_
  refine V.istore hF dL_law_1330 (by decide) ?_
  refine V.aload_n hF dL_law_1332 rfl ?_
  refine V.vI hF dL_law_1333 (ct_X5_thrown hst (shSetJ σ out g) _ _ om ar hms _ (va_up_self _ _ _)) lk_L_145 sl_X5_thrown hms.1.1 hms.1.2 rfl (Nat.le_of_ble_eq_true rfl) ⟨by omega, by omega, by omega, by omega⟩ (Nat.le_of_ble_eq_true rfl) rfl ?_
  refine V.topi (th_0 _ _) ?_
  refine V.iload hF dL_law_1336 rfl ?_
  refine V.icmp_eq (tgt := 1343) hF dL_law_1338 (by decide) (fun _ => ?_) (fun hq => absurd rfl hq)
  refine V.iload hF dL_law_1343 rfl ?_
  refine V.if_ne (tgt := 1360) hF dL_law_1345 (by decide) (fun _ => ?_) (fun h0 => ?_)
  · refine V.goto (tgt := 2493) hF dL_law_1360 (by decide) ?_
    refine V.relv [0, 1, 2, 3, 4, 5] rfl ?_
    refine V.widen (k := cells + 60) (n := slots + 5000) (by omega) (by omega) ?_
    exact K _ _ _ (hw.std0 ⟨_, _, rfl⟩ _ hR2)
  · refine V.aload_n hF dL_law_1348 rfl ?_
    refine V.iconst (v := nI 0) hF dL_law_1349 (by decide) ?_
    refine V.laload (j := 0) hF dL_law_1350 hw.1.2.2.2.2.1.1 hw.1.2.2.2.2.1.2.1 rfl (by show 0 < shN σ out; rw [hw.1.2.2.2.2.1.2.2]; omega) (by show shN σ out < _; rw [hw.1.2.2.2.2.1.2.2]; omega) ?_
    refine V.topl ((congrFun (va_up_self (shJ σ) out g) 0).trans (hg h0)) ?_
    refine V.iload hF dL_law_1351 rfl ?_
    refine V.i2l hF dL_law_1353 ?_
    refine V.lcmp hF dL_law_1354 ?_
    refine V.if_eq (tgt := 1360) hF dL_law_1355 (by decide) (fun _ => ?_) (fun hq => absurd (lg_self _) hq)
    refine V.goto (tgt := 2493) hF dL_law_1360 (by decide) ?_
    refine V.relv [0, 1, 2, 3, 4, 5] rfl ?_
    refine V.widen (k := cells + 60) (n := slots + 5000) (by omega) (by omega) ?_
    exact K _ _ _ (hw.std0 ⟨_, _, rfl⟩ _ hR2)
set_option maxRecDepth 20000 in
theorem lcase_position (hF : Fx p l s m args meth c D cy sa sv A 9 RL cL_law (some .boolean)) (hst : l.stackTraces = false) (hnc : NC s) (hXs : va_X b L xs s s.heap) (hbl : b < s.heap.size) (hbA : ¬ A b) (hi : i + 3 < L) (hL : L ≤ 2048) (hw : LWx σ I X o so om out dout ta ar tg ad C n t1 t2 t3) (hc1 : cells + 60 ≤ R.cells) (hs1 : slots + 5000 ≤ R.slots) (hR1 : 20 ≤ R.frames) (hR2 : 10000 ≤ R.locals)
    (K : ∀ (σ' : SH) (I' X' : IX), LW σ' I' X' o so om out dout ta ar → V p l e R s m args below meth c D cy A Q 9 (cells + 60) (slots + 5000) σ' I' X' 2493 [(0, .ref b), (1, .ref o), (2, .ref om), (3, .ref out), (4, .ref dout), (5, .int (nI i))] []) : V p l e R s m args below meth c D cy A Q 9 cells slots σ I X 1363 [(0, .ref b), (1, .ref o), (2, .ref om), (3, .ref out), (4, .ref dout), (5, .int (nI i))] [] := by
  have hms := hw.ms
  refine V.eqI hw.eI ?_
  refine V.eqX hw.eX ?_
  refine V.aload_n hF dL_law_1363 rfl ?_
  refine V.aload_n hF dL_law_1364 rfl ?_
  refine V.iload hF dL_law_1365 rfl ?_
  refine V.iconst (v := nI 1) hF dL_law_1367 (by decide) ?_
  refine V.iadd hF dL_law_1368 ?_
  refine V.sld (j := i + 1) hF hXs hbl hbA (by simp only [nI_add]) (by omega) hL dL_law_1369 ?_
  refine V.aload_n hF dL_law_1370 rfl ?_
  refine V.iload hF dL_law_1371 rfl ?_
  refine V.iconst (v := nI 2) hF dL_law_1373 (by decide) ?_
  refine V.iadd hF dL_law_1374 ?_
  refine V.sld (j := i + 2) hF hXs hbl hbA (by simp only [nI_add]) (by omega) hL dL_law_1375 ?_
  refine V.aload_n hF dL_law_1376 rfl ?_
  refine V.callSW hF dL_law_1377 (ct_L_position hst σ I X o ad hw.fs hw.gb.1 C (X (ar 1)) hw.rg out hw.1.2.2.2.2.1.1 hw.1.2.2.2.2.1.2.1 hw.1.2.2.2.2.1.2.2 (xs (i + 1)) (xs (i + 2))) lw_L_position hnc ⟨by omega, by omega, by omega, by omega⟩ (Nat.le_of_ble_eq_true rfl) (fun r s2 I2 X2 hx => ?_) rfl
  obtain ⟨e0, C2, g, hR2, e1, e2, e3, hg⟩ := hx
  rw [e0, e1, e2, e3]
  refine V.istore hF dL_law_1380 (by decide) ?_
  refine V.aload_n hF dL_law_1382 rfl ?_
  refine V.aload_n hF dL_law_1383 rfl ?_
  refine V.iload hF dL_law_1384 rfl ?_
  refine V.iconst (v := nI 1) hF dL_law_1386 (by decide) ?_
  refine V.iadd hF dL_law_1387 ?_
  refine V.sld (j := i + 1) hF hXs hbl hbA (by simp only [nI_add]) (by omega) hL dL_law_1388 ?_
  refine V.aload_n hF dL_law_1389 rfl ?_
  refine V.iload hF dL_law_1390 rfl ?_
  refine V.iconst (v := nI 2) hF dL_law_1392 (by decide) ?_
  refine V.iadd hF dL_law_1393 ?_
  refine V.sld (j := i + 2) hF hXs hbl hbA (by simp only [nI_add]) (by omega) hL dL_law_1394 ?_
  refine V.vI hF dL_law_1395 (ct_X5_position hst (shSetJ σ out g) _ _ om ar hms _ (hw.pm C2) _ (hw.pa C2 (by decide)) hw.rg.1.wv (xs (i + 1)) (xs (i + 2))) lk_L_219 sl_X5_position hms.1.1 hms.1.2 rfl (Nat.le_of_ble_eq_true rfl) ⟨by omega, by omega, by omega, by omega⟩ (Nat.le_of_ble_eq_true rfl) rfl ?_
  refine V.istore hF dL_law_1398 (by decide) ?_
  refine V.aload_n hF dL_law_1400 rfl ?_
  refine V.vI hF dL_law_1401 (ct_X5_thrown hst (shSetJ σ out g) _ _ om ar hms _ (va_up_self _ _ _)) lk_L_145 sl_X5_thrown hms.1.1 hms.1.2 rfl (Nat.le_of_ble_eq_true rfl) ⟨by omega, by omega, by omega, by omega⟩ (Nat.le_of_ble_eq_true rfl) rfl ?_
  refine V.topi (th_0 _ _) ?_
  refine V.iload hF dL_law_1404 rfl ?_
  refine V.icmp_eq (tgt := 1411) hF dL_law_1406 (by decide) (fun _ => ?_) (fun hq => absurd rfl hq)
  refine V.iload hF dL_law_1411 rfl ?_
  refine V.if_ne (tgt := 1428) hF dL_law_1413 (by decide) (fun _ => ?_) (fun h0 => ?_)
  · refine V.goto (tgt := 2493) hF dL_law_1428 (by decide) ?_
    refine V.relv [0, 1, 2, 3, 4, 5] rfl ?_
    refine V.widen (k := cells + 60) (n := slots + 5000) (by omega) (by omega) ?_
    exact K _ _ _ (hw.std0 ⟨_, _, rfl⟩ _ hR2)
  · refine V.aload_n hF dL_law_1416 rfl ?_
    refine V.iconst (v := nI 0) hF dL_law_1417 (by decide) ?_
    refine V.laload (j := 0) hF dL_law_1418 hw.1.2.2.2.2.1.1 hw.1.2.2.2.2.1.2.1 rfl (by show 0 < shN σ out; rw [hw.1.2.2.2.2.1.2.2]; omega) (by show shN σ out < _; rw [hw.1.2.2.2.2.1.2.2]; omega) ?_
    refine V.topl ((congrFun (va_up_self (shJ σ) out g) 0).trans (hg h0)) ?_
    refine V.iload hF dL_law_1419 rfl ?_
    refine V.i2l hF dL_law_1421 ?_
    refine V.lcmp hF dL_law_1422 ?_
    refine V.if_eq (tgt := 1428) hF dL_law_1423 (by decide) (fun _ => ?_) (fun hq => absurd (lg_self _) hq)
    refine V.goto (tgt := 2493) hF dL_law_1428 (by decide) ?_
    refine V.relv [0, 1, 2, 3, 4, 5] rfl ?_
    refine V.widen (k := cells + 60) (n := slots + 5000) (by omega) (by omega) ?_
    exact K _ _ _ (hw.std0 ⟨_, _, rfl⟩ _ hR2)
set_option maxRecDepth 20000 in
theorem lcase_state (hF : Fx p l s m args meth c D cy sa sv A 9 RL cL_law (some .boolean)) (hst : l.stackTraces = false) (hnc : NC s) (hXs : va_X b L xs s s.heap) (hbl : b < s.heap.size) (hbA : ¬ A b) (hi : i + 3 < L) (hL : L ≤ 2048) (hw : LWx σ I X o so om out dout ta ar tg ad C n t1 t2 t3) (hc1 : cells + 60 ≤ R.cells) (hs1 : slots + 5000 ≤ R.slots) (hR1 : 20 ≤ R.frames) (hR2 : 10000 ≤ R.locals)
    (K : ∀ (σ' : SH) (I' X' : IX), LW σ' I' X' o so om out dout ta ar → V p l e R s m args below meth c D cy A Q 9 (cells + 60) (slots + 5000) σ' I' X' 2493 [(0, .ref b), (1, .ref o), (2, .ref om), (3, .ref out), (4, .ref dout), (5, .int (nI i))] []) : V p l e R s m args below meth c D cy A Q 9 cells slots σ I X 1431 [(0, .ref b), (1, .ref o), (2, .ref om), (3, .ref out), (4, .ref dout), (5, .int (nI i))] [] := by
  have hms := hw.ms
  refine V.eqI hw.eI ?_
  refine V.eqX hw.eX ?_
  refine V.aload_n hF dL_law_1431 rfl ?_
  refine V.aload_n hF dL_law_1432 rfl ?_
  refine V.iload hF dL_law_1433 rfl ?_
  refine V.iconst (v := nI 1) hF dL_law_1435 (by decide) ?_
  refine V.iadd hF dL_law_1436 ?_
  refine V.sld (j := i + 1) hF hXs hbl hbA (by simp only [nI_add]) (by omega) hL dL_law_1437 ?_
  refine V.aload_n hF dL_law_1438 rfl ?_
  refine V.callSW hF dL_law_1439 (ct_L_state hst σ I X o ad hw.fs hw.gb.1 C (X (ar 1)) hw.rg out hw.1.2.2.2.2.1.1 hw.1.2.2.2.2.1.2.1 hw.1.2.2.2.2.1.2.2 (xs (i + 1))) lw_L_state hnc ⟨by omega, by omega, by omega, by omega⟩ (Nat.le_of_ble_eq_true rfl) (fun r s2 I2 X2 hx => ?_) rfl
  obtain ⟨e0, C2, g, hR2, e1, e2, e3, hg⟩ := hx
  rw [e0, e1, e2, e3]
  refine V.istore hF dL_law_1442 (by decide) ?_
  refine V.aload_n hF dL_law_1444 rfl ?_
  refine V.aload_n hF dL_law_1445 rfl ?_
  refine V.iload hF dL_law_1446 rfl ?_
  refine V.iconst (v := nI 1) hF dL_law_1448 (by decide) ?_
  refine V.iadd hF dL_law_1449 ?_
  refine V.sld (j := i + 1) hF hXs hbl hbA (by simp only [nI_add]) (by omega) hL dL_law_1450 ?_
  refine V.vI hF dL_law_1451 (ct_X5_state hst (shSetJ σ out g) _ _ om ar hms _ (hw.pm C2) _ (hw.pa C2 (by decide)) hw.rg.1.wv (xs (i + 1))) lk_L_222 sl_X5_state hms.1.1 hms.1.2 rfl (Nat.le_of_ble_eq_true rfl) ⟨by omega, by omega, by omega, by omega⟩ (Nat.le_of_ble_eq_true rfl) rfl ?_
  refine V.istore hF dL_law_1454 (by decide) ?_
  refine V.aload_n hF dL_law_1456 rfl ?_
  refine V.vI hF dL_law_1457 (ct_X5_thrown hst (shSetJ σ out g) _ _ om ar hms _ (va_up_self _ _ _)) lk_L_145 sl_X5_thrown hms.1.1 hms.1.2 rfl (Nat.le_of_ble_eq_true rfl) ⟨by omega, by omega, by omega, by omega⟩ (Nat.le_of_ble_eq_true rfl) rfl ?_
  refine V.topi (th_0 _ _) ?_
  refine V.iload hF dL_law_1460 rfl ?_
  refine V.icmp_eq (tgt := 1467) hF dL_law_1462 (by decide) (fun _ => ?_) (fun hq => absurd rfl hq)
  refine V.iload hF dL_law_1467 rfl ?_
  refine V.if_ne (tgt := 1484) hF dL_law_1469 (by decide) (fun _ => ?_) (fun h0 => ?_)
  · refine V.goto (tgt := 2493) hF dL_law_1484 (by decide) ?_
    refine V.relv [0, 1, 2, 3, 4, 5] rfl ?_
    refine V.widen (k := cells + 60) (n := slots + 5000) (by omega) (by omega) ?_
    exact K _ _ _ (hw.std0 ⟨_, _, rfl⟩ _ hR2)
  · refine V.aload_n hF dL_law_1472 rfl ?_
    refine V.iconst (v := nI 0) hF dL_law_1473 (by decide) ?_
    refine V.laload (j := 0) hF dL_law_1474 hw.1.2.2.2.2.1.1 hw.1.2.2.2.2.1.2.1 rfl (by show 0 < shN σ out; rw [hw.1.2.2.2.2.1.2.2]; omega) (by show shN σ out < _; rw [hw.1.2.2.2.2.1.2.2]; omega) ?_
    refine V.topl ((congrFun (va_up_self (shJ σ) out g) 0).trans (hg h0)) ?_
    refine V.iload hF dL_law_1475 rfl ?_
    refine V.i2l hF dL_law_1477 ?_
    refine V.lcmp hF dL_law_1478 ?_
    refine V.if_eq (tgt := 1484) hF dL_law_1479 (by decide) (fun _ => ?_) (fun hq => absurd (lg_self _) hq)
    refine V.goto (tgt := 2493) hF dL_law_1484 (by decide) ?_
    refine V.relv [0, 1, 2, 3, 4, 5] rfl ?_
    refine V.widen (k := cells + 60) (n := slots + 5000) (by omega) (by omega) ?_
    exact K _ _ _ (hw.std0 ⟨_, _, rfl⟩ _ hR2)
set_option maxRecDepth 20000 in
theorem lcase_clock (hF : Fx p l s m args meth c D cy sa sv A 9 RL cL_law (some .boolean)) (hst : l.stackTraces = false) (hnc : NC s) (hXs : va_X b L xs s s.heap) (hbl : b < s.heap.size) (hbA : ¬ A b) (hi : i + 3 < L) (hL : L ≤ 2048) (hw : LWx σ I X o so om out dout ta ar tg ad C n t1 t2 t3) (hc1 : cells + 60 ≤ R.cells) (hs1 : slots + 5000 ≤ R.slots) (hR1 : 20 ≤ R.frames) (hR2 : 10000 ≤ R.locals)
    (K : ∀ (σ' : SH) (I' X' : IX), LW σ' I' X' o so om out dout ta ar → V p l e R s m args below meth c D cy A Q 9 (cells + 60) (slots + 5000) σ' I' X' 2493 [(0, .ref b), (1, .ref o), (2, .ref om), (3, .ref out), (4, .ref dout), (5, .int (nI i))] []) : V p l e R s m args below meth c D cy A Q 9 cells slots σ I X 1487 [(0, .ref b), (1, .ref o), (2, .ref om), (3, .ref out), (4, .ref dout), (5, .int (nI i))] [] := by
  have hms := hw.ms
  refine V.eqI hw.eI ?_
  refine V.eqX hw.eX ?_
  refine V.aload_n hF dL_law_1487 rfl ?_
  refine V.aload_n hF dL_law_1488 rfl ?_
  refine V.iload hF dL_law_1489 rfl ?_
  refine V.iconst (v := nI 1) hF dL_law_1491 (by decide) ?_
  refine V.iadd hF dL_law_1492 ?_
  refine V.sld (j := i + 1) hF hXs hbl hbA (by simp only [nI_add]) (by omega) hL dL_law_1493 ?_
  refine V.aload_n hF dL_law_1494 rfl ?_
  refine V.iload hF dL_law_1495 rfl ?_
  refine V.iconst (v := nI 2) hF dL_law_1497 (by decide) ?_
  refine V.iadd hF dL_law_1498 ?_
  refine V.sld (j := i + 2) hF hXs hbl hbA (by simp only [nI_add]) (by omega) hL dL_law_1499 ?_
  refine V.aload_n hF dL_law_1500 rfl ?_
  refine V.callSW hF dL_law_1501 (ct_L_clock hst σ I X o ad hw.fs hw.gb.1 C (X (ar 1)) hw.rg out hw.1.2.2.2.2.1.1 hw.1.2.2.2.2.1.2.1 hw.1.2.2.2.2.1.2.2 (xs (i + 1)) (xs (i + 2))) lw_L_clock hnc ⟨by omega, by omega, by omega, by omega⟩ (Nat.le_of_ble_eq_true rfl) (fun r s2 I2 X2 hx => ?_) rfl
  obtain ⟨e0, C2, g, hR2, e1, e2, e3, hg⟩ := hx
  rw [e0, e1, e2, e3]
  refine V.istore hF dL_law_1504 (by decide) ?_
  refine V.aload_n hF dL_law_1506 rfl ?_
  refine V.aload_n hF dL_law_1507 rfl ?_
  refine V.iload hF dL_law_1508 rfl ?_
  refine V.iconst (v := nI 1) hF dL_law_1510 (by decide) ?_
  refine V.iadd hF dL_law_1511 ?_
  refine V.sld (j := i + 1) hF hXs hbl hbA (by simp only [nI_add]) (by omega) hL dL_law_1512 ?_
  refine V.aload_n hF dL_law_1513 rfl ?_
  refine V.iload hF dL_law_1514 rfl ?_
  refine V.iconst (v := nI 2) hF dL_law_1516 (by decide) ?_
  refine V.iadd hF dL_law_1517 ?_
  refine V.sld (j := i + 2) hF hXs hbl hbA (by simp only [nI_add]) (by omega) hL dL_law_1518 ?_
  refine V.vI hF dL_law_1519 (ct_X5_clock hst (shSetJ σ out g) _ _ om ar hms _ (hw.pm C2) _ (hw.pa C2 (by decide)) hw.rg.1.wv (xs (i + 1)) (xs (i + 2))) lk_L_225 sl_X5_clock hms.1.1 hms.1.2 rfl (Nat.le_of_ble_eq_true rfl) ⟨by omega, by omega, by omega, by omega⟩ (Nat.le_of_ble_eq_true rfl) rfl ?_
  refine V.istore hF dL_law_1522 (by decide) ?_
  refine V.aload_n hF dL_law_1524 rfl ?_
  refine V.vI hF dL_law_1525 (ct_X5_thrown hst (shSetJ σ out g) _ _ om ar hms _ (va_up_self _ _ _)) lk_L_145 sl_X5_thrown hms.1.1 hms.1.2 rfl (Nat.le_of_ble_eq_true rfl) ⟨by omega, by omega, by omega, by omega⟩ (Nat.le_of_ble_eq_true rfl) rfl ?_
  refine V.topi (th_0 _ _) ?_
  refine V.iload hF dL_law_1528 rfl ?_
  refine V.icmp_eq (tgt := 1535) hF dL_law_1530 (by decide) (fun _ => ?_) (fun hq => absurd rfl hq)
  refine V.iload hF dL_law_1535 rfl ?_
  refine V.if_ne (tgt := 1552) hF dL_law_1537 (by decide) (fun _ => ?_) (fun h0 => ?_)
  · refine V.goto (tgt := 2493) hF dL_law_1552 (by decide) ?_
    refine V.relv [0, 1, 2, 3, 4, 5] rfl ?_
    refine V.widen (k := cells + 60) (n := slots + 5000) (by omega) (by omega) ?_
    exact K _ _ _ (hw.std0 ⟨_, _, rfl⟩ _ hR2)
  · refine V.aload_n hF dL_law_1540 rfl ?_
    refine V.iconst (v := nI 0) hF dL_law_1541 (by decide) ?_
    refine V.laload (j := 0) hF dL_law_1542 hw.1.2.2.2.2.1.1 hw.1.2.2.2.2.1.2.1 rfl (by show 0 < shN σ out; rw [hw.1.2.2.2.2.1.2.2]; omega) (by show shN σ out < _; rw [hw.1.2.2.2.2.1.2.2]; omega) ?_
    refine V.topl ((congrFun (va_up_self (shJ σ) out g) 0).trans (hg h0)) ?_
    refine V.iload hF dL_law_1543 rfl ?_
    refine V.i2l hF dL_law_1545 ?_
    refine V.lcmp hF dL_law_1546 ?_
    refine V.if_eq (tgt := 1552) hF dL_law_1547 (by decide) (fun _ => ?_) (fun hq => absurd (lg_self _) hq)
    refine V.goto (tgt := 2493) hF dL_law_1552 (by decide) ?_
    refine V.relv [0, 1, 2, 3, 4, 5] rfl ?_
    refine V.widen (k := cells + 60) (n := slots + 5000) (by omega) (by omega) ?_
    exact K _ _ _ (hw.std0 ⟨_, _, rfl⟩ _ hR2)
set_option maxRecDepth 20000 in
theorem lcase_buffered (hF : Fx p l s m args meth c D cy sa sv A 9 RL cL_law (some .boolean)) (hst : l.stackTraces = false) (hnc : NC s) (hXs : va_X b L xs s s.heap) (hbl : b < s.heap.size) (hbA : ¬ A b) (hi : i + 3 < L) (hL : L ≤ 2048) (hw : LWx σ I X o so om out dout ta ar tg ad C n t1 t2 t3) (hc1 : cells + 60 ≤ R.cells) (hs1 : slots + 5000 ≤ R.slots) (hR1 : 20 ≤ R.frames) (hR2 : 10000 ≤ R.locals)
    (K : ∀ (σ' : SH) (I' X' : IX), LW σ' I' X' o so om out dout ta ar → V p l e R s m args below meth c D cy A Q 9 (cells + 60) (slots + 5000) σ' I' X' 2493 [(0, .ref b), (1, .ref o), (2, .ref om), (3, .ref out), (4, .ref dout), (5, .int (nI i))] []) : V p l e R s m args below meth c D cy A Q 9 cells slots σ I X 1555 [(0, .ref b), (1, .ref o), (2, .ref om), (3, .ref out), (4, .ref dout), (5, .int (nI i))] [] := by
  have hms := hw.ms
  refine V.eqI hw.eI ?_
  refine V.eqX hw.eX ?_
  refine V.aload_n hF dL_law_1555 rfl ?_
  refine V.aload_n hF dL_law_1556 rfl ?_
  refine V.iload hF dL_law_1557 rfl ?_
  refine V.iconst (v := nI 1) hF dL_law_1559 (by decide) ?_
  refine V.iadd hF dL_law_1560 ?_
  refine V.sld (j := i + 1) hF hXs hbl hbA (by simp only [nI_add]) (by omega) hL dL_law_1561 ?_
  refine V.aload_n hF dL_law_1562 rfl ?_
  refine V.callSW hF dL_law_1563 (ct_L_buffered hst σ I X o ad hw.fs hw.gb.1 C (X (ar 1)) hw.rg out hw.1.2.2.2.2.1.1 hw.1.2.2.2.2.1.2.1 hw.1.2.2.2.2.1.2.2 (xs (i + 1))) lw_L_buffered hnc ⟨by omega, by omega, by omega, by omega⟩ (Nat.le_of_ble_eq_true rfl) (fun r s2 I2 X2 hx => ?_) rfl
  obtain ⟨e0, C2, g, hR2, e1, e2, e3, hg⟩ := hx
  rw [e0, e1, e2, e3]
  refine V.istore hF dL_law_1566 (by decide) ?_
  refine V.aload_n hF dL_law_1568 rfl ?_
  refine V.aload_n hF dL_law_1569 rfl ?_
  refine V.iload hF dL_law_1570 rfl ?_
  refine V.iconst (v := nI 1) hF dL_law_1572 (by decide) ?_
  refine V.iadd hF dL_law_1573 ?_
  refine V.sld (j := i + 1) hF hXs hbl hbA (by simp only [nI_add]) (by omega) hL dL_law_1574 ?_
  refine V.vI hF dL_law_1575 (ct_X5_buffered hst (shSetJ σ out g) _ _ om ar hms _ (hw.pm C2) _ (hw.pa C2 (by decide)) hw.rg.1.wv (xs (i + 1))) lk_L_228 sl_X5_buffered hms.1.1 hms.1.2 rfl (Nat.le_of_ble_eq_true rfl) ⟨by omega, by omega, by omega, by omega⟩ (Nat.le_of_ble_eq_true rfl) rfl ?_
  refine V.istore hF dL_law_1578 (by decide) ?_
  refine V.aload_n hF dL_law_1580 rfl ?_
  refine V.vI hF dL_law_1581 (ct_X5_thrown hst (shSetJ σ out g) _ _ om ar hms _ (va_up_self _ _ _)) lk_L_145 sl_X5_thrown hms.1.1 hms.1.2 rfl (Nat.le_of_ble_eq_true rfl) ⟨by omega, by omega, by omega, by omega⟩ (Nat.le_of_ble_eq_true rfl) rfl ?_
  refine V.topi (th_0 _ _) ?_
  refine V.iload hF dL_law_1584 rfl ?_
  refine V.icmp_eq (tgt := 1591) hF dL_law_1586 (by decide) (fun _ => ?_) (fun hq => absurd rfl hq)
  refine V.iload hF dL_law_1591 rfl ?_
  refine V.if_ne (tgt := 1608) hF dL_law_1593 (by decide) (fun _ => ?_) (fun h0 => ?_)
  · refine V.goto (tgt := 2493) hF dL_law_1608 (by decide) ?_
    refine V.relv [0, 1, 2, 3, 4, 5] rfl ?_
    refine V.widen (k := cells + 60) (n := slots + 5000) (by omega) (by omega) ?_
    exact K _ _ _ (hw.std0 ⟨_, _, rfl⟩ _ hR2)
  · refine V.aload_n hF dL_law_1596 rfl ?_
    refine V.iconst (v := nI 0) hF dL_law_1597 (by decide) ?_
    refine V.laload (j := 0) hF dL_law_1598 hw.1.2.2.2.2.1.1 hw.1.2.2.2.2.1.2.1 rfl (by show 0 < shN σ out; rw [hw.1.2.2.2.2.1.2.2]; omega) (by show shN σ out < _; rw [hw.1.2.2.2.2.1.2.2]; omega) ?_
    refine V.topl ((congrFun (va_up_self (shJ σ) out g) 0).trans (hg h0)) ?_
    refine V.iload hF dL_law_1599 rfl ?_
    refine V.i2l hF dL_law_1601 ?_
    refine V.lcmp hF dL_law_1602 ?_
    refine V.if_eq (tgt := 1608) hF dL_law_1603 (by decide) (fun _ => ?_) (fun hq => absurd (lg_self _) hq)
    refine V.goto (tgt := 2493) hF dL_law_1608 (by decide) ?_
    refine V.relv [0, 1, 2, 3, 4, 5] rfl ?_
    refine V.widen (k := cells + 60) (n := slots + 5000) (by omega) (by omega) ?_
    exact K _ _ _ (hw.std0 ⟨_, _, rfl⟩ _ hR2)
set_option maxRecDepth 20000 in
theorem lcase_bufferedMessage (hF : Fx p l s m args meth c D cy sa sv A 9 RL cL_law (some .boolean)) (hst : l.stackTraces = false) (hnc : NC s) (hXs : va_X b L xs s s.heap) (hbl : b < s.heap.size) (hbA : ¬ A b) (hi : i + 3 < L) (hL : L ≤ 2048) (hw : LWx σ I X o so om out dout ta ar tg ad C n t1 t2 t3) (hc1 : cells + 60 ≤ R.cells) (hs1 : slots + 5000 ≤ R.slots) (hR1 : 20 ≤ R.frames) (hR2 : 10000 ≤ R.locals)
    (K : ∀ (σ' : SH) (I' X' : IX), LW σ' I' X' o so om out dout ta ar → V p l e R s m args below meth c D cy A Q 9 (cells + 60) (slots + 5000) σ' I' X' 2493 [(0, .ref b), (1, .ref o), (2, .ref om), (3, .ref out), (4, .ref dout), (5, .int (nI i))] []) : V p l e R s m args below meth c D cy A Q 9 cells slots σ I X 1611 [(0, .ref b), (1, .ref o), (2, .ref om), (3, .ref out), (4, .ref dout), (5, .int (nI i))] [] := by
  have hms := hw.ms
  refine V.eqI hw.eI ?_
  refine V.eqX hw.eX ?_
  refine V.aload_n hF dL_law_1611 rfl ?_
  refine V.aload_n hF dL_law_1612 rfl ?_
  refine V.iload hF dL_law_1613 rfl ?_
  refine V.iconst (v := nI 1) hF dL_law_1615 (by decide) ?_
  refine V.iadd hF dL_law_1616 ?_
  refine V.sld (j := i + 1) hF hXs hbl hbA (by simp only [nI_add]) (by omega) hL dL_law_1617 ?_
  refine V.aload_n hF dL_law_1618 rfl ?_
  refine V.iload hF dL_law_1619 rfl ?_
  refine V.iconst (v := nI 2) hF dL_law_1621 (by decide) ?_
  refine V.iadd hF dL_law_1622 ?_
  refine V.sld (j := i + 2) hF hXs hbl hbA (by simp only [nI_add]) (by omega) hL dL_law_1623 ?_
  refine V.aload_n hF dL_law_1624 rfl ?_
  refine V.callSW hF dL_law_1625 (ct_L_bufferedMessage hst σ I X o ad hw.fs hw.gb.1 C (X (ar 1)) hw.rg out hw.1.2.2.2.2.1.1 hw.1.2.2.2.2.1.2.1 hw.1.2.2.2.2.1.2.2 (xs (i + 1)) (xs (i + 2))) lw_L_bufferedMessage hnc ⟨by omega, by omega, by omega, by omega⟩ (Nat.le_of_ble_eq_true rfl) (fun r s2 I2 X2 hx => ?_) rfl
  obtain ⟨e0, C2, g, hR2, e1, e2, e3, hg⟩ := hx
  rw [e0, e1, e2, e3]
  refine V.istore hF dL_law_1628 (by decide) ?_
  refine V.aload_n hF dL_law_1630 rfl ?_
  refine V.aload_n hF dL_law_1631 rfl ?_
  refine V.iload hF dL_law_1632 rfl ?_
  refine V.iconst (v := nI 1) hF dL_law_1634 (by decide) ?_
  refine V.iadd hF dL_law_1635 ?_
  refine V.sld (j := i + 1) hF hXs hbl hbA (by simp only [nI_add]) (by omega) hL dL_law_1636 ?_
  refine V.aload_n hF dL_law_1637 rfl ?_
  refine V.iload hF dL_law_1638 rfl ?_
  refine V.iconst (v := nI 2) hF dL_law_1640 (by decide) ?_
  refine V.iadd hF dL_law_1641 ?_
  refine V.sld (j := i + 2) hF hXs hbl hbA (by simp only [nI_add]) (by omega) hL dL_law_1642 ?_
  refine V.vI hF dL_law_1643 (ct_X5_bufferedMessage hst (shSetJ σ out g) _ _ om ar hms _ (hw.pm C2) _ (hw.pa C2 (by decide)) hw.rg.1.wv (xs (i + 1)) (xs (i + 2))) lk_L_231 sl_X5_bufferedMessage hms.1.1 hms.1.2 rfl (Nat.le_of_ble_eq_true rfl) ⟨by omega, by omega, by omega, by omega⟩ (Nat.le_of_ble_eq_true rfl) rfl ?_
  refine V.istore hF dL_law_1646 (by decide) ?_
  refine V.aload_n hF dL_law_1648 rfl ?_
  refine V.vI hF dL_law_1649 (ct_X5_thrown hst (shSetJ σ out g) _ _ om ar hms _ (va_up_self _ _ _)) lk_L_145 sl_X5_thrown hms.1.1 hms.1.2 rfl (Nat.le_of_ble_eq_true rfl) ⟨by omega, by omega, by omega, by omega⟩ (Nat.le_of_ble_eq_true rfl) rfl ?_
  refine V.topi (th_0 _ _) ?_
  refine V.iload hF dL_law_1652 rfl ?_
  refine V.icmp_eq (tgt := 1659) hF dL_law_1654 (by decide) (fun _ => ?_) (fun hq => absurd rfl hq)
  refine V.iload hF dL_law_1659 rfl ?_
  refine V.if_ne (tgt := 1676) hF dL_law_1661 (by decide) (fun _ => ?_) (fun h0 => ?_)
  · refine V.goto (tgt := 2493) hF dL_law_1676 (by decide) ?_
    refine V.relv [0, 1, 2, 3, 4, 5] rfl ?_
    refine V.widen (k := cells + 60) (n := slots + 5000) (by omega) (by omega) ?_
    exact K _ _ _ (hw.std0 ⟨_, _, rfl⟩ _ hR2)
  · refine V.aload_n hF dL_law_1664 rfl ?_
    refine V.iconst (v := nI 0) hF dL_law_1665 (by decide) ?_
    refine V.laload (j := 0) hF dL_law_1666 hw.1.2.2.2.2.1.1 hw.1.2.2.2.2.1.2.1 rfl (by show 0 < shN σ out; rw [hw.1.2.2.2.2.1.2.2]; omega) (by show shN σ out < _; rw [hw.1.2.2.2.2.1.2.2]; omega) ?_
    refine V.topl ((congrFun (va_up_self (shJ σ) out g) 0).trans (hg h0)) ?_
    refine V.iload hF dL_law_1667 rfl ?_
    refine V.i2l hF dL_law_1669 ?_
    refine V.lcmp hF dL_law_1670 ?_
    refine V.if_eq (tgt := 1676) hF dL_law_1671 (by decide) (fun _ => ?_) (fun hq => absurd (lg_self _) hq)
    refine V.goto (tgt := 2493) hF dL_law_1676 (by decide) ?_
    refine V.relv [0, 1, 2, 3, 4, 5] rfl ?_
    refine V.widen (k := cells + 60) (n := slots + 5000) (by omega) (by omega) ?_
    exact K _ _ _ (hw.std0 ⟨_, _, rfl⟩ _ hR2)
set_option maxRecDepth 20000 in
theorem lcase_missing (hF : Fx p l s m args meth c D cy sa sv A 9 RL cL_law (some .boolean)) (hst : l.stackTraces = false) (hnc : NC s) (hXs : va_X b L xs s s.heap) (hbl : b < s.heap.size) (hbA : ¬ A b) (hi : i + 3 < L) (hL : L ≤ 2048) (hw : LWx σ I X o so om out dout ta ar tg ad C n t1 t2 t3) (hc1 : cells + 60 ≤ R.cells) (hs1 : slots + 5000 ≤ R.slots) (hR1 : 20 ≤ R.frames) (hR2 : 10000 ≤ R.locals)
    (K : ∀ (σ' : SH) (I' X' : IX), LW σ' I' X' o so om out dout ta ar → V p l e R s m args below meth c D cy A Q 9 (cells + 60) (slots + 5000) σ' I' X' 2493 [(0, .ref b), (1, .ref o), (2, .ref om), (3, .ref out), (4, .ref dout), (5, .int (nI i))] []) : V p l e R s m args below meth c D cy A Q 9 cells slots σ I X 1679 [(0, .ref b), (1, .ref o), (2, .ref om), (3, .ref out), (4, .ref dout), (5, .int (nI i))] [] := by
  have hms := hw.ms
  refine V.eqI hw.eI ?_
  refine V.eqX hw.eX ?_
  refine V.aload_n hF dL_law_1679 rfl ?_
  refine V.aload_n hF dL_law_1680 rfl ?_
  refine V.iload hF dL_law_1681 rfl ?_
  refine V.iconst (v := nI 1) hF dL_law_1683 (by decide) ?_
  refine V.iadd hF dL_law_1684 ?_
  refine V.sld (j := i + 1) hF hXs hbl hbA (by simp only [nI_add]) (by omega) hL dL_law_1685 ?_
  refine V.aload_n hF dL_law_1686 rfl ?_
  refine V.iload hF dL_law_1687 rfl ?_
  refine V.iconst (v := nI 2) hF dL_law_1689 (by decide) ?_
  refine V.iadd hF dL_law_1690 ?_
  refine V.sld (j := i + 2) hF hXs hbl hbA (by simp only [nI_add]) (by omega) hL dL_law_1691 ?_
  refine V.aload_n hF dL_law_1692 rfl ?_
  refine V.callSW hF dL_law_1693 (ct_L_missing hst σ I X o ad hw.fs hw.gb.1 C (X (ar 1)) hw.rg out hw.1.2.2.2.2.1.1 hw.1.2.2.2.2.1.2.1 hw.1.2.2.2.2.1.2.2 (xs (i + 1)) (xs (i + 2))) lw_L_missing hnc ⟨by omega, by omega, by omega, by omega⟩ (Nat.le_of_ble_eq_true rfl) (fun r s2 I2 X2 hx => ?_) rfl
  obtain ⟨e0, C2, g, hR2, e1, e2, e3, hg⟩ := hx
  rw [e0, e1, e2, e3]
  refine V.istore hF dL_law_1696 (by decide) ?_
  refine V.aload_n hF dL_law_1698 rfl ?_
  refine V.aload_n hF dL_law_1699 rfl ?_
  refine V.iload hF dL_law_1700 rfl ?_
  refine V.iconst (v := nI 1) hF dL_law_1702 (by decide) ?_
  refine V.iadd hF dL_law_1703 ?_
  refine V.sld (j := i + 1) hF hXs hbl hbA (by simp only [nI_add]) (by omega) hL dL_law_1704 ?_
  refine V.aload_n hF dL_law_1705 rfl ?_
  refine V.iload hF dL_law_1706 rfl ?_
  refine V.iconst (v := nI 2) hF dL_law_1708 (by decide) ?_
  refine V.iadd hF dL_law_1709 ?_
  refine V.sld (j := i + 2) hF hXs hbl hbA (by simp only [nI_add]) (by omega) hL dL_law_1710 ?_
  refine V.vI hF dL_law_1711 (ct_X5_missing hst (shSetJ σ out g) _ _ om ar hms _ (hw.pm C2) _ (hw.pa C2 (by decide)) hw.rg.1.wv (xs (i + 1)) (xs (i + 2))) lk_L_234 sl_X5_missing hms.1.1 hms.1.2 rfl (Nat.le_of_ble_eq_true rfl) ⟨by omega, by omega, by omega, by omega⟩ (Nat.le_of_ble_eq_true rfl) rfl ?_
  refine V.istore hF dL_law_1714 (by decide) ?_
  refine V.aload_n hF dL_law_1716 rfl ?_
  refine V.vI hF dL_law_1717 (ct_X5_thrown hst (shSetJ σ out g) _ _ om ar hms _ (va_up_self _ _ _)) lk_L_145 sl_X5_thrown hms.1.1 hms.1.2 rfl (Nat.le_of_ble_eq_true rfl) ⟨by omega, by omega, by omega, by omega⟩ (Nat.le_of_ble_eq_true rfl) rfl ?_
  refine V.topi (th_0 _ _) ?_
  refine V.iload hF dL_law_1720 rfl ?_
  refine V.icmp_eq (tgt := 1727) hF dL_law_1722 (by decide) (fun _ => ?_) (fun hq => absurd rfl hq)
  refine V.iload hF dL_law_1727 rfl ?_
  refine V.if_ne (tgt := 1744) hF dL_law_1729 (by decide) (fun _ => ?_) (fun h0 => ?_)
  · refine V.goto (tgt := 2493) hF dL_law_1744 (by decide) ?_
    refine V.relv [0, 1, 2, 3, 4, 5] rfl ?_
    refine V.widen (k := cells + 60) (n := slots + 5000) (by omega) (by omega) ?_
    exact K _ _ _ (hw.std0 ⟨_, _, rfl⟩ _ hR2)
  · refine V.aload_n hF dL_law_1732 rfl ?_
    refine V.iconst (v := nI 0) hF dL_law_1733 (by decide) ?_
    refine V.laload (j := 0) hF dL_law_1734 hw.1.2.2.2.2.1.1 hw.1.2.2.2.2.1.2.1 rfl (by show 0 < shN σ out; rw [hw.1.2.2.2.2.1.2.2]; omega) (by show shN σ out < _; rw [hw.1.2.2.2.2.1.2.2]; omega) ?_
    refine V.topl ((congrFun (va_up_self (shJ σ) out g) 0).trans (hg h0)) ?_
    refine V.iload hF dL_law_1735 rfl ?_
    refine V.i2l hF dL_law_1737 ?_
    refine V.lcmp hF dL_law_1738 ?_
    refine V.if_eq (tgt := 1744) hF dL_law_1739 (by decide) (fun _ => ?_) (fun hq => absurd (lg_self _) hq)
    refine V.goto (tgt := 2493) hF dL_law_1744 (by decide) ?_
    refine V.relv [0, 1, 2, 3, 4, 5] rfl ?_
    refine V.widen (k := cells + 60) (n := slots + 5000) (by omega) (by omega) ?_
    exact K _ _ _ (hw.std0 ⟨_, _, rfl⟩ _ hR2)
set_option maxRecDepth 20000 in
theorem lcase_inTransit (hF : Fx p l s m args meth c D cy sa sv A 9 RL cL_law (some .boolean)) (hst : l.stackTraces = false) (hnc : NC s) (hXs : va_X b L xs s s.heap) (hbl : b < s.heap.size) (hbA : ¬ A b) (hi : i + 3 < L) (hL : L ≤ 2048) (hw : LWx σ I X o so om out dout ta ar tg ad C n t1 t2 t3) (hc1 : cells + 60 ≤ R.cells) (hs1 : slots + 5000 ≤ R.slots) (hR1 : 20 ≤ R.frames) (hR2 : 10000 ≤ R.locals)
    (K : ∀ (σ' : SH) (I' X' : IX), LW σ' I' X' o so om out dout ta ar → V p l e R s m args below meth c D cy A Q 9 (cells + 60) (slots + 5000) σ' I' X' 2493 [(0, .ref b), (1, .ref o), (2, .ref om), (3, .ref out), (4, .ref dout), (5, .int (nI i))] []) : V p l e R s m args below meth c D cy A Q 9 cells slots σ I X 1747 [(0, .ref b), (1, .ref o), (2, .ref om), (3, .ref out), (4, .ref dout), (5, .int (nI i))] [] := by
  have hms := hw.ms
  refine V.eqI hw.eI ?_
  refine V.eqX hw.eX ?_
  refine V.aload_n hF dL_law_1747 rfl ?_
  refine V.aload_n hF dL_law_1748 rfl ?_
  refine V.iload hF dL_law_1749 rfl ?_
  refine V.iconst (v := nI 1) hF dL_law_1751 (by decide) ?_
  refine V.iadd hF dL_law_1752 ?_
  refine V.sld (j := i + 1) hF hXs hbl hbA (by simp only [nI_add]) (by omega) hL dL_law_1753 ?_
  refine V.aload_n hF dL_law_1754 rfl ?_
  refine V.callSW hF dL_law_1755 (ct_L_inTransit hst σ I X o ad hw.fs hw.gb.1 C (X (ar 1)) hw.rg out hw.1.2.2.2.2.1.1 hw.1.2.2.2.2.1.2.1 hw.1.2.2.2.2.1.2.2 (xs (i + 1))) lw_L_inTransit hnc ⟨by omega, by omega, by omega, by omega⟩ (Nat.le_of_ble_eq_true rfl) (fun r s2 I2 X2 hx => ?_) rfl
  obtain ⟨e0, C2, g, hR2, e1, e2, e3, hg⟩ := hx
  rw [e0, e1, e2, e3]
  refine V.istore hF dL_law_1758 (by decide) ?_
  refine V.aload_n hF dL_law_1760 rfl ?_
  refine V.aload_n hF dL_law_1761 rfl ?_
  refine V.iload hF dL_law_1762 rfl ?_
  refine V.iconst (v := nI 1) hF dL_law_1764 (by decide) ?_
  refine V.iadd hF dL_law_1765 ?_
  refine V.sld (j := i + 1) hF hXs hbl hbA (by simp only [nI_add]) (by omega) hL dL_law_1766 ?_
  refine V.vI hF dL_law_1767 (ct_X5_inTransit hst (shSetJ σ out g) _ _ om ar hms _ (hw.pm C2) _ (hw.pa C2 (by decide)) hw.rg.1.wv (xs (i + 1))) lk_L_237 sl_X5_inTransit hms.1.1 hms.1.2 rfl (Nat.le_of_ble_eq_true rfl) ⟨by omega, by omega, by omega, by omega⟩ (Nat.le_of_ble_eq_true rfl) rfl ?_
  refine V.istore hF dL_law_1770 (by decide) ?_
  refine V.aload_n hF dL_law_1772 rfl ?_
  refine V.vI hF dL_law_1773 (ct_X5_thrown hst (shSetJ σ out g) _ _ om ar hms _ (va_up_self _ _ _)) lk_L_145 sl_X5_thrown hms.1.1 hms.1.2 rfl (Nat.le_of_ble_eq_true rfl) ⟨by omega, by omega, by omega, by omega⟩ (Nat.le_of_ble_eq_true rfl) rfl ?_
  refine V.topi (th_0 _ _) ?_
  refine V.iload hF dL_law_1776 rfl ?_
  refine V.icmp_eq (tgt := 1783) hF dL_law_1778 (by decide) (fun _ => ?_) (fun hq => absurd rfl hq)
  refine V.iload hF dL_law_1783 rfl ?_
  refine V.if_ne (tgt := 1800) hF dL_law_1785 (by decide) (fun _ => ?_) (fun h0 => ?_)
  · refine V.goto (tgt := 2493) hF dL_law_1800 (by decide) ?_
    refine V.relv [0, 1, 2, 3, 4, 5] rfl ?_
    refine V.widen (k := cells + 60) (n := slots + 5000) (by omega) (by omega) ?_
    exact K _ _ _ (hw.std0 ⟨_, _, rfl⟩ _ hR2)
  · refine V.aload_n hF dL_law_1788 rfl ?_
    refine V.iconst (v := nI 0) hF dL_law_1789 (by decide) ?_
    refine V.laload (j := 0) hF dL_law_1790 hw.1.2.2.2.2.1.1 hw.1.2.2.2.2.1.2.1 rfl (by show 0 < shN σ out; rw [hw.1.2.2.2.2.1.2.2]; omega) (by show shN σ out < _; rw [hw.1.2.2.2.2.1.2.2]; omega) ?_
    refine V.topl ((congrFun (va_up_self (shJ σ) out g) 0).trans (hg h0)) ?_
    refine V.iload hF dL_law_1791 rfl ?_
    refine V.i2l hF dL_law_1793 ?_
    refine V.lcmp hF dL_law_1794 ?_
    refine V.if_eq (tgt := 1800) hF dL_law_1795 (by decide) (fun _ => ?_) (fun hq => absurd (lg_self _) hq)
    refine V.goto (tgt := 2493) hF dL_law_1800 (by decide) ?_
    refine V.relv [0, 1, 2, 3, 4, 5] rfl ?_
    refine V.widen (k := cells + 60) (n := slots + 5000) (by omega) (by omega) ?_
    exact K _ _ _ (hw.std0 ⟨_, _, rfl⟩ _ hR2)
set_option maxRecDepth 20000 in
theorem lcase_disagreements (hF : Fx p l s m args meth c D cy sa sv A 9 RL cL_law (some .boolean)) (hst : l.stackTraces = false) (hnc : NC s) (hXs : va_X b L xs s s.heap) (hbl : b < s.heap.size) (hbA : ¬ A b) (hi : i + 3 < L) (hL : L ≤ 2048) (hw : LWx σ I X o so om out dout ta ar tg ad C n t1 t2 t3) (hc1 : cells + 60 ≤ R.cells) (hs1 : slots + 5000 ≤ R.slots) (hR1 : 20 ≤ R.frames) (hR2 : 10000 ≤ R.locals)
    (K : ∀ (σ' : SH) (I' X' : IX), LW σ' I' X' o so om out dout ta ar → V p l e R s m args below meth c D cy A Q 9 (cells + 60) (slots + 5000) σ' I' X' 2493 [(0, .ref b), (1, .ref o), (2, .ref om), (3, .ref out), (4, .ref dout), (5, .int (nI i))] []) : V p l e R s m args below meth c D cy A Q 9 cells slots σ I X 1803 [(0, .ref b), (1, .ref o), (2, .ref om), (3, .ref out), (4, .ref dout), (5, .int (nI i))] [] := by
  have hms := hw.ms
  refine V.eqI hw.eI ?_
  refine V.eqX hw.eX ?_
  refine V.aload_n hF dL_law_1803 rfl ?_
  refine V.aload_n hF dL_law_1804 rfl ?_
  refine V.iload hF dL_law_1805 rfl ?_
  refine V.iconst (v := nI 1) hF dL_law_1807 (by decide) ?_
  refine V.iadd hF dL_law_1808 ?_
  refine V.sld (j := i + 1) hF hXs hbl hbA (by simp only [nI_add]) (by omega) hL dL_law_1809 ?_
  refine V.aload_n hF dL_law_1810 rfl ?_
  refine V.iload hF dL_law_1811 rfl ?_
  refine V.iconst (v := nI 2) hF dL_law_1813 (by decide) ?_
  refine V.iadd hF dL_law_1814 ?_
  refine V.sld (j := i + 2) hF hXs hbl hbA (by simp only [nI_add]) (by omega) hL dL_law_1815 ?_
  refine V.aload_n hF dL_law_1816 rfl ?_
  refine V.callSW hF dL_law_1817 (ct_L_disagreements hst σ I X o ad hw.fs hw.gb.1 C (X (ar 1)) hw.rg out hw.1.2.2.2.2.1.1 hw.1.2.2.2.2.1.2.1 hw.1.2.2.2.2.1.2.2 (xs (i + 1)) (xs (i + 2))) lw_L_disagreements hnc ⟨by omega, by omega, by omega, by omega⟩ (Nat.le_of_ble_eq_true rfl) (fun r s2 I2 X2 hx => ?_) rfl
  obtain ⟨e0, C2, g, hR2, e1, e2, e3, hg⟩ := hx
  rw [e0, e1, e2, e3]
  refine V.istore hF dL_law_1820 (by decide) ?_
  refine V.aload_n hF dL_law_1822 rfl ?_
  refine V.aload_n hF dL_law_1823 rfl ?_
  refine V.iload hF dL_law_1824 rfl ?_
  refine V.iconst (v := nI 1) hF dL_law_1826 (by decide) ?_
  refine V.iadd hF dL_law_1827 ?_
  refine V.sld (j := i + 1) hF hXs hbl hbA (by simp only [nI_add]) (by omega) hL dL_law_1828 ?_
  refine V.aload_n hF dL_law_1829 rfl ?_
  refine V.iload hF dL_law_1830 rfl ?_
  refine V.iconst (v := nI 2) hF dL_law_1832 (by decide) ?_
  refine V.iadd hF dL_law_1833 ?_
  refine V.sld (j := i + 2) hF hXs hbl hbA (by simp only [nI_add]) (by omega) hL dL_law_1834 ?_
  refine V.vI hF dL_law_1835 (ct_X5_disagreements hst (shSetJ σ out g) _ _ om ar hms _ (hw.pm C2) _ (hw.pa C2 (by decide)) hw.rg.1.wv (xs (i + 1)) (xs (i + 2))) lk_L_240 sl_X5_disagreements hms.1.1 hms.1.2 rfl (Nat.le_of_ble_eq_true rfl) ⟨by omega, by omega, by omega, by omega⟩ (Nat.le_of_ble_eq_true rfl) rfl ?_
  refine V.istore hF dL_law_1838 (by decide) ?_
  refine V.aload_n hF dL_law_1840 rfl ?_
  refine V.vI hF dL_law_1841 (ct_X5_thrown hst (shSetJ σ out g) _ _ om ar hms _ (va_up_self _ _ _)) lk_L_145 sl_X5_thrown hms.1.1 hms.1.2 rfl (Nat.le_of_ble_eq_true rfl) ⟨by omega, by omega, by omega, by omega⟩ (Nat.le_of_ble_eq_true rfl) rfl ?_
  refine V.topi (th_0 _ _) ?_
  refine V.iload hF dL_law_1844 rfl ?_
  refine V.icmp_eq (tgt := 1851) hF dL_law_1846 (by decide) (fun _ => ?_) (fun hq => absurd rfl hq)
  refine V.iload hF dL_law_1851 rfl ?_
  refine V.if_ne (tgt := 1868) hF dL_law_1853 (by decide) (fun _ => ?_) (fun h0 => ?_)
  · refine V.goto (tgt := 2493) hF dL_law_1868 (by decide) ?_
    refine V.relv [0, 1, 2, 3, 4, 5] rfl ?_
    refine V.widen (k := cells + 60) (n := slots + 5000) (by omega) (by omega) ?_
    exact K _ _ _ (hw.std0 ⟨_, _, rfl⟩ _ hR2)
  · refine V.aload_n hF dL_law_1856 rfl ?_
    refine V.iconst (v := nI 0) hF dL_law_1857 (by decide) ?_
    refine V.laload (j := 0) hF dL_law_1858 hw.1.2.2.2.2.1.1 hw.1.2.2.2.2.1.2.1 rfl (by show 0 < shN σ out; rw [hw.1.2.2.2.2.1.2.2]; omega) (by show shN σ out < _; rw [hw.1.2.2.2.2.1.2.2]; omega) ?_
    refine V.topl ((congrFun (va_up_self (shJ σ) out g) 0).trans (hg h0)) ?_
    refine V.iload hF dL_law_1859 rfl ?_
    refine V.i2l hF dL_law_1861 ?_
    refine V.lcmp hF dL_law_1862 ?_
    refine V.if_eq (tgt := 1868) hF dL_law_1863 (by decide) (fun _ => ?_) (fun hq => absurd (lg_self _) hq)
    refine V.goto (tgt := 2493) hF dL_law_1868 (by decide) ?_
    refine V.relv [0, 1, 2, 3, 4, 5] rfl ?_
    refine V.widen (k := cells + 60) (n := slots + 5000) (by omega) (by omega) ?_
    exact K _ _ _ (hw.std0 ⟨_, _, rfl⟩ _ hR2)
set_option maxRecDepth 20000 in
theorem lcase_known (hF : Fx p l s m args meth c D cy sa sv A 9 RL cL_law (some .boolean)) (hst : l.stackTraces = false) (hnc : NC s) (hXs : va_X b L xs s s.heap) (hbl : b < s.heap.size) (hbA : ¬ A b) (hi : i + 3 < L) (hL : L ≤ 2048) (hw : LWx σ I X o so om out dout ta ar tg ad C n t1 t2 t3) (hc1 : cells + 60 ≤ R.cells) (hs1 : slots + 5000 ≤ R.slots) (hR1 : 20 ≤ R.frames) (hR2 : 10000 ≤ R.locals)
    (K : ∀ (σ' : SH) (I' X' : IX), LW σ' I' X' o so om out dout ta ar → V p l e R s m args below meth c D cy A Q 9 (cells + 60) (slots + 5000) σ' I' X' 2493 [(0, .ref b), (1, .ref o), (2, .ref om), (3, .ref out), (4, .ref dout), (5, .int (nI i))] []) : V p l e R s m args below meth c D cy A Q 9 cells slots σ I X 1960 [(0, .ref b), (1, .ref o), (2, .ref om), (3, .ref out), (4, .ref dout), (5, .int (nI i))] [] := by
  have hms := hw.ms
  refine V.eqI hw.eI ?_
  refine V.eqX hw.eX ?_
  refine V.aload_n hF dL_law_1960 rfl ?_
  refine V.aload_n hF dL_law_1961 rfl ?_
  refine V.iload hF dL_law_1962 rfl ?_
  refine V.iconst (v := nI 1) hF dL_law_1964 (by decide) ?_
  refine V.iadd hF dL_law_1965 ?_
  refine V.sld (j := i + 1) hF hXs hbl hbA (by simp only [nI_add]) (by omega) hL dL_law_1966 ?_
  refine V.aload_n hF dL_law_1967 rfl ?_
  refine V.iload hF dL_law_1968 rfl ?_
  refine V.iconst (v := nI 2) hF dL_law_1970 (by decide) ?_
  refine V.iadd hF dL_law_1971 ?_
  refine V.sld (j := i + 2) hF hXs hbl hbA (by simp only [nI_add]) (by omega) hL dL_law_1972 ?_
  refine V.aload_n hF dL_law_1973 rfl ?_
  refine V.iload hF dL_law_1974 rfl ?_
  refine V.iconst (v := nI 3) hF dL_law_1976 (by decide) ?_
  refine V.iadd hF dL_law_1977 ?_
  refine V.sld (j := i + 3) hF hXs hbl hbA (by simp only [nI_add]) (by omega) hL dL_law_1978 ?_
  refine V.aload_n hF dL_law_1979 rfl ?_
  refine V.callSW hF dL_law_1980 (ct_L_known hst σ I X o ad hw.fs hw.gb.1 C (X (ar 1)) hw.rg out hw.1.2.2.2.2.1.1 hw.1.2.2.2.2.1.2.1 hw.1.2.2.2.2.1.2.2 (xs (i + 1)) (xs (i + 2)) (xs (i + 3))) lw_L_known hnc ⟨by omega, by omega, by omega, by omega⟩ (Nat.le_of_ble_eq_true rfl) (fun r s2 I2 X2 hx => ?_) rfl
  obtain ⟨e0, C2, g, hR2, e1, e2, e3, hg⟩ := hx
  rw [e0, e1, e2, e3]
  refine V.istore hF dL_law_1983 (by decide) ?_
  refine V.aload_n hF dL_law_1985 rfl ?_
  refine V.aload_n hF dL_law_1986 rfl ?_
  refine V.iload hF dL_law_1987 rfl ?_
  refine V.iconst (v := nI 1) hF dL_law_1989 (by decide) ?_
  refine V.iadd hF dL_law_1990 ?_
  refine V.sld (j := i + 1) hF hXs hbl hbA (by simp only [nI_add]) (by omega) hL dL_law_1991 ?_
  refine V.aload_n hF dL_law_1992 rfl ?_
  refine V.iload hF dL_law_1993 rfl ?_
  refine V.iconst (v := nI 2) hF dL_law_1995 (by decide) ?_
  refine V.iadd hF dL_law_1996 ?_
  refine V.sld (j := i + 2) hF hXs hbl hbA (by simp only [nI_add]) (by omega) hL dL_law_1997 ?_
  refine V.aload_n hF dL_law_1998 rfl ?_
  refine V.iload hF dL_law_1999 rfl ?_
  refine V.iconst (v := nI 3) hF dL_law_2001 (by decide) ?_
  refine V.iadd hF dL_law_2002 ?_
  refine V.sld (j := i + 3) hF hXs hbl hbA (by simp only [nI_add]) (by omega) hL dL_law_2003 ?_
  refine V.vI hF dL_law_2004 (ct_X5_known hst (shSetJ σ out g) _ _ om ar hms _ (hw.pm C2) _ (hw.pa C2 (by decide)) hw.rg.1.wv (xs (i + 1)) (xs (i + 2)) (xs (i + 3))) lk_L_248 sl_X5_known hms.1.1 hms.1.2 rfl (Nat.le_of_ble_eq_true rfl) ⟨by omega, by omega, by omega, by omega⟩ (Nat.le_of_ble_eq_true rfl) rfl ?_
  refine V.istore hF dL_law_2007 (by decide) ?_
  refine V.aload_n hF dL_law_2009 rfl ?_
  refine V.vI hF dL_law_2010 (ct_X5_thrown hst (shSetJ σ out g) _ _ om ar hms _ (va_up_self _ _ _)) lk_L_145 sl_X5_thrown hms.1.1 hms.1.2 rfl (Nat.le_of_ble_eq_true rfl) ⟨by omega, by omega, by omega, by omega⟩ (Nat.le_of_ble_eq_true rfl) rfl ?_
  refine V.topi (th_0 _ _) ?_
  refine V.iload hF dL_law_2013 rfl ?_
  refine V.icmp_eq (tgt := 2020) hF dL_law_2015 (by decide) (fun _ => ?_) (fun hq => absurd rfl hq)
  refine V.iload hF dL_law_2020 rfl ?_
  refine V.if_ne (tgt := 2037) hF dL_law_2022 (by decide) (fun _ => ?_) (fun h0 => ?_)
  · refine V.goto (tgt := 2493) hF dL_law_2037 (by decide) ?_
    refine V.relv [0, 1, 2, 3, 4, 5] rfl ?_
    refine V.widen (k := cells + 60) (n := slots + 5000) (by omega) (by omega) ?_
    exact K _ _ _ (hw.std0 ⟨_, _, rfl⟩ _ hR2)
  · refine V.aload_n hF dL_law_2025 rfl ?_
    refine V.iconst (v := nI 0) hF dL_law_2026 (by decide) ?_
    refine V.laload (j := 0) hF dL_law_2027 hw.1.2.2.2.2.1.1 hw.1.2.2.2.2.1.2.1 rfl (by show 0 < shN σ out; rw [hw.1.2.2.2.2.1.2.2]; omega) (by show shN σ out < _; rw [hw.1.2.2.2.2.1.2.2]; omega) ?_
    refine V.topl ((congrFun (va_up_self (shJ σ) out g) 0).trans (hg h0)) ?_
    refine V.iload hF dL_law_2028 rfl ?_
    refine V.i2l hF dL_law_2030 ?_
    refine V.lcmp hF dL_law_2031 ?_
    refine V.if_eq (tgt := 2037) hF dL_law_2032 (by decide) (fun _ => ?_) (fun hq => absurd (lg_self _) hq)
    refine V.goto (tgt := 2493) hF dL_law_2037 (by decide) ?_
    refine V.relv [0, 1, 2, 3, 4, 5] rfl ?_
    refine V.widen (k := cells + 60) (n := slots + 5000) (by omega) (by omega) ?_
    exact K _ _ _ (hw.std0 ⟨_, _, rfl⟩ _ hR2)
set_option maxRecDepth 20000 in
theorem lcase_isStable (hF : Fx p l s m args meth c D cy sa sv A 9 RL cL_law (some .boolean)) (hst : l.stackTraces = false) (hnc : NC s) (hXs : va_X b L xs s s.heap) (hbl : b < s.heap.size) (hbA : ¬ A b) (hi : i + 3 < L) (hL : L ≤ 2048) (hw : LWx σ I X o so om out dout ta ar tg ad C n t1 t2 t3) (hc1 : cells + 60 ≤ R.cells) (hs1 : slots + 5000 ≤ R.slots) (hR1 : 20 ≤ R.frames) (hR2 : 10000 ≤ R.locals)
    (K : ∀ (σ' : SH) (I' X' : IX), LW σ' I' X' o so om out dout ta ar → V p l e R s m args below meth c D cy A Q 9 (cells + 60) (slots + 5000) σ' I' X' 2493 [(0, .ref b), (1, .ref o), (2, .ref om), (3, .ref out), (4, .ref dout), (5, .int (nI i))] []) : V p l e R s m args below meth c D cy A Q 9 cells slots σ I X 2040 [(0, .ref b), (1, .ref o), (2, .ref om), (3, .ref out), (4, .ref dout), (5, .int (nI i))] [] := by
  have hms := hw.ms
  refine V.eqI hw.eI ?_
  refine V.eqX hw.eX ?_
  refine V.aload_n hF dL_law_2040 rfl ?_
  refine V.aload_n hF dL_law_2041 rfl ?_
  refine V.iload hF dL_law_2042 rfl ?_
  refine V.iconst (v := nI 1) hF dL_law_2044 (by decide) ?_
  refine V.iadd hF dL_law_2045 ?_
  refine V.sld (j := i + 1) hF hXs hbl hbA (by simp only [nI_add]) (by omega) hL dL_law_2046 ?_
  refine V.aload_n hF dL_law_2047 rfl ?_
  refine V.iload hF dL_law_2048 rfl ?_
  refine V.iconst (v := nI 2) hF dL_law_2050 (by decide) ?_
  refine V.iadd hF dL_law_2051 ?_
  refine V.sld (j := i + 2) hF hXs hbl hbA (by simp only [nI_add]) (by omega) hL dL_law_2052 ?_
  refine V.aload_n hF dL_law_2053 rfl ?_
  refine V.callSW hF dL_law_2054 (ct_L_isStable hst σ I X o ad hw.fs hw.gb.1 C (X (ar 1)) hw.rg out hw.1.2.2.2.2.1.1 hw.1.2.2.2.2.1.2.1 hw.1.2.2.2.2.1.2.2 (xs (i + 1)) (xs (i + 2))) lw_L_isStable hnc ⟨by omega, by omega, by omega, by omega⟩ (Nat.le_of_ble_eq_true rfl) (fun r s2 I2 X2 hx => ?_) rfl
  obtain ⟨e0, C2, g, hR2, e1, e2, e3, hg⟩ := hx
  rw [e0, e1, e2, e3]
  refine V.istore hF dL_law_2057 (by decide) ?_
  refine V.aload_n hF dL_law_2059 rfl ?_
  refine V.aload_n hF dL_law_2060 rfl ?_
  refine V.iload hF dL_law_2061 rfl ?_
  refine V.iconst (v := nI 1) hF dL_law_2063 (by decide) ?_
  refine V.iadd hF dL_law_2064 ?_
  refine V.sld (j := i + 1) hF hXs hbl hbA (by simp only [nI_add]) (by omega) hL dL_law_2065 ?_
  refine V.aload_n hF dL_law_2066 rfl ?_
  refine V.iload hF dL_law_2067 rfl ?_
  refine V.iconst (v := nI 2) hF dL_law_2069 (by decide) ?_
  refine V.iadd hF dL_law_2070 ?_
  refine V.sld (j := i + 2) hF hXs hbl hbA (by simp only [nI_add]) (by omega) hL dL_law_2071 ?_
  refine V.vI hF dL_law_2072 (ct_X5_isStable hst (shSetJ σ out g) _ _ om ar hms _ (hw.pm C2) _ (hw.pa C2 (by decide)) hw.rg.1.wv (xs (i + 1)) (xs (i + 2))) lk_L_251 sl_X5_isStable hms.1.1 hms.1.2 rfl (Nat.le_of_ble_eq_true rfl) ⟨by omega, by omega, by omega, by omega⟩ (Nat.le_of_ble_eq_true rfl) rfl ?_
  refine V.istore hF dL_law_2075 (by decide) ?_
  refine V.aload_n hF dL_law_2077 rfl ?_
  refine V.vI hF dL_law_2078 (ct_X5_thrown hst (shSetJ σ out g) _ _ om ar hms _ (va_up_self _ _ _)) lk_L_145 sl_X5_thrown hms.1.1 hms.1.2 rfl (Nat.le_of_ble_eq_true rfl) ⟨by omega, by omega, by omega, by omega⟩ (Nat.le_of_ble_eq_true rfl) rfl ?_
  refine V.topi (th_0 _ _) ?_
  refine V.iload hF dL_law_2081 rfl ?_
  refine V.icmp_eq (tgt := 2088) hF dL_law_2083 (by decide) (fun _ => ?_) (fun hq => absurd rfl hq)
  refine V.iload hF dL_law_2088 rfl ?_
  refine V.if_ne (tgt := 2112) hF dL_law_2090 (by decide) (fun _ => ?_) (fun h0 => ?_)
  · refine V.goto (tgt := 2493) hF dL_law_2112 (by decide) ?_
    refine V.relv [0, 1, 2, 3, 4, 5] rfl ?_
    refine V.widen (k := cells + 60) (n := slots + 5000) (by omega) (by omega) ?_
    exact K _ _ _ (hw.std0 ⟨_, _, rfl⟩ _ hR2)
  · refine V.aload_n hF dL_law_2093 rfl ?_
    refine V.iconst (v := nI 0) hF dL_law_2094 (by decide) ?_
    refine V.laload (j := 0) hF dL_law_2095 hw.1.2.2.2.2.1.1 hw.1.2.2.2.2.1.2.1 rfl (by show 0 < shN σ out; rw [hw.1.2.2.2.2.1.2.2]; omega) (by show shN σ out < _; rw [hw.1.2.2.2.2.1.2.2]; omega) ?_
    refine V.topl ((congrFun (va_up_self (shJ σ) out g) 0).trans (hg h0)) ?_
    refine V.iload hF dL_law_2096 rfl ?_
    refine V.if_eqB (tgt := 2105) hF dL_law_2098 (by decide) (fun hb => ?_) (fun hb => ?_)
    · refine V.lconst (v := 0) hF dL_law_2105 rfl ?_
      refine V.topl (y := (bI false).toInt64) rfl ?_
      rw [hb]
      refine V.lcmp hF dL_law_2106 ?_
      refine V.if_eq (tgt := 2112) hF dL_law_2107 (by decide) (fun _ => ?_) (fun hq => absurd (lg_self _) hq)
      refine V.goto (tgt := 2493) hF dL_law_2112 (by decide) ?_
      refine V.relv [0, 1, 2, 3, 4, 5] rfl ?_
      refine V.widen (k := cells + 60) (n := slots + 5000) (by omega) (by omega) ?_
      exact K _ _ _ (hw.std0 ⟨_, _, rfl⟩ _ hR2)
    · refine V.lconst (v := 1) hF dL_law_2101 rfl ?_
      refine V.goto (tgt := 2106) hF dL_law_2102 (by decide) ?_
      refine V.topl (y := (bI true).toInt64) rfl ?_
      rw [hb]
      refine V.lcmp hF dL_law_2106 ?_
      refine V.if_eq (tgt := 2112) hF dL_law_2107 (by decide) (fun _ => ?_) (fun hq => absurd (lg_self _) hq)
      refine V.goto (tgt := 2493) hF dL_law_2112 (by decide) ?_
      refine V.relv [0, 1, 2, 3, 4, 5] rfl ?_
      refine V.widen (k := cells + 60) (n := slots + 5000) (by omega) (by omega) ?_
      exact K _ _ _ (hw.std0 ⟨_, _, rfl⟩ _ hR2)
set_option maxRecDepth 20000 in
theorem lcase_unstable (hF : Fx p l s m args meth c D cy sa sv A 9 RL cL_law (some .boolean)) (hst : l.stackTraces = false) (hnc : NC s) (hXs : va_X b L xs s s.heap) (hbl : b < s.heap.size) (hbA : ¬ A b) (hi : i + 3 < L) (hL : L ≤ 2048) (hw : LWx σ I X o so om out dout ta ar tg ad C n t1 t2 t3) (hc1 : cells + 60 ≤ R.cells) (hs1 : slots + 5000 ≤ R.slots) (hR1 : 20 ≤ R.frames) (hR2 : 10000 ≤ R.locals)
    (K : ∀ (σ' : SH) (I' X' : IX), LW σ' I' X' o so om out dout ta ar → V p l e R s m args below meth c D cy A Q 9 (cells + 60) (slots + 5000) σ' I' X' 2493 [(0, .ref b), (1, .ref o), (2, .ref om), (3, .ref out), (4, .ref dout), (5, .int (nI i))] []) : V p l e R s m args below meth c D cy A Q 9 cells slots σ I X 2115 [(0, .ref b), (1, .ref o), (2, .ref om), (3, .ref out), (4, .ref dout), (5, .int (nI i))] [] := by
  have hms := hw.ms
  refine V.eqI hw.eI ?_
  refine V.eqX hw.eX ?_
  refine V.aload_n hF dL_law_2115 rfl ?_
  refine V.aload_n hF dL_law_2116 rfl ?_
  refine V.iload hF dL_law_2117 rfl ?_
  refine V.iconst (v := nI 1) hF dL_law_2119 (by decide) ?_
  refine V.iadd hF dL_law_2120 ?_
  refine V.sld (j := i + 1) hF hXs hbl hbA (by simp only [nI_add]) (by omega) hL dL_law_2121 ?_
  refine V.aload_n hF dL_law_2122 rfl ?_
  refine V.callSW hF dL_law_2123 (ct_L_unstable hst σ I X o ad hw.fs hw.gb.1 C (X (ar 1)) hw.rg out hw.1.2.2.2.2.1.1 hw.1.2.2.2.2.1.2.1 hw.1.2.2.2.2.1.2.2 (xs (i + 1))) lw_L_unstable hnc ⟨by omega, by omega, by omega, by omega⟩ (Nat.le_of_ble_eq_true rfl) (fun r s2 I2 X2 hx => ?_) rfl
  obtain ⟨e0, C2, g, hR2, e1, e2, e3, hg⟩ := hx
  rw [e0, e1, e2, e3]
  refine V.istore hF dL_law_2126 (by decide) ?_
  refine V.aload_n hF dL_law_2128 rfl ?_
  refine V.aload_n hF dL_law_2129 rfl ?_
  refine V.iload hF dL_law_2130 rfl ?_
  refine V.iconst (v := nI 1) hF dL_law_2132 (by decide) ?_
  refine V.iadd hF dL_law_2133 ?_
  refine V.sld (j := i + 1) hF hXs hbl hbA (by simp only [nI_add]) (by omega) hL dL_law_2134 ?_
  refine V.vI hF dL_law_2135 (ct_X5_unstable hst (shSetJ σ out g) _ _ om ar hms _ (hw.pm C2) _ (hw.pa C2 (by decide)) hw.rg.1.wv (xs (i + 1))) lk_L_254 sl_X5_unstable hms.1.1 hms.1.2 rfl (Nat.le_of_ble_eq_true rfl) ⟨by omega, by omega, by omega, by omega⟩ (Nat.le_of_ble_eq_true rfl) rfl ?_
  refine V.istore hF dL_law_2138 (by decide) ?_
  refine V.aload_n hF dL_law_2140 rfl ?_
  refine V.vI hF dL_law_2141 (ct_X5_thrown hst (shSetJ σ out g) _ _ om ar hms _ (va_up_self _ _ _)) lk_L_145 sl_X5_thrown hms.1.1 hms.1.2 rfl (Nat.le_of_ble_eq_true rfl) ⟨by omega, by omega, by omega, by omega⟩ (Nat.le_of_ble_eq_true rfl) rfl ?_
  refine V.topi (th_0 _ _) ?_
  refine V.iload hF dL_law_2144 rfl ?_
  refine V.icmp_eq (tgt := 2151) hF dL_law_2146 (by decide) (fun _ => ?_) (fun hq => absurd rfl hq)
  refine V.iload hF dL_law_2151 rfl ?_
  refine V.if_ne (tgt := 2168) hF dL_law_2153 (by decide) (fun _ => ?_) (fun h0 => ?_)
  · refine V.goto (tgt := 2493) hF dL_law_2168 (by decide) ?_
    refine V.relv [0, 1, 2, 3, 4, 5] rfl ?_
    refine V.widen (k := cells + 60) (n := slots + 5000) (by omega) (by omega) ?_
    exact K _ _ _ (hw.std0 ⟨_, _, rfl⟩ _ hR2)
  · refine V.aload_n hF dL_law_2156 rfl ?_
    refine V.iconst (v := nI 0) hF dL_law_2157 (by decide) ?_
    refine V.laload (j := 0) hF dL_law_2158 hw.1.2.2.2.2.1.1 hw.1.2.2.2.2.1.2.1 rfl (by show 0 < shN σ out; rw [hw.1.2.2.2.2.1.2.2]; omega) (by show shN σ out < _; rw [hw.1.2.2.2.2.1.2.2]; omega) ?_
    refine V.topl ((congrFun (va_up_self (shJ σ) out g) 0).trans (hg h0)) ?_
    refine V.iload hF dL_law_2159 rfl ?_
    refine V.i2l hF dL_law_2161 ?_
    refine V.lcmp hF dL_law_2162 ?_
    refine V.if_eq (tgt := 2168) hF dL_law_2163 (by decide) (fun _ => ?_) (fun hq => absurd (lg_self _) hq)
    refine V.goto (tgt := 2493) hF dL_law_2168 (by decide) ?_
    refine V.relv [0, 1, 2, 3, 4, 5] rfl ?_
    refine V.widen (k := cells + 60) (n := slots + 5000) (by omega) (by omega) ?_
    exact K _ _ _ (hw.std0 ⟨_, _, rfl⟩ _ hR2)
set_option maxRecDepth 20000 in
theorem lcase_isEverywhere (hF : Fx p l s m args meth c D cy sa sv A 9 RL cL_law (some .boolean)) (hst : l.stackTraces = false) (hnc : NC s) (hXs : va_X b L xs s s.heap) (hbl : b < s.heap.size) (hbA : ¬ A b) (hi : i + 3 < L) (hL : L ≤ 2048) (hw : LWx σ I X o so om out dout ta ar tg ad C n t1 t2 t3) (hc1 : cells + 60 ≤ R.cells) (hs1 : slots + 5000 ≤ R.slots) (hR1 : 20 ≤ R.frames) (hR2 : 10000 ≤ R.locals)
    (K : ∀ (σ' : SH) (I' X' : IX), LW σ' I' X' o so om out dout ta ar → V p l e R s m args below meth c D cy A Q 9 (cells + 60) (slots + 5000) σ' I' X' 2493 [(0, .ref b), (1, .ref o), (2, .ref om), (3, .ref out), (4, .ref dout), (5, .int (nI i))] []) : V p l e R s m args below meth c D cy A Q 9 cells slots σ I X 2171 [(0, .ref b), (1, .ref o), (2, .ref om), (3, .ref out), (4, .ref dout), (5, .int (nI i))] [] := by
  have hms := hw.ms
  refine V.eqI hw.eI ?_
  refine V.eqX hw.eX ?_
  refine V.aload_n hF dL_law_2171 rfl ?_
  refine V.aload_n hF dL_law_2172 rfl ?_
  refine V.iload hF dL_law_2173 rfl ?_
  refine V.iconst (v := nI 1) hF dL_law_2175 (by decide) ?_
  refine V.iadd hF dL_law_2176 ?_
  refine V.sld (j := i + 1) hF hXs hbl hbA (by simp only [nI_add]) (by omega) hL dL_law_2177 ?_
  refine V.aload_n hF dL_law_2178 rfl ?_
  refine V.callSW hF dL_law_2179 (ct_L_isEverywhere hst σ I X o ad hw.fs hw.gb.1 C (X (ar 1)) hw.rg out hw.1.2.2.2.2.1.1 hw.1.2.2.2.2.1.2.1 hw.1.2.2.2.2.1.2.2 (xs (i + 1))) lw_L_isEverywhere hnc ⟨by omega, by omega, by omega, by omega⟩ (Nat.le_of_ble_eq_true rfl) (fun r s2 I2 X2 hx => ?_) rfl
  obtain ⟨e0, C2, g, hR2, e1, e2, e3, hg⟩ := hx
  rw [e0, e1, e2, e3]
  refine V.istore hF dL_law_2182 (by decide) ?_
  refine V.aload_n hF dL_law_2184 rfl ?_
  refine V.aload_n hF dL_law_2185 rfl ?_
  refine V.iload hF dL_law_2186 rfl ?_
  refine V.iconst (v := nI 1) hF dL_law_2188 (by decide) ?_
  refine V.iadd hF dL_law_2189 ?_
  refine V.sld (j := i + 1) hF hXs hbl hbA (by simp only [nI_add]) (by omega) hL dL_law_2190 ?_
  refine V.vI hF dL_law_2191 (ct_X5_isEverywhere hst (shSetJ σ out g) _ _ om ar hms _ (hw.pm C2) _ (hw.pa C2 (by decide)) hw.rg.1.wv (xs (i + 1))) lk_L_257 sl_X5_isEverywhere hms.1.1 hms.1.2 rfl (Nat.le_of_ble_eq_true rfl) ⟨by omega, by omega, by omega, by omega⟩ (Nat.le_of_ble_eq_true rfl) rfl ?_
  refine V.istore hF dL_law_2194 (by decide) ?_
  refine V.aload_n hF dL_law_2196 rfl ?_
  refine V.vI hF dL_law_2197 (ct_X5_thrown hst (shSetJ σ out g) _ _ om ar hms _ (va_up_self _ _ _)) lk_L_145 sl_X5_thrown hms.1.1 hms.1.2 rfl (Nat.le_of_ble_eq_true rfl) ⟨by omega, by omega, by omega, by omega⟩ (Nat.le_of_ble_eq_true rfl) rfl ?_
  refine V.topi (th_0 _ _) ?_
  refine V.iload hF dL_law_2200 rfl ?_
  refine V.icmp_eq (tgt := 2207) hF dL_law_2202 (by decide) (fun _ => ?_) (fun hq => absurd rfl hq)
  refine V.iload hF dL_law_2207 rfl ?_
  refine V.if_ne (tgt := 2231) hF dL_law_2209 (by decide) (fun _ => ?_) (fun h0 => ?_)
  · refine V.goto (tgt := 2493) hF dL_law_2231 (by decide) ?_
    refine V.relv [0, 1, 2, 3, 4, 5] rfl ?_
    refine V.widen (k := cells + 60) (n := slots + 5000) (by omega) (by omega) ?_
    exact K _ _ _ (hw.std0 ⟨_, _, rfl⟩ _ hR2)
  · refine V.aload_n hF dL_law_2212 rfl ?_
    refine V.iconst (v := nI 0) hF dL_law_2213 (by decide) ?_
    refine V.laload (j := 0) hF dL_law_2214 hw.1.2.2.2.2.1.1 hw.1.2.2.2.2.1.2.1 rfl (by show 0 < shN σ out; rw [hw.1.2.2.2.2.1.2.2]; omega) (by show shN σ out < _; rw [hw.1.2.2.2.2.1.2.2]; omega) ?_
    refine V.topl ((congrFun (va_up_self (shJ σ) out g) 0).trans (hg h0)) ?_
    refine V.iload hF dL_law_2215 rfl ?_
    refine V.if_eqB (tgt := 2224) hF dL_law_2217 (by decide) (fun hb => ?_) (fun hb => ?_)
    · refine V.lconst (v := 0) hF dL_law_2224 rfl ?_
      refine V.topl (y := (bI false).toInt64) rfl ?_
      rw [hb]
      refine V.lcmp hF dL_law_2225 ?_
      refine V.if_eq (tgt := 2231) hF dL_law_2226 (by decide) (fun _ => ?_) (fun hq => absurd (lg_self _) hq)
      refine V.goto (tgt := 2493) hF dL_law_2231 (by decide) ?_
      refine V.relv [0, 1, 2, 3, 4, 5] rfl ?_
      refine V.widen (k := cells + 60) (n := slots + 5000) (by omega) (by omega) ?_
      exact K _ _ _ (hw.std0 ⟨_, _, rfl⟩ _ hR2)
    · refine V.lconst (v := 1) hF dL_law_2220 rfl ?_
      refine V.goto (tgt := 2225) hF dL_law_2221 (by decide) ?_
      refine V.topl (y := (bI true).toInt64) rfl ?_
      rw [hb]
      refine V.lcmp hF dL_law_2225 ?_
      refine V.if_eq (tgt := 2231) hF dL_law_2226 (by decide) (fun _ => ?_) (fun hq => absurd (lg_self _) hq)
      refine V.goto (tgt := 2493) hF dL_law_2231 (by decide) ?_
      refine V.relv [0, 1, 2, 3, 4, 5] rfl ?_
      refine V.widen (k := cells + 60) (n := slots + 5000) (by omega) (by omega) ?_
      exact K _ _ _ (hw.std0 ⟨_, _, rfl⟩ _ hR2)
set_option maxRecDepth 20000 in
theorem lcase_firstUnaware (hF : Fx p l s m args meth c D cy sa sv A 9 RL cL_law (some .boolean)) (hst : l.stackTraces = false) (hnc : NC s) (hXs : va_X b L xs s s.heap) (hbl : b < s.heap.size) (hbA : ¬ A b) (hi : i + 3 < L) (hL : L ≤ 2048) (hw : LWx σ I X o so om out dout ta ar tg ad C n t1 t2 t3) (hc1 : cells + 60 ≤ R.cells) (hs1 : slots + 5000 ≤ R.slots) (hR1 : 20 ≤ R.frames) (hR2 : 10000 ≤ R.locals)
    (K : ∀ (σ' : SH) (I' X' : IX), LW σ' I' X' o so om out dout ta ar → V p l e R s m args below meth c D cy A Q 9 (cells + 60) (slots + 5000) σ' I' X' 2493 [(0, .ref b), (1, .ref o), (2, .ref om), (3, .ref out), (4, .ref dout), (5, .int (nI i))] []) : V p l e R s m args below meth c D cy A Q 9 cells slots σ I X 2234 [(0, .ref b), (1, .ref o), (2, .ref om), (3, .ref out), (4, .ref dout), (5, .int (nI i))] [] := by
  have hms := hw.ms
  refine V.eqI hw.eI ?_
  refine V.eqX hw.eX ?_
  refine V.aload_n hF dL_law_2234 rfl ?_
  refine V.aload_n hF dL_law_2235 rfl ?_
  refine V.iload hF dL_law_2236 rfl ?_
  refine V.iconst (v := nI 1) hF dL_law_2238 (by decide) ?_
  refine V.iadd hF dL_law_2239 ?_
  refine V.sld (j := i + 1) hF hXs hbl hbA (by simp only [nI_add]) (by omega) hL dL_law_2240 ?_
  refine V.aload_n hF dL_law_2241 rfl ?_
  refine V.callSW hF dL_law_2242 (ct_L_firstUnaware hst σ I X o ad hw.fs hw.gb.1 C (X (ar 1)) hw.rg out hw.1.2.2.2.2.1.1 hw.1.2.2.2.2.1.2.1 hw.1.2.2.2.2.1.2.2 (xs (i + 1))) lw_L_firstUnaware hnc ⟨by omega, by omega, by omega, by omega⟩ (Nat.le_of_ble_eq_true rfl) (fun r s2 I2 X2 hx => ?_) rfl
  obtain ⟨e0, C2, g, hR2, e1, e2, e3, hg⟩ := hx
  rw [e0, e1, e2, e3]
  refine V.istore hF dL_law_2245 (by decide) ?_
  refine V.aload_n hF dL_law_2247 rfl ?_
  refine V.aload_n hF dL_law_2248 rfl ?_
  refine V.iload hF dL_law_2249 rfl ?_
  refine V.iconst (v := nI 1) hF dL_law_2251 (by decide) ?_
  refine V.iadd hF dL_law_2252 ?_
  refine V.sld (j := i + 1) hF hXs hbl hbA (by simp only [nI_add]) (by omega) hL dL_law_2253 ?_
  refine V.vI hF dL_law_2254 (ct_X5_firstUnaware hst (shSetJ σ out g) _ _ om ar hms _ (hw.pm C2) _ (hw.pa C2 (by decide)) hw.rg.1.wv (xs (i + 1))) lk_L_260 sl_X5_firstUnaware hms.1.1 hms.1.2 rfl (Nat.le_of_ble_eq_true rfl) ⟨by omega, by omega, by omega, by omega⟩ (Nat.le_of_ble_eq_true rfl) rfl ?_
  refine V.istore hF dL_law_2257 (by decide) ?_
  refine V.aload_n hF dL_law_2259 rfl ?_
  refine V.vI hF dL_law_2260 (ct_X5_thrown hst (shSetJ σ out g) _ _ om ar hms _ (va_up_self _ _ _)) lk_L_145 sl_X5_thrown hms.1.1 hms.1.2 rfl (Nat.le_of_ble_eq_true rfl) ⟨by omega, by omega, by omega, by omega⟩ (Nat.le_of_ble_eq_true rfl) rfl ?_
  refine V.topi (th_0 _ _) ?_
  refine V.iload hF dL_law_2263 rfl ?_
  refine V.icmp_eq (tgt := 2270) hF dL_law_2265 (by decide) (fun _ => ?_) (fun hq => absurd rfl hq)
  refine V.iload hF dL_law_2270 rfl ?_
  refine V.if_ne (tgt := 2287) hF dL_law_2272 (by decide) (fun _ => ?_) (fun h0 => ?_)
  · refine V.goto (tgt := 2493) hF dL_law_2287 (by decide) ?_
    refine V.relv [0, 1, 2, 3, 4, 5] rfl ?_
    refine V.widen (k := cells + 60) (n := slots + 5000) (by omega) (by omega) ?_
    exact K _ _ _ (hw.std0 ⟨_, _, rfl⟩ _ hR2)
  · refine V.aload_n hF dL_law_2275 rfl ?_
    refine V.iconst (v := nI 0) hF dL_law_2276 (by decide) ?_
    refine V.laload (j := 0) hF dL_law_2277 hw.1.2.2.2.2.1.1 hw.1.2.2.2.2.1.2.1 rfl (by show 0 < shN σ out; rw [hw.1.2.2.2.2.1.2.2]; omega) (by show shN σ out < _; rw [hw.1.2.2.2.2.1.2.2]; omega) ?_
    refine V.topl ((congrFun (va_up_self (shJ σ) out g) 0).trans (hg h0)) ?_
    refine V.iload hF dL_law_2278 rfl ?_
    refine V.i2l hF dL_law_2280 ?_
    refine V.lcmp hF dL_law_2281 ?_
    refine V.if_eq (tgt := 2287) hF dL_law_2282 (by decide) (fun _ => ?_) (fun hq => absurd (lg_self _) hq)
    refine V.goto (tgt := 2493) hF dL_law_2287 (by decide) ?_
    refine V.relv [0, 1, 2, 3, 4, 5] rfl ?_
    refine V.widen (k := cells + 60) (n := slots + 5000) (by omega) (by omega) ?_
    exact K _ _ _ (hw.std0 ⟨_, _, rfl⟩ _ hR2)
set_option maxRecDepth 20000 in
theorem lcase_message (hF : Fx p l s m args meth c D cy sa sv A 9 RL cL_law (some .boolean)) (hst : l.stackTraces = false) (hnc : NC s) (hXs : va_X b L xs s s.heap) (hbl : b < s.heap.size) (hbA : ¬ A b) (hi : i + 3 < L) (hL : L ≤ 2048) (hw : LWx σ I X o so om out dout ta ar tg ad C n t1 t2 t3) (hc1 : cells + 60 ≤ R.cells) (hs1 : slots + 5000 ≤ R.slots) (hR1 : 20 ≤ R.frames) (hR2 : 10000 ≤ R.locals)
    (K : ∀ (σ' : SH) (I' X' : IX), LW σ' I' X' o so om out dout ta ar → V p l e R s m args below meth c D cy A Q 9 (cells + 60) (slots + 5000) σ' I' X' 2493 [(0, .ref b), (1, .ref o), (2, .ref om), (3, .ref out), (4, .ref dout), (5, .int (nI i))] []) : V p l e R s m args below meth c D cy A Q 9 cells slots σ I X 847 [(0, .ref b), (1, .ref o), (2, .ref om), (3, .ref out), (4, .ref dout), (5, .int (nI i))] [] := by
  have hms := hw.ms
  refine V.eqI hw.eI ?_
  refine V.eqX hw.eX ?_
  refine V.aload_n hF dL_law_847 rfl ?_
  refine V.aload_n hF dL_law_848 rfl ?_
  refine V.iload hF dL_law_849 rfl ?_
  refine V.iconst (v := nI 1) hF dL_law_851 (by decide) ?_
  refine V.iadd hF dL_law_852 ?_
  refine V.sld (j := i + 1) hF hXs hbl hbA (by simp only [nI_add]) (by omega) hL dL_law_853 ?_
  refine V.aload_n hF dL_law_854 rfl ?_
  refine V.iload hF dL_law_855 rfl ?_
  refine V.iconst (v := nI 2) hF dL_law_857 (by decide) ?_
  refine V.iadd hF dL_law_858 ?_
  refine V.sld (j := i + 2) hF hXs hbl hbA (by simp only [nI_add]) (by omega) hL dL_law_859 ?_
  refine V.aload_n hF dL_law_860 rfl ?_
  refine V.callSW hF dL_law_861 (ct_L_message hst σ I X o ad hw.fs hw.gb.1 C (X (ar 1)) hw.rg out hw.1.2.2.2.2.1.1 hw.1.2.2.2.2.1.2.1 hw.1.2.2.2.2.1.2.2 (xs (i + 1)) (xs (i + 2))) lw_L_message hnc ⟨by omega, by omega, by omega, by omega⟩ (Nat.le_of_ble_eq_true rfl) (fun r s2 I2 X2 hx => ?_) rfl
  obtain ⟨e0, C2, g, hR2, e1, e2, e3, hg⟩ := hx
  rw [e0, e1, e2, e3]
  refine V.istore hF dL_law_864 (by decide) ?_
  refine V.aload_n hF dL_law_866 rfl ?_
  refine V.aload_n hF dL_law_867 rfl ?_
  refine V.iload hF dL_law_868 rfl ?_
  refine V.iconst (v := nI 1) hF dL_law_870 (by decide) ?_
  refine V.iadd hF dL_law_871 ?_
  refine V.sld (j := i + 1) hF hXs hbl hbA (by simp only [nI_add]) (by omega) hL dL_law_872 ?_
  refine V.aload_n hF dL_law_873 rfl ?_
  refine V.iload hF dL_law_874 rfl ?_
  refine V.iconst (v := nI 2) hF dL_law_876 (by decide) ?_
  refine V.iadd hF dL_law_877 ?_
  refine V.sld (j := i + 2) hF hXs hbl hbA (by simp only [nI_add]) (by omega) hL dL_law_878 ?_
  refine V.vI hF dL_law_879 (ct_X5_message hst (shSetJ σ out g) _ _ om ar hms _ (hw.pm C2) _ (hw.pa C2 (by decide)) hw.rg.1.wv (xs (i + 1)) (xs (i + 2))) lk_L_191 sl_X5_message hms.1.1 hms.1.2 rfl (Nat.le_of_ble_eq_true rfl) ⟨by omega, by omega, by omega, by omega⟩ (Nat.le_of_ble_eq_true rfl) rfl ?_
  refine V.istore hF dL_law_882 (by decide) ?_
  refine V.aload_n hF dL_law_884 rfl ?_
  refine V.vI hF dL_law_885 (ct_X5_thrown hst (shSetJ σ out g) _ _ om ar hms _ (va_up_self _ _ _)) lk_L_145 sl_X5_thrown hms.1.1 hms.1.2 rfl (Nat.le_of_ble_eq_true rfl) ⟨by omega, by omega, by omega, by omega⟩ (Nat.le_of_ble_eq_true rfl) rfl ?_
  refine V.topi (th_0 _ _) ?_
  refine V.iload hF dL_law_888 rfl ?_
  refine V.icmp_eq (tgt := 895) hF dL_law_890 (by decide) (fun _ => ?_) (fun hq => absurd rfl hq)
  refine V.iload hF dL_law_895 rfl ?_
  refine V.if_ne (tgt := 912) hF dL_law_897 (by decide) (fun _ => ?_) (fun h0 => ?_)
  · refine V.goto (tgt := 2493) hF dL_law_912 (by decide) ?_
    refine V.relv [0, 1, 2, 3, 4, 5] rfl ?_
    refine V.widen (k := cells + 60) (n := slots + 5000) (by omega) (by omega) ?_
    exact K _ _ _ (hw.std0 ⟨_, _, rfl⟩ _ hR2)
  · refine V.aload_n hF dL_law_900 rfl ?_
    refine V.iconst (v := nI 0) hF dL_law_901 (by decide) ?_
    refine V.laload (j := 0) hF dL_law_902 hw.1.2.2.2.2.1.1 hw.1.2.2.2.2.1.2.1 rfl (by show 0 < shN σ out; rw [hw.1.2.2.2.2.1.2.2]; omega) (by show shN σ out < _; rw [hw.1.2.2.2.2.1.2.2]; omega) ?_
    refine V.topl ((congrFun (va_up_self (shJ σ) out g) 0).trans (hg h0)) ?_
    refine V.iload hF dL_law_903 rfl ?_
    refine V.i2l hF dL_law_905 ?_
    refine V.lcmp hF dL_law_906 ?_
    refine V.if_eq (tgt := 912) hF dL_law_907 (by decide) (fun _ => ?_) (fun hq => absurd (lg_self _) hq)
    refine V.goto (tgt := 2493) hF dL_law_912 (by decide) ?_
    refine V.relv [0, 1, 2, 3, 4, 5] rfl ?_
    refine V.widen (k := cells + 60) (n := slots + 5000) (by omega) (by omega) ?_
    exact K _ _ _ (hw.std0 ⟨_, _, rfl⟩ _ hR2)
end Cs
