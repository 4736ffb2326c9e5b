/-! what stands after a group has been made, or got new rows -/
theorem idX_c : ∀ k, k ∈ idX → (k = 0 ∨ k = 1 ∨ k = 4 ∨ k = 5 ∨ k = 6 ∨ k = 7 ∨ k = 8 ∨ k = 9) ∨ k = 20 + (k - 20) ∧ k - 20 < 6 ∨ k = 30 + (k - 30) ∧ k - 30 < 6 ∨ k = 40 + (k - 40) ∧ k - 40 < 6 := by decide
theorem GS.kX {σ : SH} {ad : Nat → Nat} (h : GS σ ad) {k : Nat} (hk : k ∈ idX) : shK σ (ad k) = 11 := by
  rcases idX_c k hk with q | ⟨q1, q2⟩ | ⟨q1, q2⟩ | ⟨q1, q2⟩
  · rcases q with rfl | rfl | rfl | rfl | rfl | rfl | rfl | rfl
    · exact h.a0.2.1
    · exact h.a1.2.1
    · exact h.a4.2.1
    · exact h.a5.2.1
    · exact h.a6.2.1
    · exact h.a7.2.1
    · exact h.a8.2.1
    · exact h.a9.2.1
  · rw [q1]; exact (h.al q2).2.1
  · rw [q1]; exact (h.ap q2).2.1
  · rw [q1]; exact (h.at q2).2.1
section Grw
variable {σ σ' : SH} {I I' X X' : IX} {o k0 : Nat} {ex : Nat → Prop}
theorem Fvw.ob {ad : Nat → Nat} {k ci : Nat} (g : Fvw σ σ' I I' X X' o k0 ex) (h : Ob σ ad k ci) : Ob σ' ad k ci := ⟨(g.1 _ h.1).1, (g.1 _ h.1).2.1.trans h.2⟩
theorem Fvw.ar {ad : Nat → Nat} {k n : Nat} (g : Fvw σ σ' I I' X X' o k0 ex) (h : Ar σ ad k n) : Ar σ' ad k n := ⟨(g.1 _ h.1).1, (g.1 _ h.1).2.1.trans h.2.1, (g.1 _ h.1).2.2.1.trans h.2.2⟩
theorem Fvw.rf {ad : Nat → Nat} {k j i : Nat} (g : Fvw σ σ' I I' X X' o k0 ex) (h : Rf σ ad k j i) (hm : ad k ∈ shL σ) (hn : ad k ≠ o) : Rf σ' ad k j i := (g.2.1 _ j hm (fun q => hn q.1)).trans h
theorem Fvw.gs {ad : Nat → Nat} (g : Fvw σ σ' I I' X X' o k0 ex) (h : GS σ ad) (ho : shK σ o = 4) : GS σ' ad := by
  have n4 := h.n4 ho
  have n1 := n4 100 (Or.inl rfl)
  have n2 := n4 2 (Or.inr (Or.inl rfl))
  refine ⟨h.1, ⟨g.ob h.g, g.rf h.r0 h.g.1 n1, g.rf h.r1 h.g.1 n1, g.rf h.r2 h.g.1 n1, g.rf h.r3 h.g.1 n1, g.ar h.a0, g.ar h.a1⟩, ⟨g.ob h.m, fun j hj => g.rf (h.mr j hj) h.m.1 n2, g.ar h.a4, g.ar h.a5, g.ar h.a6, g.ar h.a7, g.ar h.a8, g.ar h.a9⟩, ⟨(g.1 _ h.ym).1, (g.1 _ h.ym).2.1.trans h.yk, (g.1 _ h.ym).2.2.1.trans h.2.2.2.1.2.2.1, fun p hp => (congrFun (g.1 _ h.ym).2.2.2.2.2 p).trans (h.y hp)⟩, fun p hp => ?_⟩
  have np := n4 (10 + p) (Or.inr (Or.inr (Or.inr ⟨p, hp, rfl⟩)))
  exact ⟨g.ob (h.rp hp), g.rf (h.p1 hp) (h.rp hp).1 np, g.rf (h.p2 hp) (h.rp hp).1 np, g.rf (h.p3 hp) (h.rp hp).1 np, g.ar (h.al hp), g.ar (h.ap hp), g.ar (h.at hp)⟩
theorem Fvw.ma {om : Nat} {ar : Nat → Nat} {k n : Nat} (g : Fvw σ σ' I I' X X' o k0 ex) (h : MA σ om ar k n) (hm : om ∈ shL σ) (hn : om ≠ o) : MA σ' om ar k n := ⟨(g.2.1 _ k hm (fun q => hn q.1)).trans h.1, (g.1 _ h.2.1).1, (g.1 _ h.2.1).2.1.trans h.2.2.1, (g.1 _ h.2.1).2.2.1.trans h.2.2.2⟩
theorem Fvw.ms {om : Nat} {ar : Nat → Nat} (g : Fvw σ σ' I I' X X' o k0 ex) (h : MS σ om ar) (hn : om ≠ o) : MS σ' om ar := by
  have hm := h.1.1
  exact ⟨⟨(g.1 _ hm).1, (g.1 _ hm).2.1.trans h.1.2⟩, g.ma h.m1 hm hn, g.ma h.m2 hm hn, g.ma h.m3 hm hn, g.ma h.m5 hm hn, g.ma h.m8 hm hn, g.ma h.m11 hm hn, g.ma h.m12 hm hn, g.ma h.m13 hm hn, h.2.2.2.2.2.2.2.2.2⟩
theorem Fvw.sa {so : Nat} {ta : Nat → Nat} {k kd n : Nat} (g : Fvw σ σ' I I' X X' o k0 ex) (h : SA σ so ta k kd n) (hm : so ∈ shL σ) (hn : so ≠ o) : SA σ' so ta k kd n := ⟨(g.2.1 _ k hm (fun q => hn q.1)).trans h.1, (g.1 _ h.2.1).1, (g.1 _ h.2.1).2.1.trans h.2.2.1, (g.1 _ h.2.1).2.2.1.trans h.2.2.2⟩
theorem Fvw.ss {so : Nat} {ta : Nat → Nat} (g : Fvw σ σ' I I' X X' o k0 ex) (h : SS σ so ta) (hn : so ≠ o) : SS σ' so ta := by
  have hm := h.1.1
  exact ⟨⟨(g.1 _ hm).1, (g.1 _ hm).2.1.trans h.1.2⟩, g.sa h.a0 hm hn, g.sa h.a2 hm hn, g.sa h.a3 hm hn, g.sa h.a4 hm hn, h.2.2.2.2.2⟩
end Grw
def tgN (σ : SH) (tg : Nat → Nat) (t : Nat) : Nat → Nat := fun a => if a ∈ shL σ then tg a else t
section Grx
variable {σ : SH} {I X : IX} {o so om out dout : Nat} {ta ar : Nat → Nat} {tg ad : Nat → Nat} {C : IX} {n t1 t2 t3 : Nat}
/-- what stands while a script runs -/
def LWm (σ : SH) (I X : IX) (o so om out dout : Nat) (ta ar : Nat → Nat) (tg ad : Nat → Nat) (C : IX) (t1 t2 t3 : Nat) : Prop :=
  LSh σ o so om out dout ta ar ∧ LT tg ta ar t1 t2 t3 ∧ shR σ o 1 = some (ad 100) ∧ GB σ I X tg t1 ad C ∧ Tri σ I X o tg t2 ∧ Sna σ I X o om ar tg t3
theorem LWx.m (h : LWx σ I X o so om out dout ta ar tg ad C n t1 t2 t3) : LWm σ I X o so om out dout ta ar tg ad C t1 t2 t3 := ⟨h.1, h.2.1, h.2.2.1, h.2.2.2.1, h.2.2.2.2.2.1, h.2.2.2.2.2.2.1⟩
theorem LWm.grow (h : LWm σ I X o so om out dout ta ar tg ad C t1 t2 t3) {k0 tk : Nat} (hk : (k0 = 2 ∧ tk = t2) ∨ (k0 = 3 ∧ tk = t3)) {σ' : SH} {I' X' : IX} (hp : Prp k0 σ σ' I I' X X' o C (tagOk tg tk)) :
    ∃ (td : Nat → Nat) (E : IX) (tg' : Nat → Nat), (LSh σ' o so om out dout ta ar ∧ LT tg' ta ar t1 t2 t3 ∧ shR σ' o 1 = some (ad 100) ∧ GB σ' I' X' tg' t1 ad C) ∧ ((∀ j, j ∈ mIx → X' (ar j) = X (ar j)) ∧ (∀ j, j ∈ [0, 2, 3, 4] → X' (ta j) = X (ta j)) ∧ I' om = I om ∧ I' so = I so ∧ I' o = I o) ∧ (shR σ' o k0 = some (td 100) ∧ GB σ' I' X' tg' tk td E ∧ Agr C E) ∧ (k0 = 3 → Tri σ' I' X' o tg' t2) ∧ (k0 = 2 → Sna σ' I' X' o om ar tg' t3) := by
  obtain ⟨td, E, ⟨q1, q2⟩, ⟨q3, q4⟩, q5, q6, g⟩ := hp
  obtain ⟨hS, hT, h1, hG, hTr, hSn⟩ := h
  have hms := hS.2.2.2.1
  have hss := hS.2.2.1
  have tk4 : tk < 4 ∧ t1 ≠ tk := by
    rcases hk with ⟨-, rfl⟩ | ⟨-, rfl⟩
    · exact ⟨hT.1.2.1, hT.1.2.2.2.1⟩
    · exact ⟨hT.1.2.2.1, hT.1.2.2.2.2.1⟩
  have ne1 : ¬ (1 = k0) := by rcases hk with ⟨rfl, -⟩ | ⟨rfl, -⟩ <;> omega
  have ne0 : ¬ (0 = k0) := by rcases hk with ⟨rfl, -⟩ | ⟨rfl, -⟩ <;> omega
  have om_o : om ≠ o := fun e => by have a := hms.1.2; rw [e, hS.1.2] at a; omega
  have so_o : so ≠ o := fun e => by have a := hss.1.2; rw [e, hS.1.2] at a; omega
  have tgo : ∀ a, a ∈ shL σ → tgN σ tg tk a = tg a := fun a ha => if_pos ha
  have tgt_ : ∀ k, k ∈ idI ++ idX → tgN σ tg tk (td k) = tk := fun k hk => by
    unfold tgN
    rcases q6 with q | q
    · rw [if_neg (q k hk)]
    · rw [q k hk]; exact ite_self _
  have off : ∀ a, a ∈ shL σ → ¬ shK σ a < 3 → (shK σ a ≠ 11 ∨ tg a ≠ tk) → ¬ ∃ k, k ∈ idI ++ idX ∧ a = td k := fun a ha h3 h11 => by
    rintro ⟨k, hk, rfl⟩
    have kk := (g.1 _ ha).2.1
    rcases List.mem_append.mp hk with q | q
    · have := q2.kI q; rw [kk] at this; exact h3 this
    · rcases h11 with r | r
      · have := q2.kX q; rw [kk] at this; exact r this
      · exact r ((tgo _ ha).symm.trans (tgt_ k hk))
  have offT : ∀ a, a ∈ shL σ → tg a ≠ tk → ¬ ∃ k, k ∈ idI ++ idX ∧ a = td k := fun a ha r => by
    rintro ⟨k, hk, rfl⟩
    exact r ((tgo _ ha).symm.trans (tgt_ k hk))
  have vals := fun a ha he => g.2.2 a ha he
  have e_om := vals om hms.1.1 (off om hms.1.1 (by rw [hms.1.2]; omega) (Or.inl (by rw [hms.1.2]; omega)))
  have e_so := vals so hss.1.1 (off so hss.1.1 (by rw [hss.1.2]; omega) (Or.inl (by rw [hss.1.2]; omega)))
  have e_o := vals o hS.1.1 (off o hS.1.1 (by rw [hS.1.2]; omega) (Or.inl (by rw [hS.1.2]; omega)))
  have mm : ∀ j, j ∈ mIx → ar j ∈ shL σ := fun j hj => by
    have : ∀ j, j ∈ mIx → j = 1 ∨ j = 2 ∨ j = 3 ∨ j = 5 ∨ j = 8 ∨ j = 11 ∨ j = 12 ∨ j = 13 := by decide
    rcases this j hj with rfl | rfl | rfl | rfl | rfl | rfl | rfl | rfl
    · exact hms.m1.2.1
    · exact hms.m2.2.1
    · exact hms.m3.2.1
    · exact hms.m5.2.1
    · exact hms.m8.2.1
    · exact hms.m11.2.1
    · exact hms.m12.2.1
    · exact hms.m13.2.1
  have mt : ∀ j, j ∈ [0, 2, 3, 4] → ta j ∈ shL σ := fun j hj => by
    have : ∀ j, j ∈ [0, 2, 3, 4] → j = 0 ∨ j = 2 ∨ j = 3 ∨ j = 4 := by decide
    rcases this j hj with rfl | rfl | rfl | rfl
    · exact hss.a0.2.1
    · exact hss.a2.2.1
    · exact hss.a3.2.1
    · exact hss.a4.2.1
  have oth : ∀ {t : Nat} {bd : Nat → Nat} {E : IX}, t ≠ tk → GB σ I X tg t bd E → GB σ' I' X' (tgN σ tg tk) t bd E := fun {t} {bd} {E} ht b => by
    have nt : ∀ k, k ∈ idI ++ idX → tg (bd k) ≠ tk := fun k hk e => ht ((b.2.1 k hk).symm.trans e)
    refine ⟨g.gs b.1 hS.1.2, fun k hk => (tgo _ (b.1.mem hk)).trans (b.2.1 k hk), fun k hk => ?_, fun k hk => ?_⟩
    · exact ((vals _ (b.1.mem (mem_a hk)) (offT _ (b.1.mem (mem_a hk)) (nt k (mem_a hk)))).1).trans (b.2.2.1 k hk)
    · exact ((vals _ (b.1.mem (mem_b hk)) (offT _ (b.1.mem (mem_b hk)) (nt k (mem_b hk)))).2).trans (b.2.2.2 k hk)
  have xm : ∀ j, j ∈ mIx → X' (ar j) = X (ar j) := fun j hj => (vals _ (mm j hj) (offT _ (mm j hj) (by rw [hT.2.2 j hj]; omega))).2
  have xt : ∀ j, j ∈ [0, 2, 3, 4] → X' (ta j) = X (ta j) := fun j hj => (vals _ (mt j hj) (offT _ (mt j hj) (by rw [hT.2.1 j hj]; omega))).2
  refine ⟨td, E, tgN σ tg tk, ⟨⟨⟨(g.1 _ hS.1.1).1, (g.1 _ hS.1.1).2.1.trans hS.1.2⟩, (g.2.1 o 0 hS.1.1 (fun q => ne0 q.2)).trans hS.2.1, g.ss hss so_o, g.ms hms om_o, ?_, ?_⟩, ⟨hT.1, fun j hj => (tgo _ (mt j hj)).trans (hT.2.1 j hj), fun j hj => (tgo _ (mm j hj)).trans (hT.2.2 j hj)⟩, (g.2.1 o 1 hS.1.1 (fun q => ne1 q.2)).trans h1, oth tk4.2 hG⟩, ⟨xm, xt, e_om.1, e_so.1, e_o.1⟩, ⟨q1, ⟨q2, tgt_, q3, q4⟩, q5⟩, fun e => ?_, fun e => ?_⟩
  · obtain ⟨a1, a2, a3⟩ := hS.2.2.2.2.1
    exact ⟨(g.1 _ a1).1, (g.1 _ a1).2.1.trans a2, (g.1 _ a1).2.2.1.trans a3⟩
  · obtain ⟨a1, a2, a3⟩ := hS.2.2.2.2.2
    exact ⟨(g.1 _ a1).1, (g.1 _ a1).2.1.trans a2, (g.1 _ a1).2.2.1.trans a3⟩
  · have r2 : shR σ' o 2 = shR σ o 2 := g.2.1 o 2 hS.1.1 (fun q => by omega)
    have t23 : t2 ≠ tk := by rcases hk with ⟨e2, -⟩ | ⟨-, e3⟩; exact absurd (e2.symm.trans e) (by omega); rw [e3]; exact hT.1.2.2.2.2.2
    rcases hTr with q | ⟨bd, E2, b1, b2, b3⟩
    · exact Or.inl (r2.trans q)
    · exact Or.inr ⟨bd, E2, r2.trans b1, oth t23 b2, b3⟩
  · have r3 : shR σ' o 3 = shR σ o 3 := g.2.1 o 3 hS.1.1 (fun q => by omega)
    have t32 : t3 ≠ tk := by rcases hk with ⟨-, e3⟩ | ⟨e2, -⟩; rw [e3]; exact Ne.symm hT.1.2.2.2.2.2; exact absurd (e2.symm.trans e) (by omega)
    rcases hSn with ⟨b1, b2⟩ | ⟨bd, E2, b1, b2, b3, b4⟩
    · exact Or.inl ⟨r3.trans b1, by rw [e_om.1]; exact b2⟩
    · exact Or.inr ⟨bd, E2, r3.trans b1, oth t32 b2, by rw [xm 2 (by decide)]; exact b3, by rw [e_om.1]; exact b4⟩
/-- the question of a slot -/
theorem LWm.prq2 (h : LWm σ I X o so om out dout ta ar tg ad C t1 t2 t3) : Prq 2 σ I X o ad (tagOk tg t2) := by
  obtain ⟨hS, hT, h1, hG, hTr, hSn⟩ := h
  rcases hTr with q | ⟨bd, E2, b1, b2, b3⟩
  · exact Or.inl q
  · exact Or.inr ⟨bd, E2, ⟨b1, b2.1, fun i j hi hj => hG.nn b2 hT.1.2.2.2.1 hj hi⟩, b2.2.2, b3, b2.2.1⟩
theorem LWm.prq3 (h : LWm σ I X o so om out dout ta ar tg ad C t1 t2 t3) : Prq 3 σ I X o ad (tagOk tg t3) := by
  obtain ⟨hS, hT, h1, hG, hTr, hSn⟩ := h
  rcases hSn with ⟨q, -⟩ | ⟨bd, E2, b1, b2, b3, b4⟩
  · exact Or.inl q
  · exact Or.inr ⟨bd, E2, ⟨b1, b2.1, fun i j hi hj => hG.nn b2 hT.1.2.2.2.2.1 hj hi⟩, b2.2.2, b3.self, b2.2.1⟩
/-- a snapshot more -/
theorem LWx.save (h : LWx σ I X o so om out dout ta ar tg ad C n t1 t2 t3) {σ' : SH} {I' X' : IX} (hp : Prp 3 σ σ' I I' X X' o C (tagOk tg t3)) : MS σ' om ar ∧ I' om = I om ∧ X' (ar 1) = X (ar 1) ∧ X' (ar 2) = X (ar 2) ∧
    LW σ' (va_up I' om (upd (th (I om) (nI 0)) 4 (nI 1))) (va_up X' (ar 2) (ycy (X (ar 1)) (X (ar 2)) 4486)) o so om out dout ta ar := by
  obtain ⟨td, E, tg', ⟨g1, g2, g3, g4⟩, ⟨g5, g6, g7, g8, g9⟩, ⟨g10, g11, g12⟩, g13, -⟩ := h.m.grow (Or.inr ⟨rfl, rfl⟩) hp
  obtain ⟨-, -, -, -, hRG, -, -, hIn, hEr⟩ := h
  have hms := g1.2.2.2.1
  have hss := g1.2.2.1
  have so_m : so ≠ om := fun e => by have a := hss.1.2; rw [e, hms.1.2] at a; omega
  have o_m : o ≠ om := fun e => by have a := g1.1.2; rw [e, hms.1.2] at a; omega
  have t0 : ta 0 ≠ ar 2 := fun e => by have a := g2.2.1 0 (by decide); rw [e, g2.2.2 2 (by decide)] at a; omega
  have oth : ∀ {t : Nat} {bd : Nat → Nat} {E : IX}, t < 4 → GB σ' I' X' tg' t bd E → GB σ' (va_up I' om (upd (th (I om) (nI 0)) 4 (nI 1))) (va_up X' (ar 2) (ycy (X (ar 1)) (X (ar 2)) 4486)) tg' t bd E := fun {t} {bd} {E} ht b => by
    refine ⟨b.1, b.2.1, fun k hk => ?_, fun k hk => ?_⟩
    · rw [va_up_ne _ _ (b.nI (by rw [hms.1.2]; omega) k hk)]; exact b.2.2.1 k hk
    · rw [va_up_ne _ _ (b.nX (by rw [g2.2.2 2 (by decide)]; omega) k hk)]; exact b.2.2.2 k hk
  have fm : ∀ j, j ≠ 0 → j ≠ 4 → (va_up I' om (upd (th (I om) (nI 0)) 4 (nI 1))) om j = I om j := fun j h0 h4 => by rw [va_up_self, upd_at, if_neg h4]; exact th_n h0
  refine ⟨hms, g7, g5 1 (by decide), g5 2 (by decide), tg', ad, C, n, t1, t2, t3, g1, g2, g3, oth g2.1.1 g4, ?_, ?_, ?_, ⟨?_, hIn.2.1, ?_, fun i hi => ?_⟩, ⟨?_, ?_⟩⟩
  · rw [va_up_ne _ _ (hms.ne 1 2 (by decide) (by decide) (by decide)), g5 1 (by decide)]; exact hRG
  · rcases g13 rfl with q | ⟨bd, E2, b1, b2, b3⟩
    · exact Or.inl q
    · exact Or.inr ⟨bd, E2, b1, oth g2.1.2.1 b2, b3⟩
  · refine Or.inr ⟨td, E, g10, oth g2.1.2.2.1 g11, ?_, ?_⟩
    · rw [va_up_self]
      exact RG_cong hRG g12 (fun k hk => ycy_in hk)
    · rw [va_up_self, upd_at, if_pos rfl]; rfl
  · rw [va_up_ne _ _ so_m, g8]; exact hIn.1
  · rw [fm 6 (by omega) (by omega)]; exact hIn.2.2.1
  · rw [va_up_ne _ _ t0, va_up_ne _ _ (hms.ne 5 2 (by decide) (by decide) (by decide)), g6 0 (by decide), g5 5 (by decide)]; exact hIn.2.2.2 i hi
  · rw [va_up_ne _ _ o_m, g9, fm 7 (by omega) (by omega)]; exact hEr.1
  · rw [fm 7 (by omega) (by omega)]; exact hEr.2
/-- the snapshot again -/
theorem LWx.rest (h : LWx σ I X o so om out dout ta ar tg ad C n t1 t2 t3) {sd : Nat → Nat} {E : IX} (hR : RG E (X (ar 2))) {σ' : SH} (hσ : ∃ (J : Nat → Nat → Int64) (Z : Nat → Nat → UInt64), σ' = (shL σ, shK σ, shR σ, shN σ, shY σ, J, Z)) (T : Int32) : LW σ' (va_up (put idI I ad (ygc C E)) om (th (I om) T)) (va_up (put idX X ad (ygc C E)) (ar 1) (ycy (X (ar 2)) (X (ar 1)) 4486)) o so om out dout ta ar :=
  h.std hσ T (RG_cong (RG_copy hR h.rg.self) ⟨⟨rfl, rfl, rfl, rfl, rfl⟩, fun _ _ => ⟨rfl, rfl⟩, fun _ _ => ⟨rfl, rfl, rfl, rfl, rfl⟩, fun _ _ => rfl, fun p hp => ⟨(RG_copy hR h.rg.self).self p hp, rfl, rfl, fun _ _ => ⟨rfl, rfl⟩, fun _ _ => rfl⟩⟩ (fun k hk => ycy_in hk))
end Grx

section Cs3
variable {p : Program} {l : Launch} {e : Env} {R : Room} {s : State} {m : MethodId} {args : Array Value} {below : List Frame} {meth : Method} {c : Code} {D : va_G} {cy sa sv : Nat → Nat} {A : Nat → Prop} {Q : State → Prop} {cells slots : Nat} {σ : SH} {I X : IX} {b L i : Nat} {xs : Nat → Int32} {o so om out dout : Nat} {ta ar tg ad : Nat → Nat} {C : IX} {n t1 t2 t3 : Nat}
set_option maxRecDepth 20000 in
theorem lcase_saveSnapshot (hF : Fx p l s m args meth c D cy sa sv A 9 RL cL_law (some .boolean)) (hst : l.stackTraces = false) (hnc : NC s) (hXs : va_X b L xs s s.heap) (hbl : b < s.heap.size) (hbA : ¬ A b) (hi : i + 3 < L) (hL : L ≤ 2048) (hw : LWx σ I X o so om out dout ta ar tg ad C n t1 t2 t3) (hc1 : cells + 60 ≤ R.cells) (hs1 : slots + 5000 ≤ R.slots) (hR1 : 20 ≤ R.frames) (hR2 : 10000 ≤ R.locals)
    (K : ∀ (σ' : SH) (I' X' : IX), LW σ' I' X' o so om out dout ta ar → V p l e R s m args below meth c D cy A Q 9 (cells + 60) (slots + 5000) σ' I' X' 2493 [(0, .ref b), (1, .ref o), (2, .ref om), (3, .ref out), (4, .ref dout), (5, .int (nI i))] []) : V p l e R s m args below meth c D cy A Q 9 cells slots σ I X 2436 [(0, .ref b), (1, .ref o), (2, .ref om), (3, .ref out), (4, .ref dout), (5, .int (nI i))] [] := by
  refine V.aload_n hF dL_law_2436 rfl ?_
  refine V.callV hF dL_law_2437 (ct_X4_saveSnapshot hst σ I X o ad hw.1.1 hw.2.2.1 hw.gb.1 C hw.gb.2.2.1 hw.gb.2.2.2 (tagOk tg t3) hw.m.prq3) lk_L_271 sl_X4_saveSnapshot ⟨_, _, rfl, hw.1.1.1, hw.1.1.2, (Nat.le_of_ble_eq_true rfl), _, _, rfl⟩ ⟨by omega, by omega, by omega, by omega⟩ (Nat.le_of_ble_eq_true rfl) (fun _ _ _ _ h => h.elim) (fun r s2 I2 X2 hx => ?_) rfl
  obtain ⟨e0, hp⟩ := hx
  rw [e0]
  obtain ⟨hms, g7, g1, g2, hl⟩ := hw.save hp
  refine V.aload_n hF dL_law_2440 rfl ?_
  refine V.vI hF dL_law_2441 (ct_X5_saveSnapshot hst s2 I2 X2 om ar hms (I om) g7 (X (ar 1)) g1 (X (ar 2)) g2) lk_L_274 sl_X5_saveSnapshot hms.1.1 hms.1.2 rfl (Nat.le_of_ble_eq_true rfl) ⟨by omega, by omega, by omega, by omega⟩ (Nat.le_of_ble_eq_true rfl) rfl ?_
  refine V.icmp_eq (tgt := 2493) hF dL_law_2444 (by decide) (fun _ => ?_) (fun hq => absurd hw.rg.1.hd.2.2.2 hq)
  refine V.relv [0, 1, 2, 3, 4, 5] rfl ?_
  refine V.widen (k := cells + 60) (n := slots + 5000) (by omega) (by omega) ?_
  exact K _ _ _ hl
set_option maxRecDepth 20000 in
theorem lcase_restoreSnapshot (hF : Fx p l s m args meth c D cy sa sv A 9 RL cL_law (some .boolean)) (hst : l.stackTraces = false) (hnc : NC s) (hXs : va_X b L xs s s.heap) (hbl : b < s.heap.size) (hbA : ¬ A b) (hi : i + 3 < L) (hL : L ≤ 2048) (hw : LWx σ I X o so om out dout ta ar tg ad C n t1 t2 t3) (hc1 : cells + 60 ≤ R.cells) (hs1 : slots + 5000 ≤ R.slots) (hR1 : 20 ≤ R.frames) (hR2 : 10000 ≤ R.locals)
    (K : ∀ (σ' : SH) (I' X' : IX), LW σ' I' X' o so om out dout ta ar → V p l e R s m args below meth c D cy A Q 9 (cells + 60) (slots + 5000) σ' I' X' 2493 [(0, .ref b), (1, .ref o), (2, .ref om), (3, .ref out), (4, .ref dout), (5, .int (nI i))] []) : V p l e R s m args below meth c D cy A Q 9 cells slots σ I X 2449 [(0, .ref b), (1, .ref o), (2, .ref om), (3, .ref out), (4, .ref dout), (5, .int (nI i))] [] := by
  have hms := hw.ms
  refine V.eqI hw.eI ?_
  refine V.eqX hw.eX ?_
  refine V.aload_n hF dL_law_2449 rfl ?_
  refine V.aload_n hF dL_law_2450 rfl ?_
  rcases hw.2.2.2.2.2.2.1 with ⟨q1, q2⟩ | ⟨sd, E, q1, q2, q3, q4⟩
  · refine V.callSW hF dL_law_2451 (ct_L_restoreSnapshot_0 hst σ I X o ad hw.1.1 hw.2.2.1 hw.gb.1 C q1 out hw.1.2.2.2.2.1.1 hw.1.2.2.2.2.1.2.1 hw.1.2.2.2.2.1.2.2) lw_L_restoreSnapshot hnc ⟨by omega, by omega, by omega, by omega⟩ (Nat.le_of_ble_eq_true rfl) (fun r s2 I2 X2 hx => ?_) rfl
    obtain ⟨e0, g, e1, e2, e3⟩ := hx
    rw [e0, e1, e2, e3]
    refine V.istore hF dL_law_2454 (by decide) ?_
    refine V.aload_n hF dL_law_2456 rfl ?_
    refine V.vI hF dL_law_2457 (ct_X5_restoreSnapshot hst (shSetJ σ out g) _ _ om ar hms (I om) (hw.pm C) (X (ar 1)) (hw.pa C (by decide)) (X (ar 2)) (hw.pa C (by decide)) false q2) lk_L_277 sl_X5_restoreSnapshot hms.1.1 hms.1.2 rfl (Nat.le_of_ble_eq_true rfl) ⟨by omega, by omega, by omega, by omega⟩ (Nat.le_of_ble_eq_true rfl) rfl ?_
    refine V.istore hF dL_law_2460 (by decide) ?_
    refine V.aload_n hF dL_law_2462 rfl ?_
    refine V.vI hF dL_law_2463 (ct_X5_thrown hst (shSetJ σ out g) _ _ om ar hms _ (va_up_self _ _ _)) lk_L_145 sl_X5_thrown hms.1.1 hms.1.2 rfl (Nat.le_of_ble_eq_true rfl) ⟨by omega, by omega, by omega, by omega⟩ (Nat.le_of_ble_eq_true rfl) rfl ?_
    refine V.topi (y := nI 1) (th_0 _ _) ?_
    refine V.iload hF dL_law_2466 rfl ?_
    refine V.icmp_eq (tgt := 2473) hF dL_law_2468 (by decide) (fun _ => ?_) (fun hq => absurd rfl hq)
    refine V.iload hF dL_law_2473 rfl ?_
    refine V.if_ne (tgt := 2490) hF dL_law_2475 (by decide) (fun _ => ?_) (fun h0 => absurd h0 (by decide))
    refine V.goto (tgt := 2493) hF dL_law_2490 (by decide) ?_
    refine V.relv [0, 1, 2, 3, 4, 5] rfl ?_
    refine V.widen (k := cells + 60) (n := slots + 5000) (by omega) (by omega) ?_
    exact K _ _ _ (hw.std0 ⟨_, _, rfl⟩ _ hw.rg)
  · refine V.callSW hF dL_law_2451 (ct_L_restoreSnapshot_1 hst σ I X o ad hw.1.1 hw.2.2.1 hw.gb.1 C sd E q1 q2.1 (fun i j hi hj => q2.nn hw.gb (Ne.symm hw.2.1.1.2.2.2.2.1) hj hi) q2.2.2.1 q2.2.2.2 out hw.1.2.2.2.2.1.1 hw.1.2.2.2.2.1.2.1 hw.1.2.2.2.2.1.2.2) lw_L_restoreSnapshot hnc ⟨by omega, by omega, by omega, by omega⟩ (Nat.le_of_ble_eq_true rfl) (fun r s2 I2 X2 hx => ?_) rfl
    obtain ⟨e0, g, e1, e2, e3, hg⟩ := hx
    rw [e0, e1, e2, e3]
    refine V.istore hF dL_law_2454 (by decide) ?_
    refine V.aload_n hF dL_law_2456 rfl ?_
    refine V.vI hF dL_law_2457 (ct_X5_restoreSnapshot hst (shSetJ σ out g) _ _ om ar hms (I om) (hw.pm (ygc C E)) (X (ar 1)) (hw.pa (ygc C E) (by decide)) (X (ar 2)) (hw.pa (ygc C E) (by decide)) true q4) lk_L_277 sl_X5_restoreSnapshot hms.1.1 hms.1.2 rfl (Nat.le_of_ble_eq_true rfl) ⟨by omega, by omega, by omega, by omega⟩ (Nat.le_of_ble_eq_true rfl) rfl ?_
    refine V.istore hF dL_law_2460 (by decide) ?_
    refine V.aload_n hF dL_law_2462 rfl ?_
    refine V.vI hF dL_law_2463 (ct_X5_thrown hst (shSetJ σ out g) _ _ om ar hms _ (va_up_self _ _ _)) lk_L_145 sl_X5_thrown hms.1.1 hms.1.2 rfl (Nat.le_of_ble_eq_true rfl) ⟨by omega, by omega, by omega, by omega⟩ (Nat.le_of_ble_eq_true rfl) rfl ?_
    refine V.topi (y := nI 0) (th_0 _ _) ?_
    refine V.iload hF dL_law_2466 rfl ?_
    refine V.icmp_eq (tgt := 2473) hF dL_law_2468 (by decide) (fun _ => ?_) (fun hq => absurd rfl hq)
    refine V.iload hF dL_law_2473 rfl ?_
    refine V.if_ne (tgt := 2490) hF dL_law_2475 (by decide) (fun hq => absurd rfl hq) (fun h0 => ?_)
    refine V.aload_n hF dL_law_2478 rfl ?_
    refine V.iconst (v := nI 0) hF dL_law_2479 (by decide) ?_
    refine V.laload (j := 0) hF dL_law_2480 hw.1.2.2.2.2.1.1 hw.1.2.2.2.2.1.2.1 rfl (by show 0 < shN σ out; rw [hw.1.2.2.2.2.1.2.2]; omega) (by show shN σ out < _; rw [hw.1.2.2.2.2.1.2.2]; omega) ?_
    have ev : ygc C E 2 6 = ycy (X (ar 2)) (X (ar 1)) 4486 44 := ((RG_copy q3 hw.rg.self).1.hd.2.2.2).trans (ycy_in (by omega)).symm
    refine V.topl ((congrFun (va_up_self (shJ σ) out g) 0).trans (hg.trans (congrArg Int32.toInt64 ev))) ?_
    refine V.iload hF dL_law_2481 rfl ?_
    refine V.i2l hF dL_law_2483 ?_
    refine V.lcmp hF dL_law_2484 ?_
    refine V.if_eq (tgt := 2490) hF dL_law_2485 (by decide) (fun _ => ?_) (fun hq => absurd (lg_self _) hq)
    refine V.goto (tgt := 2493) hF dL_law_2490 (by decide) ?_
    refine V.relv [0, 1, 2, 3, 4, 5] rfl ?_
    refine V.widen (k := cells + 60) (n := slots + 5000) (by omega) (by omega) ?_
    exact K _ _ _ (hw.rest (sd := sd) q3 ⟨_, _, rfl⟩ _)
end Cs3
