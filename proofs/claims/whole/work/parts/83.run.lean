/-! A SCRIPT, RUN -/
/-! the text counts only as far as it goes -/
section Cng
variable {g g' : Rw} {n : Nat}
theorem phe_c (h : ∀ i, i < n → g i = g' i) (a : Nat) : phe g n a = phe g' n a := by
  unfold phe
  by_cases e : a < n
  · rw [if_pos e, if_pos e, h a e]
  · rw [if_neg e, if_neg e]
theorem pdg_c (h : ∀ i, i < n → g i = g' i) (a : Nat) : pdg g n a = pdg g' n a := by unfold pdg; rw [phe_c h]
theorem ppr_c (h : ∀ i, i < n → g i = g' i) (a : Nat) : ppr g n a = ppr g' n a := by unfold ppr; rw [phe_c h]
theorem pcn_c (h : ∀ i, i < n → g i = g' i) (a : Nat) : pcn g n a = pcn g' n a := by unfold pcn; rw [pdg_c h, pdg_c h, pdg_c h]
theorem pd_c (h : ∀ i, i < n → g i = g' i) (a : Nat) : pd g n a = pd g' n a := by unfold pd; rw [phe_c h]
theorem pnm_c (h : ∀ i, i < n → g i = g' i) (a : Nat) : ∀ k, pnm g n a k = pnm g' n a k
  | 0 => rfl
  | 1 => pd_c h a
  | k + 2 => by rw [pnm, pnm, pnm_c h a (k + 1), pd_c h]
theorem pnum_c (h : ∀ i, i < n → g i = g' i) (a : Nat) : pnum g n a = pnum g' n a := by unfold pnum; rw [pcn_c h, pnm_c h]
theorem pneg_c (h : ∀ i, i < n → g i = g' i) (a : Nat) (c : Int32) : pneg g n a c = pneg g' n a c := by unfold pneg; rw [phe_c h]
theorem pev_c (h : ∀ i, i < n → g i = g' i) (a : Nat) : pevA g n a = pevA g' n a := by
  unfold pevA
  simp only [phe_c h, ppr_c h, pdg_c h, pcn_c h, pneg_c h]
theorem pevS_c (h : ∀ i, i < n → g i = g' i) (a : Nat) : pevS g n a = pevS g' n a := by
  unfold pevS
  simp only [phe_c h, pd_c h, pnum_c h, pneg_c h]
theorem pps_c (h : ∀ i, i < n → g i = g' i) : ∀ k, pps g n k = pps g' n k
  | 0 => rfl
  | k + 1 => by rw [pps, pps, pps_c h k, pev_c h]
theorem pgo_c (h : ∀ i, i < n → g i = g' i) (k : Nat) : pgo g n k = pgo g' n k := by unfold pgo; rw [pps_c h, pev_c h, phe_c h]
theorem pK_c (h : ∀ i, i < n → g i = g' i) : pK g n = pK g' n := by
  unfold pK
  rw [show (fun k => !pgo g n k) = fun k => !pgo g' n k from funext (fun k => by rw [pgo_c h])]
theorem pE_c (h : ∀ i, i < n → g i = g' i) : pE g n = pE g' n := by unfold pE; rw [pK_c h, pps_c h, pev_c h]
theorem pok_c (h : ∀ i, i < n → g i = g' i) : pok g n = pok g' n := by unfold pok; rw [pE_c h]
theorem pkd_c (h : ∀ i, i < n → g i = g' i) (k : Nat) : pkd g n k = pkd g' n k := by unfold pkd; rw [pps_c h, phe_c h]
theorem px_c (h : ∀ i, i < n → g i = g' i) (k : Nat) : px g n k = px g' n k := by unfold px; rw [pps_c h, pd_c h]
theorem py_c (h : ∀ i, i < n → g i = g' i) (k : Nat) : py g n k = py g' n k := by unfold py; rw [pps_c h, pevS_c h]
theorem zrL_c (h : ∀ i, i < n → g i = g' i) (v : Rw) : ∀ k, zrL g n v k = zrL g' n v k
  | 0 => rfl
  | k + 1 => by rw [zrL, zrL, zrL_c h v k, pkd_c h, px_c h, py_c h]
theorem zrT_c (h : ∀ i, i < n → g i = g' i) (v : Rw) (k : Nat) : zrT g n v k = zrT g' n v k := by unfold zrT; rw [zrL_c h, pkd_c h, px_c h, py_c h]
theorem zrG_c (h : ∀ i, i < n → g i = g' i) (v : Rw) : zrG g n v = zrG g' n v := by
  unfold zrG
  rw [pK_c h, show (fun k => !decide (zrT g n v k = nI 0)) = fun k => !decide (zrT g' n v k = nI 0) from funext (fun k => by rw [zrT_c h])]
end Cng
/-- all of a good script's events are of the six kinds, and the arrays hold them -/
theorem pk_all {g : Rw} {n : Nat} (hn : n ≤ 60) (hp : pok g n = true) : pK g n ≤ 29 ∧ ∀ k, k ≤ pK g n → pk6 (pkd g n k) := by
  have hb : ∀ j, j < pK g n → pgo g n j = true := fun j hj => by
    have q : (!pgo g n j) = false := by
      rcases zfst_cases (fun k => !pgo g n k) 31 with ⟨e, a⟩ | ⟨-, -, a⟩
      · exact a j (Nat.lt_of_lt_of_eq hj e)
      · exact a j hj
    simpa using q
  have h1 := pps_b hb
  unfold pok at hp
  have he : (pE g n).1 = true := by
    cases h : (pE g n).1 with
    | true => rfl
    | false => rw [h] at hp; exact absurd hp (by simp)
  have he2 : (pevA g n (pps g n (pK g n))).1 = true := by unfold pE at he; exact he
  have h2 := pev_n he2
  refine ⟨by omega, fun k hk => ?_⟩
  rcases Nat.lt_or_ge k (pK g n) with q | q
  · have := hb k q
    simp only [pgo, Bool.and_eq_true] at this
    exact pev_k6 this.1
  · have ek : k = pK g n := by omega
    rw [ek]
    show pk6 (phe g n (pps g n (pK g n)))
    exact pev_k6 he2
theorem zrG_of {g v : Rw} {n : Nat} (hz : ∀ j, j < pK g n + 1 → zrT g n v j = nI 0) : zrG g n v = true := by
  unfold zrG
  exact decide_eq_true (zfst_no (fun j hj => by show (!decide (zrT g n v j = nI 0)) = false; rw [decide_eq_true (hz j hj)]; rfl))
theorem zrG_no {g v : Rw} {n k : Nat} (hk : k < pK g n + 1) (h : zrT g n v k ≠ nI 0) : zrG g n v = false := by
  unfold zrG
  refine decide_eq_false (fun e => ?_)
  rcases zfst_cases (fun k => !decide (zrT g n v k = nI 0)) (pK g n + 1) with ⟨-, a⟩ | ⟨a, -⟩
  · have q : (!decide (zrT g n v k = nI 0)) = false := a k hk
    rw [decide_eq_false h] at q
    exact absurd q (by decide)
  · omega
/-- where the fault stands -/
theorem pE_le {g : Rw} {n : Nat} (hn : n ≤ 60) : (pE g n).2 ≤ 70 := by
  have hb : ∀ j, j < pK g n → pgo g n j = true := fun j hj => by
    have q : (!pgo g n j) = false := by
      rcases zfst_cases (fun k => !pgo g n k) 31 with ⟨e, a⟩ | ⟨-, -, a⟩
      · exact a j (Nat.lt_of_lt_of_eq hj e)
      · exact a j hj
    simpa using q
  have h1 := pps_b hb
  have h2 := pev_b g n (pps g n (pK g n))
  unfold pE
  omega
/-! one event -/
theorem gt3 {q b : Bool} {z : Int32} (h : (if q then (if b then nI 0 else nI 2) else nI 1) = z) (hp : b = true → q = true) : b = decide (z = nI 0) := by
  subst h
  cases b with
  | true => rw [hp rfl]; decide
  | false => cases q <;> decide
theorem gt2 {b : Bool} {z : Int32} (h : (if b then nI 0 else nI 1) = z) : b = decide (z = nI 0) := by
  subst h
  cases b <;> decide
theorem isM_pr {C : IX} {x : Int32} (h : yisM C x = true) : zPr x = true := by
  unfold yisM at h
  exact (Bool.and_eq_true _ _ ▸ h).1
theorem RG.stp {C : IX} {v : Rw} (h : RG C v) (c x y : Int32) (hT : zdT v c x y = nI 0) : ∃ C', RG C' (zdV v c x y) := by
  by_cases h1 : c = nI 98
  · subst h1; rw [(zd_98 v x y).1] at hT; rw [(zd_98 v x y).2]; exact ⟨_, ((br_broadcast h x y).2.1 hT).2⟩
  by_cases h2 : c = nI 97
  · subst h2; rw [(zd_97 v x y).1] at hT; rw [(zd_97 v x y).2]; exact ⟨_, ((br_arrive h x y).2.1 hT).2⟩
  by_cases h3 : c = nI 103
  · subst h3; rw [(zd_103 v x y).1] at hT; rw [(zd_103 v x y).2]; exact ⟨_, ((br_gossip h x y).2.1 hT).2⟩
  by_cases h4 : c = nI 106
  · subst h4; rw [(zd_106 v x y).1] at hT; rw [(zd_106 v x y).2]; exact ⟨_, ((br_requestJoin h x).2.1 hT).2⟩
  by_cases h5 : c = nI 108
  · subst h5; rw [(zd_108 v x y).1] at hT; rw [(zd_108 v x y).2]; exact ⟨_, ((br_requestLeave h x).2.1 hT).2⟩
  · rw [zdT, if_neg h1, if_neg h2, if_neg h3, if_neg h4, if_neg h5] at hT
    rw [zdV, if_neg h1, if_neg h2, if_neg h3, if_neg h4, if_neg h5]
    exact ⟨_, ((br_install h).2.1 hT).2⟩
theorem RG.run {C : IX} {v : Rw} (h : RG C v) (g : Rw) (n : Nat) : ∀ k, (∀ j, j < k → zrT g n v j = nI 0) → ∃ C', RG C' (zrL g n v k)
  | 0, _ => ⟨C, h⟩
  | k + 1, hj => by
    obtain ⟨C', h'⟩ := RG.run h g n k (fun j q => hj j (by omega))
    exact h'.stp _ _ _ (hj k (by omega))
section Pf
variable {l : Launch} {D : va_G} {cy sa sv : Nat → Nat}
def Pfm (l : Launch) (D : va_G) (cy sa sv : Nat → Nat) (v : Rw) (c x y : Int32) (C C' : IX) : Prop := (∀ (σ : SH) (I X : IX) (ad : Nat → Nat), GS σ ad → Ct l D cy sa sv yX0_perform cX0_perform 4 (some .boolean) 5 0 0 [.ref (ad 100), .int c, .int x, .int y] σ (put idI I ad C) (put idX X ad C) (pR (some (.int (bI (decide (zdT v c x y = nI 0))))) σ (put idI I ad C') (put idX X ad C')) noX) ∧ (zdT v c x y = nI 0 → RG C' (zdV v c x y)) ∧ ∀ p, p < 6 → C' (10 + p) 0 = nI p
theorem pfm_of {v : Rw} {c x y : Int32} {C C1 : IX} {b : Bool} (h : RG C v) (hb : b = decide (zdT v c x y = nI 0)) (hr : zdT v c x y = nI 0 → RG C1 (zdV v c x y)) (hc : ∀ (σ : SH) (I X : IX) (ad : Nat → Nat), GS σ ad → Ct l D cy sa sv yX0_perform cX0_perform 4 (some .boolean) 5 0 0 [.ref (ad 100), .int c, .int x, .int y] σ (put idI I ad C) (put idX X ad C) (pR (some (.int (bI b))) σ (put idI I ad (if b then C1 else C)) (put idX X ad (if b then C1 else C))) noX) : Pfm l D cy sa sv v c x y C (if b then C1 else C) := by
  refine ⟨fun σ I X ad hG => by rw [← hb]; exact hc σ I X ad hG, fun hT => ?_, fun p hp => ?_⟩
  · rw [hb, decide_eq_true hT, if_pos rfl]; exact hr hT
  · cases e : b with
    | true => rw [if_pos rfl]; exact (hr (of_decide_eq_true (hb.symm.trans e))).self p hp
    | false => rw [if_neg Bool.false_ne_true]; exact h.self p hp
theorem perf (hst : l.stackTraces = false) {C : IX} {v : Rw} (h : RG C v) {c : Int32} (hc : pk6 c) (x y : Int32) : ∃ C', Pfm l D cy sa sv v c x y C C' := by
  have hC := h.1.wc
  rcases hc with rfl | rfl | rfl | rfl | rfl | rfl
  · refine ⟨_, pfm_of (b := yisM C x && !yfull C) h (by rw [(zd_98 v x y).1]; exact gt3 (br_broadcast h x y).1 (fun q => isM_pr ((Bool.and_eq_true _ _ ▸ q).1))) (fun q => ?_) (fun σ I X ad hG => ct_X0_perform_98 hst σ I X ad hG C hC x y)⟩
    rw [(zd_98 v x y).1] at q; rw [(zd_98 v x y).2]; exact ((br_broadcast h x y).2.1 q).2
  · refine ⟨_, pfm_of (b := yisM C x && yhas C y && !decide (y < C 100 6)) h (by rw [(zd_97 v x y).1]; exact gt3 (br_arrive h x y).1 (fun q => by simp only [Bool.and_eq_true] at q ⊢; exact ⟨isM_pr q.1.1, q.1.2⟩)) (fun q => ?_) (fun σ I X ad hG => ct_X0_perform_97 hst σ I X ad hG C hC x y)⟩
    rw [(zd_97 v x y).1] at q; rw [(zd_97 v x y).2]; exact ((br_arrive h x y).2.1 q).2
  · refine ⟨_, pfm_of (b := yisM C x && yisM C y && !decide (x = y)) h (by rw [(zd_103 v x y).1]; exact gt3 (br_gossip h x y).1 (fun q => by simp only [Bool.and_eq_true] at q ⊢; exact ⟨isM_pr q.1.1, isM_pr q.1.2⟩)) (fun q => ?_) (fun σ I X ad hG => ct_X0_perform_103 hst σ I X ad hG C hC x y)⟩
    rw [(zd_103 v x y).1] at q; rw [(zd_103 v x y).2]; exact ((br_gossip h x y).2.1 q).2
  · refine ⟨_, pfm_of (b := zPr x && !zbit (C 100 5) x) h ?_ (fun q => ?_) (fun σ I X ad hG => ct_X0_perform_106 hst σ I X ad hG C hC x y)⟩
    · rw [(zd_106 v x y).1, ← (br_requestJoin h x).1]
      cases zPr x <;> cases zbit (C 100 5) x <;> decide
    · rw [(zd_106 v x y).1] at q; rw [(zd_106 v x y).2]; exact ((br_requestJoin h x).2.1 q).2
  · refine ⟨_, pfm_of (b := zPr x && zbit (C 100 5) x && !decide ((ymem C &&& C 100 5) &&& ((nI 1 <<< (x &&& 31)) ^^^ (-1)) = 0)) h ?_ (fun q => ?_) (fun σ I X ad hG => ct_X0_perform_108 hst σ I X ad hG C hC x y)⟩
    · rw [(zd_108 v x y).1, ← (br_requestLeave h x).1]
      generalize decide ((ymem C &&& C 100 5) &&& ((nI 1 <<< (x &&& 31)) ^^^ (-1)) = 0) = b2
      cases zPr x <;> cases zbit (C 100 5) x <;> cases b2 <;> decide
    · rw [(zd_108 v x y).1] at q; rw [(zd_108 v x y).2]; exact ((br_requestLeave h x).2.1 q).2
  · refine ⟨_, pfm_of (b := !decide (nI 20 ≤ C 100 4)) h (by rw [(zd_105 v x y).1]; exact gt2 (br_install h).1) (fun q => ?_) (fun σ I X ad hG => ct_X0_perform_105 hst σ I X ad hG C hC h.yws x y)⟩
    rw [(zd_105 v x y).1] at q; rw [(zd_105 v x y).2]; exact ((br_install h).2.1 q).2
end Pf
/-! what stands meanwhile -/
section Mw
variable {σ σ' : SH} {I I' X X' : IX} {o so om out dout : Nat} {ta ar : Nat → Nat} {tg ad : Nat → Nat} {C : IX} {n t1 t2 t3 : Nat}
theorem MS.gw {ex : Nat → Prop} (h : MS σ om ar) (g : Gw σ σ' I I' X X' ex) (hn : ¬ ex om) : MS σ' om ar := by
  have sa : ∀ {k n : Nat}, MA σ om ar k n → MA σ' om ar k n := fun {k n} a => ⟨(congrFun (g.2 _ h.1.1 hn).1 k).trans a.1, (g.1 _ a.2.1).1, (g.1 _ a.2.1).2.1.trans a.2.2.1, (g.1 _ a.2.1).2.2.1.trans a.2.2.2⟩
  exact ⟨⟨(g.1 _ h.1.1).1, (g.1 _ h.1.1).2.1.trans h.1.2⟩, sa h.m1, sa h.m2, sa h.m3, sa h.m5, sa h.m8, sa h.m11, sa h.m12, sa h.m13, h.2.2.2.2.2.2.2.2.2⟩
/-- the script's own cells, and the object's own number -/
theorem LWm.frm (h : LWm σ I X o so om out dout ta ar tg ad C t1 t2 t3) (hI : ∀ a, a ≠ so → a ≠ o → I' a = I a) (hX : ∀ a, (∀ j, j ∈ [0, 2, 3, 4] → a ≠ ta j) → X' a = X a) : LWm σ I' X' o so om out dout ta ar tg ad C t1 t2 t3 := by
  obtain ⟨hS, hT, h1, hG, hTr, hSn⟩ := h
  have hms := hS.2.2.2.1
  have hss := hS.2.2.1
  have om_o : om ≠ o := fun e => by have a := hms.1.2; rw [e, hS.1.2] at a; omega
  have om_s : om ≠ so := fun e => by have a := hms.1.2; rw [e, hss.1.2] at a; omega
  have oth : ∀ {t : Nat} {bd : Nat → Nat} {E : IX}, t < 4 → GB σ I X tg t bd E → GB σ I' X' tg t bd E := fun {t} {bd} {E} ht b => by
    refine ⟨b.1, b.2.1, fun k hk => ?_, fun k hk => ?_⟩
    · rw [hI _ (b.nI (by rw [hss.1.2]; omega) k hk) (b.nI (by rw [hS.1.2]; omega) k hk)]; exact b.2.2.1 k hk
    · rw [hX _ (fun j hj => b.nX (by rw [hT.2.1 j hj]; omega) k hk)]; exact b.2.2.2 k hk
  refine ⟨hS, hT, h1, oth hT.1.1 hG, ?_, ?_⟩
  · rcases hTr with q | ⟨td, E, q1, q2, q3⟩
    · exact Or.inl q
    · exact Or.inr ⟨td, E, q1, oth hT.1.2.1 q2, q3⟩
  · have x2 : X' (ar 2) = X (ar 2) := hX _ (fun j hj e => by have a := hT.2.2 2 (by decide); rw [e, hT.2.1 j hj] at a; omega)
    rcases hSn with ⟨q1, q2⟩ | ⟨sd, E, q1, q2, q3, q4⟩
    · exact Or.inl ⟨q1, by rw [hI _ om_s om_o]; exact q2⟩
    · exact Or.inr ⟨sd, E, q1, oth hT.1.2.2.1 q2, by rw [x2]; exact q3, by rw [hI _ om_s om_o]; exact q4⟩
/-- the trial gets other rows -/
theorem LWm.tri (h : LWm σ I X o so om out dout ta ar tg ad C t1 t2 t3) {td : Nat → Nat} {E : IX} (ht : shR σ o 2 = some (td 100)) (hB : GB σ I X tg t2 td E) (C' : IX) (hs : ∀ p, p < 6 → C' (10 + p) 0 = nI p) : LWm σ (put idI I td C') (put idX X td C') o so om out dout ta ar tg ad C t1 t2 t3 ∧ GB σ (put idI I td C') (put idX X td C') tg t2 td C' := by
  obtain ⟨hS, hT, h1, hG, hTr, hSn⟩ := h
  have hms := hS.2.2.2.1
  have oth : ∀ {t : Nat} {bd : Nat → Nat} {F : IX}, t2 ≠ t → GB σ I X tg t bd F → GB σ (put idI I td C') (put idX X td C') tg t bd F := fun {t} {bd} {F} ht b =>
    ⟨b.1, b.2.1, fun k hk => (put_off (fun j hj => hB.nn b ht (mem_a hj) (mem_a hk))).trans (b.2.2.1 k hk), fun k hk => (put_off (fun j hj => hB.nn b ht (mem_b hj) (mem_b hk))).trans (b.2.2.2 k hk)⟩
  have hB' : GB σ (put idI I td C') (put idX X td C') tg t2 td C' := ⟨hB.1, hB.2.1, fun k hk => put_at hB.1.jI hk, fun k hk => put_at hB.1.jX hk⟩
  have eo : put idI I td C' om = I om := put_off (hB.nI (by rw [hms.1.2]; omega))
  have x2 : put idX X td C' (ar 2) = X (ar 2) := put_off (hB.nX (by rw [hT.2.2 2 (by decide)]; have := hT.1.2.1; omega))
  refine ⟨⟨hS, hT, h1, oth (Ne.symm hT.1.2.2.2.1) hG, Or.inr ⟨td, C', ht, hB', hs⟩, ?_⟩, hB'⟩
  rcases hSn with ⟨q1, q2⟩ | ⟨sd, F, q1, q2, q3, q4⟩
  · exact Or.inl ⟨q1, by rw [eo]; exact q2⟩
  · exact Or.inr ⟨sd, F, q1, oth hT.1.2.2.2.2.2 q2, by rw [x2]; exact q3, by rw [eo]; exact q4⟩
/-- the trial and the group change places -/
theorem LWm.swp (h : LWm σ I X o so om out dout ta ar tg ad C t1 t2 t3) (hc : ∀ p, p < 6 → C (10 + p) 0 = nI p) {td : Nat → Nat} {E : IX} (hB : GB σ I X tg t2 td E) : LWm (shSetR (shSetR σ o 1 (some (td 100))) o 2 (some (ad 100))) I X o so om out dout ta ar tg td E t2 t1 t3 := by
  obtain ⟨hS, hT, h1, hG, hTr, hSn⟩ := h
  have hms := hS.2.2.2.1
  have hss := hS.2.2.1
  have om_o : om ≠ o := fun e => by have a := hms.1.2; rw [e, hS.1.2] at a; omega
  have so_o : so ≠ o := fun e => by have a := hss.1.2; rw [e, hS.1.2] at a; omega
  have g : Gw σ (shSetR (shSetR σ o 1 (some (td 100))) o 2 (some (ad 100))) I I X X (fun b => b = o) := Gw.trans Gw.setR Gw.setR (fun _ _ e => e)
  have rr : ∀ k, shR (shSetR (shSetR σ o 1 (some (td 100))) o 2 (some (ad 100))) o k = va_up (va_up (shR σ o) 1 (some (td 100))) 2 (some (ad 100)) k := fun k => by
    show va_up (va_up (shR σ) o (va_up (shR σ o) 1 (some (td 100)))) o (va_up (va_up (shR σ) o (va_up (shR σ o) 1 (some (td 100))) o) 2 (some (ad 100))) o k = _
    rw [va_up_self, va_up_self]
  have oth : ∀ {t : Nat} {bd : Nat → Nat} {F : IX}, GB σ I X tg t bd F → GB (shSetR (shSetR σ o 1 (some (td 100))) o 2 (some (ad 100))) I X tg t bd F := fun {t} {bd} {F} b => ⟨b.1.gw g (b.1.n4 hS.1.2), b.2⟩
  refine ⟨⟨hS.1, ?_, hss.gw g so_o, hms.gw g om_o, hS.2.2.2.2⟩, ⟨⟨hT.1.2.1, hT.1.1, hT.1.2.2.1, Ne.symm hT.1.2.2.2.1, hT.1.2.2.2.2.2, hT.1.2.2.2.2.1⟩, hT.2⟩, ?_, oth hB, Or.inr ⟨ad, C, ?_, oth hG, hc⟩, ?_⟩
  · rw [rr, va_up_ne _ _ (by decide), va_up_ne _ _ (by decide)]; exact hS.2.1
  · rw [rr, va_up_ne _ _ (by decide), va_up_self]
  · rw [rr, va_up_self]
  · have r3 : shR (shSetR (shSetR σ o 1 (some (td 100))) o 2 (some (ad 100))) o 3 = shR σ o 3 := by rw [rr, va_up_ne _ _ (by decide), va_up_ne _ _ (by decide)]
    rcases hSn with ⟨q1, q2⟩ | ⟨sd, F, q1, q2, q3, q4⟩
    · exact Or.inl ⟨r3.trans q1, q2⟩
    · exact Or.inr ⟨sd, F, r3.trans q1, oth q2, q3, q4⟩
end Mw
/-- what the class's run leaves: the group that answers to w, the object's number -/
def RunM (σ' : SH) (I' X' I X : IX) (o so om out dout : Nat) (ta ar : Nat → Nat) (w : Rw) (e4 : Int32) : Prop := ∃ (tg ad : Nat → Nat) (C : IX) (t1 t2 t3 : Nat), LWm σ' I' X' o so om out dout ta ar tg ad C t1 t2 t3 ∧ RG C w ∧ (I' om = I om ∧ ∀ j, j ∈ mIx → X' (ar j) = X (ar j)) ∧ I' so 1 = nI 0 ∧ I' o 4 = e4

section Rn
variable {l : Launch} {D : va_G} {cy sa sv : Nat → Nat}
theorem shSetR_comm {σ : SH} {o i j : Nat} {a b : Option Nat} (h : i ≠ j) : shSetR (shSetR σ o i a) o j b = shSetR (shSetR σ o j b) o i a := by
  have e : va_up (va_up (shR σ) o (va_up (shR σ o) i a)) o (va_up (va_up (shR σ) o (va_up (shR σ o) i a) o) j b) = va_up (va_up (shR σ) o (va_up (shR σ o) j b)) o (va_up (va_up (shR σ) o (va_up (shR σ o) j b) o) i a) := by
    funext q k
    by_cases hq : q = o
    · subst hq
      rw [va_up_self, va_up_self, va_up_self, va_up_self]
      by_cases hk : k = j
      · subst hk
        rw [va_up_self, va_up_ne _ _ (Ne.symm h), va_up_self]
      · by_cases hi : k = i
        · subst hi
          rw [va_up_ne _ _ h, va_up_self, va_up_self]
        · rw [va_up_ne _ _ hk, va_up_ne _ _ hi, va_up_ne _ _ hi, va_up_ne _ _ hk]
    · rw [va_up_ne _ _ hq, va_up_ne _ _ hq, va_up_ne _ _ hq, va_up_ne _ _ hq]
  exact congrArg (fun z => (σ.1, σ.2.1, z, σ.2.2.2)) e
set_option maxRecDepth 20000 in
theorem ct_X4_run (hst : l.stackTraces = false) (σ : SH) (I X : IX) (o so om out dout : Nat) (ta ar tg ad : Nat → Nat) (C : IX) (n t1 t2 t3 : Nat) (hw : LWx σ I X o so om out dout ta ar tg ad C n t1 t2 t3) : Ct l D cy sa sv yX4_run cX4_run 4 (some .int) 7 36 3771 [.ref o] σ I X (fun v' σ' I' X' => v' = some (.int (nI (pK (X (ta 0)) n + 1))) ∧ pok (X (ta 0)) n = true ∧ zrG (X (ta 0)) n (X (ar 1)) = true ∧ RunM σ' I' X' I X o so om out dout ta ar (zrL (X (ta 0)) n (X (ar 1)) (pK (X (ta 0)) n + 1)) (I o 4)) (fun E σ' I' X' => (E = eIAE ∧ pok (X (ta 0)) n = false ∧ RunM σ' I' X' I X o so om out dout ta ar (X (ar 1)) (nI (pE (X (ta 0)) n).2)) ∨ (E = eISE ∧ pok (X (ta 0)) n = true ∧ zrG (X (ta 0)) n (X (ar 1)) = false ∧ RunM σ' I' X' I X o so om out dout ta ar (X (ar 1)) (I o 4))) := by
  have hO := hw.1.1
  have h0 := hw.1.2.1
  have hS := hw.ss
  have hms := hw.ms
  have hIn := hw.2.2.2.2.2.2.2.1
  have so_o : so ≠ o := fun e => by have a := hS.1.2; rw [e, hO.2] at a; omega
  have so_m : om ≠ so := fun e => by have a := hms.1.2; rw [e, hS.1.2] at a; omega
  have o_m : om ≠ o := fun e => by have a := hms.1.2; rw [e, hO.2] at a; omega
  refine Ct.of (by decide) hst (Nat.le_of_ble_eq_true rfl) ?_
  intro pp ee ss mm args below meth kc A hF hnm hout
  refine V.etaI so rfl ?_
  refine V.aload_n hF dX4_run_0 rfl ?_
  refine V.getR hF dX4_run_1 fl_X4_10 hO.1 hO.2 rfl h0 ?_
  refine V.callV hF dX4_run_4 (ct_X3_parse hst σ I X so ta hS (I so) (X (ta 0)) rfl n hIn.1 hIn.2.1) lk_X4_251 sl_X3_parse ⟨_, _, rfl, hS.1.1, hS.1.2, (Nat.le_of_ble_eq_true rfl), _, _, rfl⟩ (fit_of rfl) (Nat.le_of_ble_eq_true rfl) (fun _ _ _ _ h => h.elim) (fun r s2 I2 X2 hx => ?_) rfl
  obtain ⟨e0, e1, f1, gk, gf, gs, e2, e3, k1, k6, k5⟩ := hx
  rw [e0, e1, e2, e3]
  refine V.istore_n hF dX4_run_7 (by decide) ?_
  refine V.aload_n hF dX4_run_8 rfl ?_
  refine V.getR hF dX4_run_9 fl_X4_10 hO.1 hO.2 rfl h0 ?_
  refine V.vV hF dX4_run_12 (ct_X3_clear hst σ I (N3 X (ta 2) (ta 3) (ta 4) gk gf gs) so ta hS f1) lk_X4_254 sl_X3_clear hS.1.1 hS.1.2 rfl (Nat.le_of_ble_eq_true rfl) (fit_of rfl) (Nat.le_of_ble_eq_true rfl) rfl ?_
  have nt : ∀ a, (∀ j, j ∈ [0, 2, 3, 4] → a ≠ ta j) → N3 X (ta 2) (ta 3) (ta 4) gk gf gs a = X a := fun a ha => N3_o (ha 2 (by decide)) (ha 3 (by decide)) (ha 4 (by decide)) rfl
  have am : ∀ j, j ∈ mIx → N3 X (ta 2) (ta 3) (ta 4) gk gf gs (ar j) = X (ar j) := fun j hj => nt _ (fun i hi e => by have a := hw.2.1.2.2 j hj; rw [e, hw.2.1.2.1 i hi] at a; omega)
  refine V.iload_n hF dX4_run_15 rfl ?_
  refine V.if_neB (tgt := 41) hF dX4_run_16 (by decide) (fun hp => ?_) (fun hp => ?_)
  · have hm3 : LWm σ (va_up I so (upd f1 1 (nI 0))) (N3 X (ta 2) (ta 3) (ta 4) gk gf gs) o so om out dout ta ar tg ad C t1 t2 t3 := hw.m.frm (fun a n1 _ => va_up_ne _ _ n1) nt
    obtain ⟨k5, hE⟩ := k5 hp
    refine V.aload_n hF dX4_run_41 rfl ?_
    refine V.callV hF dX4_run_42 (ct_X4_copyToTrial hst σ (va_up I so (upd f1 1 (nI 0))) (N3 X (ta 2) (ta 3) (ta 4) gk gf gs) o ad hO hm3.2.2.1 hm3.2.2.2.1.1 C hm3.2.2.2.1.2.2.1 hm3.2.2.2.1.2.2.2 (tagOk tg t2) hm3.prq2) lk_X4_262 sl_X4_copyToTrial ⟨_, _, rfl, hO.1, hO.2, (Nat.le_of_ble_eq_true rfl), _, _, rfl⟩ (fit_of rfl) (Nat.le_of_ble_eq_true rfl) (fun _ _ _ _ h => h.elim) (fun r s4 I4 X4 hx => ?_) rfl
    obtain ⟨⟨t0, e0, ht0⟩, hpr⟩ := hx
    rw [e0]
    obtain ⟨td, E, tg', ⟨g1, g2, g3, g4⟩, ⟨g5, g6, g7, g8, g9⟩, ⟨g10, g11, g12⟩, -, g13⟩ := hm3.grow (Or.inl ⟨rfl, rfl⟩) hpr
    have et : t0 = td 100 := Option.some.inj (ht0.symm.trans g10)
    subst et
    have hR0 : RG E (X (ar 1)) := RG_cong hw.rg g12 (fun _ _ => rfl)
    have hm4 : LWm s4 I4 X4 o so om out dout ta ar tg' ad C t1 t2 t3 := ⟨g1, g2, g3, g4, Or.inr ⟨td, E, g10, g11, hR0.self⟩, g13 rfl⟩
    have hO4 := g1.1
    have h04 := g1.2.1
    have hS4 := g1.2.2.1
    have nso : ∀ C' : IX, put idI I4 td C' so = upd f1 1 (nI 0) := fun C' => (put_off (g11.nI (by rw [hS4.1.2]; omega))).trans (g8.trans (va_up_self _ _ _))
    have nom : ∀ C' : IX, put idI I4 td C' om = I om := fun C' => (put_off (g11.nI (by rw [g1.2.2.2.1.1.2]; omega))).trans (g7.trans (va_up_ne _ _ so_m))
    have no : ∀ C' : IX, put idI I4 td C' o = I o := fun C' => (put_off (g11.nI (by rw [hO4.2]; omega))).trans (g9.trans (va_up_ne _ _ (Ne.symm so_o)))
    have nta : ∀ (C' : IX) (j : Nat), j ∈ [0, 2, 3, 4] → put idX X4 td C' (ta j) = N3 X (ta 2) (ta 3) (ta 4) gk gf gs (ta j) := fun C' j hj => (put_off (g11.nX (by rw [g2.2.1 j hj]; have := g2.1.2.1; omega))).trans (g6 j hj)
    have nar : ∀ (C' : IX) (j : Nat), j ∈ mIx → put idX X4 td C' (ar j) = X (ar j) := fun C' j hj => ((put_off (g11.nX (by rw [g2.2.2 j hj]; have := g2.1.2.1; omega))).trans (g5 j hj)).trans (am j hj)
    have n2 : ∀ C' : IX, put idX X4 td C' (ta 2) = gk := fun C' => (nta C' 2 (by decide)).trans (N3_a hS.d3)
    have n3 : ∀ C' : IX, put idX X4 td C' (ta 3) = gf := fun C' => (nta C' 3 (by decide)).trans (N3_b hS.d3)
    have n4 : ∀ C' : IX, put idX X4 td C' (ta 4) = gs := fun C' => (nta C' 4 (by decide)).trans N3_c
    obtain ⟨hK9, hK⟩ := pk_all hIn.2.1 hp
    have L48 : ∀ (n48 k : Nat) (Ck : IX), pK (X (ta 0)) n + 1 - k < n48 → k ≤ pK (X (ta 0)) n + 1 → (∀ j, j < k → zrT (X (ta 0)) n (X (ar 1)) j = nI 0) → RG Ck (zrL (X (ta 0)) n (X (ar 1)) k) → V pp l ee (Rm 7 36 3771) ss mm args below meth kc D cy A (QM below args ss D cy A (fun v' σ' I' X' => v' = some (.int (nI (pK (X (ta 0)) n + 1))) ∧ pok (X (ta 0)) n = true ∧ zrG (X (ta 0)) n (X (ar 1)) = true ∧ RunM σ' I' X' I X o so om out dout ta ar (zrL (X (ta 0)) n (X (ar 1)) (pK (X (ta 0)) n + 1)) (I o 4)) (fun E σ' I' X' => (E = eIAE ∧ pok (X (ta 0)) n = false ∧ RunM σ' I' X' I X o so om out dout ta ar (X (ar 1)) (nI (pE (X (ta 0)) n).2)) ∨ (E = eISE ∧ pok (X (ta 0)) n = true ∧ zrG (X (ta 0)) n (X (ar 1)) = false ∧ RunM σ' I' X' I X o so om out dout ta ar (X (ar 1)) (I o 4))) 36 3771) 4 35 3765 s4 (put idI I4 td Ck) (put idX X4 td Ck) 48 [(0, .ref o), (1, .int (bI (pok (X (ta 0)) n))), (2, .ref (td 100)), (3, .int (nI k))] [] := by
      intro n48
      induction n48 with
      | zero => intro k Ck q; omega
      | succ n48 ih =>
        intro k Ck hn48 hk hz hR
        obtain ⟨hmt, hbt⟩ := hm4.tri g10 g11 Ck hR.self
        refine V.iload_n hF dX4_run_48 rfl ?_
        refine V.aload_n hF dX4_run_49 rfl ?_
        refine V.getR hF dX4_run_50 fl_X4_10 hO4.1 hO4.2 rfl h04 ?_
        refine V.getIF hF dX4_run_53 fl_X4_266 hS4.1.1 hS4.1.2 rfl (nso Ck) ?_
        refine V.topi (y := nI (pK (X (ta 0)) n + 1)) ((by rw [upd_at, if_neg (by omega)] : upd f1 1 (nI 0) 5 = f1 5).trans k5) ?_
        refine V.icmp_ge (tgt := 110) hF dX4_run_56 (by decide) (fun hq => ?_) (fun hq => ?_)
        · have ek : k = pK (X (ta 0)) n + 1 := by
            have := nI_ge' hq (by omega) (by omega)
            omega
          subst ek
          have hG : zrG (X (ta 0)) n (X (ar 1)) = true := zrG_of hz
          refine V.aload_n hF dX4_run_110 rfl ?_
          refine V.aload_n hF dX4_run_111 rfl ?_
          refine V.getR hF dX4_run_112 fl_X4_19 hO4.1 hO4.2 rfl g3 ?_
          refine V.putRv (r := some (ad 100)) hF dX4_run_115 fl_X4_23 rfl (Or.inl rfl) (Or.inl ⟨_, rfl⟩) hO4.1 hO4.2 rfl ?_
          refine V.aload_n hF dX4_run_118 rfl ?_
          refine V.aload_n hF dX4_run_119 rfl ?_
          refine V.putRv (r := some (td 100)) hF dX4_run_120 fl_X4_19 rfl (Or.inl rfl) (Or.inl ⟨_, rfl⟩) hO4.1 hO4.2 rfl ?_
          rw [shSetR_comm (show (2 : Nat) ≠ 1 by decide)]
          have hms5 := hmt.swp hw.rg.self hbt
          refine V.aload_n hF dX4_run_123 rfl ?_
          refine V.getR hF dX4_run_124 fl_X4_10 hms5.1.1.1 hms5.1.1.2 rfl hms5.1.2.1 ?_
          refine V.getIF hF dX4_run_127 fl_X4_266 hms5.1.2.2.1.1.1 hms5.1.2.2.1.1.2 rfl (nso Ck) ?_
          refine V.topi (y := nI (pK (X (ta 0)) n + 1)) ((by rw [upd_at, if_neg (by omega)] : upd f1 1 (nI 0) 5 = f1 5).trans k5) ?_
          refine V.iret hF dX4_run_130 (Nat.le_of_ble_eq_true rfl) (Nat.le_of_ble_eq_true rfl) ?_
          exact ⟨rfl, hp, hG, tg', td, Ck, t2, t1, t3, hms5, hR, ⟨nom Ck, nar Ck⟩, by rw [nso, upd_at, if_pos rfl], by rw [no]⟩
        · have ek : k ≤ pK (X (ta 0)) n := by
            rcases Nat.lt_or_ge k (pK (X (ta 0)) n + 1) with q | q
            · omega
            · exact absurd (nI_le q (by omega)) hq
          obtain ⟨i1, i2⟩ := hE k (by omega)
          obtain ⟨C', hP⟩ := perf (D := D) (cy := cy) (sa := sa) (sv := sv) hst hR (show pk6 (gk k) by rw [i1]; exact hK k ek) (gf k) (gs k)
          have htk := zd_tk (v := zrL (X (ta 0)) n (X (ar 1)) k) (hK k ek) i2
          rw [← i1] at htk
          have eT : zdT (zrL (X (ta 0)) n (X (ar 1)) k) (gk k) (gf k) (gs k) = zrT (X (ta 0)) n (X (ar 1)) k := by rw [htk.1, zrT, i1]
          have eV : zdV (zrL (X (ta 0)) n (X (ar 1)) k) (gk k) (gf k) (gs k) = zrL (X (ta 0)) n (X (ar 1)) (k + 1) := by rw [htk.2, zrL, i1]
          refine V.aload_n hF dX4_run_59 rfl ?_
          refine V.aload_n hF dX4_run_60 rfl ?_
          refine V.getR hF dX4_run_61 fl_X4_10 hO4.1 hO4.2 rfl h04 ?_
          refine V.getR hF dX4_run_64 fl_X4_269 hS4.1.1 hS4.1.2 rfl hS4.a2.1 ?_
          refine V.iload_n hF dX4_run_67 rfl ?_
          refine V.caloadF (j := k) hF dX4_run_68 hS4.a2.2.1 hS4.a2.2.2.1 rfl (hS4.a2.lt (by omega)) (hS4.a2.sm (by omega)) (n2 Ck) ?_
          refine V.aload_n hF dX4_run_69 rfl ?_
          refine V.getR hF dX4_run_70 fl_X4_10 hO4.1 hO4.2 rfl h04 ?_
          refine V.getR hF dX4_run_73 fl_X4_273 hS4.1.1 hS4.1.2 rfl hS4.a3.1 ?_
          refine V.iload_n hF dX4_run_76 rfl ?_
          refine V.ialoadF (j := k) hF dX4_run_77 hS4.a3.2.1 hS4.a3.2.2.1 rfl (hS4.a3.lt (by omega)) (hS4.a3.sm (by omega)) (n3 Ck) ?_
          refine V.aload_n hF dX4_run_78 rfl ?_
          refine V.getR hF dX4_run_79 fl_X4_10 hO4.1 hO4.2 rfl h04 ?_
          refine V.getR hF dX4_run_82 fl_X4_276 hS4.1.1 hS4.1.2 rfl hS4.a4.1 ?_
          refine V.iload_n hF dX4_run_85 rfl ?_
          refine V.ialoadF (j := k) hF dX4_run_86 hS4.a4.2.1 hS4.a4.2.2.1 rfl (hS4.a4.lt (by omega)) (hS4.a4.sm (by omega)) (n4 Ck) ?_
          refine V.vI hF dX4_run_87 (hP.1 s4 I4 X4 td g11.1) lk_X4_279 sl_X0_perform g11.1.g.1 g11.1.g.2 rfl (Nat.le_of_ble_eq_true rfl) (fit_of rfl) (Nat.le_of_ble_eq_true rfl) rfl ?_
          refine V.if_neB (tgt := 104) hF dX4_run_90 (by decide) (fun hy => ?_) (fun hy => ?_)
          · have hT := of_decide_eq_true hy
            refine V.iinc (v := nI (k + 1)) hF dX4_run_104 rfl (by exact nI_1 _) (by decide) ?_
            refine V.goto (tgt := 48) hF dX4_run_107 (by decide) ?_
            refine V.relv [0, 1, 2, 3] rfl ?_
            exact ih (k + 1) C' (by omega) (by omega) (lt_sP hz (eT.symm.trans hT)) (by rw [← eV]; exact hP.2.1 hT)
          · have hT := of_decide_eq_false hy
            obtain ⟨hm6, -⟩ := hm4.tri g10 g11 C' hP.2.2
            exact V.throwSW hF xw_ISE 14 rfl dX4_run_93 dX4_run_96 dX4_run_97 dX4_run_100 dX4_run_103 hout (Nat.le_of_ble_eq_true rfl) (Nat.le_of_ble_eq_true rfl) (Nat.le_of_ble_eq_true rfl) (Nat.le_of_ble_eq_true rfl) (Nat.le_of_ble_eq_true rfl) (Nat.le_of_ble_eq_true rfl) (Or.inr ⟨rfl, hp, zrG_no (k := k) (by omega) (fun q => hT (eT.trans q)), tg', ad, C, t1, t2, t3, hm6, hw.rg, ⟨nom C', nar C'⟩, by rw [nso, upd_at, if_pos rfl], by rw [no]⟩)
    refine V.eqI (put_eta g11.2.2.1).symm ?_
    refine V.eqX (put_eta g11.2.2.2).symm ?_
    refine V.astore_n hF dX4_run_45 (by decide) ?_
    refine V.iconst (v := nI 0) hF dX4_run_46 (by decide) ?_
    refine V.istore_n hF dX4_run_47 (by decide) ?_
    refine V.relv [0, 1, 2, 3] rfl ?_
    exact L48 _ 0 E (Nat.lt_succ_self _) (by omega) (fun j hj => absurd hj (Nat.not_lt_zero j)) hR0
  · refine V.aload_n hF dX4_run_19 rfl ?_
    refine V.aload_n hF dX4_run_20 rfl ?_
    refine V.getR hF dX4_run_21 fl_X4_10 hO.1 hO.2 rfl h0 ?_
    refine V.getIF hF dX4_run_24 fl_X4_257 hS.1.1 hS.1.2 rfl (va_up_self _ _ _) ?_
    refine V.topi (y := nI (pE (X (ta 0)) n).2) ((by rw [upd_at, if_neg (by omega)] : upd f1 1 (nI 0) 6 = f1 6).trans k6) ?_
    refine V.putI hF dX4_run_27 fl_X4_29 hO.1 hO.2 rfl rfl rfl ?_
    have hm3 : LWm σ (va_up (va_up I so (upd f1 1 (nI 0))) o (upd (va_up I so (upd f1 1 (nI 0)) o) 4 (nI (pE (X (ta 0)) n).2))) (N3 X (ta 2) (ta 3) (ta 4) gk gf gs) o so om out dout ta ar tg ad C t1 t2 t3 := hw.m.frm (fun a n1 n2 => (va_up_ne _ _ n2).trans (va_up_ne _ _ n1)) nt
    exact V.throwSW hF xw_IAE 13 rfl dX4_run_30 dX4_run_33 dX4_run_34 dX4_run_37 dX4_run_40 hout (Nat.le_of_ble_eq_true rfl) (Nat.le_of_ble_eq_true rfl) (Nat.le_of_ble_eq_true rfl) (Nat.le_of_ble_eq_true rfl) (Nat.le_of_ble_eq_true rfl) (Nat.le_of_ble_eq_true rfl) (Or.inl ⟨rfl, hp, tg, ad, C, t1, t2, t3, hm3, hw.rg, ⟨by rw [va_up_ne _ _ o_m, va_up_ne _ _ so_m], am⟩, by rw [va_up_ne _ _ so_o, va_up_self, upd_at, if_pos rfl], by rw [va_up_self, upd_at, if_pos rfl]⟩)
theorem lw_L_run : LkW RL 265 yL_run cL_run 3 (some .int) [(0, 8, 11, 13), (0, 8, 14, 26)] 2 := ⟨gw 974 (by decide +kernel) (by decide +kernel), gw 975 (by decide +kernel) (by decide +kernel), gw 52 (by decide +kernel) (by decide +kernel), gw 976 (by decide +kernel) (by decide +kernel), by decide +kernel⟩
set_option maxRecDepth 20000 in
theorem ct_L_run (hst : l.stackTraces = false) (σ : SH) (I X : IX) (o so om out dout : Nat) (ta ar tg ad : Nat → Nat) (C : IX) (n t1 t2 t3 : Nat) (hw : LWx σ I X o so om out dout ta ar tg ad C n t1 t2 t3) : CtW l D cy sa sv yL_run cL_run 3 (some .int) [(0, 8, 11, 13), (0, 8, 14, 26)] 8 36 3771 [.ref o, .ref out] σ I X (fun r σ' I' X' => r = some (.int (if pok (X (ta 0)) n then (if zrG (X (ta 0)) n (X (ar 1)) then nI 0 else nI 2) else nI 1)) ∧ ∃ (g : Nat → Int64) (σ1 : SH), σ' = shSetJ σ1 out g ∧ ((if pok (X (ta 0)) n then (if zrG (X (ta 0)) n (X (ar 1)) then nI 0 else nI 2) else nI 1) = nI 0 → g 0 = (nI (pK (X (ta 0)) n + 1)).toInt64) ∧ RunM σ1 I' X' I X o so om out dout ta ar (if pok (X (ta 0)) n && zrG (X (ta 0)) n (X (ar 1)) then zrL (X (ta 0)) n (X (ar 1)) (pK (X (ta 0)) n + 1) else X (ar 1)) (if pok (X (ta 0)) n then I o 4 else nI (pE (X (ta 0)) n).2)) := by
  have hO := hw.1.1
  refine CtW.of (by decide) hst (Nat.le_of_ble_eq_true rfl) ?_
  intro pp ee ss mm args below meth kc A hF htb hnc
  refine V.aload_n hF dL_run_0 rfl ?_
  refine V.iconst (v := nI 0) hF dL_run_1 (by decide) ?_
  refine V.aload_n hF dL_run_2 rfl ?_
  refine V.callV hF dL_run_3 (ct_X4_run hst σ I X o so om out dout ta ar tg ad C n t1 t2 t3 hw) lk_L_126 sl_X4_run ⟨_, _, rfl, hO.1, hO.2, (Nat.le_of_ble_eq_true rfl), _, _, rfl⟩ (fit_of rfl) (Nat.le_of_ble_eq_true rfl) (fun E s2 I2 X2 hx => ?_) (fun r s2 I2 X2 hx => ?_) rfl
  · rcases hx with ⟨hE, hp, hM⟩ | ⟨hE, hp, hz, hM⟩
    · rw [hE]
      refine VX.catch hF [] (0, 8, 11, 13) [(0, 8, 14, 26)] htb (fun z hz => absurd hz List.not_mem_nil) (by decide) (by decide) lc_13 cc_IAE (fun q => ?_)
      refine V.astore_n hF dL_run_11 (by decide) ?_
      refine V.iconst (v := nI 1) hF dL_run_12 (by decide) ?_
      refine V.iret hF dL_run_13 (Nat.le_of_ble_eq_true rfl) (Nat.le_of_ble_eq_true rfl) ?_
      exact ⟨by rw [hp]; rfl, shJ s2 out, s2, (shSetJ_eta _ _).symm, fun q => by rw [hp] at q; exact absurd q (show ¬ nI 1 = nI 0 by decide), by rw [hp]; exact hM⟩
    · rw [hE]
      refine VX.catch hF [(0, 8, 11, 13)] (0, 8, 14, 26) [] htb (fun z hz => by rw [List.mem_singleton.mp hz]; exact ⟨by decide, _, lc_13, hnc.2.2.2.2.2⟩) (by decide) (by decide) lc_26 cc_ISE (fun q => ?_)
      refine V.astore_n hF dL_run_14 (by decide) ?_
      refine V.iconst (v := nI 2) hF dL_run_15 (by decide) ?_
      refine V.iret hF dL_run_16 (Nat.le_of_ble_eq_true rfl) (Nat.le_of_ble_eq_true rfl) ?_
      exact ⟨by rw [hp, hz]; rfl, shJ s2 out, s2, (shSetJ_eta _ _).symm, fun q => absurd q (by rw [hp, hz]; decide), by rw [hp, hz]; exact hM⟩
  · obtain ⟨e0, hp, hz, hM⟩ := hx
    rw [e0]
    obtain ⟨hm, hk, hn⟩ := (show out ∈ shL s2 ∧ shK s2 out = 13 ∧ shN s2 out = 1 by obtain ⟨_, _, _, _, _, _, hL, _⟩ := hM; exact hL.1.2.2.2.2.1)
    refine V.i2l hF dL_run_6 ?_
    refine V.lastore (j := 0) hF dL_run_7 hm hk rfl (by rw [hn]; exact lt_of rfl) (by rw [hn]; exact lt_of rfl) ?_
    refine V.goto (tgt := 17) hF dL_run_8 (by decide) ?_
    refine V.iconst (v := nI 0) hF dL_run_17 (by decide) ?_
    refine V.iret hF dL_run_18 (Nat.le_of_ble_eq_true rfl) (Nat.le_of_ble_eq_true rfl) ?_
    exact ⟨by rw [hp, hz]; rfl, _, s2, rfl, fun _ => upl0, by rw [hp, hz]; exact hM⟩
end Rn
