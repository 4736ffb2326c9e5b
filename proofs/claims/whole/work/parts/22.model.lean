theorem zcB_cong {f g : Nat → Bool} : ∀ {n : Nat}, (∀ j, j < n → f j = g j) → zcB f n = zcB g n
  | 0, _ => rfl
  | n + 1, h => by rw [zcB, zcB, zcB_cong (fun j hj => h j (by omega)), h n (by omega)]
theorem zcB_flip {f g : Nat → Bool} {i : Nat} (hf : f i = true) (hg : g i = false) : ∀ {n : Nat}, i < n → (∀ j, j < n → j ≠ i → f j = g j) → zcB g n + 1 = zcB f n
  | 0, h, _ => absurd h (Nat.not_lt_zero _)
  | n + 1, h, he => by
    by_cases hi : i = n
    · subst hi
      rw [zcB, zcB, hf, hg, zcB_cong (fun j hj => (he j (by omega) (by omega)).symm : ∀ j, j < i → g j = f j)]
      simp
    · have ih := zcB_flip hf hg (show i < n by omega) (fun j hj => he j (by omega))
      rw [zcB, zcB, he n (by omega) (fun q => hi q.symm)]
      omega
theorem zcB_le (f : Nat → Bool) : ∀ n, zcB f n ≤ n
  | 0 => Nat.le_refl _
  | n + 1 => by have := zcB_le f n; rw [zcB]; split <;> omega
theorem zcB_pos {f : Nat → Bool} {i n : Nat} (hi : i < n) (hf : f i = true) : 1 ≤ zcB f n := by
  have := zcB_flip (f := f) (g := fun j => if j = i then false else f j) hf (by simp) hi (fun j _ h => by simp [h])
  omega
theorem upd_at (f : Rw) (k : Nat) (x : Int32) (j : Nat) : upd f k x j = if j = k then x else f j := rfl
theorem zdvL_lo {p m s : Nat} {w : Rw} {k : Nat} (hk : k < 4270) : ∀ q, zdvL p m s w q k = w k
  | 0 => rfl
  | q + 1 => by rw [zdvL, upd_at, if_neg (by omega), zdvL_lo hk q]
theorem zdeliv_lo {v : Rw} {p m k : Nat} (hk : k < 4260) : zdeliv v p m k = zlogs v p m k := by
  unfold zdeliv
  split
  · rw [zdv1, upd_at, if_neg (by omega), zdv0, upd_at, if_neg (by omega)]
  · rw [zdvL_lo (by omega), zdv1, upd_at, if_neg (by omega), zdv0, upd_at, if_neg (by omega)]
theorem zlogs_at (v : Rw) (p m k : Nat) : zlogs v p m k = if k = 2460 + 150 * p + m then nI 1 else if k = 1550 + p then zlg1 v p m (1550 + p) + nI 1 else if k = 1560 + 150 * p + vN v (1550 + p) then nI m else v k := by
  rw [zlogs, upd_at, zlg2, upd_at, zlg1, upd_at]
  rfl
theorem zlogs_lo {v : Rw} {p m k : Nat} (hk : k < 1550) : zlogs v p m k = v k := by
  rw [zlogs_at, if_neg (by omega), if_neg (by omega), if_neg (by omega)]
theorem zlg1_l {v : Rw} {p m : Nat} (hp : p < 6) : zlg1 v p m (1550 + p) = v (1550 + p) := by
  rw [zlg1, upd_at, if_neg (by omega)]
theorem vN_nI {x : Int32} {n : Nat} (h : x = nI n) (hn : n < 2147483648) : x.toNatClampNeg = n := by rw [h]; exact nI_clamp hn
theorem zdeliv_log {v : Rw} {p m p' j : Nat} (hp : p < 6) (hp' : p' < 6) (hj : j < 150) (hm : m < 150) (hl : vN v (1550 + p) < 150) : zlog (zdeliv v p m) p' j = if p' = p ∧ j = m then true else zlog v p' j := by
  rw [zlog, zdeliv_lo (by omega), zlogs_at]
  by_cases h : p' = p ∧ j = m
  · obtain ⟨rfl, rfl⟩ := h
    simp
  · rw [if_neg h, if_neg (by omega), if_neg (by omega), if_neg (by omega)]
    rfl
theorem WV_deliv {v : Rw} (hv : WV v) {p m : Nat} (hp : p < 6) (hm : m < 150) (hl : zlog v p m = false) : WV (zdeliv v p m) ∧ zmu (zdeliv v p m) p + 1 = zmu v p ∧ vN (zdeliv v p m) 44 = vN v 44 := by
  have hmu := hv.mu hp
  have h1 : 1 ≤ zmu v p := zcB_pos hm (by rw [hl]; rfl)
  have hlen : vN v (1550 + p) < 150 := by omega
  have lo : ∀ k, k < 1550 → zdeliv v p m k = v k := fun k hk => by rw [zdeliv_lo (by omega), zlogs_lo hk]
  have lon : ∀ k, k < 1550 → vN (zdeliv v p m) k = vN v k := fun k hk => by rw [vN, lo k hk]; rfl
  have hmu1 : zmu (zdeliv v p m) p + 1 = zmu v p := by
    refine zcB_flip (i := m) (by rw [hl]; rfl) ?_ hm (fun j hj hne => ?_)
    · rw [zdeliv_log hp hp hm hm hlen]; simp
    · rw [zdeliv_log hp hp hj hm hlen, if_neg (fun h => hne h.2)]
  refine ⟨⟨?_, ?_, ?_, ?_, ?_⟩, hmu1, lon 44 (by omega)⟩
  · rw [lon 42 (by omega), lo 42 (by omega)]; exact hv.1
  · rw [lon 44 (by omega), lo 44 (by omega)]; exact hv.2.1
  · intro m' hm'
    rw [lon _ (by omega), lo _ (by omega)]
    exact hv.2.2.1 m' hm'
  · intro p' hp'
    by_cases e : p' = p
    · subst e
      have e1 : zdeliv v p' m (1550 + p') = nI (vN v (1550 + p') + 1) := by
        rw [zdeliv_lo (by omega), zlogs_at, if_neg (by omega), if_pos rfl, zlg1_l hp, hv.l hp, nI_add]
      have e2 : vN (zdeliv v p' m) (1550 + p') = vN v (1550 + p') + 1 := vN_nI e1 (by omega)
      rw [e2]
      exact ⟨e1, by omega⟩
    · have e1 : zdeliv v p m (1550 + p') = v (1550 + p') := by rw [zdeliv_lo (by omega), zlogs_at, if_neg (by omega), if_neg (by omega), if_neg (by omega)]
      have e2 : vN (zdeliv v p m) (1550 + p') = vN v (1550 + p') := by rw [vN, e1]; rfl
      have e3 : zmu (zdeliv v p m) p' = zmu v p' := zcB_cong (fun j hj => by rw [zdeliv_log hp hp' hj hm hlen, if_neg (fun h => e h.1)])
      rw [e1, e2, e3]
      exact hv.2.2.2.1 p' hp'
  · intro p' i hp' hi
    by_cases e : 1560 + 150 * p' + i = 1560 + 150 * p + vN v (1550 + p)
    · have e1 : zdeliv v p m (1560 + 150 * p' + i) = nI m := by rw [zdeliv_lo (by omega), zlogs_at, if_neg (by omega), if_neg (by omega), if_pos e]
      have e2 : vN (zdeliv v p m) (1560 + 150 * p' + i) = m := vN_nI e1 (by omega)
      rw [e2]
      exact ⟨e1, hm⟩
    · have e1 : zdeliv v p m (1560 + 150 * p' + i) = v (1560 + 150 * p' + i) := by rw [zdeliv_lo (by omega), zlogs_at, if_neg (by omega), if_neg (by omega), if_neg e]
      have e2 : vN (zdeliv v p m) (1560 + 150 * p' + i) = vN v (1560 + 150 * p' + i) := by rw [vN, e1]; rfl
      rw [e1, e2]
      exact hv.2.2.2.2 p' i hp' hi
theorem zdel_log {v : Rw} {p m : Nat} (h : zdel v p m = true) : zlog v p m = false := by
  simp only [zdel, Bool.and_eq_true, Bool.not_eq_true'] at h
  exact h.1.1.2
/-- deliveries one after the other, the lowest first, as long as F holds of one -/
def zlo (F : Rw → Nat → Bool) (p : Nat) : Nat → Rw → Int32 → Rw × Int32
  | 0, v, c => (v, c)
  | k + 1, v, c => if zfst (F v) (vN v 44) < vN v 44 then zlo F p k (zdeliv v p (zfst (F v) (vN v 44))) (c + nI 1) else (v, c)
theorem zlo_no {F : Rw → Nat → Bool} {p k : Nat} {v : Rw} {c : Int32} (h : ∀ j, j < vN v 44 → F v j = false) : zlo F p (k + 1) v c = (v, c) := by
  rw [zlo, zfst_no h, if_neg (Nat.lt_irrefl _)]
theorem zlo_at {F : Rw → Nat → Bool} {p k i : Nat} {v : Rw} {c : Int32} (h : ∀ j, j < i → F v j = false) (hi : F v i = true) (hn : i < vN v 44) : zlo F p (k + 1) v c = zlo F p k (zdeliv v p i) (c + nI 1) := by
  rw [zlo, zfst_at h hi hn, if_pos hn]
def zFf (p : Nat) (s : Int32) (v : Rw) (m : Nat) : Bool := zdel v p m && zheld v m s
def zFc (p : Nat) (v : Rw) (m : Nat) : Bool := zbuf v p m && zdel v p m
def zforce (v : Rw) (p : Nat) (s : Int32) : Rw × Int32 := zlo (zFf p s) p 151 v (nI 0)
def zcomeV (v : Rw) (p m : Nat) : Rw := upd v (3360 + 150 * p + m) (nI 1)
def zcome (v : Rw) (p m : Nat) : Rw × Int32 := zlo (zFc p) p 151 (zcomeV v p m) (nI 0)
theorem zmu_le (v : Rw) (p : Nat) : zmu v p < 151 := by have := zcB_le (fun m => !zlog v p m) 150; unfold zmu; omega
theorem WV_hi {v w : Rw} (hv : WV v) (h : ∀ k, k < 3360 → w k = v k) : WV w := by
  have hn : ∀ k, k < 3360 → vN w k = vN v k := fun k hk => by rw [vN, h k hk]; rfl
  refine ⟨?_, ?_, ?_, ?_, ?_⟩
  · rw [hn 42 (by omega), h 42 (by omega)]; exact hv.1
  · rw [hn 44 (by omega), h 44 (by omega)]; exact hv.2.1
  · intro m hm
    rw [hn _ (by omega), h _ (by omega)]; exact hv.2.2.1 m hm
  · intro p hp
    have e : zmu w p = zmu v p := zcB_cong (fun j hj => by rw [zlog, h _ (by omega)]; rfl)
    rw [hn _ (by omega), h _ (by omega), e]; exact hv.2.2.2.1 p hp
  · intro p i hp hi
    rw [hn _ (by omega), h _ (by omega)]; exact hv.2.2.2.2 p i hp hi
theorem WV_comeV {v : Rw} (hv : WV v) (p m : Nat) : WV (zcomeV v p m) := WV_hi hv (fun k hk => by rw [zcomeV, upd_at, if_neg (by omega)])
theorem zlo_wv {F : Rw → Nat → Bool} {p : Nat} (hp : p < 6) (hF : ∀ v m, F v m = true → zdel v p m = true) : ∀ (k : Nat) (v : Rw) (c : Int32), WV v → WV (zlo F p k v c).1
  | 0, v, c, h => h
  | k + 1, v, c, h => by
    rw [zlo]
    split
    · rename_i hlt
      rcases zfst_cases (F v) (vN v 44) with ⟨e, -⟩ | ⟨-, e2, -⟩
      · omega
      · have := h.n150
        exact zlo_wv hp hF k _ _ (WV_deliv h hp (by omega) (zdel_log (hF _ _ e2))).1
    · exact h
theorem WV_force {v : Rw} (hv : WV v) {p : Nat} (hp : p < 6) (s : Int32) : WV (zforce v p s).1 := zlo_wv hp (fun v m h => by simp only [zFf, Bool.and_eq_true] at h; exact h.1) 151 v _ hv
theorem WV_come {v : Rw} (hv : WV v) {p : Nat} (hp : p < 6) (m : Nat) : WV (zcome v p m).1 := zlo_wv hp (fun v m h => by simp only [zFc, Bool.and_eq_true] at h; exact h.2) 151 _ _ (WV_comeV hv p m)
theorem iinc1 (x : Int32) : x + Int32.ofInt 1 = x + nI 1 := by rw [show Int32.ofInt 1 = nI 1 by decide]
theorem th_th (f : Rw) (a b : Int32) : th (th f a) b = th f b := by funext j; simp only [th, upd_at]; split <;> rfl
theorem upd_upd (f : Rw) (k : Nat) (a b : Int32) : upd (upd f k a) k b = upd f k b := by funext j; simp only [upd_at]; split <;> rfl

section MD
variable {l : Launch} {D : va_G} {cy sa sv : Nat → Nat}
set_option maxRecDepth 20000 in
theorem ct_X5_forces (hst : l.stackTraces = false) (σ : SH) (I X : IX) (o : Nat) (ar : Nat → Nat) (hM : MS σ o ar) (v : Rw) (hX : X (ar 1) = v) (hv : WV v) (p : Nat) (hp : p < 6) (x : Int32) : Ct l D cy sa sv yX5_forces cX5_forces 6 (some .int) 3 0 0 [.ref o, .int (nI p), .int x] σ I X (pR (some (.int ((zforce v p x).2))) σ I (va_up X (ar 1) ((zforce v p x).1))) noX := by
  refine Ct.of (by decide) hst (Nat.le_of_ble_eq_true rfl) ?_
  intro pp ee ss mm args below meth kc A hF hnm hout
  refine V.etaX (ar 1) hX ?_
  refine V.iconst (v := nI 0) hF dX5_forces_0 (by decide) ?_
  refine V.istore_n hF dX5_forces_1 (by decide) ?_
  refine V.iconst (v := nI 1) hF dX5_forces_2 (by decide) ?_
  refine V.istore hF dX5_forces_3 (by decide) ?_
  have L5 : ∀ (n5 : Nat) (w : Rw) (c : Int32), zmu w p < n5 → WV w → zlo (zFf p x) p n5 w c = zforce v p x → V pp l ee (Rm 3 0 0) ss mm args below meth kc D cy A (QM below args ss D cy A (pR (some (.int ((zforce v p x).2))) σ I (va_up X (ar 1) ((zforce v p x).1))) noX 0 0) 6 0 0 σ I (va_up X (ar 1) w) 5 [(0, .ref o), (1, .int (nI p)), (2, .int x), (3, .int c), (4, .int (nI 1))] [] := by
    intro n5
    induction n5 with
    | zero => intro w c hlt5; exact absurd hlt5 (Nat.not_lt_zero _)
    | succ n5 ih5 =>
      intro w c hlt5 hw hR
      have hn150 := hw.n150
      refine V.iload hF dX5_forces_5 rfl ?_
      refine V.if_eq (tgt := 78) hF dX5_forces_7 (by decide) (fun h7 => ?_) (fun h7 => ?_)
      · exact absurd h7 (by decide)
      · refine V.iconst (v := nI 0) hF dX5_forces_10 (by decide) ?_
        refine V.istore hF dX5_forces_11 (by decide) ?_
        refine V.iconst (v := nI 0) hF dX5_forces_13 (by decide) ?_
        refine V.istore hF dX5_forces_14 (by decide) ?_
        have L16 : ∀ (n16 : Nat) (k : Nat), vN w 44 - k < n16 → k ≤ vN w 44 → (∀ j, j < k → (zFf p x) w j = false) → V pp l ee (Rm 3 0 0) ss mm args below meth kc D cy A (QM below args ss D cy A (pR (some (.int ((zforce v p x).2))) σ I (va_up X (ar 1) ((zforce v p x).1))) noX 0 0) 6 0 0 σ I (va_up X (ar 1) w) 16 [(0, .ref o), (1, .int (nI p)), (2, .int x), (3, .int c), (4, .int (nI 0)), (5, .int (nI k))] [] := by
          intro n16
          induction n16 with
          | zero => intro k hlt16; exact absurd hlt16 (Nat.not_lt_zero _)
          | succ n16 ih16 =>
            intro k hlt16 hk ha
            refine V.iload hF dX5_forces_16 rfl ?_
            refine V.aload_n hF dX5_forces_18 rfl ?_
            refine V.getR hF dX5_forces_19 fl_X5_9 hM.1.1 hM.1.2 rfl hM.m1.1 ?_
            refine V.bipush (v := nI 44) hF dX5_forces_22 (by decide) ?_
            refine V.ialoadF (j := 44) hF dX5_forces_24 hM.m1.2.1 hM.m1.2.2.1 rfl (hM.m1.lt (lt_of rfl)) (hM.m1.sm (by decide)) (va_up_self _ _ _) ?_
            refine V.topi (y := nI (vN w 44)) hw.n ?_
            refine V.icmp_ge (tgt := 75) hF dX5_forces_25 (by decide) (fun h25 => ?_) (fun h25 => ?_)
            · have hk6 : k = vN w 44 := by have := nI_ge' h25 (by omega) (by omega); omega
              have hno : ∀ j, j < vN w 44 → (zFf p x) w j = false := fun j hj => ha j (by omega)
              refine V.goto (tgt := 5) hF dX5_forces_75 (by decide) ?_
              refine V.iload hF dX5_forces_5 rfl ?_
              refine V.if_eq (tgt := 78) hF dX5_forces_7 (by decide) (fun h7 => ?_) (fun h7 => ?_)
              · refine V.iload_n hF dX5_forces_78 rfl ?_
                refine V.iret hF dX5_forces_79 (Nat.le_refl _) (Nat.le_refl _) ?_
                have e := hR.symm.trans (zlo_no hno)
                rw [e]
                exact pR.i rfl
              · exact (h7 (by decide)).elim
            · have hk6 : k < vN w 44 := nI_nge h25 (by omega) (by omega)
              refine V.iload hF dX5_forces_28 rfl ?_
              refine V.if_ne (tgt := 75) hF dX5_forces_30 (by decide) (fun h30 => ?_) (fun h30 => ?_)
              · exact (h30 (by decide)).elim
              · refine V.aload_n hF dX5_forces_33 rfl ?_
                refine V.iload_n hF dX5_forces_34 rfl ?_
                refine V.iload hF dX5_forces_35 rfl ?_
                refine V.vI hF dX5_forces_37 (ct_X5_isDeliverable hst _ _ _ _ _ hM _ (va_up_self _ _ _) hw p k (by omega) (by omega)) lk_X5_84 sl_X5_isDeliverable hM.1.1 hM.1.2 rfl (Nat.le_of_ble_eq_true rfl) (fit_of rfl) (Nat.le_of_ble_eq_true rfl) rfl ?_
                refine V.if_eqB (tgt := 69) hF dX5_forces_40 (by decide) (fun h40 => ?_) (fun h40 => ?_)
                · refine V.iinc (v := nI (k + 1)) hF dX5_forces_69 rfl (by exact nI_1 _) (by decide) ?_
                  refine V.goto (tgt := 16) hF dX5_forces_72 (by decide) ?_
                  refine V.relv [0, 1, 2, 3, 4, 5] rfl ?_
                  exact ih16 (k + 1) (by omega) (by omega) (lt_s ha (by simp [zFf, zFc, *]))
                · refine V.aload_n hF dX5_forces_43 rfl ?_
                  refine V.iload hF dX5_forces_44 rfl ?_
                  refine V.iload_n hF dX5_forces_46 rfl ?_
                  refine V.vI hF dX5_forces_47 (ct_X5_isHeld hst _ _ _ _ _ hM _ (va_up_self _ _ _) k (by omega) _) lk_X5_87 sl_X5_isHeld hM.1.1 hM.1.2 rfl (Nat.le_of_ble_eq_true rfl) (fit_of rfl) (Nat.le_of_ble_eq_true rfl) rfl ?_
                  refine V.if_neB (tgt := 56) hF dX5_forces_50 (by decide) (fun h50 => ?_) (fun h50 => ?_)
                  · have hz : zFf p x w k = true := by simp [zFf, *]
                    have hwd := WV_deliv hw hp (by omega) (zdel_log h40)
                    refine V.aload_n hF dX5_forces_56 rfl ?_
                    refine V.iload_n hF dX5_forces_57 rfl ?_
                    refine V.iload hF dX5_forces_58 rfl ?_
                    refine V.vV hF dX5_forces_60 (ct_X5_delivers hst _ _ _ _ _ hM _ (va_up_self _ _ _) hw p k (by omega) (by omega)) lk_X5_90 sl_X5_delivers hM.1.1 hM.1.2 rfl (Nat.le_of_ble_eq_true rfl) (fit_of rfl) (Nat.le_of_ble_eq_true rfl) rfl ?_
                    refine V.collX ?_
                    refine V.iinc hF dX5_forces_63 rfl (iinc1 _) (by decide) ?_
                    refine V.iconst (v := nI 1) hF dX5_forces_66 (by decide) ?_
                    refine V.istore hF dX5_forces_67 (by decide) ?_
                    refine V.iinc (v := nI (k + 1)) hF dX5_forces_69 rfl (by exact nI_1 _) (by decide) ?_
                    refine V.goto (tgt := 16) hF dX5_forces_72 (by decide) ?_
                    refine V.iload hF dX5_forces_16 rfl ?_
                    refine V.aload_n hF dX5_forces_18 rfl ?_
                    refine V.getR hF dX5_forces_19 fl_X5_9 hM.1.1 hM.1.2 rfl hM.m1.1 ?_
                    refine V.bipush (v := nI 44) hF dX5_forces_22 (by decide) ?_
                    refine V.ialoadF (j := 44) hF dX5_forces_24 hM.m1.2.1 hM.m1.2.2.1 rfl (hM.m1.lt (lt_of rfl)) (hM.m1.sm (by decide)) (va_up_self _ _ _) ?_
                    refine V.icmp_ge (tgt := 75) hF dX5_forces_25 (by decide) (fun h25 => ?_) (fun h25 => ?_)
                    · refine V.goto (tgt := 5) hF dX5_forces_75 (by decide) ?_
                      refine V.relv [0, 1, 2, 3, 4] rfl ?_
                      exact ih5 (zdeliv w p k) (c + nI 1) (by omega) hwd.1 (by rw [← hR]; exact (zlo_at ha hz hk6).symm)
                    · refine V.iload hF dX5_forces_28 rfl ?_
                      refine V.if_ne (tgt := 75) hF dX5_forces_30 (by decide) (fun h30 => ?_) (fun h30 => ?_)
                      · refine V.goto (tgt := 5) hF dX5_forces_75 (by decide) ?_
                        refine V.relv [0, 1, 2, 3, 4] rfl ?_
                        exact ih5 (zdeliv w p k) (c + nI 1) (by omega) hwd.1 (by rw [← hR]; exact (zlo_at ha hz hk6).symm)
                      · exact absurd h30 (by decide)
                  · refine V.goto (tgt := 69) hF dX5_forces_53 (by decide) ?_
                    refine V.iinc (v := nI (k + 1)) hF dX5_forces_69 rfl (by exact nI_1 _) (by decide) ?_
                    refine V.goto (tgt := 16) hF dX5_forces_72 (by decide) ?_
                    refine V.relv [0, 1, 2, 3, 4, 5] rfl ?_
                    exact ih16 (k + 1) (by omega) (by omega) (lt_s ha (by simp [zFf, zFc, *]))
        refine V.relv [0, 1, 2, 3, 4, 5] rfl ?_
        exact L16 _ 0 (Nat.lt_succ_self _) (by omega) (fun j h => absurd h (Nat.not_lt_zero _))
  refine V.relv [0, 1, 2, 3, 4] rfl ?_
  exact L5 151 v (nI 0) (zmu_le v p) hv rfl
set_option maxRecDepth 20000 in
theorem ct_X5_comes (hst : l.stackTraces = false) (σ : SH) (I X : IX) (o : Nat) (ar : Nat → Nat) (hM : MS σ o ar) (v : Rw) (hX : X (ar 1) = v) (hv : WV v) (p m : Nat) (hp : p < 6) (hm : m < 150) : Ct l D cy sa sv yX5_comes cX5_comes 6 (some .int) 3 0 0 [.ref o, .int (nI p), .int (nI m)] σ I X (pR (some (.int ((zcome v p m).2))) σ I (va_up X (ar 1) ((zcome v p m).1))) noX := by
  refine Ct.of (by decide) hst (Nat.le_of_ble_eq_true rfl) ?_
  intro pp ee ss mm args below meth kc A hF hnm hout
  refine V.etaX (ar 1) hX ?_
  refine V.aload_n hF dX5_comes_0 rfl ?_
  refine V.getR hF dX5_comes_1 fl_X5_9 hM.1.1 hM.1.2 rfl hM.m1.1 ?_
  refine V.sipush (v := nI 3360) hF dX5_comes_4 (by decide) ?_
  refine V.sipush (v := nI 150) hF dX5_comes_7 (by decide) ?_
  refine V.iload_n hF dX5_comes_10 rfl ?_
  refine V.imul hF dX5_comes_11 ?_
  refine V.iadd hF dX5_comes_12 ?_
  refine V.iload_n hF dX5_comes_13 rfl ?_
  refine V.iadd hF dX5_comes_14 ?_
  refine V.iconst (v := nI 1) hF dX5_comes_15 (by decide) ?_
  refine V.iastoreU (j := ((3360 + (150 * p)) + m)) hF dX5_comes_16 hM.m1.2.1 hM.m1.2.2.1 (by simp only [nI_add, pk_mul, Nat.zero_add, Nat.add_zero]) (hM.m1.lt (by omega)) (hM.m1.sm (by decide)) ?_
  refine V.iconst (v := nI 0) hF dX5_comes_17 (by decide) ?_
  refine V.istore_n hF dX5_comes_18 (by decide) ?_
  refine V.iconst (v := nI 1) hF dX5_comes_19 (by decide) ?_
  refine V.istore hF dX5_comes_20 (by decide) ?_
  have L22 : ∀ (n22 : Nat) (w : Rw) (c : Int32), zmu w p < n22 → WV w → zlo (zFc p) p n22 w c = zcome v p m → V pp l ee (Rm 3 0 0) ss mm args below meth kc D cy A (QM below args ss D cy A (pR (some (.int ((zcome v p m).2))) σ I (va_up X (ar 1) ((zcome v p m).1))) noX 0 0) 6 0 0 σ I (va_up X (ar 1) w) 22 [(0, .ref o), (1, .int (nI p)), (2, .int (nI m)), (3, .int c), (4, .int (nI 1))] [] := by
    intro n22
    induction n22 with
    | zero => intro w c hlt22; exact absurd hlt22 (Nat.not_lt_zero _)
    | succ n22 ih22 =>
      intro w c hlt22 hw hR
      have hn150 := hw.n150
      refine V.iload hF dX5_comes_22 rfl ?_
      refine V.if_eq (tgt := 95) hF dX5_comes_24 (by decide) (fun h24 => ?_) (fun h24 => ?_)
      · exact absurd h24 (by decide)
      · refine V.iconst (v := nI 0) hF dX5_comes_27 (by decide) ?_
        refine V.istore hF dX5_comes_28 (by decide) ?_
        refine V.iconst (v := nI 0) hF dX5_comes_30 (by decide) ?_
        refine V.istore hF dX5_comes_31 (by decide) ?_
        have L33 : ∀ (n33 : Nat) (k : Nat), vN w 44 - k < n33 → k ≤ vN w 44 → (∀ j, j < k → (zFc p) w j = false) → V pp l ee (Rm 3 0 0) ss mm args below meth kc D cy A (QM below args ss D cy A (pR (some (.int ((zcome v p m).2))) σ I (va_up X (ar 1) ((zcome v p m).1))) noX 0 0) 6 0 0 σ I (va_up X (ar 1) w) 33 [(0, .ref o), (1, .int (nI p)), (2, .int (nI m)), (3, .int c), (4, .int (nI 0)), (5, .int (nI k))] [] := by
          intro n33
          induction n33 with
          | zero => intro k hlt33; exact absurd hlt33 (Nat.not_lt_zero _)
          | succ n33 ih33 =>
            intro k hlt33 hk ha
            refine V.iload hF dX5_comes_33 rfl ?_
            refine V.aload_n hF dX5_comes_35 rfl ?_
            refine V.getR hF dX5_comes_36 fl_X5_9 hM.1.1 hM.1.2 rfl hM.m1.1 ?_
            refine V.bipush (v := nI 44) hF dX5_comes_39 (by decide) ?_
            refine V.ialoadF (j := 44) hF dX5_comes_41 hM.m1.2.1 hM.m1.2.2.1 rfl (hM.m1.lt (lt_of rfl)) (hM.m1.sm (by decide)) (va_up_self _ _ _) ?_
            refine V.topi (y := nI (vN w 44)) hw.n ?_
            refine V.icmp_ge (tgt := 92) hF dX5_comes_42 (by decide) (fun h42 => ?_) (fun h42 => ?_)
            · have hk6 : k = vN w 44 := by have := nI_ge' h42 (by omega) (by omega); omega
              have hno : ∀ j, j < vN w 44 → (zFc p) w j = false := fun j hj => ha j (by omega)
              refine V.goto (tgt := 22) hF dX5_comes_92 (by decide) ?_
              refine V.iload hF dX5_comes_22 rfl ?_
              refine V.if_eq (tgt := 95) hF dX5_comes_24 (by decide) (fun h24 => ?_) (fun h24 => ?_)
              · refine V.iload_n hF dX5_comes_95 rfl ?_
                refine V.iret hF dX5_comes_96 (Nat.le_refl _) (Nat.le_refl _) ?_
                have e := hR.symm.trans (zlo_no hno)
                rw [e]
                exact pR.i rfl
              · exact (h24 (by decide)).elim
            · have hk6 : k < vN w 44 := nI_nge h42 (by omega) (by omega)
              refine V.iload hF dX5_comes_45 rfl ?_
              refine V.if_ne (tgt := 92) hF dX5_comes_47 (by decide) (fun h47 => ?_) (fun h47 => ?_)
              · exact (h47 (by decide)).elim
              · refine V.aload_n hF dX5_comes_50 rfl ?_
                refine V.iload_n hF dX5_comes_51 rfl ?_
                refine V.iload hF dX5_comes_52 rfl ?_
                refine V.vI hF dX5_comes_54 (ct_X5_isBuffered hst _ _ _ _ _ hM _ (va_up_self _ _ _) p k (by omega) (by omega)) lk_X5_99 sl_X5_isBuffered hM.1.1 hM.1.2 rfl (Nat.le_of_ble_eq_true rfl) (fit_of rfl) (Nat.le_of_ble_eq_true rfl) rfl ?_
                refine V.if_eqB (tgt := 86) hF dX5_comes_57 (by decide) (fun h57 => ?_) (fun h57 => ?_)
                · refine V.iinc (v := nI (k + 1)) hF dX5_comes_86 rfl (by exact nI_1 _) (by decide) ?_
                  refine V.goto (tgt := 33) hF dX5_comes_89 (by decide) ?_
                  refine V.relv [0, 1, 2, 3, 4, 5] rfl ?_
                  exact ih33 (k + 1) (by omega) (by omega) (lt_s ha (by simp [zFf, zFc, *]))
                · refine V.aload_n hF dX5_comes_60 rfl ?_
                  refine V.iload_n hF dX5_comes_61 rfl ?_
                  refine V.iload hF dX5_comes_62 rfl ?_
                  refine V.vI hF dX5_comes_64 (ct_X5_isDeliverable hst _ _ _ _ _ hM _ (va_up_self _ _ _) hw p k (by omega) (by omega)) lk_X5_84 sl_X5_isDeliverable hM.1.1 hM.1.2 rfl (Nat.le_of_ble_eq_true rfl) (fit_of rfl) (Nat.le_of_ble_eq_true rfl) rfl ?_
                  refine V.if_neB (tgt := 73) hF dX5_comes_67 (by decide) (fun h67 => ?_) (fun h67 => ?_)
                  · have hz : zFc p w k = true := by simp [zFc, *]
                    have hwd := WV_deliv hw hp (by omega) (zdel_log h67)
                    refine V.aload_n hF dX5_comes_73 rfl ?_
                    refine V.iload_n hF dX5_comes_74 rfl ?_
                    refine V.iload hF dX5_comes_75 rfl ?_
                    refine V.vV hF dX5_comes_77 (ct_X5_delivers hst _ _ _ _ _ hM _ (va_up_self _ _ _) hw p k (by omega) (by omega)) lk_X5_90 sl_X5_delivers hM.1.1 hM.1.2 rfl (Nat.le_of_ble_eq_true rfl) (fit_of rfl) (Nat.le_of_ble_eq_true rfl) rfl ?_
                    refine V.collX ?_
                    refine V.iinc hF dX5_comes_80 rfl (iinc1 _) (by decide) ?_
                    refine V.iconst (v := nI 1) hF dX5_comes_83 (by decide) ?_
                    refine V.istore hF dX5_comes_84 (by decide) ?_
                    refine V.iinc (v := nI (k + 1)) hF dX5_comes_86 rfl (by exact nI_1 _) (by decide) ?_
                    refine V.goto (tgt := 33) hF dX5_comes_89 (by decide) ?_
                    refine V.iload hF dX5_comes_33 rfl ?_
                    refine V.aload_n hF dX5_comes_35 rfl ?_
                    refine V.getR hF dX5_comes_36 fl_X5_9 hM.1.1 hM.1.2 rfl hM.m1.1 ?_
                    refine V.bipush (v := nI 44) hF dX5_comes_39 (by decide) ?_
                    refine V.ialoadF (j := 44) hF dX5_comes_41 hM.m1.2.1 hM.m1.2.2.1 rfl (hM.m1.lt (lt_of rfl)) (hM.m1.sm (by decide)) (va_up_self _ _ _) ?_
                    refine V.icmp_ge (tgt := 92) hF dX5_comes_42 (by decide) (fun h42 => ?_) (fun h42 => ?_)
                    · refine V.goto (tgt := 22) hF dX5_comes_92 (by decide) ?_
                      refine V.relv [0, 1, 2, 3, 4] rfl ?_
                      exact ih22 (zdeliv w p k) (c + nI 1) (by omega) hwd.1 (by rw [← hR]; exact (zlo_at ha hz hk6).symm)
                    · refine V.iload hF dX5_comes_45 rfl ?_
                      refine V.if_ne (tgt := 92) hF dX5_comes_47 (by decide) (fun h47 => ?_) (fun h47 => ?_)
                      · refine V.goto (tgt := 22) hF dX5_comes_92 (by decide) ?_
                        refine V.relv [0, 1, 2, 3, 4] rfl ?_
                        exact ih22 (zdeliv w p k) (c + nI 1) (by omega) hwd.1 (by rw [← hR]; exact (zlo_at ha hz hk6).symm)
                      · exact absurd h47 (by decide)
                  · refine V.goto (tgt := 86) hF dX5_comes_70 (by decide) ?_
                    refine V.iinc (v := nI (k + 1)) hF dX5_comes_86 rfl (by exact nI_1 _) (by decide) ?_
                    refine V.goto (tgt := 33) hF dX5_comes_89 (by decide) ?_
                    refine V.relv [0, 1, 2, 3, 4, 5] rfl ?_
                    exact ih33 (k + 1) (by omega) (by omega) (lt_s ha (by simp [zFf, zFc, *]))
        refine V.relv [0, 1, 2, 3, 4, 5] rfl ?_
        exact L33 _ 0 (Nat.lt_succ_self _) (by omega) (fun j h => absurd h (Nat.not_lt_zero _))
  refine V.relv [0, 1, 2, 3, 4] rfl ?_
  exact L22 151 (zcomeV v p m) (nI 0) (zmu_le _ p) (WV_comeV hv p m) rfl
end MD
