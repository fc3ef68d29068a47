/-! GET: what it does -/
section CG
variable {M : Mem} {h : Nat} {ρ : Rul} {β : Nat} {S : HSt} {p t b l q c : Nat}
theorem cFull {r : List Nat} (C : CC M h ρ β S) (V : Inv ρ β S) (hq : q < 24) (e : qu S q = p :: r) : ∃ M', fC_pop (h + 4) (nI q) M = some (nI p, M') ∧ Fr M M' (h + 5) (h + 8) ∧ CC M' h ρ β (oFull p q S) := by
  obtain ⟨hp, hk, hqp⟩ := ((V.2.2.1 q hq).2 p).mp (by rw [e]; exact List.mem_cons_self)
  obtain ⟨M', e1, F, hL, ht, hx⟩ := pop_ok (hs_q C.1) (cv_Q C) hq e
  refine ⟨M', e1, F, cc_qu C (Fr_w F (by omega) (by omega)) ⟨rfl, rfl, rfl, rfl, rfl⟩ ?_ ?_ ?_⟩
  · intro x hx
    refine cut_eq ?_ (fun _ => rfl)
    show ud (kd S) p 2 x = 0 ↔ kd S x = 0
    by_cases ex : x = p
    · subst ex; rw [ud_s]; omega
    · rw [ud_n _ _ ex]
  · intro x hx2
    rw [F.2 (h + 1) (by omega), F.2 (h + 2) (by omega), F.2 (h + 3) (by omega), cv_k C hx2, cv_o C hx2, cv_c C hx2]
    unfold kI oI
    show _ = (if ud (kd S) p 2 x = 0 then mI else nI (cl S x)) ∧ _ = (if ud (kd S) p 2 x = 1 ∨ ud (kd S) p 2 x = 2 then nI (ow S x) else mI) ∧ _ ∧ (ud (kd S) p 2 x ≠ 1 → _)
    by_cases ex : x = p
    · subst ex
      rw [ud_s, hk]
      exact ⟨rfl, rfl, rfl, fun q => ht⟩
    · rw [ud_n _ _ ex]
      exact ⟨rfl, rfl, rfl, fun q => (hx x ex).trans (cv_h C hx2 q)⟩
  · show ChM M' (h + 4) (ud (qu S) q (qu S q).tail) 24 16
    rw [e]
    exact hL
theorem bt_loop (v1 v2 : Int32) (hq : q < 24) (hp : p < 16) : ∀ (xs : List Nat) (f i : Nat) (ys : List Nat) (M : Mem) (S : HSt), CC M h ρ β S → Inv ρ β S → qu S q = xs ++ ys → (∀ y r, ys = y :: r → y = p) → p ∉ xs → (∀ x ∈ xs, lst S x = 0) → i + xs.length ≤ 16 → xs.length < f → ∃ M', LH_bringToFront_11 f h v1 v2 (nI p) (nI q) (nI i) M = some M' ∧ Fr M M' (h + 1) (h + 13) ∧ CC M' h ρ β (oPop q xs S) ∧ Inv ρ β (oPop q xs S) ∧ qu (oPop q xs S) q = ys := by
  intro xs
  induction xs with
  | nil =>
    intro f i ys M S C V e hy _ _ hi hf
    have H := C.1
    obtain ⟨g, rfl⟩ : ∃ g, f = g + 1 := ⟨f - 1, by omega⟩
    refine ⟨M, ?_, Fr_refl _ _ _, C, V, e⟩
    have hF := (cv_Q C q hq).1
    rw [e] at hF
    show BH_bringToFront_11 (LH_bringToFront_11 g) h v1 v2 (nI p) (nI q) (nI i) M = _
    rcases Nat.lt_or_ge i 16 with h1 | h1
    · cases ys with
      | nil =>
        have hF : giM M (h + 5) q = mI := hF
        simp (disch := omega) only [BH_bringToFront_11, gd1, bs1, ↓reduceIte, d_nz, d_nn, or_true, true_or, or_false, false_or, decide_true, Sum.elim_inl, Sum.elim_inr, ↓l_m1, l_0, l_1, l_2, l_3, l_4, l_5, l_6, l_7, l_8, l_9, l_10, l_16, l_17, l_18, l_20, l_23, l_24, l_30, l_31, l_32, l_39, l_40, l_41, l_48, l_57, l_58, l_59, l_60, l_63, l_90, l_97, l_98, l_99, l_100, l_102, l_103, l_104, l_107, l_109, l_112, l_115, l_116, l_117, l_120, l_122, l_126, l_166, l_180, l_240, l_255, l_640, l_999, l_2656, l_3064, l_3704, l_3708, l_3712, l_3713, l_3893, l_155720, l_1000000, n_ltT, n_ltF, n_leT, n_leF, n_eqT, n_eqF, n_eqm, n_eqm', n_mltn, n_mlen, n_nltm, n_nlem, n_mltm, n_mlem, n_add, n_mul, n_sub, n_subm, n_cl, n_ofNat, n_div, n_mod, obM_si, rdI_si, wrI_si, lnI_si, grM_si', tgM_si', obM_sa, rdI_sa, wrI_sa, lnI_sa, grM_sa', tgM_sa', hs_ob H, hs_g0 H, hs_g1 H, hs_g2 H, hs_g3 H, hs_g4 H, hs_g5 H, hs_g6 H, hs_g7 H, hs_g8 H, hs_t1 H, hs_r1 H, hs_w1 H, hs_l1 H, hs_t2 H, hs_r2 H, hs_w2 H, hs_l2 H, hs_t3 H, hs_r3 H, hs_w3 H, hs_l3 H, hs_t14 H, hs_r14 H, hs_w14 H, hs_l14 H, hs_t15 H, hs_r15 H, hs_w15 H, hs_l15 H, hs_ob4 H, hs_g4_0 H, hs_t5 H, hs_r5 H, hs_w5 H, hs_l5 H, hs_g4_1 H, hs_t6 H, hs_r6 H, hs_w6 H, hs_l6 H, hs_g4_2 H, hs_t7 H, hs_r7 H, hs_w7 H, hs_l7 H, hs_g4_3 H, hs_t8 H, hs_r8 H, hs_w8 H, hs_l8 H, hs_ob9 H, hs_g9_0 H, hs_t10 H, hs_r10 H, hs_w10 H, hs_l10 H, hs_g9_1 H, hs_t11 H, hs_r11 H, hs_w11 H, hs_l11 H, hs_g9_2 H, hs_t12 H, hs_r12 H, hs_w12 H, hs_l12 H, hs_g9_3 H, hs_t13 H, hs_r13 H, hs_w13 H, hs_l13 H, hs_ob16 H, hs_g16 H, hs_t17 H, hs_r17 H, hs_w17 H, hs_l17 H, hs_ob5 H, hs_g50 H, hs_g51 H, hs_tu6 H, hs_ru6 H, hs_wu6 H, hs_lu6 H, hs_tu7 H, hs_ru7 H, hs_wu7 H, hs_lu7 H, hF]
      | cons y r =>
        obtain rfl := hy y r rfl
        have hF : giM M (h + 5) q = nI y := hF.1
        simp (disch := omega) only [BH_bringToFront_11, gd1, bs1, ↓reduceIte, d_nz, d_nn, or_true, true_or, or_false, false_or, decide_true, Sum.elim_inl, Sum.elim_inr, ↓l_m1, l_0, l_1, l_2, l_3, l_4, l_5, l_6, l_7, l_8, l_9, l_10, l_16, l_17, l_18, l_20, l_23, l_24, l_30, l_31, l_32, l_39, l_40, l_41, l_48, l_57, l_58, l_59, l_60, l_63, l_90, l_97, l_98, l_99, l_100, l_102, l_103, l_104, l_107, l_109, l_112, l_115, l_116, l_117, l_120, l_122, l_126, l_166, l_180, l_240, l_255, l_640, l_999, l_2656, l_3064, l_3704, l_3708, l_3712, l_3713, l_3893, l_155720, l_1000000, n_ltT, n_ltF, n_leT, n_leF, n_eqT, n_eqF, n_eqm, n_eqm', n_mltn, n_mlen, n_nltm, n_nlem, n_mltm, n_mlem, n_add, n_mul, n_sub, n_subm, n_cl, n_ofNat, n_div, n_mod, obM_si, rdI_si, wrI_si, lnI_si, grM_si', tgM_si', obM_sa, rdI_sa, wrI_sa, lnI_sa, grM_sa', tgM_sa', hs_ob H, hs_g0 H, hs_g1 H, hs_g2 H, hs_g3 H, hs_g4 H, hs_g5 H, hs_g6 H, hs_g7 H, hs_g8 H, hs_t1 H, hs_r1 H, hs_w1 H, hs_l1 H, hs_t2 H, hs_r2 H, hs_w2 H, hs_l2 H, hs_t3 H, hs_r3 H, hs_w3 H, hs_l3 H, hs_t14 H, hs_r14 H, hs_w14 H, hs_l14 H, hs_t15 H, hs_r15 H, hs_w15 H, hs_l15 H, hs_ob4 H, hs_g4_0 H, hs_t5 H, hs_r5 H, hs_w5 H, hs_l5 H, hs_g4_1 H, hs_t6 H, hs_r6 H, hs_w6 H, hs_l6 H, hs_g4_2 H, hs_t7 H, hs_r7 H, hs_w7 H, hs_l7 H, hs_g4_3 H, hs_t8 H, hs_r8 H, hs_w8 H, hs_l8 H, hs_ob9 H, hs_g9_0 H, hs_t10 H, hs_r10 H, hs_w10 H, hs_l10 H, hs_g9_1 H, hs_t11 H, hs_r11 H, hs_w11 H, hs_l11 H, hs_g9_2 H, hs_t12 H, hs_r12 H, hs_w12 H, hs_l12 H, hs_g9_3 H, hs_t13 H, hs_r13 H, hs_w13 H, hs_l13 H, hs_ob16 H, hs_g16 H, hs_t17 H, hs_r17 H, hs_w17 H, hs_l17 H, hs_ob5 H, hs_g50 H, hs_g51 H, hs_tu6 H, hs_ru6 H, hs_wu6 H, hs_lu6 H, hs_tu7 H, hs_ru7 H, hs_wu7 H, hs_lu7 H, hF]
    · simp (disch := omega) only [BH_bringToFront_11, gd1, bs1, ↓reduceIte, d_nz, d_nn, or_true, true_or, or_false, false_or, decide_true, Sum.elim_inl, Sum.elim_inr, ↓l_m1, l_0, l_1, l_2, l_3, l_4, l_5, l_6, l_7, l_8, l_9, l_10, l_16, l_17, l_18, l_20, l_23, l_24, l_30, l_31, l_32, l_39, l_40, l_41, l_48, l_57, l_58, l_59, l_60, l_63, l_90, l_97, l_98, l_99, l_100, l_102, l_103, l_104, l_107, l_109, l_112, l_115, l_116, l_117, l_120, l_122, l_126, l_166, l_180, l_240, l_255, l_640, l_999, l_2656, l_3064, l_3704, l_3708, l_3712, l_3713, l_3893, l_155720, l_1000000, n_ltT, n_ltF, n_leT, n_leF, n_eqT, n_eqF, n_eqm, n_eqm', n_mltn, n_mlen, n_nltm, n_nlem, n_mltm, n_mlem, n_add, n_mul, n_sub, n_subm, n_cl, n_ofNat, n_div, n_mod, obM_si, rdI_si, wrI_si, lnI_si, grM_si', tgM_si', obM_sa, rdI_sa, wrI_sa, lnI_sa, grM_sa', tgM_sa']
  | cons x xs ih =>
    intro f i ys M S C V e hy hpx hl hi hf
    have H := C.1
    have hb := hs_b H
    obtain ⟨g, rfl⟩ : ∃ g, f = g + 1 := ⟨f - 1, by omega⟩
    rw [List.length_cons] at hi hf
    obtain ⟨M1, e1, F1, C1⟩ := cFull C V hq e
    have V1 : Inv ρ β (oFull x q S) := inv_full hq e (hl x List.mem_cons_self) V
    have hx16 := (((V.2.2.1 q hq).2 x).mp (by rw [e]; exact List.mem_cons_self)).1
    have hxp : x ≠ p := fun q => hpx (by rw [q]; exact List.mem_cons_self)
    have e2 : qu (oFull x q S) q = xs ++ ys := by
      show ud (qu S) q (qu S q).tail q = _
      rw [ud_s, e]
      rfl
    obtain ⟨M2, e3, F2, C2, V2, q2⟩ := ih g (i + 1) ys M1 _ C1 V1 e2 hy (fun q => hpx (List.mem_cons_of_mem _ q)) (fun z hz => hl z (List.mem_cons_of_mem _ hz)) (by omega) (by omega)
    have hF := (cv_Q C q hq).1
    rw [e] at hF
    have hF : giM M (h + 5) q = nI x := hF.1
    refine ⟨M2, ?_, Fr_tr (Fr_w F1 (by omega) (by omega)) F2, C2, V2, q2⟩
    show BH_bringToFront_11 (LH_bringToFront_11 g) h v1 v2 (nI p) (nI q) (nI i) M = _
    simp (disch := omega) only [BH_bringToFront_11, gd1, bs1, ↓reduceIte, d_nz, d_nn, or_true, true_or, or_false, false_or, decide_true, Sum.elim_inl, Sum.elim_inr, ↓l_m1, l_0, l_1, l_2, l_3, l_4, l_5, l_6, l_7, l_8, l_9, l_10, l_16, l_17, l_18, l_20, l_23, l_24, l_30, l_31, l_32, l_39, l_40, l_41, l_48, l_57, l_58, l_59, l_60, l_63, l_90, l_97, l_98, l_99, l_100, l_102, l_103, l_104, l_107, l_109, l_112, l_115, l_116, l_117, l_120, l_122, l_126, l_166, l_180, l_240, l_255, l_640, l_999, l_2656, l_3064, l_3704, l_3708, l_3712, l_3713, l_3893, l_155720, l_1000000, n_ltT, n_ltF, n_leT, n_leF, n_eqT, n_eqF, n_eqm, n_eqm', n_mltn, n_mlen, n_nltm, n_nlem, n_mltm, n_mlem, n_add, n_mul, n_sub, n_subm, n_cl, n_ofNat, n_div, n_mod, obM_si, rdI_si, wrI_si, lnI_si, grM_si', tgM_si', obM_sa, rdI_sa, wrI_sa, lnI_sa, grM_sa', tgM_sa', hs_ob H, hs_g0 H, hs_g1 H, hs_g2 H, hs_g3 H, hs_g4 H, hs_g5 H, hs_g6 H, hs_g7 H, hs_g8 H, hs_t1 H, hs_r1 H, hs_w1 H, hs_l1 H, hs_t2 H, hs_r2 H, hs_w2 H, hs_l2 H, hs_t3 H, hs_r3 H, hs_w3 H, hs_l3 H, hs_t14 H, hs_r14 H, hs_w14 H, hs_l14 H, hs_t15 H, hs_r15 H, hs_w15 H, hs_l15 H, hs_ob4 H, hs_g4_0 H, hs_t5 H, hs_r5 H, hs_w5 H, hs_l5 H, hs_g4_1 H, hs_t6 H, hs_r6 H, hs_w6 H, hs_l6 H, hs_g4_2 H, hs_t7 H, hs_r7 H, hs_w7 H, hs_l7 H, hs_g4_3 H, hs_t8 H, hs_r8 H, hs_w8 H, hs_l8 H, hs_ob9 H, hs_g9_0 H, hs_t10 H, hs_r10 H, hs_w10 H, hs_l10 H, hs_g9_1 H, hs_t11 H, hs_r11 H, hs_w11 H, hs_l11 H, hs_g9_2 H, hs_t12 H, hs_r12 H, hs_w12 H, hs_l12 H, hs_g9_3 H, hs_t13 H, hs_r13 H, hs_w13 H, hs_l13 H, hs_ob16 H, hs_g16 H, hs_t17 H, hs_r17 H, hs_w17 H, hs_l17 H, hs_ob5 H, hs_g50 H, hs_g51 H, hs_tu6 H, hs_ru6 H, hs_wu6 H, hs_lu6 H, hs_tu7 H, hs_ru7 H, hs_wu7 H, hs_lu7 H, hF, e1, e3]
theorem oPop_pr (q : Nat) : ∀ (xs : List Nat) (S : HSt), bl (oPop q xs S) = bl S ∧ ow (oPop q xs S) = ow S ∧ cl (oPop q xs S) = cl S ∧ hd (oPop q xs S) = hd S ∧ lv (oPop q xs S) = lv S ∧ gt (oPop q xs S) = gt S ∧ lg (oPop q xs S) = lg S ∧ ∀ p, p ∉ xs → kd (oPop q xs S) p = kd S p
  | [], S => ⟨rfl, rfl, rfl, rfl, rfl, rfl, rfl, fun _ _ => rfl⟩
  | x :: xs, S => by
    obtain ⟨h1, h2, h3, h4, h5, h6, h7, h8⟩ := oPop_pr q xs (oFull x q S)
    refine ⟨h1, h2, h3, h4, h5, h6, h7, fun p hp => ?_⟩
    show kd (oPop q xs (oFull x q S)) p = kd S p
    rw [h8 p (fun w => hp (List.mem_cons_of_mem _ w))]
    show ud (kd S) x 2 p = kd S p
    exact ud_n _ _ (fun w => hp (by rw [w]; exact List.mem_cons_self))
theorem blocksOf_ok (H : HS M h) (R : RuC M ρ) (hR : RuOK ρ) (hc : c < rK ρ) : fU_blocksOf 5 (nI c) M = some (nI (rU ρ / rZ ρ c), M) := by
  have hb := ru_b hR
  have hz := hR.2.1 c hc
  have hzz := rc_Z R hc
  simp (disch := omega) only [fU_blocksOf, BU_blocksOf_38, not_false_eq_true, gd1, bs1, ↓reduceIte, d_nz, d_nn, or_true, true_or, or_false, false_or, decide_true, Sum.elim_inl, Sum.elim_inr, ↓l_m1, l_0, l_1, l_2, l_3, l_4, l_5, l_6, l_7, l_8, l_9, l_10, l_16, l_17, l_18, l_20, l_23, l_24, l_30, l_31, l_32, l_39, l_40, l_41, l_48, l_57, l_58, l_59, l_60, l_63, l_90, l_97, l_98, l_99, l_100, l_102, l_103, l_104, l_107, l_109, l_112, l_115, l_116, l_117, l_120, l_122, l_126, l_166, l_180, l_240, l_255, l_640, l_999, l_2656, l_3064, l_3704, l_3708, l_3712, l_3713, l_3893, l_155720, l_1000000, n_ltT, n_ltF, n_leT, n_leF, n_eqT, n_eqF, n_eqm, n_eqm', n_mltn, n_mlen, n_nltm, n_nlem, n_mltm, n_mlem, n_add, n_mul, n_sub, n_subm, n_cl, n_ofNat, n_div, n_mod, obM_si, rdI_si, wrI_si, lnI_si, grM_si', tgM_si', obM_sa, rdI_sa, wrI_sa, lnI_sa, grM_sa', tgM_sa', hs_ob H, hs_g0 H, hs_g1 H, hs_g2 H, hs_g3 H, hs_g4 H, hs_g5 H, hs_g6 H, hs_g7 H, hs_g8 H, hs_t1 H, hs_r1 H, hs_w1 H, hs_l1 H, hs_t2 H, hs_r2 H, hs_w2 H, hs_l2 H, hs_t3 H, hs_r3 H, hs_w3 H, hs_l3 H, hs_t14 H, hs_r14 H, hs_w14 H, hs_l14 H, hs_t15 H, hs_r15 H, hs_w15 H, hs_l15 H, hs_ob4 H, hs_g4_0 H, hs_t5 H, hs_r5 H, hs_w5 H, hs_l5 H, hs_g4_1 H, hs_t6 H, hs_r6 H, hs_w6 H, hs_l6 H, hs_g4_2 H, hs_t7 H, hs_r7 H, hs_w7 H, hs_l7 H, hs_g4_3 H, hs_t8 H, hs_r8 H, hs_w8 H, hs_l8 H, hs_ob9 H, hs_g9_0 H, hs_t10 H, hs_r10 H, hs_w10 H, hs_l10 H, hs_g9_1 H, hs_t11 H, hs_r11 H, hs_w11 H, hs_l11 H, hs_g9_2 H, hs_t12 H, hs_r12 H, hs_w12 H, hs_l12 H, hs_g9_3 H, hs_t13 H, hs_r13 H, hs_w13 H, hs_l13 H, hs_ob16 H, hs_g16 H, hs_t17 H, hs_r17 H, hs_w17 H, hs_l17 H, hs_ob5 H, hs_g50 H, hs_g51 H, hs_tu6 H, hs_ru6 H, hs_wu6 H, hs_lu6 H, hs_tu7 H, hs_ru7 H, hs_wu7 H, hs_lu7 H, rc_T R, rc_P R, rc_U R, rc_B R, rc_H R, rc_K R, hzz]
def pdI : Nat → Int32
  | 0 => mI
  | k + 1 => nI k
theorem pd_s (k : Nat) : nI k + mI = pdI k := by
  cases k with
  | zero => exact n_0m
  | succ k => exact n_subm (Nat.succ_pos _)
theorem fl_loop (hp : p < 16) {n : Nat} (hn : n ≤ 40) {Ls : Nat → List Nat} (hLs : ∀ l, l < 112 → l ≠ 3 * p → ∀ x ∈ Ls l, x < 40 * p ∨ 40 * p + n ≤ x) : ∀ (k f : Nat) (M : Mem), HS M h → k ≤ n → ChM M (h + 9) (ud Ls (3 * p) ((List.range' k (n - k)).map (40 * p + ·))) 112 640 → k < f → ∃ M', LH_fill_30 f h (nI p) (pdI k) M = some M' ∧ Fr M M' (h + 10) (h + 13) ∧ ChM M' (h + 9) (ud Ls (3 * p) ((List.range' 0 n).map (40 * p + ·))) 112 640 ∧ ∀ x, x < 40 * p ∨ 40 * p + n ≤ x → giM M' (h + 13) x = giM M (h + 13) x := by
  intro k
  induction k with
  | zero =>
    intro f M H hk hL hf
    obtain ⟨g, rfl⟩ : ∃ g, f = g + 1 := ⟨f - 1, by omega⟩
    refine ⟨M, ?_, Fr_refl _ _ _, hL, fun _ _ => rfl⟩
    show BH_fill_30 (LH_fill_30 g) h (nI p) mI M = _
    simp (disch := omega) only [BH_fill_30, gd1, bs1, ↓reduceIte, d_nz, d_nn, or_true, true_or, or_false, false_or, decide_true, Sum.elim_inl, Sum.elim_inr, ↓l_m1, l_0, l_1, l_2, l_3, l_4, l_5, l_6, l_7, l_8, l_9, l_10, l_16, l_17, l_18, l_20, l_23, l_24, l_30, l_31, l_32, l_39, l_40, l_41, l_48, l_57, l_58, l_59, l_60, l_63, l_90, l_97, l_98, l_99, l_100, l_102, l_103, l_104, l_107, l_109, l_112, l_115, l_116, l_117, l_120, l_122, l_126, l_166, l_180, l_240, l_255, l_640, l_999, l_2656, l_3064, l_3704, l_3708, l_3712, l_3713, l_3893, l_155720, l_1000000, n_ltT, n_ltF, n_leT, n_leF, n_eqT, n_eqF, n_eqm, n_eqm', n_mltn, n_mlen, n_nltm, n_nlem, n_mltm, n_mlem, n_add, n_mul, n_sub, n_subm, n_cl, n_ofNat, n_div, n_mod, obM_si, rdI_si, wrI_si, lnI_si, grM_si', tgM_si', obM_sa, rdI_sa, wrI_sa, lnI_sa, grM_sa', tgM_sa']
  | succ k ih =>
    intro f M H hk hL hf
    have hb := hs_b H
    obtain ⟨g, rfl⟩ : ∃ g, f = g + 1 := ⟨f - 1, by omega⟩
    obtain ⟨M1, e1, F1, hL1, hx1⟩ := push_ok (hs_k H) hL (l := 3 * p) (t := 40 * p + k) (by omega) (by omega) (fun l hl => by
      by_cases el : l = 3 * p
      · subst el
        rw [ud_s]
        intro w
        obtain ⟨b, hb1, hb2⟩ := List.mem_map.mp w
        have := List.mem_range'_1.mp hb1
        omega
      · rw [ud_n _ _ el]
        intro w
        have := hLs l hl el _ w
        omega)
    have eL : ud (ud Ls (3 * p) ((List.range' (k + 1) (n - (k + 1))).map (40 * p + ·))) (3 * p) ((40 * p + k) :: ud Ls (3 * p) ((List.range' (k + 1) (n - (k + 1))).map (40 * p + ·)) (3 * p)) = ud Ls (3 * p) ((List.range' k (n - k)).map (40 * p + ·)) := by
      rw [ud_ud, ud_s]
      have e : n - k = (n - (k + 1)) + 1 := by omega
      rw [e, List.range'_succ, List.map_cons]
    rw [eL] at hL1
    have H1 : HS M1 h := HS_2 F1.1 H
    obtain ⟨M2, e2, F2, hL2, hx2⟩ := ih g M1 H1 (by omega) hL1 (by omega)
    refine ⟨M2, ?_, Fr_tr F1 F2, hL2, fun x hx => (hx2 x hx).trans (hx1 x (by omega))⟩
    show BH_fill_30 (LH_fill_30 g) h (nI p) (nI k) M = _
    simp (disch := omega) only [BH_fill_30, fH_listOf, gd1, bs1, ↓reduceIte, d_nz, d_nn, or_true, true_or, or_false, false_or, decide_true, Sum.elim_inl, Sum.elim_inr, ↓l_m1, l_0, l_1, l_2, l_3, l_4, l_5, l_6, l_7, l_8, l_9, l_10, l_16, l_17, l_18, l_20, l_23, l_24, l_30, l_31, l_32, l_39, l_40, l_41, l_48, l_57, l_58, l_59, l_60, l_63, l_90, l_97, l_98, l_99, l_100, l_102, l_103, l_104, l_107, l_109, l_112, l_115, l_116, l_117, l_120, l_122, l_126, l_166, l_180, l_240, l_255, l_640, l_999, l_2656, l_3064, l_3704, l_3708, l_3712, l_3713, l_3893, l_155720, l_1000000, n_ltT, n_ltF, n_leT, n_leF, n_eqT, n_eqF, n_eqm, n_eqm', n_mltn, n_mlen, n_nltm, n_nlem, n_mltm, n_mlem, n_add, n_mul, n_sub, n_subm, n_cl, n_ofNat, n_div, n_mod, obM_si, rdI_si, wrI_si, lnI_si, grM_si', tgM_si', obM_sa, rdI_sa, wrI_sa, lnI_sa, grM_sa', tgM_sa', hs_ob H, hs_g0 H, hs_g1 H, hs_g2 H, hs_g3 H, hs_g4 H, hs_g5 H, hs_g6 H, hs_g7 H, hs_g8 H, hs_t1 H, hs_r1 H, hs_w1 H, hs_l1 H, hs_t2 H, hs_r2 H, hs_w2 H, hs_l2 H, hs_t3 H, hs_r3 H, hs_w3 H, hs_l3 H, hs_t14 H, hs_r14 H, hs_w14 H, hs_l14 H, hs_t15 H, hs_r15 H, hs_w15 H, hs_l15 H, hs_ob4 H, hs_g4_0 H, hs_t5 H, hs_r5 H, hs_w5 H, hs_l5 H, hs_g4_1 H, hs_t6 H, hs_r6 H, hs_w6 H, hs_l6 H, hs_g4_2 H, hs_t7 H, hs_r7 H, hs_w7 H, hs_l7 H, hs_g4_3 H, hs_t8 H, hs_r8 H, hs_w8 H, hs_l8 H, hs_ob9 H, hs_g9_0 H, hs_t10 H, hs_r10 H, hs_w10 H, hs_l10 H, hs_g9_1 H, hs_t11 H, hs_r11 H, hs_w11 H, hs_l11 H, hs_g9_2 H, hs_t12 H, hs_r12 H, hs_w12 H, hs_l12 H, hs_g9_3 H, hs_t13 H, hs_r13 H, hs_w13 H, hs_l13 H, hs_ob16 H, hs_g16 H, hs_t17 H, hs_r17 H, hs_w17 H, hs_l17 H, hs_ob5 H, hs_g50 H, hs_g51 H, hs_tu6 H, hs_ru6 H, hs_wu6 H, hs_lu6 H, hs_tu7 H, hs_ru7 H, hs_wu7 H, hs_lu7 H, mul3, mul6, mul16, mul40, mul100, Nat.add_zero, e1, pd_s, e2]
theorem cFill (C : CC M h ρ β S) (V : Inv ρ β S) (hp : p < 16) (hc : c < rK ρ) (hk : kd S p = 0) : ∃ M', fH_fill h (nI p) (nI c) M = some M' ∧ Fr M M' (h + 1) (h + 13) ∧ CC M' h ρ β (oF1 ρ c p S) := by
  have H := C.1
  have hb := hs_b H
  have hRb := ru_b C.2.2.1
  have hz := C.2.2.1.2.1 c hc
  have R := C.2.1
  have hn0 : 0 < rU ρ / rZ ρ c := Nat.div_pos hz.2 hz.1
  have hn : rU ρ / rZ ρ c ≤ 40 := Nat.le_trans (Nat.div_le_self _ _) (by omega)
  obtain ⟨⟨z1, z2, z3⟩, z4⟩ := ct_nil hp V.2.1 (cut_0 (ρ := ρ) hk)
  obtain ⟨M2, hM2⟩ : ∃ M2, M2 = siM (siM M (h + 1) p (nI c)) (h + 3) p (nI (rU ρ / rZ ρ c)) := ⟨_, rfl⟩
  have F0 : Fr M M2 (h + 1) (h + 13) := by
    rw [hM2]
    exact Fr_tr (Fr_si (by omega) (by omega)) (Fr_si (by omega) (by omega))
  have H2 : HS M2 h := HS_2 F0.1 H
  have hb1 := blocksOf_ok (M := siM M (h + 1) p (nI c)) (HS_2 rfl H) (RuC_of R (by simp (disch := omega) only [giM_un]) (by simp (disch := omega) only [giM_un]) (by simp (disch := omega) only [giM_un])) C.2.2.1 hc
  have hL0 : ChM M2 (h + 9) (ud (LT S) (3 * p) ((List.range' (rU ρ / rZ ρ c) (rU ρ / rZ ρ c - rU ρ / rZ ρ c)).map (40 * p + ·))) 112 640 := by
    have e : ChM M2 (h + 9) (LT S) 112 640 := by
      have := cv_L C
      unfold ChM at this ⊢
      rw [hM2]
      simp (disch := omega) only [giM_un]
      exact this
    refine ch_eq e (fun l hl => ?_)
    by_cases el : l = 3 * p
    · rw [el, ud_s, Nat.sub_self]
      unfold LT
      rw [z1]
      rfl
    · rw [ud_n _ _ el]
  have hLs : ∀ l, l < 112 → l ≠ 3 * p → ∀ x ∈ LT S l, x < 40 * p ∨ 40 * p + rU ρ / rZ ρ c ≤ x := by
    intro l hl hne x hx
    obtain ⟨b, hb1, rfl⟩ := LT_mem.mp hx
    have hb2 := (in_pl V hl hb1).1
    have hb3 := cut_le C.2.2.1 V.1 (pl_lt hl)
    by_cases ep : pl l = p
    · exfalso
      rw [ep, cut_0 hk] at hb2
      omega
    · omega
  obtain ⟨M3, e3, F3, hL3, hx3⟩ := fl_loop hp hn hLs (rU ρ / rZ ρ c) 1000000 M2 H2 (Nat.le_refl _) hL0 (by omega)
  obtain ⟨m, hm⟩ : ∃ m, rU ρ / rZ ρ c = m + 1 := ⟨rU ρ / rZ ρ c - 1, by omega⟩
  refine ⟨M3, ?_, Fr_tr F0 (Fr_w F3 (by omega) (by omega)), ?_⟩
  · have e4 : nI (rU ρ / rZ ρ c) - nI 1 = pdI (rU ρ / rZ ρ c) := by
      rw [hm, n_sub (by omega)]
      rfl
    rw [hM2] at e3
    simp (disch := omega) only [fH_fill, gd1, bs1, ↓reduceIte, d_nz, d_nn, or_true, true_or, or_false, false_or, decide_true, Sum.elim_inl, Sum.elim_inr, ↓l_m1, l_0, l_1, l_2, l_3, l_4, l_5, l_6, l_7, l_8, l_9, l_10, l_16, l_17, l_18, l_20, l_23, l_24, l_30, l_31, l_32, l_39, l_40, l_41, l_48, l_57, l_58, l_59, l_60, l_63, l_90, l_97, l_98, l_99, l_100, l_102, l_103, l_104, l_107, l_109, l_112, l_115, l_116, l_117, l_120, l_122, l_126, l_166, l_180, l_240, l_255, l_640, l_999, l_2656, l_3064, l_3704, l_3708, l_3712, l_3713, l_3893, l_155720, l_1000000, n_ltT, n_ltF, n_leT, n_leF, n_eqT, n_eqF, n_eqm, n_eqm', n_mltn, n_mlen, n_nltm, n_nlem, n_mltm, n_mlem, n_add, n_mul, n_sub, n_subm, n_cl, n_ofNat, n_div, n_mod, obM_si, rdI_si, wrI_si, lnI_si, grM_si', tgM_si', obM_sa, rdI_sa, wrI_sa, lnI_sa, grM_sa', tgM_sa', hs_ob H, hs_g0 H, hs_g1 H, hs_g2 H, hs_g3 H, hs_g4 H, hs_g5 H, hs_g6 H, hs_g7 H, hs_g8 H, hs_t1 H, hs_r1 H, hs_w1 H, hs_l1 H, hs_t2 H, hs_r2 H, hs_w2 H, hs_l2 H, hs_t3 H, hs_r3 H, hs_w3 H, hs_l3 H, hs_t14 H, hs_r14 H, hs_w14 H, hs_l14 H, hs_t15 H, hs_r15 H, hs_w15 H, hs_l15 H, hs_ob4 H, hs_g4_0 H, hs_t5 H, hs_r5 H, hs_w5 H, hs_l5 H, hs_g4_1 H, hs_t6 H, hs_r6 H, hs_w6 H, hs_l6 H, hs_g4_2 H, hs_t7 H, hs_r7 H, hs_w7 H, hs_l7 H, hs_g4_3 H, hs_t8 H, hs_r8 H, hs_w8 H, hs_l8 H, hs_ob9 H, hs_g9_0 H, hs_t10 H, hs_r10 H, hs_w10 H, hs_l10 H, hs_g9_1 H, hs_t11 H, hs_r11 H, hs_w11 H, hs_l11 H, hs_g9_2 H, hs_t12 H, hs_r12 H, hs_w12 H, hs_l12 H, hs_g9_3 H, hs_t13 H, hs_r13 H, hs_w13 H, hs_l13 H, hs_ob16 H, hs_g16 H, hs_t17 H, hs_r17 H, hs_w17 H, hs_l17 H, hs_ob5 H, hs_g50 H, hs_g51 H, hs_tu6 H, hs_ru6 H, hs_wu6 H, hs_lu6 H, hs_tu7 H, hs_ru7 H, hs_wu7 H, hs_lu7 H, hb1, giM_ud, ud_s, e4, e3]
  · have hkd : ∀ x, x ≠ p → cut ρ (oF1 ρ c p S) x = cut ρ S x := fun x hx => cut_eq (by
      show ud (kd S) p 3 x = 0 ↔ _
      rw [ud_n _ _ hx]) (fun _ => ud_n _ _ hx)
    have hkp : cut ρ (oF1 ρ c p S) p = rU ρ / rZ ρ c := by
      show (if ud (kd S) p 3 p = 0 then 0 else rU ρ / rZ ρ (ud (cl S) p c p)) = _
      rw [ud_s, ud_s, if_neg (by omega)]
    have F4 : Fr M M3 (h + 1) (h + 13) := Fr_tr F0 (Fr_w F3 (by omega) (by omega))
    obtain ⟨-, -, hR, C1, C2, C3, C4, C5, C6⟩ := C
    refine ⟨HS_2 F3.1 H2, RuC_Fr R F4 (by omega), hR, ?_, ?_, ?_, ?_, ?_, ?_⟩
    · intro x hx
      obtain ⟨c1, c2, c3, c4⟩ := C1 x hx
      rw [F3.2 (h + 1) (by omega), F3.2 (h + 2) (by omega), F3.2 (h + 3) (by omega), F3.2 (h + 8) (by omega), hM2]
      simp (disch := omega) only [giM_un, giM_ud]
      unfold kI oI
      by_cases ex : x = p
      · subst ex
        rw [hkp, ud_s, ud_s]
        show nI c = (if ud (kd S) x 3 x = 0 then mI else nI (ud (cl S) x c x)) ∧ _ = (if ud (kd S) x 3 x = 1 ∨ ud (kd S) x 3 x = 2 then nI (ow S x) else mI) ∧ _ ∧ (ud (kd S) x 3 x ≠ 1 → _)
        rw [ud_s, ud_s, if_neg (by omega), if_neg (by omega)]
        refine ⟨rfl, c2.trans (oI_m (by omega)), rfl, fun _ => c4 (by omega)⟩
      · rw [hkd x ex, ud_n _ _ ex, ud_n _ _ ex]
        show _ = (if ud (kd S) p 3 x = 0 then mI else nI (ud (cl S) p c x)) ∧ _ = (if ud (kd S) p 3 x = 1 ∨ ud (kd S) p 3 x = 2 then nI (ow S x) else mI) ∧ _ ∧ (ud (kd S) p 3 x ≠ 1 → _)
        rw [ud_n _ _ ex, ud_n _ _ ex]
        exact ⟨c1, c2, c3, c4⟩
    · exact ChM_Fr F3 (by omega) (by
        unfold ChM at C2 ⊢
        rw [hM2]
        simp (disch := omega) only [giM_un]
        exact C2)
    · refine ch_eq hL3 (fun l hl => ?_)
      show List.map (40 * pl l + ·) (ud (bl S) (3 * p) (List.range (rU ρ / rZ ρ c)) l) = _
      by_cases el : l = 3 * p
      · rw [el, ud_s, ud_s, pl_30 hp, List.range_eq_range']
      · rw [ud_n _ _ el, ud_n _ _ el]
        rfl
    · intro x b hx hb2 hd2
      have hd3 : ud (hd S) p (fun b => if b < rU ρ / rZ ρ c then 0 else hd S p b) x b = 1 := hd2
      by_cases ex : x = p
      · subst ex
        rw [ud_s, if_pos (by rw [hkp] at hb2; exact hb2)] at hd3
        omega
      · rw [ud_n _ _ ex] at hd3
        rw [hkd x ex] at hb2
        have hb3 : cut ρ S x ≤ 40 := cut_le hR V.1 hx
        rw [hx3 _ (by omega), hM2]
        simp (disch := omega) only [giM_un]
        exact C4 x b hx hb2 hd3
    · rw [F3.2 (h + 14) (by omega), F3.2 (h + 15) (by omega), hM2]
      simp (disch := omega) only [giM_un]
      exact C5
    · rw [F3.2 (h + 16) (by omega), F3.2 (h + 17) (by omega), hM2]
      simp (disch := omega) only [giM_un]
      exact C6
theorem cAdopt (C : CC M h ρ β S) (hq0 : ∀ k, k < 24 → p ∉ qu S k) (ht : t < rT ρ) (hc : cl S p < rK ρ) (hp : p < 16) (hk : kd S p = 3) : ∃ M', BH_bringToFront_78 h (nI t) (nI p) (nI (6 * t + cl S p)) M = some M' ∧ Fr M M' (h + 1) (h + 13) ∧ CC M' h ρ β (oAdopt t p S) := by
  have H := C.1
  have hb := hs_b H
  have hR := ru_b C.2.2.1
  have ho := cv_o C hp
  rw [oI_m (by omega)] at ho
  have hQ : ChM (siM M (h + 2) p (nI t)) (h + 4) (qu S) 24 16 := by
    have := cv_Q C
    unfold ChM at this ⊢
    simp (disch := omega) only [giM_un]
    exact this
  obtain ⟨M', e, F, hL, hh, hx⟩ := append_ok (M := siM M (h + 2) p (nI t)) (hs_q (HS_2 rfl H)) hQ (l := 6 * t + cl S p) (t := p) (by omega) hp hq0
  have F2 : Fr M M' (h + 1) (h + 8) := Fr_tr (M1 := siM M (h + 2) p (nI t)) (Fr_si (by omega) (by omega)) (Fr_w F (by omega) (by omega))
  refine ⟨M', ?_, Fr_w F2 (by omega) (by omega), cc_qu C F2 ⟨rfl, rfl, rfl, rfl, rfl⟩ ?_ ?_ ?_⟩
  · simp (disch := omega) only [BH_bringToFront_78, BH_bringToFront_105, gd1, bs1, ↓reduceIte, d_nz, d_nn, or_true, true_or, or_false, false_or, decide_true, Sum.elim_inl, Sum.elim_inr, ↓l_m1, l_0, l_1, l_2, l_3, l_4, l_5, l_6, l_7, l_8, l_9, l_10, l_16, l_17, l_18, l_20, l_23, l_24, l_30, l_31, l_32, l_39, l_40, l_41, l_48, l_57, l_58, l_59, l_60, l_63, l_90, l_97, l_98, l_99, l_100, l_102, l_103, l_104, l_107, l_109, l_112, l_115, l_116, l_117, l_120, l_122, l_126, l_166, l_180, l_240, l_255, l_640, l_999, l_2656, l_3064, l_3704, l_3708, l_3712, l_3713, l_3893, l_155720, l_1000000, n_ltT, n_ltF, n_leT, n_leF, n_eqT, n_eqF, n_eqm, n_eqm', n_mltn, n_mlen, n_nltm, n_nlem, n_mltm, n_mlem, n_add, n_mul, n_sub, n_subm, n_cl, n_ofNat, n_div, n_mod, obM_si, rdI_si, wrI_si, lnI_si, grM_si', tgM_si', obM_sa, rdI_sa, wrI_sa, lnI_sa, grM_sa', tgM_sa', hs_ob H, hs_g0 H, hs_g1 H, hs_g2 H, hs_g3 H, hs_g4 H, hs_g5 H, hs_g6 H, hs_g7 H, hs_g8 H, hs_t1 H, hs_r1 H, hs_w1 H, hs_l1 H, hs_t2 H, hs_r2 H, hs_w2 H, hs_l2 H, hs_t3 H, hs_r3 H, hs_w3 H, hs_l3 H, hs_t14 H, hs_r14 H, hs_w14 H, hs_l14 H, hs_t15 H, hs_r15 H, hs_w15 H, hs_l15 H, hs_ob4 H, hs_g4_0 H, hs_t5 H, hs_r5 H, hs_w5 H, hs_l5 H, hs_g4_1 H, hs_t6 H, hs_r6 H, hs_w6 H, hs_l6 H, hs_g4_2 H, hs_t7 H, hs_r7 H, hs_w7 H, hs_l7 H, hs_g4_3 H, hs_t8 H, hs_r8 H, hs_w8 H, hs_l8 H, hs_ob9 H, hs_g9_0 H, hs_t10 H, hs_r10 H, hs_w10 H, hs_l10 H, hs_g9_1 H, hs_t11 H, hs_r11 H, hs_w11 H, hs_l11 H, hs_g9_2 H, hs_t12 H, hs_r12 H, hs_w12 H, hs_l12 H, hs_g9_3 H, hs_t13 H, hs_r13 H, hs_w13 H, hs_l13 H, hs_ob16 H, hs_g16 H, hs_t17 H, hs_r17 H, hs_w17 H, hs_l17 H, hs_ob5 H, hs_g50 H, hs_g51 H, hs_tu6 H, hs_ru6 H, hs_wu6 H, hs_lu6 H, hs_tu7 H, hs_ru7 H, hs_wu7 H, hs_lu7 H, ho, e]
  · intro x hx
    refine cut_eq ?_ (fun _ => rfl)
    show ud (kd S) p 1 x = 0 ↔ kd S x = 0
    by_cases ex : x = p
    · subst ex; rw [ud_s]; omega
    · rw [ud_n _ _ ex]
  · intro x hx2
    rw [F.2 (h + 1) (by omega), F.2 (h + 2) (by omega), F.2 (h + 3) (by omega)]
    simp (disch := omega) only [giM_un, giM_ud]
    rw [cv_k C hx2, cv_c C hx2]
    unfold kI oI
    show _ = (if ud (kd S) p 1 x = 0 then mI else nI (cl S x)) ∧ _ = (if ud (kd S) p 1 x = 1 ∨ ud (kd S) p 1 x = 2 then nI (ud (ow S) p t x) else mI) ∧ _ ∧ (ud (kd S) p 1 x ≠ 1 → _)
    by_cases ex : x = p
    · subst ex
      rw [ud_s, ud_s, ud_s, hk]
      exact ⟨rfl, rfl, rfl, fun q => absurd rfl q⟩
    · rw [ud_n _ _ ex, ud_n _ _ ex, ud_n _ _ ex]
      refine ⟨rfl, cv_o C hx2, rfl, fun q => (hx x ex).trans ?_⟩
      simp (disch := omega) only [giM_un]
      exact cv_h C hx2 q
  · show ChM M' (h + 4) (ud (qu S) (6 * ud (ow S) p t p + cl S p) (qu S (6 * ud (ow S) p t p + cl S p) ++ [p])) 24 16
    rw [ud_s]
    exact hL
theorem cTakeR (C : CC M h ρ β S) (V : Inv ρ β S) (hp : p < 16) {r : List Nat} (e : bl S (3 * p) = b :: r) : ∃ M', BH_takeReady_46 h (nI (3 * p)) M = some (nI b, M') ∧ Fr M M' (h + 1) (h + 13) ∧ CC M' h ρ β (oTake p S) := by
  have H := C.1
  have hb := hs_b H
  have hc := cut_le C.2.2.1 V.1 hp
  have hb2 := (in_cut V.2.1 hp (Or.inl rfl) (b := b) (by rw [e]; exact List.mem_cons_self)).1
  obtain ⟨M1, e1, F1, C1⟩ := cTake C V hp e
  have s1 := F1.1
  have e40 : 40 * p + b - (40 * p + b) / 40 * 40 = b := by omega
  refine ⟨M1, ?_, Fr_w F1 (by omega) (by omega), C1⟩
  simp (disch := omega) only [BH_takeReady_46, fH_ownNumber, BH_ownNumber_13, gd1, bs1, ↓reduceIte, d_nz, d_nn, or_true, true_or, or_false, false_or, decide_true, Sum.elim_inl, Sum.elim_inr, ↓l_m1, l_0, l_1, l_2, l_3, l_4, l_5, l_6, l_7, l_8, l_9, l_10, l_16, l_17, l_18, l_20, l_23, l_24, l_30, l_31, l_32, l_39, l_40, l_41, l_48, l_57, l_58, l_59, l_60, l_63, l_90, l_97, l_98, l_99, l_100, l_102, l_103, l_104, l_107, l_109, l_112, l_115, l_116, l_117, l_120, l_122, l_126, l_166, l_180, l_240, l_255, l_640, l_999, l_2656, l_3064, l_3704, l_3708, l_3712, l_3713, l_3893, l_155720, l_1000000, n_ltT, n_ltF, n_leT, n_leF, n_eqT, n_eqF, n_eqm, n_eqm', n_mltn, n_mlen, n_nltm, n_nlem, n_mltm, n_mlem, n_add, n_mul, n_sub, n_subm, n_cl, n_ofNat, n_div, n_mod, obM_si, rdI_si, wrI_si, lnI_si, grM_si', tgM_si', obM_sa, rdI_sa, wrI_sa, lnI_sa, grM_sa', tgM_sa', obM_2 s1, rdI_2 s1, wrI_2 s1, lnI_2 s1, grM_2 s1, tgM_2 s1, hs_ob H, hs_g0 H, hs_g1 H, hs_g2 H, hs_g3 H, hs_g4 H, hs_g5 H, hs_g6 H, hs_g7 H, hs_g8 H, hs_t1 H, hs_r1 H, hs_w1 H, hs_l1 H, hs_t2 H, hs_r2 H, hs_w2 H, hs_l2 H, hs_t3 H, hs_r3 H, hs_w3 H, hs_l3 H, hs_t14 H, hs_r14 H, hs_w14 H, hs_l14 H, hs_t15 H, hs_r15 H, hs_w15 H, hs_l15 H, hs_ob4 H, hs_g4_0 H, hs_t5 H, hs_r5 H, hs_w5 H, hs_l5 H, hs_g4_1 H, hs_t6 H, hs_r6 H, hs_w6 H, hs_l6 H, hs_g4_2 H, hs_t7 H, hs_r7 H, hs_w7 H, hs_l7 H, hs_g4_3 H, hs_t8 H, hs_r8 H, hs_w8 H, hs_l8 H, hs_ob9 H, hs_g9_0 H, hs_t10 H, hs_r10 H, hs_w10 H, hs_l10 H, hs_g9_1 H, hs_t11 H, hs_r11 H, hs_w11 H, hs_l11 H, hs_g9_2 H, hs_t12 H, hs_r12 H, hs_w12 H, hs_l12 H, hs_g9_3 H, hs_t13 H, hs_r13 H, hs_w13 H, hs_l13 H, hs_ob16 H, hs_g16 H, hs_t17 H, hs_r17 H, hs_w17 H, hs_l17 H, hs_ob5 H, hs_g50 H, hs_g51 H, hs_tu6 H, hs_ru6 H, hs_wu6 H, hs_lu6 H, hs_tu7 H, hs_ru7 H, hs_wu7 H, hs_lu7 H, e1, e40]
theorem cReady (C : CC M h ρ β S) (V : Inv ρ β S) (hp : p < 16) (hl : 0 < lst S p) (hk : kd S p ≠ 2) : ∃ M' b r, bl (oColl p S) (3 * p) = b :: r ∧ fH_takeReady h (nI p) M = some (nI b, M') ∧ Fr M M' (h + 1) (h + 13) ∧ CC M' h ρ β (oTake p (oColl p S)) ∧ Inv ρ β (oTake p (oColl p S)) := by
  have H := C.1
  have hb := hs_b H
  have hm := cv_m C (l := 3 * p) (by omega)
  have l1 := lengthOf_ok (w := 1) C hp (by omega)
  have k1 := bl_len C.2.2.1 V (l := 3 * p + 1) (by omega)
  have k0 := bl_len C.2.2.1 V (l := 3 * p) (by omega)
  have VC := inv_coll hp V hk
  revert VC
  unfold oColl
  by_cases h1 : bl S (3 * p) = []
  · rw [if_neg (fun q => q h1)]
    rw [h1] at hm
    by_cases h2 : bl S (3 * p + 1) = []
    · rw [if_neg (fun q => q h2)]
      intro VC
      rw [h2] at l1
      have h3 : bl S (3 * p + 2) ≠ [] := fun h3 => by
        unfold lst at hl
        rw [h1, h2, h3] at hl
        exact absurd hl (by simp)
      obtain ⟨M1, e1, F1, C1⟩ := cMove C V (l := 3 * p + 2) (l' := 3 * p) (by omega) (by omega) (by omega) (by rw [pl_30 hp, pl_3 hp (by omega)])
      have eb : bl (oMove (3 * p + 2) (3 * p) S) (3 * p) = bl S (3 * p + 2) := by
        show ud (ud (bl S) (3 * p) (bl S (3 * p + 2) ++ bl S (3 * p))) (3 * p + 2) [] (3 * p) = _
        rw [ud_n _ _ (by omega), ud_s, h1, List.append_nil]
      cases e : bl S (3 * p + 2) with
      | nil => exact absurd e h3
      | cons x r =>
        rw [e] at eb
        obtain ⟨M2, e2, F2, C2⟩ := cTakeR C1 VC hp eb
        refine ⟨M2, x, r, eb, ?_, Fr_tr (Fr_w F1 (by omega) (by omega)) F2, C2, inv_take hp eb VC⟩
        simp (disch := omega) only [fH_takeReady, fH_listOf, BH_takeReady_39, gd1, bs1, ↓reduceIte, d_nz, d_nn, or_true, true_or, or_false, false_or, decide_true, Sum.elim_inl, Sum.elim_inr, ↓l_m1, l_0, l_1, l_2, l_3, l_4, l_5, l_6, l_7, l_8, l_9, l_10, l_16, l_17, l_18, l_20, l_23, l_24, l_30, l_31, l_32, l_39, l_40, l_41, l_48, l_57, l_58, l_59, l_60, l_63, l_90, l_97, l_98, l_99, l_100, l_102, l_103, l_104, l_107, l_109, l_112, l_115, l_116, l_117, l_120, l_122, l_126, l_166, l_180, l_240, l_255, l_640, l_999, l_2656, l_3064, l_3704, l_3708, l_3712, l_3713, l_3893, l_155720, l_1000000, n_ltT, n_ltF, n_leT, n_leF, n_eqT, n_eqF, n_eqm, n_eqm', n_mltn, n_mlen, n_nltm, n_nlem, n_mltm, n_mlem, n_add, n_mul, n_sub, n_subm, n_cl, n_ofNat, n_div, n_mod, obM_si, rdI_si, wrI_si, lnI_si, grM_si', tgM_si', obM_sa, rdI_sa, wrI_sa, lnI_sa, grM_sa', tgM_sa', hs_ob H, hs_g0 H, hs_g1 H, hs_g2 H, hs_g3 H, hs_g4 H, hs_g5 H, hs_g6 H, hs_g7 H, hs_g8 H, hs_t1 H, hs_r1 H, hs_w1 H, hs_l1 H, hs_t2 H, hs_r2 H, hs_w2 H, hs_l2 H, hs_t3 H, hs_r3 H, hs_w3 H, hs_l3 H, hs_t14 H, hs_r14 H, hs_w14 H, hs_l14 H, hs_t15 H, hs_r15 H, hs_w15 H, hs_l15 H, hs_ob4 H, hs_g4_0 H, hs_t5 H, hs_r5 H, hs_w5 H, hs_l5 H, hs_g4_1 H, hs_t6 H, hs_r6 H, hs_w6 H, hs_l6 H, hs_g4_2 H, hs_t7 H, hs_r7 H, hs_w7 H, hs_l7 H, hs_g4_3 H, hs_t8 H, hs_r8 H, hs_w8 H, hs_l8 H, hs_ob9 H, hs_g9_0 H, hs_t10 H, hs_r10 H, hs_w10 H, hs_l10 H, hs_g9_1 H, hs_t11 H, hs_r11 H, hs_w11 H, hs_l11 H, hs_g9_2 H, hs_t12 H, hs_r12 H, hs_w12 H, hs_l12 H, hs_g9_3 H, hs_t13 H, hs_r13 H, hs_w13 H, hs_l13 H, hs_ob16 H, hs_g16 H, hs_t17 H, hs_r17 H, hs_w17 H, hs_l17 H, hs_ob5 H, hs_g50 H, hs_g51 H, hs_tu6 H, hs_ru6 H, hs_wu6 H, hs_lu6 H, hs_tu7 H, hs_ru7 H, hs_wu7 H, hs_lu7 H, mul3, mul6, mul16, mul40, mul100, Nat.add_zero, hm, l1, List.length_nil, e1, e2]
    · rw [if_pos h2]
      intro VC
      have hl1 := List.length_pos_iff.mpr h2
      obtain ⟨M1, e1, F1, C1⟩ := cMove C V (l := 3 * p + 1) (l' := 3 * p) (by omega) (by omega) (by omega) (by rw [pl_30 hp, pl_3 hp (by omega)])
      have eb : bl (oMove (3 * p + 1) (3 * p) S) (3 * p) = bl S (3 * p + 1) := by
        show ud (ud (bl S) (3 * p) (bl S (3 * p + 1) ++ bl S (3 * p))) (3 * p + 1) [] (3 * p) = _
        rw [ud_n _ _ (by omega), ud_s, h1, List.append_nil]
      cases e : bl S (3 * p + 1) with
      | nil => exact absurd e h2
      | cons x r =>
        rw [e] at eb
        obtain ⟨M2, e2, F2, C2⟩ := cTakeR C1 VC hp eb
        refine ⟨M2, x, r, eb, ?_, Fr_tr (Fr_w F1 (by omega) (by omega)) F2, C2, inv_take hp eb VC⟩
        simp (disch := omega) only [fH_takeReady, fH_listOf, BH_takeReady_39, gd1, bs1, ↓reduceIte, d_nz, d_nn, or_true, true_or, or_false, false_or, decide_true, Sum.elim_inl, Sum.elim_inr, ↓l_m1, l_0, l_1, l_2, l_3, l_4, l_5, l_6, l_7, l_8, l_9, l_10, l_16, l_17, l_18, l_20, l_23, l_24, l_30, l_31, l_32, l_39, l_40, l_41, l_48, l_57, l_58, l_59, l_60, l_63, l_90, l_97, l_98, l_99, l_100, l_102, l_103, l_104, l_107, l_109, l_112, l_115, l_116, l_117, l_120, l_122, l_126, l_166, l_180, l_240, l_255, l_640, l_999, l_2656, l_3064, l_3704, l_3708, l_3712, l_3713, l_3893, l_155720, l_1000000, n_ltT, n_ltF, n_leT, n_leF, n_eqT, n_eqF, n_eqm, n_eqm', n_mltn, n_mlen, n_nltm, n_nlem, n_mltm, n_mlem, n_add, n_mul, n_sub, n_subm, n_cl, n_ofNat, n_div, n_mod, obM_si, rdI_si, wrI_si, lnI_si, grM_si', tgM_si', obM_sa, rdI_sa, wrI_sa, lnI_sa, grM_sa', tgM_sa', hs_ob H, hs_g0 H, hs_g1 H, hs_g2 H, hs_g3 H, hs_g4 H, hs_g5 H, hs_g6 H, hs_g7 H, hs_g8 H, hs_t1 H, hs_r1 H, hs_w1 H, hs_l1 H, hs_t2 H, hs_r2 H, hs_w2 H, hs_l2 H, hs_t3 H, hs_r3 H, hs_w3 H, hs_l3 H, hs_t14 H, hs_r14 H, hs_w14 H, hs_l14 H, hs_t15 H, hs_r15 H, hs_w15 H, hs_l15 H, hs_ob4 H, hs_g4_0 H, hs_t5 H, hs_r5 H, hs_w5 H, hs_l5 H, hs_g4_1 H, hs_t6 H, hs_r6 H, hs_w6 H, hs_l6 H, hs_g4_2 H, hs_t7 H, hs_r7 H, hs_w7 H, hs_l7 H, hs_g4_3 H, hs_t8 H, hs_r8 H, hs_w8 H, hs_l8 H, hs_ob9 H, hs_g9_0 H, hs_t10 H, hs_r10 H, hs_w10 H, hs_l10 H, hs_g9_1 H, hs_t11 H, hs_r11 H, hs_w11 H, hs_l11 H, hs_g9_2 H, hs_t12 H, hs_r12 H, hs_w12 H, hs_l12 H, hs_g9_3 H, hs_t13 H, hs_r13 H, hs_w13 H, hs_l13 H, hs_ob16 H, hs_g16 H, hs_t17 H, hs_r17 H, hs_w17 H, hs_l17 H, hs_ob5 H, hs_g50 H, hs_g51 H, hs_tu6 H, hs_ru6 H, hs_wu6 H, hs_lu6 H, hs_tu7 H, hs_ru7 H, hs_wu7 H, hs_lu7 H, mul3, mul6, mul16, mul40, mul100, Nat.add_zero, hm, l1, List.length_nil, e1, e2]
  · rw [if_pos h1]
    intro VC
    have hl1 := List.length_pos_iff.mpr h1
    cases e : bl S (3 * p) with
    | nil => exact absurd e h1
    | cons x r =>
      obtain ⟨M2, e2, F2, C2⟩ := cTakeR C V hp e
      refine ⟨M2, x, r, rfl, ?_, F2, C2, inv_take hp e V⟩
      simp (disch := omega) only [fH_takeReady, fH_listOf, gd1, bs1, ↓reduceIte, d_nz, d_nn, or_true, true_or, or_false, false_or, decide_true, Sum.elim_inl, Sum.elim_inr, ↓l_m1, l_0, l_1, l_2, l_3, l_4, l_5, l_6, l_7, l_8, l_9, l_10, l_16, l_17, l_18, l_20, l_23, l_24, l_30, l_31, l_32, l_39, l_40, l_41, l_48, l_57, l_58, l_59, l_60, l_63, l_90, l_97, l_98, l_99, l_100, l_102, l_103, l_104, l_107, l_109, l_112, l_115, l_116, l_117, l_120, l_122, l_126, l_166, l_180, l_240, l_255, l_640, l_999, l_2656, l_3064, l_3704, l_3708, l_3712, l_3713, l_3893, l_155720, l_1000000, n_ltT, n_ltF, n_leT, n_leF, n_eqT, n_eqF, n_eqm, n_eqm', n_mltn, n_mlen, n_nltm, n_nlem, n_mltm, n_mlem, n_add, n_mul, n_sub, n_subm, n_cl, n_ofNat, n_div, n_mod, obM_si, rdI_si, wrI_si, lnI_si, grM_si', tgM_si', obM_sa, rdI_sa, wrI_sa, lnI_sa, grM_sa', tgM_sa', hs_ob H, hs_g0 H, hs_g1 H, hs_g2 H, hs_g3 H, hs_g4 H, hs_g5 H, hs_g6 H, hs_g7 H, hs_g8 H, hs_t1 H, hs_r1 H, hs_w1 H, hs_l1 H, hs_t2 H, hs_r2 H, hs_w2 H, hs_l2 H, hs_t3 H, hs_r3 H, hs_w3 H, hs_l3 H, hs_t14 H, hs_r14 H, hs_w14 H, hs_l14 H, hs_t15 H, hs_r15 H, hs_w15 H, hs_l15 H, hs_ob4 H, hs_g4_0 H, hs_t5 H, hs_r5 H, hs_w5 H, hs_l5 H, hs_g4_1 H, hs_t6 H, hs_r6 H, hs_w6 H, hs_l6 H, hs_g4_2 H, hs_t7 H, hs_r7 H, hs_w7 H, hs_l7 H, hs_g4_3 H, hs_t8 H, hs_r8 H, hs_w8 H, hs_l8 H, hs_ob9 H, hs_g9_0 H, hs_t10 H, hs_r10 H, hs_w10 H, hs_l10 H, hs_g9_1 H, hs_t11 H, hs_r11 H, hs_w11 H, hs_l11 H, hs_g9_2 H, hs_t12 H, hs_r12 H, hs_w12 H, hs_l12 H, hs_g9_3 H, hs_t13 H, hs_r13 H, hs_w13 H, hs_l13 H, hs_ob16 H, hs_g16 H, hs_t17 H, hs_r17 H, hs_w17 H, hs_l17 H, hs_ob5 H, hs_g50 H, hs_g51 H, hs_tu6 H, hs_ru6 H, hs_wu6 H, hs_lu6 H, hs_tu7 H, hs_ru7 H, hs_wu7 H, hs_lu7 H, mul3, mul6, mul16, mul40, mul100, Nat.add_zero, hm, e2]
end CG
