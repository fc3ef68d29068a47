/-! FREE -/
def aLoc (ρ : Rul) (p b : Nat) (S : HSt) : HSt := if kd S p = 2 then oEnq p (oPush (3 * p + 1) b (oHd p b 0 S)) else oPush (3 * p + 1) b (oHd p b 0 S)
def aBox (t p b : Nat) (S : HSt) : HSt := oPush (48 + 16 * t + p) b (oHd p b 0 S)
def aFree (ρ : Rul) (t p b : Nat) (S : HSt) : HSt :=
  if (kd S p = 1 ∨ kd S p = 2) ∧ ow S p = t then (if usd ρ (aLoc ρ p b S) p = 0 ∧ 1 < (qu (aLoc ρ p b S) (6 * t + cl S p)).length then oEmpty p (aLoc ρ p b S) else aLoc ρ p b S)
  else if (bl S (48 + 16 * t + p)).length + 1 < rB ρ then aBox t p b S else aHome ρ t p (aBox t p b S)
def aFrA (ρ : Rul) (t p : Nat) (S : HSt) : Nat := if (kd S p = 1 ∨ kd S p = 2) ∧ ow S p = t then 0 else if (bl S (48 + 16 * t + p)).length + 1 < rB ρ then 1 else 2
theorem i32_cs (v : Int32) : v < nI 0 ∨ ∃ n, n < 2147483648 ∧ v = nI n := by
  by_cases h : v < nI 0
  · exact Or.inl h
  · right
    have h1 := v.toInt_lt
    have h2 : (0 : Int) ≤ v.toInt := by
      have h3 := Int32.not_lt.mp h
      rw [Int32.le_iff_toInt_le] at h3
      exact h3
    refine ⟨v.toInt.toNat, by omega, ?_⟩
    apply Int32.toInt_inj.mp
    rw [nI_toInt (by omega)]
    omega
section CV
variable {M : Mem} {h : Nat} {ρ : Rul} {β : Nat} {S : HSt} {p t b l q c n : Nat}
theorem home_hd (C : CC M h ρ β S) (V : Inv ρ β S) (hp : p < 16) (hb : b < cut ρ S p) : (giM M (h + 13) (40 * p + b) = mI) = (hd S p b = 1) := by
  refine propext ⟨fun e => ?_, fun e => cv_hd C hp hb e⟩
  have h1 := (V.2.1 p hp b).1 hb
  have hR := C.2.2.1
  have key : ∀ l, l < 112 → pl l = p → b ∉ bl S l := by
    intro l hl hpl hm
    have h2 := ((cv_L C l hl).2.2.2 (40 * p + b) (LT_mem.mpr ⟨b, hm, by rw [hpl]⟩)).2
    rw [e, n_eqm' (by omega)] at h2
    exact h2
  have z0 := List.count_eq_zero.mpr (key (3 * p) (by omega) (pl_30 hp))
  have z1 := List.count_eq_zero.mpr (key (3 * p + 1) (by omega) (pl_3 hp (by omega)))
  have z2 := List.count_eq_zero.mpr (key (3 * p + 2) (by omega) (pl_3 hp (by omega)))
  have z3 := List.count_eq_zero.mpr (key (48 + 16 * 0 + p) (by omega) (pl_b hp))
  have z4 := List.count_eq_zero.mpr (key (48 + 16 * 1 + p) (by omega) (pl_b hp))
  have z5 := List.count_eq_zero.mpr (key (48 + 16 * 2 + p) (by omega) (pl_b hp))
  have z6 := List.count_eq_zero.mpr (key (48 + 16 * 3 + p) (by omega) (pl_b hp))
  unfold ct at h1
  omega
theorem isBlock_m {v : Int32} (hv : v < nI 0) : fH_isBlock h v M = some (nI 0, M) := by
  simp (disch := omega) only [fH_isBlock, BH_isBlock_39, BH_isBlock_40, gd1, bs1, ↓reduceIte, d_nz, d_nn, or_true, true_or, or_false, false_or, decide_true, Sum.elim_inl, Sum.elim_inr, ↓l_m1, l_0, l_1, l_2, l_3, l_4, l_5, l_6, l_7, l_8, l_9, l_10, l_16, l_17, l_18, l_20, l_23, l_24, l_30, l_31, l_32, l_39, l_40, l_41, l_48, l_57, l_58, l_59, l_60, l_63, l_90, l_97, l_98, l_99, l_100, l_102, l_103, l_104, l_107, l_109, l_112, l_115, l_116, l_117, l_120, l_122, l_126, l_166, l_180, l_240, l_255, l_640, l_999, l_2656, l_3064, l_3704, l_3708, l_3712, l_3713, l_3893, l_155720, l_1000000, hv, d_nI]
theorem isBlock_ok (C : CC M h ρ β S) (V : Inv ρ β S) (hn : n < 2147483648) : fH_isBlock h (nI n) M = some (nI (if n / 100 < rP ρ ∧ n % 100 < cut ρ S (n / 100) then 1 else 0), M) := by
  have H := C.1
  have R := C.2.1
  have hR := ru_b C.2.2.1
  have hd : 100 * (n / 100) ≤ n := by omega
  by_cases h1 : n / 100 < rP ρ
  · have hcc := cv_c C (p := n / 100) (by omega)
    have hc2 := cut_le C.2.2.1 V.1 (p := n / 100) (by omega)
    by_cases h2 : n % 100 < cut ρ S (n / 100)
    · rw [if_pos ⟨h1, h2⟩]
      simp (disch := omega) only [fH_isBlock, BH_isBlock_39, BH_isBlock_40, gd1, bs1, ↓reduceIte, d_nz, d_nn, or_true, true_or, or_false, false_or, decide_true, Sum.elim_inl, Sum.elim_inr, ↓l_m1, l_0, l_1, l_2, l_3, l_4, l_5, l_6, l_7, l_8, l_9, l_10, l_16, l_17, l_18, l_20, l_23, l_24, l_30, l_31, l_32, l_39, l_40, l_41, l_48, l_57, l_58, l_59, l_60, l_63, l_90, l_97, l_98, l_99, l_100, l_102, l_103, l_104, l_107, l_109, l_112, l_115, l_116, l_117, l_120, l_122, l_126, l_166, l_180, l_240, l_255, l_640, l_999, l_2656, l_3064, l_3704, l_3708, l_3712, l_3713, l_3893, l_155720, l_1000000, n_ltT, n_ltF, n_leT, n_leF, n_eqT, n_eqF, n_eqm, n_eqm', n_mltn, n_mlen, n_nltm, n_nlem, n_mltm, n_mlem, n_add, n_mul, n_sub, n_subm, n_cl, n_ofNat, n_div, n_mod, obM_si, rdI_si, wrI_si, lnI_si, grM_si', tgM_si', obM_sa, rdI_sa, wrI_sa, lnI_sa, grM_sa', tgM_sa', hs_ob H, hs_g0 H, hs_g1 H, hs_g2 H, hs_g3 H, hs_g4 H, hs_g5 H, hs_g6 H, hs_g7 H, hs_g8 H, hs_t1 H, hs_r1 H, hs_w1 H, hs_l1 H, hs_t2 H, hs_r2 H, hs_w2 H, hs_l2 H, hs_t3 H, hs_r3 H, hs_w3 H, hs_l3 H, hs_t14 H, hs_r14 H, hs_w14 H, hs_l14 H, hs_t15 H, hs_r15 H, hs_w15 H, hs_l15 H, hs_ob4 H, hs_g4_0 H, hs_t5 H, hs_r5 H, hs_w5 H, hs_l5 H, hs_g4_1 H, hs_t6 H, hs_r6 H, hs_w6 H, hs_l6 H, hs_g4_2 H, hs_t7 H, hs_r7 H, hs_w7 H, hs_l7 H, hs_g4_3 H, hs_t8 H, hs_r8 H, hs_w8 H, hs_l8 H, hs_ob9 H, hs_g9_0 H, hs_t10 H, hs_r10 H, hs_w10 H, hs_l10 H, hs_g9_1 H, hs_t11 H, hs_r11 H, hs_w11 H, hs_l11 H, hs_g9_2 H, hs_t12 H, hs_r12 H, hs_w12 H, hs_l12 H, hs_g9_3 H, hs_t13 H, hs_r13 H, hs_w13 H, hs_l13 H, hs_ob16 H, hs_g16 H, hs_t17 H, hs_r17 H, hs_w17 H, hs_l17 H, hs_ob5 H, hs_g50 H, hs_g51 H, hs_tu6 H, hs_ru6 H, hs_wu6 H, hs_lu6 H, hs_tu7 H, hs_ru7 H, hs_wu7 H, hs_lu7 H, rc_T R, rc_P R, rc_U R, rc_B R, rc_H R, rc_K R, hcc, d_nI]
    · rw [if_neg (fun q => h2 q.2)]
      simp (disch := omega) only [fH_isBlock, BH_isBlock_39, BH_isBlock_40, gd1, bs1, ↓reduceIte, d_nz, d_nn, or_true, true_or, or_false, false_or, decide_true, Sum.elim_inl, Sum.elim_inr, ↓l_m1, l_0, l_1, l_2, l_3, l_4, l_5, l_6, l_7, l_8, l_9, l_10, l_16, l_17, l_18, l_20, l_23, l_24, l_30, l_31, l_32, l_39, l_40, l_41, l_48, l_57, l_58, l_59, l_60, l_63, l_90, l_97, l_98, l_99, l_100, l_102, l_103, l_104, l_107, l_109, l_112, l_115, l_116, l_117, l_120, l_122, l_126, l_166, l_180, l_240, l_255, l_640, l_999, l_2656, l_3064, l_3704, l_3708, l_3712, l_3713, l_3893, l_155720, l_1000000, n_ltT, n_ltF, n_leT, n_leF, n_eqT, n_eqF, n_eqm, n_eqm', n_mltn, n_mlen, n_nltm, n_nlem, n_mltm, n_mlem, n_add, n_mul, n_sub, n_subm, n_cl, n_ofNat, n_div, n_mod, obM_si, rdI_si, wrI_si, lnI_si, grM_si', tgM_si', obM_sa, rdI_sa, wrI_sa, lnI_sa, grM_sa', tgM_sa', hs_ob H, hs_g0 H, hs_g1 H, hs_g2 H, hs_g3 H, hs_g4 H, hs_g5 H, hs_g6 H, hs_g7 H, hs_g8 H, hs_t1 H, hs_r1 H, hs_w1 H, hs_l1 H, hs_t2 H, hs_r2 H, hs_w2 H, hs_l2 H, hs_t3 H, hs_r3 H, hs_w3 H, hs_l3 H, hs_t14 H, hs_r14 H, hs_w14 H, hs_l14 H, hs_t15 H, hs_r15 H, hs_w15 H, hs_l15 H, hs_ob4 H, hs_g4_0 H, hs_t5 H, hs_r5 H, hs_w5 H, hs_l5 H, hs_g4_1 H, hs_t6 H, hs_r6 H, hs_w6 H, hs_l6 H, hs_g4_2 H, hs_t7 H, hs_r7 H, hs_w7 H, hs_l7 H, hs_g4_3 H, hs_t8 H, hs_r8 H, hs_w8 H, hs_l8 H, hs_ob9 H, hs_g9_0 H, hs_t10 H, hs_r10 H, hs_w10 H, hs_l10 H, hs_g9_1 H, hs_t11 H, hs_r11 H, hs_w11 H, hs_l11 H, hs_g9_2 H, hs_t12 H, hs_r12 H, hs_w12 H, hs_l12 H, hs_g9_3 H, hs_t13 H, hs_r13 H, hs_w13 H, hs_l13 H, hs_ob16 H, hs_g16 H, hs_t17 H, hs_r17 H, hs_w17 H, hs_l17 H, hs_ob5 H, hs_g50 H, hs_g51 H, hs_tu6 H, hs_ru6 H, hs_wu6 H, hs_lu6 H, hs_tu7 H, hs_ru7 H, hs_wu7 H, hs_lu7 H, rc_T R, rc_P R, rc_U R, rc_B R, rc_H R, rc_K R, hcc, d_nI]
  · rw [if_neg (fun q => h1 q.1)]
    simp (disch := omega) only [fH_isBlock, BH_isBlock_39, BH_isBlock_40, gd1, bs1, ↓reduceIte, d_nz, d_nn, or_true, true_or, or_false, false_or, decide_true, Sum.elim_inl, Sum.elim_inr, ↓l_m1, l_0, l_1, l_2, l_3, l_4, l_5, l_6, l_7, l_8, l_9, l_10, l_16, l_17, l_18, l_20, l_23, l_24, l_30, l_31, l_32, l_39, l_40, l_41, l_48, l_57, l_58, l_59, l_60, l_63, l_90, l_97, l_98, l_99, l_100, l_102, l_103, l_104, l_107, l_109, l_112, l_115, l_116, l_117, l_120, l_122, l_126, l_166, l_180, l_240, l_255, l_640, l_999, l_2656, l_3064, l_3704, l_3708, l_3712, l_3713, l_3893, l_155720, l_1000000, n_ltT, n_ltF, n_leT, n_leF, n_eqT, n_eqF, n_eqm, n_eqm', n_mltn, n_mlen, n_nltm, n_nlem, n_mltm, n_mlem, n_add, n_mul, n_sub, n_subm, n_cl, n_ofNat, n_div, n_mod, obM_si, rdI_si, wrI_si, lnI_si, grM_si', tgM_si', obM_sa, rdI_sa, wrI_sa, lnI_sa, grM_sa', tgM_sa', hs_ob H, hs_g0 H, hs_g1 H, hs_g2 H, hs_g3 H, hs_g4 H, hs_g5 H, hs_g6 H, hs_g7 H, hs_g8 H, hs_t1 H, hs_r1 H, hs_w1 H, hs_l1 H, hs_t2 H, hs_r2 H, hs_w2 H, hs_l2 H, hs_t3 H, hs_r3 H, hs_w3 H, hs_l3 H, hs_t14 H, hs_r14 H, hs_w14 H, hs_l14 H, hs_t15 H, hs_r15 H, hs_w15 H, hs_l15 H, hs_ob4 H, hs_g4_0 H, hs_t5 H, hs_r5 H, hs_w5 H, hs_l5 H, hs_g4_1 H, hs_t6 H, hs_r6 H, hs_w6 H, hs_l6 H, hs_g4_2 H, hs_t7 H, hs_r7 H, hs_w7 H, hs_l7 H, hs_g4_3 H, hs_t8 H, hs_r8 H, hs_w8 H, hs_l8 H, hs_ob9 H, hs_g9_0 H, hs_t10 H, hs_r10 H, hs_w10 H, hs_l10 H, hs_g9_1 H, hs_t11 H, hs_r11 H, hs_w11 H, hs_l11 H, hs_g9_2 H, hs_t12 H, hs_r12 H, hs_w12 H, hs_l12 H, hs_g9_3 H, hs_t13 H, hs_r13 H, hs_w13 H, hs_l13 H, hs_ob16 H, hs_g16 H, hs_t17 H, hs_r17 H, hs_w17 H, hs_l17 H, hs_ob5 H, hs_g50 H, hs_g51 H, hs_tu6 H, hs_ru6 H, hs_wu6 H, hs_lu6 H, hs_tu7 H, hs_ru7 H, hs_wu7 H, hs_lu7 H, rc_T R, rc_P R, rc_U R, rc_B R, rc_H R, rc_K R, d_nI]
theorem isHeld_ok (C : CC M h ρ β S) (V : Inv ρ β S) (hp : p < rP ρ) (hb : b < cut ρ S p) : fH_isHeld h (nI (100 * p + b)) M = some (nI (hd S p b), M) := by
  have H := C.1
  have hR := ru_b C.2.2.1
  have hp16 : p < 16 := by omega
  have hc2 := cut_le C.2.2.1 V.1 hp16
  have h1 := isBlock_ok C V (n := 100 * p + b) (by omega)
  have e1 : (100 * p + b) / 100 = p := by omega
  have e2 : (100 * p + b) % 100 = b := by omega
  rw [e1, e2, if_pos ⟨hp, hb⟩] at h1
  have h2 := home_hd C V hp16 hb
  have h3 := (V.2.1 p hp16 b).1 hb
  by_cases h4 : hd S p b = 1
  · have h2 : giM M (h + 13) (40 * p + b) = mI := h2.mpr h4
    rw [h4]
    simp (disch := omega) only [fH_isHeld, fH_thingOf, BH_isHeld_29, BH_isHeld_30, gd1, bs1, ↓reduceIte, d_nz, d_nn, or_true, true_or, or_false, false_or, decide_true, Sum.elim_inl, Sum.elim_inr, ↓l_m1, l_0, l_1, l_2, l_3, l_4, l_5, l_6, l_7, l_8, l_9, l_10, l_16, l_17, l_18, l_20, l_23, l_24, l_30, l_31, l_32, l_39, l_40, l_41, l_48, l_57, l_58, l_59, l_60, l_63, l_90, l_97, l_98, l_99, l_100, l_102, l_103, l_104, l_107, l_109, l_112, l_115, l_116, l_117, l_120, l_122, l_126, l_166, l_180, l_240, l_255, l_640, l_999, l_2656, l_3064, l_3704, l_3708, l_3712, l_3713, l_3893, l_155720, l_1000000, n_ltT, n_ltF, n_leT, n_leF, n_eqT, n_eqF, n_eqm, n_eqm', n_mltn, n_mlen, n_nltm, n_nlem, n_mltm, n_mlem, n_add, n_mul, n_sub, n_subm, n_cl, n_ofNat, n_div, n_mod, obM_si, rdI_si, wrI_si, lnI_si, grM_si', tgM_si', obM_sa, rdI_sa, wrI_sa, lnI_sa, grM_sa', tgM_sa', hs_ob H, hs_g0 H, hs_g1 H, hs_g2 H, hs_g3 H, hs_g4 H, hs_g5 H, hs_g6 H, hs_g7 H, hs_g8 H, hs_t1 H, hs_r1 H, hs_w1 H, hs_l1 H, hs_t2 H, hs_r2 H, hs_w2 H, hs_l2 H, hs_t3 H, hs_r3 H, hs_w3 H, hs_l3 H, hs_t14 H, hs_r14 H, hs_w14 H, hs_l14 H, hs_t15 H, hs_r15 H, hs_w15 H, hs_l15 H, hs_ob4 H, hs_g4_0 H, hs_t5 H, hs_r5 H, hs_w5 H, hs_l5 H, hs_g4_1 H, hs_t6 H, hs_r6 H, hs_w6 H, hs_l6 H, hs_g4_2 H, hs_t7 H, hs_r7 H, hs_w7 H, hs_l7 H, hs_g4_3 H, hs_t8 H, hs_r8 H, hs_w8 H, hs_l8 H, hs_ob9 H, hs_g9_0 H, hs_t10 H, hs_r10 H, hs_w10 H, hs_l10 H, hs_g9_1 H, hs_t11 H, hs_r11 H, hs_w11 H, hs_l11 H, hs_g9_2 H, hs_t12 H, hs_r12 H, hs_w12 H, hs_l12 H, hs_g9_3 H, hs_t13 H, hs_r13 H, hs_w13 H, hs_l13 H, hs_ob16 H, hs_g16 H, hs_t17 H, hs_r17 H, hs_w17 H, hs_l17 H, hs_ob5 H, hs_g50 H, hs_g51 H, hs_tu6 H, hs_ru6 H, hs_wu6 H, hs_lu6 H, hs_tu7 H, hs_ru7 H, hs_wu7 H, hs_lu7 H, mul3, mul6, mul16, mul40, mul100, Nat.add_zero, h1, e1, e2, Nat.add_sub_cancel_left, h2, d_nI]
  · have h2 : (giM M (h + 13) (40 * p + b) = mI) = False := h2.trans (eq_false h4)
    rw [show hd S p b = 0 by omega]
    simp (disch := omega) only [fH_isHeld, fH_thingOf, BH_isHeld_29, BH_isHeld_30, gd1, bs1, ↓reduceIte, d_nz, d_nn, or_true, true_or, or_false, false_or, decide_true, Sum.elim_inl, Sum.elim_inr, ↓l_m1, l_0, l_1, l_2, l_3, l_4, l_5, l_6, l_7, l_8, l_9, l_10, l_16, l_17, l_18, l_20, l_23, l_24, l_30, l_31, l_32, l_39, l_40, l_41, l_48, l_57, l_58, l_59, l_60, l_63, l_90, l_97, l_98, l_99, l_100, l_102, l_103, l_104, l_107, l_109, l_112, l_115, l_116, l_117, l_120, l_122, l_126, l_166, l_180, l_240, l_255, l_640, l_999, l_2656, l_3064, l_3704, l_3708, l_3712, l_3713, l_3893, l_155720, l_1000000, n_ltT, n_ltF, n_leT, n_leF, n_eqT, n_eqF, n_eqm, n_eqm', n_mltn, n_mlen, n_nltm, n_nlem, n_mltm, n_mlem, n_add, n_mul, n_sub, n_subm, n_cl, n_ofNat, n_div, n_mod, obM_si, rdI_si, wrI_si, lnI_si, grM_si', tgM_si', obM_sa, rdI_sa, wrI_sa, lnI_sa, grM_sa', tgM_sa', hs_ob H, hs_g0 H, hs_g1 H, hs_g2 H, hs_g3 H, hs_g4 H, hs_g5 H, hs_g6 H, hs_g7 H, hs_g8 H, hs_t1 H, hs_r1 H, hs_w1 H, hs_l1 H, hs_t2 H, hs_r2 H, hs_w2 H, hs_l2 H, hs_t3 H, hs_r3 H, hs_w3 H, hs_l3 H, hs_t14 H, hs_r14 H, hs_w14 H, hs_l14 H, hs_t15 H, hs_r15 H, hs_w15 H, hs_l15 H, hs_ob4 H, hs_g4_0 H, hs_t5 H, hs_r5 H, hs_w5 H, hs_l5 H, hs_g4_1 H, hs_t6 H, hs_r6 H, hs_w6 H, hs_l6 H, hs_g4_2 H, hs_t7 H, hs_r7 H, hs_w7 H, hs_l7 H, hs_g4_3 H, hs_t8 H, hs_r8 H, hs_w8 H, hs_l8 H, hs_ob9 H, hs_g9_0 H, hs_t10 H, hs_r10 H, hs_w10 H, hs_l10 H, hs_g9_1 H, hs_t11 H, hs_r11 H, hs_w11 H, hs_l11 H, hs_g9_2 H, hs_t12 H, hs_r12 H, hs_w12 H, hs_l12 H, hs_g9_3 H, hs_t13 H, hs_r13 H, hs_w13 H, hs_l13 H, hs_ob16 H, hs_g16 H, hs_t17 H, hs_r17 H, hs_w17 H, hs_l17 H, hs_ob5 H, hs_g50 H, hs_g51 H, hs_tu6 H, hs_ru6 H, hs_wu6 H, hs_lu6 H, hs_tu7 H, hs_ru7 H, hs_wu7 H, hs_lu7 H, mul3, mul6, mul16, mul40, mul100, Nat.add_zero, h1, e1, e2, Nat.add_sub_cancel_left, h2, d_nI]
theorem inv_loc2 (hp : p < 16) (hb : b < cut ρ S p) (hh : hd S p b = 1) (V : Inv ρ β S) : Inv ρ β (aLoc ρ p b S) := by
  have V1 := inv_loc hp hb hh V
  unfold aLoc
  by_cases hk : kd S p = 2
  · rw [if_pos hk]; exact inv_enq hp hk V1
  · rw [if_neg hk]; exact V1
theorem inv_free (hR : RuOK ρ) (ht : t < rT ρ) (hp : p < 16) (hB : BoxB ρ S) (hb : b < cut ρ S p) (hh : hd S p b = 1) (V : Inv ρ β S) : Inv ρ β (aFree ρ t p b S) := by
  have hRb := ru_b hR
  unfold aFree
  by_cases h1 : (kd S p = 1 ∨ kd S p = 2) ∧ ow S p = t
  · rw [if_pos h1]
    have V1 := inv_loc2 hp hb hh V
    by_cases h2 : usd ρ (aLoc ρ p b S) p = 0 ∧ 1 < (qu (aLoc ρ p b S) (6 * t + cl S p)).length
    · rw [if_pos h2]; exact inv_empty hp h2.1 V1
    · rw [if_neg h2]; exact V1
  · rw [if_neg h1]
    have h9 := hB t p (by omega) hp
    have V1 : Inv ρ β (aBox t p b S) := inv_box ht (by omega) hp (by omega) hb hh V
    by_cases h2 : (bl S (48 + 16 * t + p)).length + 1 < rB ρ
    · rw [if_pos h2]; exact V1
    · rw [if_neg h2]; exact inv_aHome (by omega) hp V1
theorem cGiveNo (C : CC M h ρ β S) (V : Inv ρ β S) {v : Int32} (ht : t < 100) (hno : ¬ (t < rT ρ ∧ lv S t = 1)) : fH_giveBlock h (nI t) v M = some (mI, M) := by
  have H := C.1
  have hR := ru_b C.2.2.1
  by_cases hT : t < rT ρ
  · have hL := isLiving_ok C V hT
    have hv := (V.2.2.2.2.1 t (by omega)).1
    rw [show lv S t = 0 by omega] at hL
    simp (disch := omega) only [fH_giveBlock, BH_giveBlock_16, gd1, bs1, ↓reduceIte, d_nz, d_nn, or_true, true_or, or_false, false_or, decide_true, Sum.elim_inl, Sum.elim_inr, ↓l_m1, l_0, l_1, l_2, l_3, l_4, l_5, l_6, l_7, l_8, l_9, l_10, l_16, l_17, l_18, l_20, l_23, l_24, l_30, l_31, l_32, l_39, l_40, l_41, l_48, l_57, l_58, l_59, l_60, l_63, l_90, l_97, l_98, l_99, l_100, l_102, l_103, l_104, l_107, l_109, l_112, l_115, l_116, l_117, l_120, l_122, l_126, l_166, l_180, l_240, l_255, l_640, l_999, l_2656, l_3064, l_3704, l_3708, l_3712, l_3713, l_3893, l_155720, l_1000000, n_ltT, n_ltF, n_leT, n_leF, n_eqT, n_eqF, n_eqm, n_eqm', n_mltn, n_mlen, n_nltm, n_nlem, n_mltm, n_mlem, n_add, n_mul, n_sub, n_subm, n_cl, n_ofNat, n_div, n_mod, obM_si, rdI_si, wrI_si, lnI_si, grM_si', tgM_si', obM_sa, rdI_sa, wrI_sa, lnI_sa, grM_sa', tgM_sa', hs_ob H, hs_g0 H, hs_g1 H, hs_g2 H, hs_g3 H, hs_g4 H, hs_g5 H, hs_g6 H, hs_g7 H, hs_g8 H, hs_t1 H, hs_r1 H, hs_w1 H, hs_l1 H, hs_t2 H, hs_r2 H, hs_w2 H, hs_l2 H, hs_t3 H, hs_r3 H, hs_w3 H, hs_l3 H, hs_t14 H, hs_r14 H, hs_w14 H, hs_l14 H, hs_t15 H, hs_r15 H, hs_w15 H, hs_l15 H, hs_ob4 H, hs_g4_0 H, hs_t5 H, hs_r5 H, hs_w5 H, hs_l5 H, hs_g4_1 H, hs_t6 H, hs_r6 H, hs_w6 H, hs_l6 H, hs_g4_2 H, hs_t7 H, hs_r7 H, hs_w7 H, hs_l7 H, hs_g4_3 H, hs_t8 H, hs_r8 H, hs_w8 H, hs_l8 H, hs_ob9 H, hs_g9_0 H, hs_t10 H, hs_r10 H, hs_w10 H, hs_l10 H, hs_g9_1 H, hs_t11 H, hs_r11 H, hs_w11 H, hs_l11 H, hs_g9_2 H, hs_t12 H, hs_r12 H, hs_w12 H, hs_l12 H, hs_g9_3 H, hs_t13 H, hs_r13 H, hs_w13 H, hs_l13 H, hs_ob16 H, hs_g16 H, hs_t17 H, hs_r17 H, hs_w17 H, hs_l17 H, hs_ob5 H, hs_g50 H, hs_g51 H, hs_tu6 H, hs_ru6 H, hs_wu6 H, hs_lu6 H, hs_tu7 H, hs_ru7 H, hs_wu7 H, hs_lu7 H, hL]
  · have hL := isLiving_F C (v := nI t) (Or.inr (nI_le (by omega) (by omega)))
    simp (disch := omega) only [fH_giveBlock, BH_giveBlock_16, gd1, bs1, ↓reduceIte, d_nz, d_nn, or_true, true_or, or_false, false_or, decide_true, Sum.elim_inl, Sum.elim_inr, ↓l_m1, l_0, l_1, l_2, l_3, l_4, l_5, l_6, l_7, l_8, l_9, l_10, l_16, l_17, l_18, l_20, l_23, l_24, l_30, l_31, l_32, l_39, l_40, l_41, l_48, l_57, l_58, l_59, l_60, l_63, l_90, l_97, l_98, l_99, l_100, l_102, l_103, l_104, l_107, l_109, l_112, l_115, l_116, l_117, l_120, l_122, l_126, l_166, l_180, l_240, l_255, l_640, l_999, l_2656, l_3064, l_3704, l_3708, l_3712, l_3713, l_3893, l_155720, l_1000000, n_ltT, n_ltF, n_leT, n_leF, n_eqT, n_eqF, n_eqm, n_eqm', n_mltn, n_mlen, n_nltm, n_nlem, n_mltm, n_mlem, n_add, n_mul, n_sub, n_subm, n_cl, n_ofNat, n_div, n_mod, obM_si, rdI_si, wrI_si, lnI_si, grM_si', tgM_si', obM_sa, rdI_sa, wrI_sa, lnI_sa, grM_sa', tgM_sa', hs_ob H, hs_g0 H, hs_g1 H, hs_g2 H, hs_g3 H, hs_g4 H, hs_g5 H, hs_g6 H, hs_g7 H, hs_g8 H, hs_t1 H, hs_r1 H, hs_w1 H, hs_l1 H, hs_t2 H, hs_r2 H, hs_w2 H, hs_l2 H, hs_t3 H, hs_r3 H, hs_w3 H, hs_l3 H, hs_t14 H, hs_r14 H, hs_w14 H, hs_l14 H, hs_t15 H, hs_r15 H, hs_w15 H, hs_l15 H, hs_ob4 H, hs_g4_0 H, hs_t5 H, hs_r5 H, hs_w5 H, hs_l5 H, hs_g4_1 H, hs_t6 H, hs_r6 H, hs_w6 H, hs_l6 H, hs_g4_2 H, hs_t7 H, hs_r7 H, hs_w7 H, hs_l7 H, hs_g4_3 H, hs_t8 H, hs_r8 H, hs_w8 H, hs_l8 H, hs_ob9 H, hs_g9_0 H, hs_t10 H, hs_r10 H, hs_w10 H, hs_l10 H, hs_g9_1 H, hs_t11 H, hs_r11 H, hs_w11 H, hs_l11 H, hs_g9_2 H, hs_t12 H, hs_r12 H, hs_w12 H, hs_l12 H, hs_g9_3 H, hs_t13 H, hs_r13 H, hs_w13 H, hs_l13 H, hs_ob16 H, hs_g16 H, hs_t17 H, hs_r17 H, hs_w17 H, hs_l17 H, hs_ob5 H, hs_g50 H, hs_g51 H, hs_tu6 H, hs_ru6 H, hs_wu6 H, hs_lu6 H, hs_tu7 H, hs_ru7 H, hs_wu7 H, hs_lu7 H, hL]
theorem cGive158 (C : CC M h ρ β S) (V : Inv ρ β S) (hp : p < 16) (ht : t < rT ρ) (hk : kd S p = 1) (ho : ow S p = t) : ∃ M', BH_giveBlock_158 h (nI p) (nI (6 * t + cl S p)) M = some (nI 0, M') ∧ Fr M M' (h + 1) (h + 13) ∧ CC M' h ρ β (if usd ρ S p = 0 ∧ 1 < (qu S (6 * t + cl S p)).length then oEmpty p S else S) := by
  have H := C.1
  have hR := ru_b C.2.2.1
  have hu := usedOf_ok C V hp
  have hu2 := usd_le C.2.2.1 V hp
  have hq := q_lt (by omega) (by omega) V.1 hp (Or.inl hk)
  rw [ho] at hq
  have hql := qlen V hq.2.2
  have hqm := cv_qm C hq.2.2
  by_cases h3 : usd ρ S p = 0
  · rw [h3] at hu
    by_cases h4 : 1 < (qu S (6 * t + cl S p)).length
    · rw [if_pos ⟨h3, h4⟩]
      obtain ⟨M', e, F, C'⟩ := cEmpty C V hp (Or.inl hk)
      refine ⟨M', ?_, F, C'⟩
      simp (disch := omega) only [BH_giveBlock_158, BH_giveBlock_185, gd1, bs1, ↓reduceIte, d_nz, d_nn, or_true, true_or, or_false, false_or, decide_true, Sum.elim_inl, Sum.elim_inr, ↓l_m1, l_0, l_1, l_2, l_3, l_4, l_5, l_6, l_7, l_8, l_9, l_10, l_16, l_17, l_18, l_20, l_23, l_24, l_30, l_31, l_32, l_39, l_40, l_41, l_48, l_57, l_58, l_59, l_60, l_63, l_90, l_97, l_98, l_99, l_100, l_102, l_103, l_104, l_107, l_109, l_112, l_115, l_116, l_117, l_120, l_122, l_126, l_166, l_180, l_240, l_255, l_640, l_999, l_2656, l_3064, l_3704, l_3708, l_3712, l_3713, l_3893, l_155720, l_1000000, n_ltT, n_ltF, n_leT, n_leF, n_eqT, n_eqF, n_eqm, n_eqm', n_mltn, n_mlen, n_nltm, n_nlem, n_mltm, n_mlem, n_add, n_mul, n_sub, n_subm, n_cl, n_ofNat, n_div, n_mod, obM_si, rdI_si, wrI_si, lnI_si, grM_si', tgM_si', obM_sa, rdI_sa, wrI_sa, lnI_sa, grM_sa', tgM_sa', hs_ob H, hs_g0 H, hs_g1 H, hs_g2 H, hs_g3 H, hs_g4 H, hs_g5 H, hs_g6 H, hs_g7 H, hs_g8 H, hs_t1 H, hs_r1 H, hs_w1 H, hs_l1 H, hs_t2 H, hs_r2 H, hs_w2 H, hs_l2 H, hs_t3 H, hs_r3 H, hs_w3 H, hs_l3 H, hs_t14 H, hs_r14 H, hs_w14 H, hs_l14 H, hs_t15 H, hs_r15 H, hs_w15 H, hs_l15 H, hs_ob4 H, hs_g4_0 H, hs_t5 H, hs_r5 H, hs_w5 H, hs_l5 H, hs_g4_1 H, hs_t6 H, hs_r6 H, hs_w6 H, hs_l6 H, hs_g4_2 H, hs_t7 H, hs_r7 H, hs_w7 H, hs_l7 H, hs_g4_3 H, hs_t8 H, hs_r8 H, hs_w8 H, hs_l8 H, hs_ob9 H, hs_g9_0 H, hs_t10 H, hs_r10 H, hs_w10 H, hs_l10 H, hs_g9_1 H, hs_t11 H, hs_r11 H, hs_w11 H, hs_l11 H, hs_g9_2 H, hs_t12 H, hs_r12 H, hs_w12 H, hs_l12 H, hs_g9_3 H, hs_t13 H, hs_r13 H, hs_w13 H, hs_l13 H, hs_ob16 H, hs_g16 H, hs_t17 H, hs_r17 H, hs_w17 H, hs_l17 H, hs_ob5 H, hs_g50 H, hs_g51 H, hs_tu6 H, hs_ru6 H, hs_wu6 H, hs_lu6 H, hs_tu7 H, hs_ru7 H, hs_wu7 H, hs_lu7 H, hu, hqm, e]
    · rw [if_neg (fun q => h4 q.2)]
      refine ⟨M, ?_, Fr_refl _ _ _, C⟩
      simp (disch := omega) only [BH_giveBlock_158, BH_giveBlock_185, gd1, bs1, ↓reduceIte, d_nz, d_nn, or_true, true_or, or_false, false_or, decide_true, Sum.elim_inl, Sum.elim_inr, ↓l_m1, l_0, l_1, l_2, l_3, l_4, l_5, l_6, l_7, l_8, l_9, l_10, l_16, l_17, l_18, l_20, l_23, l_24, l_30, l_31, l_32, l_39, l_40, l_41, l_48, l_57, l_58, l_59, l_60, l_63, l_90, l_97, l_98, l_99, l_100, l_102, l_103, l_104, l_107, l_109, l_112, l_115, l_116, l_117, l_120, l_122, l_126, l_166, l_180, l_240, l_255, l_640, l_999, l_2656, l_3064, l_3704, l_3708, l_3712, l_3713, l_3893, l_155720, l_1000000, n_ltT, n_ltF, n_leT, n_leF, n_eqT, n_eqF, n_eqm, n_eqm', n_mltn, n_mlen, n_nltm, n_nlem, n_mltm, n_mlem, n_add, n_mul, n_sub, n_subm, n_cl, n_ofNat, n_div, n_mod, obM_si, rdI_si, wrI_si, lnI_si, grM_si', tgM_si', obM_sa, rdI_sa, wrI_sa, lnI_sa, grM_sa', tgM_sa', hs_ob H, hs_g0 H, hs_g1 H, hs_g2 H, hs_g3 H, hs_g4 H, hs_g5 H, hs_g6 H, hs_g7 H, hs_g8 H, hs_t1 H, hs_r1 H, hs_w1 H, hs_l1 H, hs_t2 H, hs_r2 H, hs_w2 H, hs_l2 H, hs_t3 H, hs_r3 H, hs_w3 H, hs_l3 H, hs_t14 H, hs_r14 H, hs_w14 H, hs_l14 H, hs_t15 H, hs_r15 H, hs_w15 H, hs_l15 H, hs_ob4 H, hs_g4_0 H, hs_t5 H, hs_r5 H, hs_w5 H, hs_l5 H, hs_g4_1 H, hs_t6 H, hs_r6 H, hs_w6 H, hs_l6 H, hs_g4_2 H, hs_t7 H, hs_r7 H, hs_w7 H, hs_l7 H, hs_g4_3 H, hs_t8 H, hs_r8 H, hs_w8 H, hs_l8 H, hs_ob9 H, hs_g9_0 H, hs_t10 H, hs_r10 H, hs_w10 H, hs_l10 H, hs_g9_1 H, hs_t11 H, hs_r11 H, hs_w11 H, hs_l11 H, hs_g9_2 H, hs_t12 H, hs_r12 H, hs_w12 H, hs_l12 H, hs_g9_3 H, hs_t13 H, hs_r13 H, hs_w13 H, hs_l13 H, hs_ob16 H, hs_g16 H, hs_t17 H, hs_r17 H, hs_w17 H, hs_l17 H, hs_ob5 H, hs_g50 H, hs_g51 H, hs_tu6 H, hs_ru6 H, hs_wu6 H, hs_lu6 H, hs_tu7 H, hs_ru7 H, hs_wu7 H, hs_lu7 H, hu, hqm]
  · rw [if_neg (fun q => h3 q.1)]
    refine ⟨M, ?_, Fr_refl _ _ _, C⟩
    simp (disch := omega) only [BH_giveBlock_158, BH_giveBlock_185, gd1, bs1, ↓reduceIte, d_nz, d_nn, or_true, true_or, or_false, false_or, decide_true, Sum.elim_inl, Sum.elim_inr, ↓l_m1, l_0, l_1, l_2, l_3, l_4, l_5, l_6, l_7, l_8, l_9, l_10, l_16, l_17, l_18, l_20, l_23, l_24, l_30, l_31, l_32, l_39, l_40, l_41, l_48, l_57, l_58, l_59, l_60, l_63, l_90, l_97, l_98, l_99, l_100, l_102, l_103, l_104, l_107, l_109, l_112, l_115, l_116, l_117, l_120, l_122, l_126, l_166, l_180, l_240, l_255, l_640, l_999, l_2656, l_3064, l_3704, l_3708, l_3712, l_3713, l_3893, l_155720, l_1000000, n_ltT, n_ltF, n_leT, n_leF, n_eqT, n_eqF, n_eqm, n_eqm', n_mltn, n_mlen, n_nltm, n_nlem, n_mltm, n_mlem, n_add, n_mul, n_sub, n_subm, n_cl, n_ofNat, n_div, n_mod, obM_si, rdI_si, wrI_si, lnI_si, grM_si', tgM_si', obM_sa, rdI_sa, wrI_sa, lnI_sa, grM_sa', tgM_sa', hs_ob H, hs_g0 H, hs_g1 H, hs_g2 H, hs_g3 H, hs_g4 H, hs_g5 H, hs_g6 H, hs_g7 H, hs_g8 H, hs_t1 H, hs_r1 H, hs_w1 H, hs_l1 H, hs_t2 H, hs_r2 H, hs_w2 H, hs_l2 H, hs_t3 H, hs_r3 H, hs_w3 H, hs_l3 H, hs_t14 H, hs_r14 H, hs_w14 H, hs_l14 H, hs_t15 H, hs_r15 H, hs_w15 H, hs_l15 H, hs_ob4 H, hs_g4_0 H, hs_t5 H, hs_r5 H, hs_w5 H, hs_l5 H, hs_g4_1 H, hs_t6 H, hs_r6 H, hs_w6 H, hs_l6 H, hs_g4_2 H, hs_t7 H, hs_r7 H, hs_w7 H, hs_l7 H, hs_g4_3 H, hs_t8 H, hs_r8 H, hs_w8 H, hs_l8 H, hs_ob9 H, hs_g9_0 H, hs_t10 H, hs_r10 H, hs_w10 H, hs_l10 H, hs_g9_1 H, hs_t11 H, hs_r11 H, hs_w11 H, hs_l11 H, hs_g9_2 H, hs_t12 H, hs_r12 H, hs_w12 H, hs_l12 H, hs_g9_3 H, hs_t13 H, hs_r13 H, hs_w13 H, hs_l13 H, hs_ob16 H, hs_g16 H, hs_t17 H, hs_r17 H, hs_w17 H, hs_l17 H, hs_ob5 H, hs_g50 H, hs_g51 H, hs_tu6 H, hs_ru6 H, hs_wu6 H, hs_lu6 H, hs_tu7 H, hs_ru7 H, hs_wu7 H, hs_lu7 H, hu]
theorem cGive (C : CC M h ρ β S) (V : Inv ρ β S) (hB : BoxB ρ S) (ht : t < rT ρ) (hl : lv S t = 1) (hp : p < rP ρ) (hb : b < cut ρ S p) (hh : hd S p b = 1) : ∃ M', fH_giveBlock h (nI t) (nI (100 * p + b)) M = some (nI (aFrA ρ t p S), M') ∧ Fr M M' (h + 1) (h + 13) ∧ CC M' h ρ β (aFree ρ t p b S) := by
  have H := C.1
  have hbh := hs_b H
  have R := C.2.1
  have hR := ru_b C.2.2.1
  have hp16 : p < 16 := by omega
  have hc2 := cut_le C.2.2.1 V.1 hp16
  have hL := isLiving_ok C V ht
  rw [hl] at hL
  have hH := isHeld_ok C V hp hb
  rw [hh] at hH
  have e1 : (100 * p + b) / 100 = p := by omega
  have e2 : (100 * p + b) % 100 = b := by omega
  have ho := own_is C V hp16 ht
  unfold aFree aFrA
  by_cases h1 : (kd S p = 1 ∨ kd S p = 2) ∧ ow S p = t
  · have ho : giM M (h + 2) p = nI t := ho.mpr h1
    rw [if_pos h1, if_pos h1]
    obtain ⟨M1, f1, F1, C1⟩ := cPush C V (l := 3 * p + 1) (by omega) (pl_3 hp16 (by omega)) hb hh
    have V1 := inv_loc hp16 hb hh V
    have s1 := F1.1
    have hkk : giM M1 (h + 1) p = nI (cl S p) := (cv_k C1 hp16).trans (kI_n (show kd S p ≠ 0 by omega))
    have hcl := ((V.1 p hp16).2.1 (by omega)).2
    by_cases h2 : kd S p = 2
    · obtain ⟨M2, f2, F2, C2⟩ := cEnq C1 V1 hp16 h2
      have V2 := inv_enq (S := oPush (3 * p + 1) b (oHd p b 0 S)) hp16 h2 V1
      have f2 : fC_append (h + 4) (nI (6 * ow S p + cl S p)) (nI p) M1 = some M2 := f2
      rw [h1.2] at f2
      have hhm := cv_h C1 hp16 (show kd S p ≠ 1 by omega)
      obtain ⟨M3, f3, F3, C3⟩ := cGive158 C2 V2 hp16 ht (ud_s _ _ _) h1.2
      have f3 : BH_giveBlock_158 h (nI p) (nI (6 * t + cl S p)) M2 = some (nI 0, M3) := f3
      have eL : aLoc ρ p b S = oEnq p (oPush (3 * p + 1) b (oHd p b 0 S)) := if_pos h2
      rw [eL]
      refine ⟨M3, ?_, Fr_tr (Fr_w F1 (by omega) (by omega)) (Fr_tr (Fr_w F2 (by omega) (by omega)) F3), C3⟩
      simp (disch := omega) only [fH_giveBlock, fH_listOf, fH_thingOf, fH_queueOf, gd1, bs1, ↓reduceIte, d_nz, d_nn, or_true, true_or, or_false, false_or, decide_true, Sum.elim_inl, Sum.elim_inr, ↓l_m1, l_0, l_1, l_2, l_3, l_4, l_5, l_6, l_7, l_8, l_9, l_10, l_16, l_17, l_18, l_20, l_23, l_24, l_30, l_31, l_32, l_39, l_40, l_41, l_48, l_57, l_58, l_59, l_60, l_63, l_90, l_97, l_98, l_99, l_100, l_102, l_103, l_104, l_107, l_109, l_112, l_115, l_116, l_117, l_120, l_122, l_126, l_166, l_180, l_240, l_255, l_640, l_999, l_2656, l_3064, l_3704, l_3708, l_3712, l_3713, l_3893, l_155720, l_1000000, n_ltT, n_ltF, n_leT, n_leF, n_eqT, n_eqF, n_eqm, n_eqm', n_mltn, n_mlen, n_nltm, n_nlem, n_mltm, n_mlem, n_add, n_mul, n_sub, n_subm, n_cl, n_ofNat, n_div, n_mod, obM_si, rdI_si, wrI_si, lnI_si, grM_si', tgM_si', obM_sa, rdI_sa, wrI_sa, lnI_sa, grM_sa', tgM_sa', obM_2 s1, rdI_2 s1, wrI_2 s1, lnI_2 s1, grM_2 s1, tgM_2 s1, hs_ob H, hs_g0 H, hs_g1 H, hs_g2 H, hs_g3 H, hs_g4 H, hs_g5 H, hs_g6 H, hs_g7 H, hs_g8 H, hs_t1 H, hs_r1 H, hs_w1 H, hs_l1 H, hs_t2 H, hs_r2 H, hs_w2 H, hs_l2 H, hs_t3 H, hs_r3 H, hs_w3 H, hs_l3 H, hs_t14 H, hs_r14 H, hs_w14 H, hs_l14 H, hs_t15 H, hs_r15 H, hs_w15 H, hs_l15 H, hs_ob4 H, hs_g4_0 H, hs_t5 H, hs_r5 H, hs_w5 H, hs_l5 H, hs_g4_1 H, hs_t6 H, hs_r6 H, hs_w6 H, hs_l6 H, hs_g4_2 H, hs_t7 H, hs_r7 H, hs_w7 H, hs_l7 H, hs_g4_3 H, hs_t8 H, hs_r8 H, hs_w8 H, hs_l8 H, hs_ob9 H, hs_g9_0 H, hs_t10 H, hs_r10 H, hs_w10 H, hs_l10 H, hs_g9_1 H, hs_t11 H, hs_r11 H, hs_w11 H, hs_l11 H, hs_g9_2 H, hs_t12 H, hs_r12 H, hs_w12 H, hs_l12 H, hs_g9_3 H, hs_t13 H, hs_r13 H, hs_w13 H, hs_l13 H, hs_ob16 H, hs_g16 H, hs_t17 H, hs_r17 H, hs_w17 H, hs_l17 H, hs_ob5 H, hs_g50 H, hs_g51 H, hs_tu6 H, hs_ru6 H, hs_wu6 H, hs_lu6 H, hs_tu7 H, hs_ru7 H, hs_wu7 H, hs_lu7 H, mul3, mul6, mul16, mul40, mul100, Nat.add_zero, hL, hH, e1, e2, Nat.add_sub_cancel_left, ho, f1, hkk, hhm, f2, f3]
    · have hk1 : kd S p = 1 := by omega
      obtain ⟨hh1, hh2⟩ := home_1 C1 V1 hp16 hk1
      have hh1 : giM M1 (h + 8) p = nI (6 * ow S p + cl S p) := hh1
      obtain ⟨M3, f3, F3, C3⟩ := cGive158 C1 V1 hp16 ht hk1 h1.2
      have f3 : BH_giveBlock_158 h (nI p) (nI (6 * t + cl S p)) M1 = some (nI 0, M3) := f3
      have eL : aLoc ρ p b S = oPush (3 * p + 1) b (oHd p b 0 S) := if_neg h2
      rw [eL]
      rw [h1.2] at hh1
      refine ⟨M3, ?_, Fr_tr (Fr_w F1 (by omega) (by omega)) F3, C3⟩
      simp (disch := omega) only [fH_giveBlock, fH_listOf, fH_thingOf, fH_queueOf, gd1, bs1, ↓reduceIte, d_nz, d_nn, or_true, true_or, or_false, false_or, decide_true, Sum.elim_inl, Sum.elim_inr, ↓l_m1, l_0, l_1, l_2, l_3, l_4, l_5, l_6, l_7, l_8, l_9, l_10, l_16, l_17, l_18, l_20, l_23, l_24, l_30, l_31, l_32, l_39, l_40, l_41, l_48, l_57, l_58, l_59, l_60, l_63, l_90, l_97, l_98, l_99, l_100, l_102, l_103, l_104, l_107, l_109, l_112, l_115, l_116, l_117, l_120, l_122, l_126, l_166, l_180, l_240, l_255, l_640, l_999, l_2656, l_3064, l_3704, l_3708, l_3712, l_3713, l_3893, l_155720, l_1000000, n_ltT, n_ltF, n_leT, n_leF, n_eqT, n_eqF, n_eqm, n_eqm', n_mltn, n_mlen, n_nltm, n_nlem, n_mltm, n_mlem, n_add, n_mul, n_sub, n_subm, n_cl, n_ofNat, n_div, n_mod, obM_si, rdI_si, wrI_si, lnI_si, grM_si', tgM_si', obM_sa, rdI_sa, wrI_sa, lnI_sa, grM_sa', tgM_sa', obM_2 s1, rdI_2 s1, wrI_2 s1, lnI_2 s1, grM_2 s1, tgM_2 s1, hs_ob H, hs_g0 H, hs_g1 H, hs_g2 H, hs_g3 H, hs_g4 H, hs_g5 H, hs_g6 H, hs_g7 H, hs_g8 H, hs_t1 H, hs_r1 H, hs_w1 H, hs_l1 H, hs_t2 H, hs_r2 H, hs_w2 H, hs_l2 H, hs_t3 H, hs_r3 H, hs_w3 H, hs_l3 H, hs_t14 H, hs_r14 H, hs_w14 H, hs_l14 H, hs_t15 H, hs_r15 H, hs_w15 H, hs_l15 H, hs_ob4 H, hs_g4_0 H, hs_t5 H, hs_r5 H, hs_w5 H, hs_l5 H, hs_g4_1 H, hs_t6 H, hs_r6 H, hs_w6 H, hs_l6 H, hs_g4_2 H, hs_t7 H, hs_r7 H, hs_w7 H, hs_l7 H, hs_g4_3 H, hs_t8 H, hs_r8 H, hs_w8 H, hs_l8 H, hs_ob9 H, hs_g9_0 H, hs_t10 H, hs_r10 H, hs_w10 H, hs_l10 H, hs_g9_1 H, hs_t11 H, hs_r11 H, hs_w11 H, hs_l11 H, hs_g9_2 H, hs_t12 H, hs_r12 H, hs_w12 H, hs_l12 H, hs_g9_3 H, hs_t13 H, hs_r13 H, hs_w13 H, hs_l13 H, hs_ob16 H, hs_g16 H, hs_t17 H, hs_r17 H, hs_w17 H, hs_l17 H, hs_ob5 H, hs_g50 H, hs_g51 H, hs_tu6 H, hs_ru6 H, hs_wu6 H, hs_lu6 H, hs_tu7 H, hs_ru7 H, hs_wu7 H, hs_lu7 H, mul3, mul6, mul16, mul40, mul100, Nat.add_zero, hL, hH, e1, e2, Nat.add_sub_cancel_left, ho, f1, hkk, hh1, f3]
  · have ho : (giM M (h + 2) p = nI t) = False := by rw [ho]; exact eq_false h1
    rw [if_neg h1, if_neg h1]
    obtain ⟨M1, f1, F1, C1⟩ := cPush C V (l := 48 + 16 * t + p) (by omega) (pl_b hp16) hb hh
    have C1 : CC M1 h ρ β (aBox t p b S) := C1
    have h9 := hB t p (by omega) hp16
    have V1 : Inv ρ β (aBox t p b S) := inv_box ht (by omega) hp16 (by omega) hb hh V
    have s1 := F1.1
    have R1 := C1.2.1
    have hm : giM M1 (h + 11) (48 + 16 * t + p) = nI ((bl S (48 + 16 * t + p)).length + 1) := by
      rw [cv_m C1 (l := 48 + 16 * t + p) (by omega)]
      show nI (ud (bl S) (48 + 16 * t + p) (b :: bl S (48 + 16 * t + p)) (48 + 16 * t + p)).length = _
      rw [ud_s, List.length_cons]
    by_cases h2 : (bl S (48 + 16 * t + p)).length + 1 < rB ρ
    · rw [if_pos h2, if_pos h2]
      refine ⟨M1, ?_, Fr_w F1 (by omega) (by omega), C1⟩
      simp (disch := omega) only [fH_giveBlock, fH_outboxOf, fH_thingOf, BH_giveBlock_82, BH_giveBlock_102, BH_giveBlock_103, gd1, bs1, ↓reduceIte, d_nz, d_nn, or_true, true_or, or_false, false_or, decide_true, Sum.elim_inl, Sum.elim_inr, ↓l_m1, l_0, l_1, l_2, l_3, l_4, l_5, l_6, l_7, l_8, l_9, l_10, l_16, l_17, l_18, l_20, l_23, l_24, l_30, l_31, l_32, l_39, l_40, l_41, l_48, l_57, l_58, l_59, l_60, l_63, l_90, l_97, l_98, l_99, l_100, l_102, l_103, l_104, l_107, l_109, l_112, l_115, l_116, l_117, l_120, l_122, l_126, l_166, l_180, l_240, l_255, l_640, l_999, l_2656, l_3064, l_3704, l_3708, l_3712, l_3713, l_3893, l_155720, l_1000000, n_ltT, n_ltF, n_leT, n_leF, n_eqT, n_eqF, n_eqm, n_eqm', n_mltn, n_mlen, n_nltm, n_nlem, n_mltm, n_mlem, n_add, n_mul, n_sub, n_subm, n_cl, n_ofNat, n_div, n_mod, obM_si, rdI_si, wrI_si, lnI_si, grM_si', tgM_si', obM_sa, rdI_sa, wrI_sa, lnI_sa, grM_sa', tgM_sa', obM_2 s1, rdI_2 s1, wrI_2 s1, lnI_2 s1, grM_2 s1, tgM_2 s1, hs_ob H, hs_g0 H, hs_g1 H, hs_g2 H, hs_g3 H, hs_g4 H, hs_g5 H, hs_g6 H, hs_g7 H, hs_g8 H, hs_t1 H, hs_r1 H, hs_w1 H, hs_l1 H, hs_t2 H, hs_r2 H, hs_w2 H, hs_l2 H, hs_t3 H, hs_r3 H, hs_w3 H, hs_l3 H, hs_t14 H, hs_r14 H, hs_w14 H, hs_l14 H, hs_t15 H, hs_r15 H, hs_w15 H, hs_l15 H, hs_ob4 H, hs_g4_0 H, hs_t5 H, hs_r5 H, hs_w5 H, hs_l5 H, hs_g4_1 H, hs_t6 H, hs_r6 H, hs_w6 H, hs_l6 H, hs_g4_2 H, hs_t7 H, hs_r7 H, hs_w7 H, hs_l7 H, hs_g4_3 H, hs_t8 H, hs_r8 H, hs_w8 H, hs_l8 H, hs_ob9 H, hs_g9_0 H, hs_t10 H, hs_r10 H, hs_w10 H, hs_l10 H, hs_g9_1 H, hs_t11 H, hs_r11 H, hs_w11 H, hs_l11 H, hs_g9_2 H, hs_t12 H, hs_r12 H, hs_w12 H, hs_l12 H, hs_g9_3 H, hs_t13 H, hs_r13 H, hs_w13 H, hs_l13 H, hs_ob16 H, hs_g16 H, hs_t17 H, hs_r17 H, hs_w17 H, hs_l17 H, hs_ob5 H, hs_g50 H, hs_g51 H, hs_tu6 H, hs_ru6 H, hs_wu6 H, hs_lu6 H, hs_tu7 H, hs_ru7 H, hs_wu7 H, hs_lu7 H, rc_T R1, rc_P R1, rc_U R1, rc_B R1, rc_H R1, rc_K R1, mul3, mul6, mul16, mul40, mul100, Nat.add_zero, hL, hH, e1, e2, Nat.add_sub_cancel_left, ho, f1, hm]
    · rw [if_neg h2, if_neg h2]
      obtain ⟨M2, f2, F2, C2, V2⟩ := cHome C1 V1 ht hp16
      have f2 : fH_goHome h (nI t) (nI p) M1 = some (nI ((bl S (48 + 16 * t + p)).length + 1), M2) := by
        rw [f2]
        show some (nI (ud (bl S) (48 + 16 * t + p) (b :: bl S (48 + 16 * t + p)) (48 + 16 * t + p)).length, M2) = _
        rw [ud_s, List.length_cons]
      refine ⟨M2, ?_, Fr_tr (Fr_w F1 (by omega) (by omega)) F2, C2⟩
      simp (disch := omega) only [fH_giveBlock, fH_outboxOf, fH_thingOf, BH_giveBlock_82, BH_giveBlock_102, BH_giveBlock_103, gd1, bs1, ↓reduceIte, d_nz, d_nn, or_true, true_or, or_false, false_or, decide_true, Sum.elim_inl, Sum.elim_inr, ↓l_m1, l_0, l_1, l_2, l_3, l_4, l_5, l_6, l_7, l_8, l_9, l_10, l_16, l_17, l_18, l_20, l_23, l_24, l_30, l_31, l_32, l_39, l_40, l_41, l_48, l_57, l_58, l_59, l_60, l_63, l_90, l_97, l_98, l_99, l_100, l_102, l_103, l_104, l_107, l_109, l_112, l_115, l_116, l_117, l_120, l_122, l_126, l_166, l_180, l_240, l_255, l_640, l_999, l_2656, l_3064, l_3704, l_3708, l_3712, l_3713, l_3893, l_155720, l_1000000, n_ltT, n_ltF, n_leT, n_leF, n_eqT, n_eqF, n_eqm, n_eqm', n_mltn, n_mlen, n_nltm, n_nlem, n_mltm, n_mlem, n_add, n_mul, n_sub, n_subm, n_cl, n_ofNat, n_div, n_mod, obM_si, rdI_si, wrI_si, lnI_si, grM_si', tgM_si', obM_sa, rdI_sa, wrI_sa, lnI_sa, grM_sa', tgM_sa', obM_2 s1, rdI_2 s1, wrI_2 s1, lnI_2 s1, grM_2 s1, tgM_2 s1, hs_ob H, hs_g0 H, hs_g1 H, hs_g2 H, hs_g3 H, hs_g4 H, hs_g5 H, hs_g6 H, hs_g7 H, hs_g8 H, hs_t1 H, hs_r1 H, hs_w1 H, hs_l1 H, hs_t2 H, hs_r2 H, hs_w2 H, hs_l2 H, hs_t3 H, hs_r3 H, hs_w3 H, hs_l3 H, hs_t14 H, hs_r14 H, hs_w14 H, hs_l14 H, hs_t15 H, hs_r15 H, hs_w15 H, hs_l15 H, hs_ob4 H, hs_g4_0 H, hs_t5 H, hs_r5 H, hs_w5 H, hs_l5 H, hs_g4_1 H, hs_t6 H, hs_r6 H, hs_w6 H, hs_l6 H, hs_g4_2 H, hs_t7 H, hs_r7 H, hs_w7 H, hs_l7 H, hs_g4_3 H, hs_t8 H, hs_r8 H, hs_w8 H, hs_l8 H, hs_ob9 H, hs_g9_0 H, hs_t10 H, hs_r10 H, hs_w10 H, hs_l10 H, hs_g9_1 H, hs_t11 H, hs_r11 H, hs_w11 H, hs_l11 H, hs_g9_2 H, hs_t12 H, hs_r12 H, hs_w12 H, hs_l12 H, hs_g9_3 H, hs_t13 H, hs_r13 H, hs_w13 H, hs_l13 H, hs_ob16 H, hs_g16 H, hs_t17 H, hs_r17 H, hs_w17 H, hs_l17 H, hs_ob5 H, hs_g50 H, hs_g51 H, hs_tu6 H, hs_ru6 H, hs_wu6 H, hs_lu6 H, hs_tu7 H, hs_ru7 H, hs_wu7 H, hs_lu7 H, rc_T R1, rc_P R1, rc_U R1, rc_B R1, rc_H R1, rc_K R1, mul3, mul6, mul16, mul40, mul100, Nat.add_zero, hL, hH, e1, e2, Nat.add_sub_cancel_left, ho, f1, hm, f2]
end CV
