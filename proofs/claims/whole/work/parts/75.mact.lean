theorem bs1n {α β : Type} (a : α) (f : α → Option β) : (some a).bind f = f a := by rw [bs1]
theorem gd1n {α : Type} (t : Option α) : gd true t = t := by rw [gd1]
section MN
variable {M M' : Mem} {ρ : Rul} {β : Nat} {S : HSt} {p t b l q c w : Nat}
theorem inv_got (hRu : RuOK ρ) (V : Inv ρ β S) (ht : t < rT ρ) (hc : c < rK ρ) (e : pgF ρ t c S = some p) : Inv ρ (β + 1) (aGot ρ t c p S) := by
  have hR := ru_b hRu
  obtain ⟨hp, -⟩ := pgF_cases hRu V ht hc e
  obtain ⟨V1, V2, hl2, hk2⟩ := aG2_ok hRu V ht hc e
  obtain ⟨b, r, eb⟩ := coll_ne hl2
  exact inv_gt (inv_take (by omega) eb (inv_coll (by omega) V2 (by omega)))
theorem inv_get (hRu : RuOK ρ) (V : Inv ρ β S) (ht : t < rT ρ) (hc : c < rK ρ) (e : pgF ρ t c S = some p) : Inv ρ (β + 1) (aGet ρ t c p S) := by
  have V1 := inv_got hRu V ht hc e
  unfold aGet aBeat
  by_cases h : gt (aGot ρ t c p S) t % rH ρ = 0
  · rw [if_pos h]; exact inv_tick hRu ht V1
  · rw [if_neg h]; exact V1
theorem mGetNo (C : RC M ρ S) (V : Inv ρ β S) (ht : t < rT ρ) (hc : c < rK ρ) (e : pgF ρ t c S = none) : fM_getNow 1003 (nI t) (nI c) M = some (mI, M) := by
  have H := C.1
  have h1 := mCanGet C V ht hc
  rw [e, if_neg (by simp)] at h1
  simp (disch := omega) only [fM_getNow, gd1, bs1, ↓reduceIte, d_nz, d_nn, or_true, true_or, or_false, false_or, decide_true, Sum.elim_inl, Sum.elim_inr, ↓l_m1, l_0, l_1, l_2, l_3, l_4, l_5, l_6, l_7, l_8, l_9, l_10, l_16, l_17, l_18, l_20, l_23, l_24, l_30, l_31, l_32, l_39, l_40, l_41, l_48, l_57, l_58, l_59, l_60, l_63, l_90, l_97, l_98, l_99, l_100, l_102, l_103, l_104, l_107, l_109, l_112, l_115, l_116, l_117, l_120, l_122, l_126, l_166, l_180, l_240, l_255, l_640, l_999, l_2656, l_3064, l_3704, l_3708, l_3712, l_3713, l_3893, l_155720, l_1000000, n_ltT, n_ltF, n_leT, n_leF, n_eqT, n_eqF, n_eqm, n_eqm', n_mltn, n_mlen, n_nltm, n_nlem, n_mltm, n_mlem, n_add, n_mul, n_sub, n_subm, n_cl, n_ofNat, n_div, n_mod, obM_si, rdI_si, wrI_si, lnI_si, grM_si', tgM_si', obM_sa, rdI_sa, wrI_sa, lnI_sa, grM_sa', tgM_sa', ms_ob H, ms_g1 H, ms_g5 H, ms_g6 H, ms_g8 H, ms_g9 H, ms_g11 H, ms_g12 H, ms_g15 H, ms_g16 H, ms_g18 H, ms_g19 H, ms_g20 H, ms_g22 H, ms_g24 H, ms_g27 H, ms_g32 H, ms_g21 H, ms_t1 H, ms_r1 H, ms_w1 H, ms_l1 H, ms_t5 H, ms_r5 H, ms_w5 H, ms_l5 H, ms_t6 H, ms_r6 H, ms_w6 H, ms_l6 H, ms_t8 H, ms_r8 H, ms_w8 H, ms_l8 H, ms_t9 H, ms_r9 H, ms_w9 H, ms_l9 H, ms_t11 H, ms_r11 H, ms_w11 H, ms_l11 H, ms_t12 H, ms_r12 H, ms_w12 H, ms_l12 H, ms_t15 H, ms_r15 H, ms_w15 H, ms_l15 H, ms_t16 H, ms_r16 H, ms_w16 H, ms_l16 H, ms_t18 H, ms_r18 H, ms_w18 H, ms_l18 H, ms_t19 H, ms_r19 H, ms_w19 H, ms_l19 H, ms_t20 H, ms_r20 H, ms_w20 H, ms_l20 H, ms_t22 H, ms_r22 H, ms_w22 H, ms_l22 H, ms_t24 H, ms_r24 H, ms_w24 H, ms_l24 H, ms_t27 H, ms_r27 H, ms_w27 H, ms_l27 H, ms_t32 H, ms_r32 H, ms_w32 H, ms_l32 H, ms_b H, h1]
theorem mGetNow (C : RC M ρ S) (V : Inv ρ β S) (hβ : β < 2000000000) (ht : t < rT ρ) (hc : c < rK ρ) (e : pgF ρ t c S = some p) : ∃ M', fM_getNow 1003 (nI t) (nI c) M = some (nI (100 * p + aBlk ρ t c p S), M') ∧ RF M M' ∧ RC M' ρ (aGet ρ t c p S) ∧ giM M' 1003 17 = nI (hwF t p S) := by
  have H := C.1
  have hR := ru_b C.2.2.1
  have h1 := mCanGet C V ht hc
  rw [e, if_pos (by simp)] at h1
  obtain ⟨M1, e1, F1, C1, h17⟩ := mGetOnce C V ht hc e
  have VG := inv_got C.2.2.1 V ht hc e
  obtain ⟨V1, V2, hl2, hk2⟩ := aG2_ok C.2.2.1 V ht hc e
  obtain ⟨b, r, eb⟩ := coll_ne hl2
  have hp := (pgF_cases C.2.2.1 V ht hc e).1
  have VX := inv_take (by omega) eb (inv_coll (by omega) V2 (by omega))
  have W1 := Wd_of C.2.2.1 VX
  have hg := rv_gt C1 (t := t) (by omega)
  have s1 := F1.1
  have C2 := RC_si C1 (RW_gt (v := gt (oTake p (oColl p (aG2 ρ t c p S))) t + 1) W1 C1.2.2.2 (t := t) (by omega))
  have C2 : RC (siM M1 1011 (3708 + t) (nI (gt (oTake p (oColl p (aG2 ρ t c p S))) t + 1))) ρ (aGot ρ t c p S) := C2
  have hgt : gt (aGot ρ t c p S) t = gt (oTake p (oColl p (aG2 ρ t c p S))) t + 1 := ud_s _ _ _
  have hgb := (VG.2.2.2.2.1 t (by omega)).2
  rw [← hgt] at C2
  have hmod := Nat.mul_div_le (gt (aGot ρ t c p S) t) (rH ρ)
  have hmlt := Nat.mod_lt (gt (aGot ρ t c p S) t) (show rH ρ > 0 by omega)
  have R1 := C1.2.1
  unfold aGet aBeat
  by_cases hm : gt (aGot ρ t c p S) t % rH ρ = 0
  · rw [if_pos hm]
    obtain ⟨M3, e3, F3, C3⟩ := mTick C2 VG ht
    refine ⟨siM M3 1003 17 (nI (hwF t p S)), ?_, RF_tr F1 (RF_tr (RF_si _ _ _) (RF_tr F3 (RF_17 _ _))), RC_17 C3, by rw [giM_ud, ud_s]⟩
    have s3 : M3.2 = M.2 := F3.1.trans s1
    simp (disch := omega) only [fM_getNow, BM_getNow_63, not_false_eq_true, gd1, bs1, ↓reduceIte, d_nz, d_nn, or_true, true_or, or_false, false_or, decide_true, Sum.elim_inl, Sum.elim_inr, ↓l_m1, l_0, l_1, l_2, l_3, l_4, l_5, l_6, l_7, l_8, l_9, l_10, l_16, l_17, l_18, l_20, l_23, l_24, l_30, l_31, l_32, l_39, l_40, l_41, l_48, l_57, l_58, l_59, l_60, l_63, l_90, l_97, l_98, l_99, l_100, l_102, l_103, l_104, l_107, l_109, l_112, l_115, l_116, l_117, l_120, l_122, l_126, l_166, l_180, l_240, l_255, l_640, l_999, l_2656, l_3064, l_3704, l_3708, l_3712, l_3713, l_3893, l_155720, l_1000000, n_ltT, n_ltF, n_leT, n_leF, n_eqT, n_eqF, n_eqm, n_eqm', n_mltn, n_mlen, n_nltm, n_nlem, n_mltm, n_mlem, n_add, n_mul, n_sub, n_subm, n_cl, n_ofNat, n_div, n_mod, obM_si, rdI_si, wrI_si, lnI_si, grM_si', tgM_si', obM_sa, rdI_sa, wrI_sa, lnI_sa, grM_sa', tgM_sa', obM_2 s1, rdI_2 s1, wrI_2 s1, lnI_2 s1, grM_2 s1, tgM_2 s1, obM_2 s3, rdI_2 s3, wrI_2 s3, lnI_2 s3, grM_2 s3, tgM_2 s3, ms_ob H, ms_g1 H, ms_g5 H, ms_g6 H, ms_g8 H, ms_g9 H, ms_g11 H, ms_g12 H, ms_g15 H, ms_g16 H, ms_g18 H, ms_g19 H, ms_g20 H, ms_g22 H, ms_g24 H, ms_g27 H, ms_g32 H, ms_g21 H, ms_t1 H, ms_r1 H, ms_w1 H, ms_l1 H, ms_t5 H, ms_r5 H, ms_w5 H, ms_l5 H, ms_t6 H, ms_r6 H, ms_w6 H, ms_l6 H, ms_t8 H, ms_r8 H, ms_w8 H, ms_l8 H, ms_t9 H, ms_r9 H, ms_w9 H, ms_l9 H, ms_t11 H, ms_r11 H, ms_w11 H, ms_l11 H, ms_t12 H, ms_r12 H, ms_w12 H, ms_l12 H, ms_t15 H, ms_r15 H, ms_w15 H, ms_l15 H, ms_t16 H, ms_r16 H, ms_w16 H, ms_l16 H, ms_t18 H, ms_r18 H, ms_w18 H, ms_l18 H, ms_t19 H, ms_r19 H, ms_w19 H, ms_l19 H, ms_t20 H, ms_r20 H, ms_w20 H, ms_l20 H, ms_t22 H, ms_r22 H, ms_w22 H, ms_l22 H, ms_t24 H, ms_r24 H, ms_w24 H, ms_l24 H, ms_t27 H, ms_r27 H, ms_w27 H, ms_l27 H, ms_t32 H, ms_r32 H, ms_w32 H, ms_l32 H, ms_b H, rm_T R1, rm_P R1, rm_U R1, rm_B R1, rm_H R1, rm_K R1, h1, e1, hg, ← hgt, giM_un, giM_ud, ud_s, n_mod hmod, hm, h17, e3]
  · rw [if_neg hm]
    refine ⟨siM (siM M1 1011 (3708 + t) (nI (gt (aGot ρ t c p S) t))) 1003 17 (nI (hwF t p S)), ?_, RF_tr F1 (RF_tr (RF_si _ _ _) (RF_17 _ _)), RC_17 C2, by rw [giM_ud, ud_s]⟩
    simp (disch := omega) only [fM_getNow, BM_getNow_63, not_false_eq_true, gd1, bs1, ↓reduceIte, d_nz, d_nn, or_true, true_or, or_false, false_or, decide_true, Sum.elim_inl, Sum.elim_inr, ↓l_m1, l_0, l_1, l_2, l_3, l_4, l_5, l_6, l_7, l_8, l_9, l_10, l_16, l_17, l_18, l_20, l_23, l_24, l_30, l_31, l_32, l_39, l_40, l_41, l_48, l_57, l_58, l_59, l_60, l_63, l_90, l_97, l_98, l_99, l_100, l_102, l_103, l_104, l_107, l_109, l_112, l_115, l_116, l_117, l_120, l_122, l_126, l_166, l_180, l_240, l_255, l_640, l_999, l_2656, l_3064, l_3704, l_3708, l_3712, l_3713, l_3893, l_155720, l_1000000, n_ltT, n_ltF, n_leT, n_leF, n_eqT, n_eqF, n_eqm, n_eqm', n_mltn, n_mlen, n_nltm, n_nlem, n_mltm, n_mlem, n_add, n_mul, n_sub, n_subm, n_cl, n_ofNat, n_div, n_mod, obM_si, rdI_si, wrI_si, lnI_si, grM_si', tgM_si', obM_sa, rdI_sa, wrI_sa, lnI_sa, grM_sa', tgM_sa', obM_2 s1, rdI_2 s1, wrI_2 s1, lnI_2 s1, grM_2 s1, tgM_2 s1, ms_ob H, ms_g1 H, ms_g5 H, ms_g6 H, ms_g8 H, ms_g9 H, ms_g11 H, ms_g12 H, ms_g15 H, ms_g16 H, ms_g18 H, ms_g19 H, ms_g20 H, ms_g22 H, ms_g24 H, ms_g27 H, ms_g32 H, ms_g21 H, ms_t1 H, ms_r1 H, ms_w1 H, ms_l1 H, ms_t5 H, ms_r5 H, ms_w5 H, ms_l5 H, ms_t6 H, ms_r6 H, ms_w6 H, ms_l6 H, ms_t8 H, ms_r8 H, ms_w8 H, ms_l8 H, ms_t9 H, ms_r9 H, ms_w9 H, ms_l9 H, ms_t11 H, ms_r11 H, ms_w11 H, ms_l11 H, ms_t12 H, ms_r12 H, ms_w12 H, ms_l12 H, ms_t15 H, ms_r15 H, ms_w15 H, ms_l15 H, ms_t16 H, ms_r16 H, ms_w16 H, ms_l16 H, ms_t18 H, ms_r18 H, ms_w18 H, ms_l18 H, ms_t19 H, ms_r19 H, ms_w19 H, ms_l19 H, ms_t20 H, ms_r20 H, ms_w20 H, ms_l20 H, ms_t22 H, ms_r22 H, ms_w22 H, ms_l22 H, ms_t24 H, ms_r24 H, ms_w24 H, ms_l24 H, ms_t27 H, ms_r27 H, ms_w27 H, ms_l27 H, ms_t32 H, ms_r32 H, ms_w32 H, ms_l32 H, ms_b H, rm_T R1, rm_P R1, rm_U R1, rm_B R1, rm_H R1, rm_K R1, h1, e1, hg, ← hgt, giM_un, giM_ud, ud_s, n_mod hmod, h17]
/-! the reference's log -/
theorem RW_lg {N N' : Nat → Int32} {g : List (Nat × Nat × Nat)} (h : RW N S) (W : Wd S) (hN : ∀ i, i < 3712 → N' i = N i) (hg : LgR N' g) : RW N' (wlg S g) := by
  obtain ⟨h1, h2, h3, h4, h5⟩ := h
  refine ⟨fun p hp => ?_, fun l hl => ?_, fun q hq => ?_, fun t ht => ?_, hg⟩
  · obtain ⟨a1, a2, a3, a4⟩ := h1 p hp
    rw [hN _ (by omega), hN _ (by omega), hN _ (by omega)]
    refine ⟨a1, a2, a3, fun b hb => ?_⟩
    rw [hN _ (by omega)]
    exact a4 b hb
  · refine Rw_congr (h2 l hl) (fun i i1 i2 => hN i ?_)
    have := la_rg hl
    have : (bl S l).length ≤ cpl l := W.1 l hl
    have i2 : i ≤ la l + (bl S l).length := i2
    omega
  · refine Rw_congr (h3 q hq) (fun i i1 i2 => hN i ?_)
    have : (qu S q).length ≤ 16 := W.2.1 q hq
    have i2 : i ≤ qa q + (qu S q).length := i2
    unfold qa at i1 i2
    omega
  · rw [hN _ (by omega), hN _ (by omega)]
    exact h4 t ht
def shl (k : Nat) (N : Nat → Int32) : Nat → Int32 := fun i => if 3713 + k ≤ i + 3 ∧ i < 3890 then N (i + 3) else N i
theorem nt_loop (v1 v2 : Int32) : ∀ (d k f : Nat) (M : Mem), MS M → k + d = 180 → 3 ≤ k → d < f → LM_note_15 f 1003 v1 v2 (nI k) M = some (saM M 1011 (shl k (giM M 1011))) := by
  intro d
  induction d with
  | zero =>
    intro k f M H hk h3 hf
    obtain ⟨g, rfl⟩ : ∃ g, f = g + 1 := ⟨f - 1, by omega⟩
    show BM_note_15 (LM_note_15 g) 1003 v1 v2 (nI k) M = _
    have e : shl k (giM M 1011) = giM M 1011 := by
      funext i
      exact if_neg (by omega)
    rw [e, saM_id]
    simp (disch := omega) only [BM_note_15, gd1, bs1, ↓reduceIte, d_nz, d_nn, or_true, true_or, or_false, false_or, decide_true, Sum.elim_inl, Sum.elim_inr, ↓l_m1, l_0, l_1, l_2, l_3, l_4, l_5, l_6, l_7, l_8, l_9, l_10, l_16, l_17, l_18, l_20, l_23, l_24, l_30, l_31, l_32, l_39, l_40, l_41, l_48, l_57, l_58, l_59, l_60, l_63, l_90, l_97, l_98, l_99, l_100, l_102, l_103, l_104, l_107, l_109, l_112, l_115, l_116, l_117, l_120, l_122, l_126, l_166, l_180, l_240, l_255, l_640, l_999, l_2656, l_3064, l_3704, l_3708, l_3712, l_3713, l_3893, l_155720, l_1000000, n_ltT, n_ltF, n_leT, n_leF, n_eqT, n_eqF, n_eqm, n_eqm', n_mltn, n_mlen, n_nltm, n_nlem, n_mltm, n_mlem, n_add, n_mul, n_sub, n_subm, n_cl, n_ofNat, n_div, n_mod, obM_si, rdI_si, wrI_si, lnI_si, grM_si', tgM_si', obM_sa, rdI_sa, wrI_sa, lnI_sa, grM_sa', tgM_sa']
  | succ d ih =>
    intro k f M H hk h3 hf
    obtain ⟨g, rfl⟩ : ∃ g, f = g + 1 := ⟨f - 1, by omega⟩
    have e := ih (k + 1) g (siM M 1011 (3713 + k - 3) (giM M 1011 (3713 + k))) (MS_2 rfl H) (by omega) (by omega) (by omega)
    show BM_note_15 (LM_note_15 g) 1003 v1 v2 (nI k) M = _
    simp (disch := omega) only [BM_note_15, gd1, bs1, ↓reduceIte, d_nz, d_nn, or_true, true_or, or_false, false_or, decide_true, Sum.elim_inl, Sum.elim_inr, ↓l_m1, l_0, l_1, l_2, l_3, l_4, l_5, l_6, l_7, l_8, l_9, l_10, l_16, l_17, l_18, l_20, l_23, l_24, l_30, l_31, l_32, l_39, l_40, l_41, l_48, l_57, l_58, l_59, l_60, l_63, l_90, l_97, l_98, l_99, l_100, l_102, l_103, l_104, l_107, l_109, l_112, l_115, l_116, l_117, l_120, l_122, l_126, l_166, l_180, l_240, l_255, l_640, l_999, l_2656, l_3064, l_3704, l_3708, l_3712, l_3713, l_3893, l_155720, l_1000000, n_ltT, n_ltF, n_leT, n_leF, n_eqT, n_eqF, n_eqm, n_eqm', n_mltn, n_mlen, n_nltm, n_nlem, n_mltm, n_mlem, n_add, n_mul, n_sub, n_subm, n_cl, n_ofNat, n_div, n_mod, obM_si, rdI_si, wrI_si, lnI_si, grM_si', tgM_si', obM_sa, rdI_sa, wrI_sa, lnI_sa, grM_sa', tgM_sa', ms_ob H, ms_g1 H, ms_g5 H, ms_g6 H, ms_g8 H, ms_g9 H, ms_g11 H, ms_g12 H, ms_g15 H, ms_g16 H, ms_g18 H, ms_g19 H, ms_g20 H, ms_g22 H, ms_g24 H, ms_g27 H, ms_g32 H, ms_g21 H, ms_t1 H, ms_r1 H, ms_w1 H, ms_l1 H, ms_t5 H, ms_r5 H, ms_w5 H, ms_l5 H, ms_t6 H, ms_r6 H, ms_w6 H, ms_l6 H, ms_t8 H, ms_r8 H, ms_w8 H, ms_l8 H, ms_t9 H, ms_r9 H, ms_w9 H, ms_l9 H, ms_t11 H, ms_r11 H, ms_w11 H, ms_l11 H, ms_t12 H, ms_r12 H, ms_w12 H, ms_l12 H, ms_t15 H, ms_r15 H, ms_w15 H, ms_l15 H, ms_t16 H, ms_r16 H, ms_w16 H, ms_l16 H, ms_t18 H, ms_r18 H, ms_w18 H, ms_l18 H, ms_t19 H, ms_r19 H, ms_w19 H, ms_l19 H, ms_t20 H, ms_r20 H, ms_w20 H, ms_l20 H, ms_t22 H, ms_r22 H, ms_w22 H, ms_l22 H, ms_t24 H, ms_r24 H, ms_w24 H, ms_l24 H, ms_t27 H, ms_r27 H, ms_w27 H, ms_l27 H, ms_t32 H, ms_r32 H, ms_w32 H, ms_l32 H, ms_b H, e]
    rw [saM_si, giM_ud]
    congr 2
    funext i
    unfold shl
    by_cases h1 : 3713 + (k + 1) ≤ i + 3 ∧ i < 3890
    · rw [if_pos h1, if_pos (by omega), ud_n _ _ (by omega)]
    · rw [if_neg h1]
      by_cases h2 : i = 3713 + k - 3
      · rw [if_pos (by omega), h2, ud_s]
        congr 1
        omega
      · rw [if_neg (by omega), ud_n _ _ h2]
theorem mNote62 {N : Nat → Int32} {g : List (Nat × Nat × Nat)} {e : Nat × Nat × Nat} (H : MS M) (hN : giM M 1011 = N) (hg : LgR N g) (hl : g.length < 60) (h17 : giM M 1003 17 = nI e.2.2) : ∃ N', BM_note_62 1003 (nI e.1) (nI e.2.1) M = some (saM M 1011 N') ∧ (∀ i, i < 3712 → N' i = N i) ∧ LgR N' (e :: g) := by
  have h0 := hg.1
  rw [← hN] at h0
  refine ⟨ud (ud (ud (ud N (3713 + 3 * g.length) (nI e.1)) (3713 + 3 * g.length + 1) (nI e.2.1)) (3713 + 3 * g.length + 2) (nI e.2.2)) 3712 (nI (g.length + 1)), ?_, ?_, ?_, ?_⟩
  · simp (disch := omega) only [BM_note_62, gd1, bs1, ↓reduceIte, d_nz, d_nn, or_true, true_or, or_false, false_or, decide_true, Sum.elim_inl, Sum.elim_inr, ↓l_m1, l_0, l_1, l_2, l_3, l_4, l_5, l_6, l_7, l_8, l_9, l_10, l_16, l_17, l_18, l_20, l_23, l_24, l_30, l_31, l_32, l_39, l_40, l_41, l_48, l_57, l_58, l_59, l_60, l_63, l_90, l_97, l_98, l_99, l_100, l_102, l_103, l_104, l_107, l_109, l_112, l_115, l_116, l_117, l_120, l_122, l_126, l_166, l_180, l_240, l_255, l_640, l_999, l_2656, l_3064, l_3704, l_3708, l_3712, l_3713, l_3893, l_155720, l_1000000, n_ltT, n_ltF, n_leT, n_leF, n_eqT, n_eqF, n_eqm, n_eqm', n_mltn, n_mlen, n_nltm, n_nlem, n_mltm, n_mlem, n_add, n_mul, n_sub, n_subm, n_cl, n_ofNat, n_div, n_mod, obM_si, rdI_si, wrI_si, lnI_si, grM_si', tgM_si', obM_sa, rdI_sa, wrI_sa, lnI_sa, grM_sa', tgM_sa', ms_ob H, ms_g1 H, ms_g5 H, ms_g6 H, ms_g8 H, ms_g9 H, ms_g11 H, ms_g12 H, ms_g15 H, ms_g16 H, ms_g18 H, ms_g19 H, ms_g20 H, ms_g22 H, ms_g24 H, ms_g27 H, ms_g32 H, ms_g21 H, ms_t1 H, ms_r1 H, ms_w1 H, ms_l1 H, ms_t5 H, ms_r5 H, ms_w5 H, ms_l5 H, ms_t6 H, ms_r6 H, ms_w6 H, ms_l6 H, ms_t8 H, ms_r8 H, ms_w8 H, ms_l8 H, ms_t9 H, ms_r9 H, ms_w9 H, ms_l9 H, ms_t11 H, ms_r11 H, ms_w11 H, ms_l11 H, ms_t12 H, ms_r12 H, ms_w12 H, ms_l12 H, ms_t15 H, ms_r15 H, ms_w15 H, ms_l15 H, ms_t16 H, ms_r16 H, ms_w16 H, ms_l16 H, ms_t18 H, ms_r18 H, ms_w18 H, ms_l18 H, ms_t19 H, ms_r19 H, ms_w19 H, ms_l19 H, ms_t20 H, ms_r20 H, ms_w20 H, ms_l20 H, ms_t22 H, ms_r22 H, ms_w22 H, ms_l22 H, ms_t24 H, ms_r24 H, ms_w24 H, ms_l24 H, ms_t27 H, ms_r27 H, ms_w27 H, ms_l27 H, ms_t32 H, ms_r32 H, ms_w32 H, ms_l32 H, ms_b H, h0, giM_un, h17, giM_ud, ud_n]
    rw [si_sa, si_sa, si_sa, si_sa, sa_sa, sa_sa, sa_sa, gi_sas, gi_sas, gi_sas, hN]
  · intro i hi
    rw [ud_n _ _ (by omega), ud_n _ _ (by omega), ud_n _ _ (by omega), ud_n _ _ (by omega)]
  · rw [ud_s]
    rfl
  · intro i hi
    rw [List.length_cons] at hi ⊢
    cases i with
    | zero =>
      rw [show g.length + 1 - 1 - 0 = g.length by omega, List.getElem_cons_zero]
      refine ⟨?_, ?_, ?_⟩
      · rw [ud_n _ _ (by omega), ud_n _ _ (by omega), ud_n _ _ (by omega), ud_s]
      · rw [ud_n _ _ (by omega), ud_n _ _ (by omega), ud_s]
      · rw [ud_n _ _ (by omega), ud_s]
    | succ i =>
      rw [show g.length + 1 - 1 - (i + 1) = g.length - 1 - i by omega, List.getElem_cons_succ]
      obtain ⟨a1, a2, a3⟩ := hg.2 i (by omega)
      refine ⟨?_, ?_, ?_⟩
      · rw [ud_n _ _ (by omega), ud_n _ _ (by omega), ud_n _ _ (by omega), ud_n _ _ (by omega)]; exact a1
      · rw [ud_n _ _ (by omega), ud_n _ _ (by omega), ud_n _ _ (by omega), ud_n _ _ (by omega)]; exact a2
      · rw [ud_n _ _ (by omega), ud_n _ _ (by omega), ud_n _ _ (by omega), ud_n _ _ (by omega)]; exact a3
theorem mNoteG (v1 v2 : Int32) {F : Nat} {x z s : Int32} {N : Nat → Int32} (r1 : rdI M 1011 z = true) (w1 : wrI M 1011 z = true) (cz : Int32.toNatClampNeg z = 3712) (hs60 : s = nI 60) (H : MS M) (g0 : giM M 1011 3712 = nI 60) (e1 : LM_note_15 F 1003 v1 v2 x M = some (saM M 1011 N)) (hs : N 3712 = nI 60) (e60 : nI 60 - 1 = nI 59) : (gd (obM M 1003 11 34) <| gd (decide (grM M 1003 15 ≠ 0)) <| gd (rdI M (grM M 1003 15) z) <| if (giM M (grM M 1003 15) (Int32.toNatClampNeg z)) = s then ((LM_note_15 F 1003 v1 v2 x M).bind (fun y5 => gd (obM y5 1003 11 34) <| gd (decide (grM y5 1003 15 ≠ 0)) <| gd (rdI y5 (grM y5 1003 15) z) <| gd (wrI y5 (grM y5 1003 15) z) <| BM_note_62 1003 v1 v2 (siM y5 (grM y5 1003 15) (Int32.toNatClampNeg z) ((giM y5 (grM y5 1003 15) (Int32.toNatClampNeg z)) - 1)))) else (BM_note_62 1003 v1 v2 M)) = BM_note_62 1003 v1 v2 (saM M 1011 (ud N 3712 (nI 59))) := by
  subst hs60
  have sN : (saM M 1011 N).2 = M.2 := rfl
  simp (disch := omega) only [gd1n, bs1n, ↓reduceIte, d_nz, d_nn, or_true, true_or, or_false, false_or, decide_true, Sum.elim_inl, Sum.elim_inr, e60, n_eqT, cz, r1, w1, obM_2 sN, rdI_2 sN, wrI_2 sN, lnI_2 sN, grM_2 sN, tgM_2 sN, ms_ob H, ms_g1 H, ms_g5 H, ms_g6 H, ms_g8 H, ms_g9 H, ms_g11 H, ms_g12 H, ms_g15 H, ms_g16 H, ms_g18 H, ms_g19 H, ms_g20 H, ms_g22 H, ms_g24 H, ms_g27 H, ms_g32 H, ms_g21 H, ms_t1 H, ms_r1 H, ms_w1 H, ms_l1 H, ms_t5 H, ms_r5 H, ms_w5 H, ms_l5 H, ms_t6 H, ms_r6 H, ms_w6 H, ms_l6 H, ms_t8 H, ms_r8 H, ms_w8 H, ms_l8 H, ms_t9 H, ms_r9 H, ms_w9 H, ms_l9 H, ms_t11 H, ms_r11 H, ms_w11 H, ms_l11 H, ms_t12 H, ms_r12 H, ms_w12 H, ms_l12 H, ms_t15 H, ms_r15 H, ms_w15 H, ms_l15 H, ms_t16 H, ms_r16 H, ms_w16 H, ms_l16 H, ms_t18 H, ms_r18 H, ms_w18 H, ms_l18 H, ms_t19 H, ms_r19 H, ms_w19 H, ms_l19 H, ms_t20 H, ms_r20 H, ms_w20 H, ms_l20 H, ms_t22 H, ms_r22 H, ms_w22 H, ms_l22 H, ms_t24 H, ms_r24 H, ms_w24 H, ms_l24 H, ms_t27 H, ms_r27 H, ms_w27 H, ms_l27 H, ms_t32 H, ms_r32 H, ms_w32 H, ms_l32 H, ms_b H, g0, e1, gi_sas, hs]
  rw [si_sa, sa_sa, gi_sas]
theorem mNoteA (v1 v2 : Int32) (H : MS M) (g0 : giM M 1011 3712 = nI 60) : fM_note 1003 v1 v2 M = BM_note_62 1003 v1 v2 (saM M 1011 (ud (shl 3 (giM M 1011)) 3712 (nI 59))) := by
  have e1 := nt_loop v1 v2 177 3 1000000 M H rfl (by omega) (by omega)
  have hs : shl 3 (giM M 1011) 3712 = nI 60 := by
    unfold shl
    rw [if_neg (by omega)]
    exact g0
  exact mNoteG v1 v2 (ms_r15 (i := 3712) H (by omega)) (ms_w15 (i := 3712) H (by omega)) (n_cl (a := 3712) (by omega)) l_60 H g0 e1 hs (n_sub (b := 1) (by omega))
theorem mNoteB (C : RC M ρ S) (h60 : (lg S).length = 60) : LgR (ud (shl 3 (giM M 1011)) 3712 (nI 59)) ((lg S).take 59) := by
  have hlen : ((lg S).take 59).length = 59 := by rw [List.length_take]; omega
  refine ⟨by rw [ud_s, hlen], fun i hi => ?_⟩
  have hi2 : i < 59 := by omega
  obtain ⟨a1, a2, a3⟩ := (rv_lg C).2 i (by omega)
  rw [List.getElem_take]
  refine ⟨?_, ?_, ?_⟩
  · rw [ud_n _ _ (by omega)]
    unfold shl
    rw [if_pos (by omega), ← a1]
    congr 1
    omega
  · rw [ud_n _ _ (by omega)]
    unfold shl
    rw [if_pos (by omega), ← a2]
    congr 1
    omega
  · rw [ud_n _ _ (by omega)]
    unfold shl
    rw [if_pos (by omega), ← a3]
    congr 1
    omega
theorem mNote {e : Nat × Nat × Nat} (C : RC M ρ S) (V : Inv ρ β S) (h17 : giM M 1003 17 = nI e.2.2) : ∃ M', fM_note 1003 (nI e.1) (nI e.2.1) M = some M' ∧ RF M M' ∧ RC M' ρ (oNote e S) := by
  have H := C.1
  have W := Wd_of C.2.2.1 V
  have hl : (lg S).length ≤ 60 := W.2.2
  have g0 := (rv_lg C).1
  unfold oNote
  by_cases h60 : (lg S).length = 60
  · rw [h60] at g0
    obtain ⟨N', e2, F2, L2⟩ := mNote62 (M := saM M 1011 (ud (shl 3 (giM M 1011)) 3712 (nI 59))) (e := e) (MS_2 rfl H) (gi_sas _ _ _) (mNoteB C h60) (by rw [List.length_take]; omega) (by rw [gi_san (by omega)]; exact h17)
    rw [sa_sa] at e2
    rw [show List.take 60 (e :: lg S) = e :: (lg S).take 59 from rfl, mNoteA _ _ H g0]
    refine ⟨_, e2, RF_sa M N', RC_sa C (RW_lg C.2.2.2 W (fun i hi => ?_) L2)⟩
    rw [F2 i hi, ud_n _ _ (by omega)]
    unfold shl
    exact if_neg (by omega)
  · obtain ⟨N', e2, F2, L2⟩ := mNote62 (e := e) H rfl (rv_lg C) (by omega) h17
    rw [show List.take 60 (e :: lg S) = e :: lg S from List.take_of_length_le (by rw [List.length_cons]; omega)]
    refine ⟨_, ?_, RF_sa M N', RC_sa C (RW_lg C.2.2.2 W F2 L2)⟩
    simp (disch := omega) only [fM_note, gd1, bs1, ↓reduceIte, d_nz, d_nn, or_true, true_or, or_false, false_or, decide_true, Sum.elim_inl, Sum.elim_inr, ↓l_m1, l_0, l_1, l_2, l_3, l_4, l_5, l_6, l_7, l_8, l_9, l_10, l_16, l_17, l_18, l_20, l_23, l_24, l_30, l_31, l_32, l_39, l_40, l_41, l_48, l_57, l_58, l_59, l_60, l_63, l_90, l_97, l_98, l_99, l_100, l_102, l_103, l_104, l_107, l_109, l_112, l_115, l_116, l_117, l_120, l_122, l_126, l_166, l_180, l_240, l_255, l_640, l_999, l_2656, l_3064, l_3704, l_3708, l_3712, l_3713, l_3893, l_155720, l_1000000, n_ltT, n_ltF, n_leT, n_leF, n_eqT, n_eqF, n_eqm, n_eqm', n_mltn, n_mlen, n_nltm, n_nlem, n_mltm, n_mlem, n_add, n_mul, n_sub, n_subm, n_cl, n_ofNat, n_div, n_mod, obM_si, rdI_si, wrI_si, lnI_si, grM_si', tgM_si', obM_sa, rdI_sa, wrI_sa, lnI_sa, grM_sa', tgM_sa', ms_ob H, ms_g1 H, ms_g5 H, ms_g6 H, ms_g8 H, ms_g9 H, ms_g11 H, ms_g12 H, ms_g15 H, ms_g16 H, ms_g18 H, ms_g19 H, ms_g20 H, ms_g22 H, ms_g24 H, ms_g27 H, ms_g32 H, ms_g21 H, ms_t1 H, ms_r1 H, ms_w1 H, ms_l1 H, ms_t5 H, ms_r5 H, ms_w5 H, ms_l5 H, ms_t6 H, ms_r6 H, ms_w6 H, ms_l6 H, ms_t8 H, ms_r8 H, ms_w8 H, ms_l8 H, ms_t9 H, ms_r9 H, ms_w9 H, ms_l9 H, ms_t11 H, ms_r11 H, ms_w11 H, ms_l11 H, ms_t12 H, ms_r12 H, ms_w12 H, ms_l12 H, ms_t15 H, ms_r15 H, ms_w15 H, ms_l15 H, ms_t16 H, ms_r16 H, ms_w16 H, ms_l16 H, ms_t18 H, ms_r18 H, ms_w18 H, ms_l18 H, ms_t19 H, ms_r19 H, ms_w19 H, ms_l19 H, ms_t20 H, ms_r20 H, ms_w20 H, ms_l20 H, ms_t22 H, ms_r22 H, ms_w22 H, ms_l22 H, ms_t24 H, ms_r24 H, ms_w24 H, ms_l24 H, ms_t27 H, ms_r27 H, ms_w27 H, ms_l27 H, ms_t32 H, ms_r32 H, ms_w32 H, ms_l32 H, ms_b H, g0, e2]
/-! the reference's free -/
theorem mAddF {v : Nat} (C : RC M ρ S) (W : Wd S) (hl : l < 112) (hlen : (bl S l).length < cpl l) : ∃ M', fM_addFirst 1003 (nI (la l)) (nI v) M = some M' ∧ RF M M' ∧ RC M' ρ (oPush l v S) := by
  have h1 := la_rg hl
  obtain ⟨N', e, R, F⟩ := addFirst_ok (v := v) C.1 (C.2.2.2.2.1 l hl) (by omega)
  exact ⟨_, e, RF_sa M N', RC_sa C (RW_row W C.2.2.2 hl (fun i hi => F i (by omega)) R)⟩
theorem mFree (C : RC M ρ S) (V : Inv ρ β S) (hB : BoxB ρ S) (ht : t < rT ρ) (hp : p < 16) (hb : b < cut ρ S p) (hh : hd S p b = 1) : ∃ M', fM_freeNow 1003 (nI t) (nI (100 * p + b)) M = some (nI (aFrA ρ t p S), M') ∧ RF M M' ∧ RC M' ρ (aFree ρ t p b S) := by
  have H := C.1
  have hR := ru_b C.2.2.1
  have hc2 := cut_le C.2.2.1 V.1 hp
  have W := Wd_of C.2.2.1 V
  have e1 : (100 * p + b) / 100 = p := by omega
  have ea : 166 * p + (126 + b) = 166 * p + 126 + b := by omega
  have C1 : RC (siM M 1011 (166 * p + 126 + b) (nI 0)) ρ (oHd p b 0 S) := RC_si C (RW_hd W C.2.2.2 hp (by omega))
  have W1 : Wd (oHd p b 0 S) := W
  have hkC := rv_k C1 hp
  have hoC := rv_o C1 hp
  have hkC : giM (siM M 1011 (166 * p + 126 + b) (nI 0)) 1011 (166 * p) = nI (kd S p) := hkC
  have hoC : giM (siM M 1011 (166 * p + 126 + b) (nI 0)) 1011 (166 * p + 1) = nI (ow S p) := hoC
  have hk3 := (V.1 p hp).1
  have hOw : fM_isOwned 1003 (nI p) (siM M 1011 (166 * p + 126 + b) (nI 0)) = some (nI (if kd S p = 1 ∨ kd S p = 2 then 1 else 0), siM M 1011 (166 * p + 126 + b) (nI 0)) := by
    rcases (show kd S p = 0 ∨ kd S p = 1 ∨ kd S p = 2 ∨ kd S p = 3 by omega) with e | e | e | e
    · rw [if_neg (by omega)]; rw [e] at hkC
      simp (disch := omega) only [fM_isOwned, fM_of, BM_isOwned_20, BM_isOwned_25, gd1, bs1, ↓reduceIte, d_nz, d_nn, or_true, true_or, or_false, false_or, decide_true, Sum.elim_inl, Sum.elim_inr, ↓l_m1, l_0, l_1, l_2, l_3, l_4, l_5, l_6, l_7, l_8, l_9, l_10, l_16, l_17, l_18, l_20, l_23, l_24, l_30, l_31, l_32, l_39, l_40, l_41, l_48, l_57, l_58, l_59, l_60, l_63, l_90, l_97, l_98, l_99, l_100, l_102, l_103, l_104, l_107, l_109, l_112, l_115, l_116, l_117, l_120, l_122, l_126, l_166, l_180, l_240, l_255, l_640, l_999, l_2656, l_3064, l_3704, l_3708, l_3712, l_3713, l_3893, l_155720, l_1000000, n_ltT, n_ltF, n_leT, n_leF, n_eqT, n_eqF, n_eqm, n_eqm', n_mltn, n_mlen, n_nltm, n_nlem, n_mltm, n_mlem, n_add, n_mul, n_sub, n_subm, n_cl, n_ofNat, n_div, n_mod, obM_si, rdI_si, wrI_si, lnI_si, grM_si', tgM_si', obM_sa, rdI_sa, wrI_sa, lnI_sa, grM_sa', tgM_sa', ms_ob H, ms_g1 H, ms_g5 H, ms_g6 H, ms_g8 H, ms_g9 H, ms_g11 H, ms_g12 H, ms_g15 H, ms_g16 H, ms_g18 H, ms_g19 H, ms_g20 H, ms_g22 H, ms_g24 H, ms_g27 H, ms_g32 H, ms_g21 H, ms_t1 H, ms_r1 H, ms_w1 H, ms_l1 H, ms_t5 H, ms_r5 H, ms_w5 H, ms_l5 H, ms_t6 H, ms_r6 H, ms_w6 H, ms_l6 H, ms_t8 H, ms_r8 H, ms_w8 H, ms_l8 H, ms_t9 H, ms_r9 H, ms_w9 H, ms_l9 H, ms_t11 H, ms_r11 H, ms_w11 H, ms_l11 H, ms_t12 H, ms_r12 H, ms_w12 H, ms_l12 H, ms_t15 H, ms_r15 H, ms_w15 H, ms_l15 H, ms_t16 H, ms_r16 H, ms_w16 H, ms_l16 H, ms_t18 H, ms_r18 H, ms_w18 H, ms_l18 H, ms_t19 H, ms_r19 H, ms_w19 H, ms_l19 H, ms_t20 H, ms_r20 H, ms_w20 H, ms_l20 H, ms_t22 H, ms_r22 H, ms_w22 H, ms_l22 H, ms_t24 H, ms_r24 H, ms_w24 H, ms_l24 H, ms_t27 H, ms_r27 H, ms_w27 H, ms_l27 H, ms_t32 H, ms_r32 H, ms_w32 H, ms_l32 H, ms_b H, Nat.add_zero, hkC]
    · rw [if_pos (by omega)]; rw [e] at hkC
      simp (disch := omega) only [fM_isOwned, fM_of, BM_isOwned_20, BM_isOwned_25, gd1, bs1, ↓reduceIte, d_nz, d_nn, or_true, true_or, or_false, false_or, decide_true, Sum.elim_inl, Sum.elim_inr, ↓l_m1, l_0, l_1, l_2, l_3, l_4, l_5, l_6, l_7, l_8, l_9, l_10, l_16, l_17, l_18, l_20, l_23, l_24, l_30, l_31, l_32, l_39, l_40, l_41, l_48, l_57, l_58, l_59, l_60, l_63, l_90, l_97, l_98, l_99, l_100, l_102, l_103, l_104, l_107, l_109, l_112, l_115, l_116, l_117, l_120, l_122, l_126, l_166, l_180, l_240, l_255, l_640, l_999, l_2656, l_3064, l_3704, l_3708, l_3712, l_3713, l_3893, l_155720, l_1000000, n_ltT, n_ltF, n_leT, n_leF, n_eqT, n_eqF, n_eqm, n_eqm', n_mltn, n_mlen, n_nltm, n_nlem, n_mltm, n_mlem, n_add, n_mul, n_sub, n_subm, n_cl, n_ofNat, n_div, n_mod, obM_si, rdI_si, wrI_si, lnI_si, grM_si', tgM_si', obM_sa, rdI_sa, wrI_sa, lnI_sa, grM_sa', tgM_sa', ms_ob H, ms_g1 H, ms_g5 H, ms_g6 H, ms_g8 H, ms_g9 H, ms_g11 H, ms_g12 H, ms_g15 H, ms_g16 H, ms_g18 H, ms_g19 H, ms_g20 H, ms_g22 H, ms_g24 H, ms_g27 H, ms_g32 H, ms_g21 H, ms_t1 H, ms_r1 H, ms_w1 H, ms_l1 H, ms_t5 H, ms_r5 H, ms_w5 H, ms_l5 H, ms_t6 H, ms_r6 H, ms_w6 H, ms_l6 H, ms_t8 H, ms_r8 H, ms_w8 H, ms_l8 H, ms_t9 H, ms_r9 H, ms_w9 H, ms_l9 H, ms_t11 H, ms_r11 H, ms_w11 H, ms_l11 H, ms_t12 H, ms_r12 H, ms_w12 H, ms_l12 H, ms_t15 H, ms_r15 H, ms_w15 H, ms_l15 H, ms_t16 H, ms_r16 H, ms_w16 H, ms_l16 H, ms_t18 H, ms_r18 H, ms_w18 H, ms_l18 H, ms_t19 H, ms_r19 H, ms_w19 H, ms_l19 H, ms_t20 H, ms_r20 H, ms_w20 H, ms_l20 H, ms_t22 H, ms_r22 H, ms_w22 H, ms_l22 H, ms_t24 H, ms_r24 H, ms_w24 H, ms_l24 H, ms_t27 H, ms_r27 H, ms_w27 H, ms_l27 H, ms_t32 H, ms_r32 H, ms_w32 H, ms_l32 H, ms_b H, Nat.add_zero, hkC]
    · rw [if_pos (by omega)]; rw [e] at hkC
      simp (disch := omega) only [fM_isOwned, fM_of, BM_isOwned_20, BM_isOwned_25, gd1, bs1, ↓reduceIte, d_nz, d_nn, or_true, true_or, or_false, false_or, decide_true, Sum.elim_inl, Sum.elim_inr, ↓l_m1, l_0, l_1, l_2, l_3, l_4, l_5, l_6, l_7, l_8, l_9, l_10, l_16, l_17, l_18, l_20, l_23, l_24, l_30, l_31, l_32, l_39, l_40, l_41, l_48, l_57, l_58, l_59, l_60, l_63, l_90, l_97, l_98, l_99, l_100, l_102, l_103, l_104, l_107, l_109, l_112, l_115, l_116, l_117, l_120, l_122, l_126, l_166, l_180, l_240, l_255, l_640, l_999, l_2656, l_3064, l_3704, l_3708, l_3712, l_3713, l_3893, l_155720, l_1000000, n_ltT, n_ltF, n_leT, n_leF, n_eqT, n_eqF, n_eqm, n_eqm', n_mltn, n_mlen, n_nltm, n_nlem, n_mltm, n_mlem, n_add, n_mul, n_sub, n_subm, n_cl, n_ofNat, n_div, n_mod, obM_si, rdI_si, wrI_si, lnI_si, grM_si', tgM_si', obM_sa, rdI_sa, wrI_sa, lnI_sa, grM_sa', tgM_sa', ms_ob H, ms_g1 H, ms_g5 H, ms_g6 H, ms_g8 H, ms_g9 H, ms_g11 H, ms_g12 H, ms_g15 H, ms_g16 H, ms_g18 H, ms_g19 H, ms_g20 H, ms_g22 H, ms_g24 H, ms_g27 H, ms_g32 H, ms_g21 H, ms_t1 H, ms_r1 H, ms_w1 H, ms_l1 H, ms_t5 H, ms_r5 H, ms_w5 H, ms_l5 H, ms_t6 H, ms_r6 H, ms_w6 H, ms_l6 H, ms_t8 H, ms_r8 H, ms_w8 H, ms_l8 H, ms_t9 H, ms_r9 H, ms_w9 H, ms_l9 H, ms_t11 H, ms_r11 H, ms_w11 H, ms_l11 H, ms_t12 H, ms_r12 H, ms_w12 H, ms_l12 H, ms_t15 H, ms_r15 H, ms_w15 H, ms_l15 H, ms_t16 H, ms_r16 H, ms_w16 H, ms_l16 H, ms_t18 H, ms_r18 H, ms_w18 H, ms_l18 H, ms_t19 H, ms_r19 H, ms_w19 H, ms_l19 H, ms_t20 H, ms_r20 H, ms_w20 H, ms_l20 H, ms_t22 H, ms_r22 H, ms_w22 H, ms_l22 H, ms_t24 H, ms_r24 H, ms_w24 H, ms_l24 H, ms_t27 H, ms_r27 H, ms_w27 H, ms_l27 H, ms_t32 H, ms_r32 H, ms_w32 H, ms_l32 H, ms_b H, Nat.add_zero, hkC]
    · rw [if_neg (by omega)]; rw [e] at hkC
      simp (disch := omega) only [fM_isOwned, fM_of, BM_isOwned_20, BM_isOwned_25, gd1, bs1, ↓reduceIte, d_nz, d_nn, or_true, true_or, or_false, false_or, decide_true, Sum.elim_inl, Sum.elim_inr, ↓l_m1, l_0, l_1, l_2, l_3, l_4, l_5, l_6, l_7, l_8, l_9, l_10, l_16, l_17, l_18, l_20, l_23, l_24, l_30, l_31, l_32, l_39, l_40, l_41, l_48, l_57, l_58, l_59, l_60, l_63, l_90, l_97, l_98, l_99, l_100, l_102, l_103, l_104, l_107, l_109, l_112, l_115, l_116, l_117, l_120, l_122, l_126, l_166, l_180, l_240, l_255, l_640, l_999, l_2656, l_3064, l_3704, l_3708, l_3712, l_3713, l_3893, l_155720, l_1000000, n_ltT, n_ltF, n_leT, n_leF, n_eqT, n_eqF, n_eqm, n_eqm', n_mltn, n_mlen, n_nltm, n_nlem, n_mltm, n_mlem, n_add, n_mul, n_sub, n_subm, n_cl, n_ofNat, n_div, n_mod, obM_si, rdI_si, wrI_si, lnI_si, grM_si', tgM_si', obM_sa, rdI_sa, wrI_sa, lnI_sa, grM_sa', tgM_sa', ms_ob H, ms_g1 H, ms_g5 H, ms_g6 H, ms_g8 H, ms_g9 H, ms_g11 H, ms_g12 H, ms_g15 H, ms_g16 H, ms_g18 H, ms_g19 H, ms_g20 H, ms_g22 H, ms_g24 H, ms_g27 H, ms_g32 H, ms_g21 H, ms_t1 H, ms_r1 H, ms_w1 H, ms_l1 H, ms_t5 H, ms_r5 H, ms_w5 H, ms_l5 H, ms_t6 H, ms_r6 H, ms_w6 H, ms_l6 H, ms_t8 H, ms_r8 H, ms_w8 H, ms_l8 H, ms_t9 H, ms_r9 H, ms_w9 H, ms_l9 H, ms_t11 H, ms_r11 H, ms_w11 H, ms_l11 H, ms_t12 H, ms_r12 H, ms_w12 H, ms_l12 H, ms_t15 H, ms_r15 H, ms_w15 H, ms_l15 H, ms_t16 H, ms_r16 H, ms_w16 H, ms_l16 H, ms_t18 H, ms_r18 H, ms_w18 H, ms_l18 H, ms_t19 H, ms_r19 H, ms_w19 H, ms_l19 H, ms_t20 H, ms_r20 H, ms_w20 H, ms_l20 H, ms_t22 H, ms_r22 H, ms_w22 H, ms_l22 H, ms_t24 H, ms_r24 H, ms_w24 H, ms_l24 H, ms_t27 H, ms_r27 H, ms_w27 H, ms_l27 H, ms_t32 H, ms_r32 H, ms_w32 H, ms_l32 H, ms_b H, Nat.add_zero, hkC]
  have box : ∀ h1 : ¬ ((kd S p = 1 ∨ kd S p = 2) ∧ ow S p = t), ∃ M', BM_freeNow_73 1003 (nI t) (nI p) (nI b) (siM M 1011 (166 * p + 126 + b) (nI 0)) = some (nI (aFrA ρ t p S), M') ∧ RF M M' ∧ RC M' ρ (aFree ρ t p b S) := by
    intro h1
    have h9 := hB t p (by omega) hp
    have hcp : cpl (48 + 16 * t + p) = 9 := if_neg (by omega)
    obtain ⟨M2, e2, F2, C2⟩ := mAddF (l := 48 + 16 * t + p) (v := b) C1 W1 (by omega) (by rw [hcp]; show (bl S (48 + 16 * t + p)).length < 9; omega)
    rw [la_b hp] at e2
    have C2 : RC M2 ρ (aBox t p b S) := C2
    have V2 : Inv ρ β (aBox t p b S) := inv_box ht (by omega) hp (by omega) hb hh V
    have hbx := (rv_b C2 (t := t) (by omega) hp).1
    have hbx : giM M2 1011 (3064 + 10 * (16 * t + p)) = nI ((bl S (48 + 16 * t + p)).length + 1) := by
      rw [hbx]
      show nI (ud (bl S) (48 + 16 * t + p) (b :: bl S (48 + 16 * t + p)) (48 + 16 * t + p)).length = _
      rw [ud_s, List.length_cons]
    have s2 : M2.2 = M.2 := F2.1
    have R2 := C2.2.1
    unfold aFree aFrA
    rw [if_neg h1, if_neg h1]
    by_cases h2 : (bl S (48 + 16 * t + p)).length + 1 < rB ρ
    · rw [if_pos h2, if_pos h2]
      refine ⟨M2, ?_, RF_tr (RF_si _ _ _) F2, C2⟩
      simp (disch := omega) only [BM_freeNow_73, fM_boxAt, gd1, bs1, ↓reduceIte, d_nz, d_nn, or_true, true_or, or_false, false_or, decide_true, Sum.elim_inl, Sum.elim_inr, ↓l_m1, l_0, l_1, l_2, l_3, l_4, l_5, l_6, l_7, l_8, l_9, l_10, l_16, l_17, l_18, l_20, l_23, l_24, l_30, l_31, l_32, l_39, l_40, l_41, l_48, l_57, l_58, l_59, l_60, l_63, l_90, l_97, l_98, l_99, l_100, l_102, l_103, l_104, l_107, l_109, l_112, l_115, l_116, l_117, l_120, l_122, l_126, l_166, l_180, l_240, l_255, l_640, l_999, l_2656, l_3064, l_3704, l_3708, l_3712, l_3713, l_3893, l_155720, l_1000000, n_ltT, n_ltF, n_leT, n_leF, n_eqT, n_eqF, n_eqm, n_eqm', n_mltn, n_mlen, n_nltm, n_nlem, n_mltm, n_mlem, n_add, n_mul, n_sub, n_subm, n_cl, n_ofNat, n_div, n_mod, obM_si, rdI_si, wrI_si, lnI_si, grM_si', tgM_si', obM_sa, rdI_sa, wrI_sa, lnI_sa, grM_sa', tgM_sa', obM_2 s2, rdI_2 s2, wrI_2 s2, lnI_2 s2, grM_2 s2, tgM_2 s2, ms_ob H, ms_g1 H, ms_g5 H, ms_g6 H, ms_g8 H, ms_g9 H, ms_g11 H, ms_g12 H, ms_g15 H, ms_g16 H, ms_g18 H, ms_g19 H, ms_g20 H, ms_g22 H, ms_g24 H, ms_g27 H, ms_g32 H, ms_g21 H, ms_t1 H, ms_r1 H, ms_w1 H, ms_l1 H, ms_t5 H, ms_r5 H, ms_w5 H, ms_l5 H, ms_t6 H, ms_r6 H, ms_w6 H, ms_l6 H, ms_t8 H, ms_r8 H, ms_w8 H, ms_l8 H, ms_t9 H, ms_r9 H, ms_w9 H, ms_l9 H, ms_t11 H, ms_r11 H, ms_w11 H, ms_l11 H, ms_t12 H, ms_r12 H, ms_w12 H, ms_l12 H, ms_t15 H, ms_r15 H, ms_w15 H, ms_l15 H, ms_t16 H, ms_r16 H, ms_w16 H, ms_l16 H, ms_t18 H, ms_r18 H, ms_w18 H, ms_l18 H, ms_t19 H, ms_r19 H, ms_w19 H, ms_l19 H, ms_t20 H, ms_r20 H, ms_w20 H, ms_l20 H, ms_t22 H, ms_r22 H, ms_w22 H, ms_l22 H, ms_t24 H, ms_r24 H, ms_w24 H, ms_l24 H, ms_t27 H, ms_r27 H, ms_w27 H, ms_l27 H, ms_t32 H, ms_r32 H, ms_w32 H, ms_l32 H, ms_b H, rm_T R2, rm_P R2, rm_U R2, rm_B R2, rm_H R2, rm_K R2, e2, hbx]
    · rw [if_neg h2, if_neg h2]
      obtain ⟨M3, e3, F3, C3⟩ := mHome C2 V2 ht hp
      refine ⟨M3, ?_, RF_tr (RF_si _ _ _) (RF_tr F2 F3), C3⟩
      simp (disch := omega) only [BM_freeNow_73, fM_boxAt, gd1, bs1, ↓reduceIte, d_nz, d_nn, or_true, true_or, or_false, false_or, decide_true, Sum.elim_inl, Sum.elim_inr, ↓l_m1, l_0, l_1, l_2, l_3, l_4, l_5, l_6, l_7, l_8, l_9, l_10, l_16, l_17, l_18, l_20, l_23, l_24, l_30, l_31, l_32, l_39, l_40, l_41, l_48, l_57, l_58, l_59, l_60, l_63, l_90, l_97, l_98, l_99, l_100, l_102, l_103, l_104, l_107, l_109, l_112, l_115, l_116, l_117, l_120, l_122, l_126, l_166, l_180, l_240, l_255, l_640, l_999, l_2656, l_3064, l_3704, l_3708, l_3712, l_3713, l_3893, l_155720, l_1000000, n_ltT, n_ltF, n_leT, n_leF, n_eqT, n_eqF, n_eqm, n_eqm', n_mltn, n_mlen, n_nltm, n_nlem, n_mltm, n_mlem, n_add, n_mul, n_sub, n_subm, n_cl, n_ofNat, n_div, n_mod, obM_si, rdI_si, wrI_si, lnI_si, grM_si', tgM_si', obM_sa, rdI_sa, wrI_sa, lnI_sa, grM_sa', tgM_sa', obM_2 s2, rdI_2 s2, wrI_2 s2, lnI_2 s2, grM_2 s2, tgM_2 s2, ms_ob H, ms_g1 H, ms_g5 H, ms_g6 H, ms_g8 H, ms_g9 H, ms_g11 H, ms_g12 H, ms_g15 H, ms_g16 H, ms_g18 H, ms_g19 H, ms_g20 H, ms_g22 H, ms_g24 H, ms_g27 H, ms_g32 H, ms_g21 H, ms_t1 H, ms_r1 H, ms_w1 H, ms_l1 H, ms_t5 H, ms_r5 H, ms_w5 H, ms_l5 H, ms_t6 H, ms_r6 H, ms_w6 H, ms_l6 H, ms_t8 H, ms_r8 H, ms_w8 H, ms_l8 H, ms_t9 H, ms_r9 H, ms_w9 H, ms_l9 H, ms_t11 H, ms_r11 H, ms_w11 H, ms_l11 H, ms_t12 H, ms_r12 H, ms_w12 H, ms_l12 H, ms_t15 H, ms_r15 H, ms_w15 H, ms_l15 H, ms_t16 H, ms_r16 H, ms_w16 H, ms_l16 H, ms_t18 H, ms_r18 H, ms_w18 H, ms_l18 H, ms_t19 H, ms_r19 H, ms_w19 H, ms_l19 H, ms_t20 H, ms_r20 H, ms_w20 H, ms_l20 H, ms_t22 H, ms_r22 H, ms_w22 H, ms_l22 H, ms_t24 H, ms_r24 H, ms_w24 H, ms_l24 H, ms_t27 H, ms_r27 H, ms_w27 H, ms_l27 H, ms_t32 H, ms_r32 H, ms_w32 H, ms_l32 H, ms_b H, rm_T R2, rm_P R2, rm_U R2, rm_B R2, rm_H R2, rm_K R2, e2, hbx, e3]
  by_cases h1 : kd S p = 1 ∨ kd S p = 2
  · rw [if_pos h1] at hOw
    have ho3 := (V.1 p hp).2.2.1 h1
    by_cases h2 : ow S p = t
    · have hc40 : cpl (3 * p + 1) = 40 := cpl_3 (w := 1) hp (by omega)
      have hlen : (bl S (3 * p + 1)).length < 40 := by
        have h3 := bl_len C.2.2.1 (inv_loc hp hb hh V) (l := 3 * p + 1) (by omega)
        have e : bl (oPush (3 * p + 1) b (oHd p b 0 S)) (3 * p + 1) = b :: bl S (3 * p + 1) := ud_s _ _ _
        rw [e, List.length_cons] at h3
        omega
      obtain ⟨M2, e2, F2, C2⟩ := mAddF (l := 3 * p + 1) (v := b) C1 W1 (by omega) (by rw [hc40]; exact hlen)
      rw [la_3 (w := 1) hp (by omega)] at e2
      have e2 : fM_addFirst 1003 (nI (166 * p + 3 + 41)) (nI b) (siM M 1011 (166 * p + 126 + b) (nI 0)) = some M2 := e2
      have V2 := inv_loc hp hb hh V
      have hk2 := rv_k C2 hp
      have hk2 : giM M2 1011 (166 * p) = nI (kd S p) := hk2
      have s2 : M2.2 = M.2 := F2.1
      rw [h2] at hoC
      unfold aFree aFrA
      rw [if_pos ⟨h1, h2⟩, if_pos ⟨h1, h2⟩]
      by_cases h4 : kd S p = 2
      · have eL : aLoc ρ p b S = oEnq p (oPush (3 * p + 1) b (oHd p b 0 S)) := if_pos h4
        have hq := enq_len (S := oPush (3 * p + 1) b (oHd p b 0 S)) C.2.2.1 V2 hp h4
        obtain ⟨M3, e3, F3, C3⟩ := mEnq C2 (Wd_of C.2.2.1 V2) hp hq.1 hq.2
        have V3 := inv_enq (S := oPush (3 * p + 1) b (oHd p b 0 S)) hp h4 V2
        obtain ⟨M4, e4, F4, C4⟩ := mBack C3 V3 hp
        rw [h4] at hk2
        have s3 : M3.2 = M.2 := F3.1.trans s2
        have eq : (if kd (oEnq p (oPush (3 * p + 1) b (oHd p b 0 S))) p = 1 ∧ usd ρ (oEnq p (oPush (3 * p + 1) b (oHd p b 0 S))) p = 0 ∧ 1 < (qu (oEnq p (oPush (3 * p + 1) b (oHd p b 0 S))) (6 * ow (oEnq p (oPush (3 * p + 1) b (oHd p b 0 S))) p + cl (oEnq p (oPush (3 * p + 1) b (oHd p b 0 S))) p)).length then oEmpty p (oEnq p (oPush (3 * p + 1) b (oHd p b 0 S))) else oEnq p (oPush (3 * p + 1) b (oHd p b 0 S))) = (if usd ρ (aLoc ρ p b S) p = 0 ∧ 1 < (qu (aLoc ρ p b S) (6 * t + cl S p)).length then oEmpty p (aLoc ρ p b S) else aLoc ρ p b S) := by
          rw [eL]
          have k1 : kd (oEnq p (oPush (3 * p + 1) b (oHd p b 0 S))) p = 1 := ud_s _ _ _
          have k2 : ow (oEnq p (oPush (3 * p + 1) b (oHd p b 0 S))) p = t := h2
          have k3 : cl (oEnq p (oPush (3 * p + 1) b (oHd p b 0 S))) p = cl S p := rfl
          rw [k1, k2, k3]
          by_cases h5 : usd ρ (oEnq p (oPush (3 * p + 1) b (oHd p b 0 S))) p = 0 ∧ 1 < (qu (oEnq p (oPush (3 * p + 1) b (oHd p b 0 S))) (6 * t + cl S p)).length
          · rw [if_pos h5, if_pos ⟨rfl, h5⟩]
          · rw [if_neg h5, if_neg (fun q => h5 q.2)]
        rw [eq] at C4
        refine ⟨M4, ?_, RF_tr (RF_si _ _ _) (RF_tr F2 (RF_tr F3 F4)), C4⟩
        simp (disch := omega) only [fM_freeNow, fM_set, fM_of, fM_listAt, BM_freeNow_66, gd1, bs1, ↓reduceIte, d_nz, d_nn, or_true, true_or, or_false, false_or, decide_true, Sum.elim_inl, Sum.elim_inr, ↓l_m1, l_0, l_1, l_2, l_3, l_4, l_5, l_6, l_7, l_8, l_9, l_10, l_16, l_17, l_18, l_20, l_23, l_24, l_30, l_31, l_32, l_39, l_40, l_41, l_48, l_57, l_58, l_59, l_60, l_63, l_90, l_97, l_98, l_99, l_100, l_102, l_103, l_104, l_107, l_109, l_112, l_115, l_116, l_117, l_120, l_122, l_126, l_166, l_180, l_240, l_255, l_640, l_999, l_2656, l_3064, l_3704, l_3708, l_3712, l_3713, l_3893, l_155720, l_1000000, n_ltT, n_ltF, n_leT, n_leF, n_eqT, n_eqF, n_eqm, n_eqm', n_mltn, n_mlen, n_nltm, n_nlem, n_mltm, n_mlem, n_add, n_mul, n_sub, n_subm, n_cl, n_ofNat, n_div, n_mod, obM_si, rdI_si, wrI_si, lnI_si, grM_si', tgM_si', obM_sa, rdI_sa, wrI_sa, lnI_sa, grM_sa', tgM_sa', obM_2 s2, rdI_2 s2, wrI_2 s2, lnI_2 s2, grM_2 s2, tgM_2 s2, obM_2 s3, rdI_2 s3, wrI_2 s3, lnI_2 s3, grM_2 s3, tgM_2 s3, ms_ob H, ms_g1 H, ms_g5 H, ms_g6 H, ms_g8 H, ms_g9 H, ms_g11 H, ms_g12 H, ms_g15 H, ms_g16 H, ms_g18 H, ms_g19 H, ms_g20 H, ms_g22 H, ms_g24 H, ms_g27 H, ms_g32 H, ms_g21 H, ms_t1 H, ms_r1 H, ms_w1 H, ms_l1 H, ms_t5 H, ms_r5 H, ms_w5 H, ms_l5 H, ms_t6 H, ms_r6 H, ms_w6 H, ms_l6 H, ms_t8 H, ms_r8 H, ms_w8 H, ms_l8 H, ms_t9 H, ms_r9 H, ms_w9 H, ms_l9 H, ms_t11 H, ms_r11 H, ms_w11 H, ms_l11 H, ms_t12 H, ms_r12 H, ms_w12 H, ms_l12 H, ms_t15 H, ms_r15 H, ms_w15 H, ms_l15 H, ms_t16 H, ms_r16 H, ms_w16 H, ms_l16 H, ms_t18 H, ms_r18 H, ms_w18 H, ms_l18 H, ms_t19 H, ms_r19 H, ms_w19 H, ms_l19 H, ms_t20 H, ms_r20 H, ms_w20 H, ms_l20 H, ms_t22 H, ms_r22 H, ms_w22 H, ms_l22 H, ms_t24 H, ms_r24 H, ms_w24 H, ms_l24 H, ms_t27 H, ms_r27 H, ms_w27 H, ms_l27 H, ms_t32 H, ms_r32 H, ms_w32 H, ms_l32 H, ms_b H, e1, mul100, Nat.add_sub_cancel_left, ea, hOw, hoC, Nat.mul_one, Nat.add_zero, e2, hk2, e3, e4]
      · have eL : aLoc ρ p b S = oPush (3 * p + 1) b (oHd p b 0 S) := if_neg h4
        obtain ⟨M4, e4, F4, C4⟩ := mBack C2 V2 hp
        have eq : (if kd (oPush (3 * p + 1) b (oHd p b 0 S)) p = 1 ∧ usd ρ (oPush (3 * p + 1) b (oHd p b 0 S)) p = 0 ∧ 1 < (qu (oPush (3 * p + 1) b (oHd p b 0 S)) (6 * ow (oPush (3 * p + 1) b (oHd p b 0 S)) p + cl (oPush (3 * p + 1) b (oHd p b 0 S)) p)).length then oEmpty p (oPush (3 * p + 1) b (oHd p b 0 S)) else oPush (3 * p + 1) b (oHd p b 0 S)) = (if usd ρ (aLoc ρ p b S) p = 0 ∧ 1 < (qu (aLoc ρ p b S) (6 * t + cl S p)).length then oEmpty p (aLoc ρ p b S) else aLoc ρ p b S) := by
          rw [eL]
          have k1 : kd (oPush (3 * p + 1) b (oHd p b 0 S)) p = 1 := by show kd S p = 1; omega
          have k2 : ow (oPush (3 * p + 1) b (oHd p b 0 S)) p = t := h2
          have k3 : cl (oPush (3 * p + 1) b (oHd p b 0 S)) p = cl S p := rfl
          rw [k1, k2, k3]
          by_cases h5 : usd ρ (oPush (3 * p + 1) b (oHd p b 0 S)) p = 0 ∧ 1 < (qu (oPush (3 * p + 1) b (oHd p b 0 S)) (6 * t + cl S p)).length
          · rw [if_pos h5, if_pos ⟨rfl, h5⟩]
          · rw [if_neg h5, if_neg (fun q => h5 q.2)]
        rw [eq] at C4
        refine ⟨M4, ?_, RF_tr (RF_si _ _ _) (RF_tr F2 F4), C4⟩
        simp (disch := omega) only [fM_freeNow, fM_set, fM_of, fM_listAt, BM_freeNow_66, gd1, bs1, ↓reduceIte, d_nz, d_nn, or_true, true_or, or_false, false_or, decide_true, Sum.elim_inl, Sum.elim_inr, ↓l_m1, l_0, l_1, l_2, l_3, l_4, l_5, l_6, l_7, l_8, l_9, l_10, l_16, l_17, l_18, l_20, l_23, l_24, l_30, l_31, l_32, l_39, l_40, l_41, l_48, l_57, l_58, l_59, l_60, l_63, l_90, l_97, l_98, l_99, l_100, l_102, l_103, l_104, l_107, l_109, l_112, l_115, l_116, l_117, l_120, l_122, l_126, l_166, l_180, l_240, l_255, l_640, l_999, l_2656, l_3064, l_3704, l_3708, l_3712, l_3713, l_3893, l_155720, l_1000000, n_ltT, n_ltF, n_leT, n_leF, n_eqT, n_eqF, n_eqm, n_eqm', n_mltn, n_mlen, n_nltm, n_nlem, n_mltm, n_mlem, n_add, n_mul, n_sub, n_subm, n_cl, n_ofNat, n_div, n_mod, obM_si, rdI_si, wrI_si, lnI_si, grM_si', tgM_si', obM_sa, rdI_sa, wrI_sa, lnI_sa, grM_sa', tgM_sa', obM_2 s2, rdI_2 s2, wrI_2 s2, lnI_2 s2, grM_2 s2, tgM_2 s2, ms_ob H, ms_g1 H, ms_g5 H, ms_g6 H, ms_g8 H, ms_g9 H, ms_g11 H, ms_g12 H, ms_g15 H, ms_g16 H, ms_g18 H, ms_g19 H, ms_g20 H, ms_g22 H, ms_g24 H, ms_g27 H, ms_g32 H, ms_g21 H, ms_t1 H, ms_r1 H, ms_w1 H, ms_l1 H, ms_t5 H, ms_r5 H, ms_w5 H, ms_l5 H, ms_t6 H, ms_r6 H, ms_w6 H, ms_l6 H, ms_t8 H, ms_r8 H, ms_w8 H, ms_l8 H, ms_t9 H, ms_r9 H, ms_w9 H, ms_l9 H, ms_t11 H, ms_r11 H, ms_w11 H, ms_l11 H, ms_t12 H, ms_r12 H, ms_w12 H, ms_l12 H, ms_t15 H, ms_r15 H, ms_w15 H, ms_l15 H, ms_t16 H, ms_r16 H, ms_w16 H, ms_l16 H, ms_t18 H, ms_r18 H, ms_w18 H, ms_l18 H, ms_t19 H, ms_r19 H, ms_w19 H, ms_l19 H, ms_t20 H, ms_r20 H, ms_w20 H, ms_l20 H, ms_t22 H, ms_r22 H, ms_w22 H, ms_l22 H, ms_t24 H, ms_r24 H, ms_w24 H, ms_l24 H, ms_t27 H, ms_r27 H, ms_w27 H, ms_l27 H, ms_t32 H, ms_r32 H, ms_w32 H, ms_l32 H, ms_b H, e1, mul100, Nat.add_sub_cancel_left, ea, hOw, hoC, Nat.mul_one, Nat.add_zero, e2, hk2, e4]
    · obtain ⟨M2, e2, F2, C2⟩ := box (fun q => h2 q.2)
      refine ⟨M2, ?_, F2, C2⟩
      simp (disch := omega) only [fM_freeNow, fM_set, fM_of, gd1, bs1, ↓reduceIte, d_nz, d_nn, or_true, true_or, or_false, false_or, decide_true, Sum.elim_inl, Sum.elim_inr, ↓l_m1, l_0, l_1, l_2, l_3, l_4, l_5, l_6, l_7, l_8, l_9, l_10, l_16, l_17, l_18, l_20, l_23, l_24, l_30, l_31, l_32, l_39, l_40, l_41, l_48, l_57, l_58, l_59, l_60, l_63, l_90, l_97, l_98, l_99, l_100, l_102, l_103, l_104, l_107, l_109, l_112, l_115, l_116, l_117, l_120, l_122, l_126, l_166, l_180, l_240, l_255, l_640, l_999, l_2656, l_3064, l_3704, l_3708, l_3712, l_3713, l_3893, l_155720, l_1000000, n_ltT, n_ltF, n_leT, n_leF, n_eqT, n_eqF, n_eqm, n_eqm', n_mltn, n_mlen, n_nltm, n_nlem, n_mltm, n_mlem, n_add, n_mul, n_sub, n_subm, n_cl, n_ofNat, n_div, n_mod, obM_si, rdI_si, wrI_si, lnI_si, grM_si', tgM_si', obM_sa, rdI_sa, wrI_sa, lnI_sa, grM_sa', tgM_sa', ms_ob H, ms_g1 H, ms_g5 H, ms_g6 H, ms_g8 H, ms_g9 H, ms_g11 H, ms_g12 H, ms_g15 H, ms_g16 H, ms_g18 H, ms_g19 H, ms_g20 H, ms_g22 H, ms_g24 H, ms_g27 H, ms_g32 H, ms_g21 H, ms_t1 H, ms_r1 H, ms_w1 H, ms_l1 H, ms_t5 H, ms_r5 H, ms_w5 H, ms_l5 H, ms_t6 H, ms_r6 H, ms_w6 H, ms_l6 H, ms_t8 H, ms_r8 H, ms_w8 H, ms_l8 H, ms_t9 H, ms_r9 H, ms_w9 H, ms_l9 H, ms_t11 H, ms_r11 H, ms_w11 H, ms_l11 H, ms_t12 H, ms_r12 H, ms_w12 H, ms_l12 H, ms_t15 H, ms_r15 H, ms_w15 H, ms_l15 H, ms_t16 H, ms_r16 H, ms_w16 H, ms_l16 H, ms_t18 H, ms_r18 H, ms_w18 H, ms_l18 H, ms_t19 H, ms_r19 H, ms_w19 H, ms_l19 H, ms_t20 H, ms_r20 H, ms_w20 H, ms_l20 H, ms_t22 H, ms_r22 H, ms_w22 H, ms_l22 H, ms_t24 H, ms_r24 H, ms_w24 H, ms_l24 H, ms_t27 H, ms_r27 H, ms_w27 H, ms_l27 H, ms_t32 H, ms_r32 H, ms_w32 H, ms_l32 H, ms_b H, e1, mul100, Nat.add_sub_cancel_left, ea, hOw, hoC, e2]
  · rw [if_neg h1] at hOw
    obtain ⟨M2, e2, F2, C2⟩ := box (fun q => h1 q.1)
    refine ⟨M2, ?_, F2, C2⟩
    simp (disch := omega) only [fM_freeNow, fM_set, fM_of, gd1, bs1, ↓reduceIte, d_nz, d_nn, or_true, true_or, or_false, false_or, decide_true, Sum.elim_inl, Sum.elim_inr, ↓l_m1, l_0, l_1, l_2, l_3, l_4, l_5, l_6, l_7, l_8, l_9, l_10, l_16, l_17, l_18, l_20, l_23, l_24, l_30, l_31, l_32, l_39, l_40, l_41, l_48, l_57, l_58, l_59, l_60, l_63, l_90, l_97, l_98, l_99, l_100, l_102, l_103, l_104, l_107, l_109, l_112, l_115, l_116, l_117, l_120, l_122, l_126, l_166, l_180, l_240, l_255, l_640, l_999, l_2656, l_3064, l_3704, l_3708, l_3712, l_3713, l_3893, l_155720, l_1000000, n_ltT, n_ltF, n_leT, n_leF, n_eqT, n_eqF, n_eqm, n_eqm', n_mltn, n_mlen, n_nltm, n_nlem, n_mltm, n_mlem, n_add, n_mul, n_sub, n_subm, n_cl, n_ofNat, n_div, n_mod, obM_si, rdI_si, wrI_si, lnI_si, grM_si', tgM_si', obM_sa, rdI_sa, wrI_sa, lnI_sa, grM_sa', tgM_sa', ms_ob H, ms_g1 H, ms_g5 H, ms_g6 H, ms_g8 H, ms_g9 H, ms_g11 H, ms_g12 H, ms_g15 H, ms_g16 H, ms_g18 H, ms_g19 H, ms_g20 H, ms_g22 H, ms_g24 H, ms_g27 H, ms_g32 H, ms_g21 H, ms_t1 H, ms_r1 H, ms_w1 H, ms_l1 H, ms_t5 H, ms_r5 H, ms_w5 H, ms_l5 H, ms_t6 H, ms_r6 H, ms_w6 H, ms_l6 H, ms_t8 H, ms_r8 H, ms_w8 H, ms_l8 H, ms_t9 H, ms_r9 H, ms_w9 H, ms_l9 H, ms_t11 H, ms_r11 H, ms_w11 H, ms_l11 H, ms_t12 H, ms_r12 H, ms_w12 H, ms_l12 H, ms_t15 H, ms_r15 H, ms_w15 H, ms_l15 H, ms_t16 H, ms_r16 H, ms_w16 H, ms_l16 H, ms_t18 H, ms_r18 H, ms_w18 H, ms_l18 H, ms_t19 H, ms_r19 H, ms_w19 H, ms_l19 H, ms_t20 H, ms_r20 H, ms_w20 H, ms_l20 H, ms_t22 H, ms_r22 H, ms_w22 H, ms_l22 H, ms_t24 H, ms_r24 H, ms_w24 H, ms_l24 H, ms_t27 H, ms_r27 H, ms_w27 H, ms_l27 H, ms_t32 H, ms_r32 H, ms_w32 H, ms_l32 H, ms_b H, e1, mul100, Nat.add_sub_cancel_left, ea, hOw, e2]
end MN
