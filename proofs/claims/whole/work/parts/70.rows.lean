/-! THE REFERENCE: its shape, rows in its state -/
def MS (M : Mem) : Prop := obM M 1003 11 34 = true ∧ (grM M 1003 1 = 1004 ∧ grM M 1003 5 = 1005 ∧ grM M 1003 6 = 1006 ∧ grM M 1003 8 = 1007 ∧ grM M 1003 9 = 1008 ∧ grM M 1003 11 = 1009 ∧ grM M 1003 12 = 1010 ∧ grM M 1003 15 = 1011 ∧ grM M 1003 16 = 1012 ∧ grM M 1003 18 = 1013 ∧ grM M 1003 19 = 1014 ∧ grM M 1003 20 = 1015 ∧ grM M 1003 22 = 1017 ∧ grM M 1003 24 = 1018 ∧ grM M 1003 27 = 1019 ∧ grM M 1003 32 = 1020 ∧ grM M 1003 21 = 1016) ∧ (arS M 1004 240 ∧ arS M 1005 5 ∧ arS M 1006 6 ∧ arS M 1007 5 ∧ arS M 1008 6 ∧ arS M 1009 360 ∧ arS M 1010 5 ∧ arS M 1011 3893 ∧ arS M 1012 4 ∧ arS M 1013 48 ∧ arS M 1014 48 ∧ arS M 1015 48 ∧ arS M 1017 2 ∧ arS M 1018 155720 ∧ arS M 1019 48256 ∧ arS M 1020 3893) ∧ ownM M 1016 = true ∧ tgM M 1016 = (101, 48)
section MS
variable {M : Mem} {i : Nat}
theorem MS_2 {M' : Mem} (e : M'.2 = M.2) (H : MS M) : MS M' := by
  obtain ⟨I, T⟩ := M
  obtain ⟨I', T'⟩ := M'
  obtain rfl : T' = T := e
  exact H
theorem ms_ob (H : MS M) : obM M 1003 11 34 = true := H.1
theorem ms_g1 (H : MS M) : grM M 1003 1 = 1004 := H.2.1.1
theorem ms_g5 (H : MS M) : grM M 1003 5 = 1005 := H.2.1.2.1
theorem ms_g6 (H : MS M) : grM M 1003 6 = 1006 := H.2.1.2.2.1
theorem ms_g8 (H : MS M) : grM M 1003 8 = 1007 := H.2.1.2.2.2.1
theorem ms_g9 (H : MS M) : grM M 1003 9 = 1008 := H.2.1.2.2.2.2.1
theorem ms_g11 (H : MS M) : grM M 1003 11 = 1009 := H.2.1.2.2.2.2.2.1
theorem ms_g12 (H : MS M) : grM M 1003 12 = 1010 := H.2.1.2.2.2.2.2.2.1
theorem ms_g15 (H : MS M) : grM M 1003 15 = 1011 := H.2.1.2.2.2.2.2.2.2.1
theorem ms_g16 (H : MS M) : grM M 1003 16 = 1012 := H.2.1.2.2.2.2.2.2.2.2.1
theorem ms_g18 (H : MS M) : grM M 1003 18 = 1013 := H.2.1.2.2.2.2.2.2.2.2.2.1
theorem ms_g19 (H : MS M) : grM M 1003 19 = 1014 := H.2.1.2.2.2.2.2.2.2.2.2.2.1
theorem ms_g20 (H : MS M) : grM M 1003 20 = 1015 := H.2.1.2.2.2.2.2.2.2.2.2.2.2.1
theorem ms_g22 (H : MS M) : grM M 1003 22 = 1017 := H.2.1.2.2.2.2.2.2.2.2.2.2.2.2.1
theorem ms_g24 (H : MS M) : grM M 1003 24 = 1018 := H.2.1.2.2.2.2.2.2.2.2.2.2.2.2.2.1
theorem ms_g27 (H : MS M) : grM M 1003 27 = 1019 := H.2.1.2.2.2.2.2.2.2.2.2.2.2.2.2.2.1
theorem ms_g32 (H : MS M) : grM M 1003 32 = 1020 := H.2.1.2.2.2.2.2.2.2.2.2.2.2.2.2.2.2.1
theorem ms_g21 (H : MS M) : grM M 1003 21 = 1016 := H.2.1.2.2.2.2.2.2.2.2.2.2.2.2.2.2.2.2
theorem ms_a1 (H : MS M) : arS M 1004 240 := H.2.2.1.1
theorem ms_t1 (H : MS M) : tgM M 1004 = (100, 240) := ar_tg (ms_a1 H)
theorem ms_r1 (H : MS M) (hi : i < 240) : rdI M 1004 (nI i) = true := ar_rd (ms_a1 H) hi
theorem ms_w1 (H : MS M) (hi : i < 240) : wrI M 1004 (nI i) = true := ar_wr (ms_a1 H) hi
theorem ms_l1 (H : MS M) : lnI M 1004 = true := ar_ln (ms_a1 H)
theorem ms_a5 (H : MS M) : arS M 1005 5 := H.2.2.1.2.1
theorem ms_t5 (H : MS M) : tgM M 1005 = (100, 5) := ar_tg (ms_a5 H)
theorem ms_r5 (H : MS M) (hi : i < 5) : rdI M 1005 (nI i) = true := ar_rd (ms_a5 H) hi
theorem ms_w5 (H : MS M) (hi : i < 5) : wrI M 1005 (nI i) = true := ar_wr (ms_a5 H) hi
theorem ms_l5 (H : MS M) : lnI M 1005 = true := ar_ln (ms_a5 H)
theorem ms_a6 (H : MS M) : arS M 1006 6 := H.2.2.1.2.2.1
theorem ms_t6 (H : MS M) : tgM M 1006 = (100, 6) := ar_tg (ms_a6 H)
theorem ms_r6 (H : MS M) (hi : i < 6) : rdI M 1006 (nI i) = true := ar_rd (ms_a6 H) hi
theorem ms_w6 (H : MS M) (hi : i < 6) : wrI M 1006 (nI i) = true := ar_wr (ms_a6 H) hi
theorem ms_l6 (H : MS M) : lnI M 1006 = true := ar_ln (ms_a6 H)
theorem ms_a8 (H : MS M) : arS M 1007 5 := H.2.2.1.2.2.2.1
theorem ms_t8 (H : MS M) : tgM M 1007 = (100, 5) := ar_tg (ms_a8 H)
theorem ms_r8 (H : MS M) (hi : i < 5) : rdI M 1007 (nI i) = true := ar_rd (ms_a8 H) hi
theorem ms_w8 (H : MS M) (hi : i < 5) : wrI M 1007 (nI i) = true := ar_wr (ms_a8 H) hi
theorem ms_l8 (H : MS M) : lnI M 1007 = true := ar_ln (ms_a8 H)
theorem ms_a9 (H : MS M) : arS M 1008 6 := H.2.2.1.2.2.2.2.1
theorem ms_t9 (H : MS M) : tgM M 1008 = (100, 6) := ar_tg (ms_a9 H)
theorem ms_r9 (H : MS M) (hi : i < 6) : rdI M 1008 (nI i) = true := ar_rd (ms_a9 H) hi
theorem ms_w9 (H : MS M) (hi : i < 6) : wrI M 1008 (nI i) = true := ar_wr (ms_a9 H) hi
theorem ms_l9 (H : MS M) : lnI M 1008 = true := ar_ln (ms_a9 H)
theorem ms_a11 (H : MS M) : arS M 1009 360 := H.2.2.1.2.2.2.2.2.1
theorem ms_t11 (H : MS M) : tgM M 1009 = (100, 360) := ar_tg (ms_a11 H)
theorem ms_r11 (H : MS M) (hi : i < 360) : rdI M 1009 (nI i) = true := ar_rd (ms_a11 H) hi
theorem ms_w11 (H : MS M) (hi : i < 360) : wrI M 1009 (nI i) = true := ar_wr (ms_a11 H) hi
theorem ms_l11 (H : MS M) : lnI M 1009 = true := ar_ln (ms_a11 H)
theorem ms_a12 (H : MS M) : arS M 1010 5 := H.2.2.1.2.2.2.2.2.2.1
theorem ms_t12 (H : MS M) : tgM M 1010 = (100, 5) := ar_tg (ms_a12 H)
theorem ms_r12 (H : MS M) (hi : i < 5) : rdI M 1010 (nI i) = true := ar_rd (ms_a12 H) hi
theorem ms_w12 (H : MS M) (hi : i < 5) : wrI M 1010 (nI i) = true := ar_wr (ms_a12 H) hi
theorem ms_l12 (H : MS M) : lnI M 1010 = true := ar_ln (ms_a12 H)
theorem ms_a15 (H : MS M) : arS M 1011 3893 := H.2.2.1.2.2.2.2.2.2.2.1
theorem ms_t15 (H : MS M) : tgM M 1011 = (100, 3893) := ar_tg (ms_a15 H)
theorem ms_r15 (H : MS M) (hi : i < 3893) : rdI M 1011 (nI i) = true := ar_rd (ms_a15 H) hi
theorem ms_w15 (H : MS M) (hi : i < 3893) : wrI M 1011 (nI i) = true := ar_wr (ms_a15 H) hi
theorem ms_l15 (H : MS M) : lnI M 1011 = true := ar_ln (ms_a15 H)
theorem ms_a16 (H : MS M) : arS M 1012 4 := H.2.2.1.2.2.2.2.2.2.2.2.1
theorem ms_t16 (H : MS M) : tgM M 1012 = (100, 4) := ar_tg (ms_a16 H)
theorem ms_r16 (H : MS M) (hi : i < 4) : rdI M 1012 (nI i) = true := ar_rd (ms_a16 H) hi
theorem ms_w16 (H : MS M) (hi : i < 4) : wrI M 1012 (nI i) = true := ar_wr (ms_a16 H) hi
theorem ms_l16 (H : MS M) : lnI M 1012 = true := ar_ln (ms_a16 H)
theorem ms_a18 (H : MS M) : arS M 1013 48 := H.2.2.1.2.2.2.2.2.2.2.2.2.1
theorem ms_t18 (H : MS M) : tgM M 1013 = (100, 48) := ar_tg (ms_a18 H)
theorem ms_r18 (H : MS M) (hi : i < 48) : rdI M 1013 (nI i) = true := ar_rd (ms_a18 H) hi
theorem ms_w18 (H : MS M) (hi : i < 48) : wrI M 1013 (nI i) = true := ar_wr (ms_a18 H) hi
theorem ms_l18 (H : MS M) : lnI M 1013 = true := ar_ln (ms_a18 H)
theorem ms_a19 (H : MS M) : arS M 1014 48 := H.2.2.1.2.2.2.2.2.2.2.2.2.2.1
theorem ms_t19 (H : MS M) : tgM M 1014 = (100, 48) := ar_tg (ms_a19 H)
theorem ms_r19 (H : MS M) (hi : i < 48) : rdI M 1014 (nI i) = true := ar_rd (ms_a19 H) hi
theorem ms_w19 (H : MS M) (hi : i < 48) : wrI M 1014 (nI i) = true := ar_wr (ms_a19 H) hi
theorem ms_l19 (H : MS M) : lnI M 1014 = true := ar_ln (ms_a19 H)
theorem ms_a20 (H : MS M) : arS M 1015 48 := H.2.2.1.2.2.2.2.2.2.2.2.2.2.2.1
theorem ms_t20 (H : MS M) : tgM M 1015 = (100, 48) := ar_tg (ms_a20 H)
theorem ms_r20 (H : MS M) (hi : i < 48) : rdI M 1015 (nI i) = true := ar_rd (ms_a20 H) hi
theorem ms_w20 (H : MS M) (hi : i < 48) : wrI M 1015 (nI i) = true := ar_wr (ms_a20 H) hi
theorem ms_l20 (H : MS M) : lnI M 1015 = true := ar_ln (ms_a20 H)
theorem ms_a22 (H : MS M) : arS M 1017 2 := H.2.2.1.2.2.2.2.2.2.2.2.2.2.2.2.1
theorem ms_t22 (H : MS M) : tgM M 1017 = (100, 2) := ar_tg (ms_a22 H)
theorem ms_r22 (H : MS M) (hi : i < 2) : rdI M 1017 (nI i) = true := ar_rd (ms_a22 H) hi
theorem ms_w22 (H : MS M) (hi : i < 2) : wrI M 1017 (nI i) = true := ar_wr (ms_a22 H) hi
theorem ms_l22 (H : MS M) : lnI M 1017 = true := ar_ln (ms_a22 H)
theorem ms_a24 (H : MS M) : arS M 1018 155720 := H.2.2.1.2.2.2.2.2.2.2.2.2.2.2.2.2.1
theorem ms_t24 (H : MS M) : tgM M 1018 = (100, 155720) := ar_tg (ms_a24 H)
theorem ms_r24 (H : MS M) (hi : i < 155720) : rdI M 1018 (nI i) = true := ar_rd (ms_a24 H) hi
theorem ms_w24 (H : MS M) (hi : i < 155720) : wrI M 1018 (nI i) = true := ar_wr (ms_a24 H) hi
theorem ms_l24 (H : MS M) : lnI M 1018 = true := ar_ln (ms_a24 H)
theorem ms_a27 (H : MS M) : arS M 1019 48256 := H.2.2.1.2.2.2.2.2.2.2.2.2.2.2.2.2.2.1
theorem ms_t27 (H : MS M) : tgM M 1019 = (100, 48256) := ar_tg (ms_a27 H)
theorem ms_r27 (H : MS M) (hi : i < 48256) : rdI M 1019 (nI i) = true := ar_rd (ms_a27 H) hi
theorem ms_w27 (H : MS M) (hi : i < 48256) : wrI M 1019 (nI i) = true := ar_wr (ms_a27 H) hi
theorem ms_l27 (H : MS M) : lnI M 1019 = true := ar_ln (ms_a27 H)
theorem ms_a32 (H : MS M) : arS M 1020 3893 := H.2.2.1.2.2.2.2.2.2.2.2.2.2.2.2.2.2.2
theorem ms_t32 (H : MS M) : tgM M 1020 = (100, 3893) := ar_tg (ms_a32 H)
theorem ms_r32 (H : MS M) (hi : i < 3893) : rdI M 1020 (nI i) = true := ar_rd (ms_a32 H) hi
theorem ms_w32 (H : MS M) (hi : i < 3893) : wrI M 1020 (nI i) = true := ar_wr (ms_a32 H) hi
theorem ms_l32 (H : MS M) : lnI M 1020 = true := ar_ln (ms_a32 H)
theorem ms_b (H : MS M) (hi : i < 48) : wrT 101 M 1016 (nI i) = true := by
  unfold wrT
  rw [H.2.2.2.1, H.2.2.2.2]
  show (true && decide (101 = 101) && inM (Int32.ofNat i) 48) = true
  rw [inM_nat (by omega), decide_eq_true hi]
  rfl
end MS
def Rw (N : Nat → Int32) (r : Nat) (xs : List Nat) : Prop := N r = nI xs.length ∧ ∀ i (h : i < xs.length), N (r + 1 + i) = nI (xs[i]'h)
theorem Rw_congr {N N' : Nat → Int32} {r : Nat} {xs : List Nat} (h : Rw N r xs) (e : ∀ i, r ≤ i → i ≤ r + xs.length → N' i = N i) : Rw N' r xs :=
  ⟨(e r (Nat.le_refl _) (by omega)).trans h.1, fun i hi => (e (r + 1 + i) (by omega) (by omega)).trans (h.2 i hi)⟩
def shf (r k : Nat) (v : Int32) (N : Nat → Int32) : Nat → Int32 := fun i => if i = r then N r + nI 1 else if i = r + 1 then v else if r + 1 < i ∧ i ≤ r + k + 1 then N (i - 1) else N i
theorem af_loop {r : Nat} {v : Int32} : ∀ (k f : Nat) (M : Mem), MS M → r + k + 1 < 3893 → k < f → LM_addFirst_7 f 1003 (nI r) v (nI k) M = some (saM M 1011 (shf r k v (giM M 1011))) := by
  intro k
  induction k with
  | zero =>
    intro f M H hr hf
    obtain ⟨g, rfl⟩ : ∃ g, f = g + 1 := ⟨f - 1, by omega⟩
    show BM_addFirst_7 (LM_addFirst_7 g) 1003 (nI r) v (nI 0) M = _
    simp (disch := omega) only [BM_addFirst_7, gd1, bs1, ↓reduceIte, d_nz, d_nn, or_true, true_or, or_false, false_or, decide_true, Sum.elim_inl, Sum.elim_inr, ↓l_m1, l_0, l_1, l_2, l_3, l_4, l_5, l_6, l_7, l_8, l_9, l_10, l_16, l_17, l_18, l_20, l_23, l_24, l_30, l_31, l_32, l_39, l_40, l_41, l_48, l_57, l_58, l_59, l_60, l_63, l_90, l_97, l_98, l_99, l_100, l_102, l_103, l_104, l_107, l_109, l_112, l_115, l_116, l_117, l_120, l_122, l_126, l_166, l_180, l_240, l_255, l_640, l_999, l_2656, l_3064, l_3704, l_3708, l_3712, l_3713, l_3893, l_155720, l_1000000, n_ltT, n_ltF, n_leT, n_leF, n_eqT, n_eqF, n_eqm, n_eqm', n_mltn, n_mlen, n_nltm, n_nlem, n_mltm, n_mlem, n_add, n_mul, n_sub, n_subm, n_cl, n_ofNat, n_div, n_mod, obM_si, rdI_si, wrI_si, lnI_si, grM_si', tgM_si', obM_sa, rdI_sa, wrI_sa, lnI_sa, grM_sa', tgM_sa', ms_ob H, ms_g1 H, ms_g5 H, ms_g6 H, ms_g8 H, ms_g9 H, ms_g11 H, ms_g12 H, ms_g15 H, ms_g16 H, ms_g18 H, ms_g19 H, ms_g20 H, ms_g22 H, ms_g24 H, ms_g27 H, ms_g32 H, ms_g21 H, ms_t1 H, ms_r1 H, ms_w1 H, ms_l1 H, ms_t5 H, ms_r5 H, ms_w5 H, ms_l5 H, ms_t6 H, ms_r6 H, ms_w6 H, ms_l6 H, ms_t8 H, ms_r8 H, ms_w8 H, ms_l8 H, ms_t9 H, ms_r9 H, ms_w9 H, ms_l9 H, ms_t11 H, ms_r11 H, ms_w11 H, ms_l11 H, ms_t12 H, ms_r12 H, ms_w12 H, ms_l12 H, ms_t15 H, ms_r15 H, ms_w15 H, ms_l15 H, ms_t16 H, ms_r16 H, ms_w16 H, ms_l16 H, ms_t18 H, ms_r18 H, ms_w18 H, ms_l18 H, ms_t19 H, ms_r19 H, ms_w19 H, ms_l19 H, ms_t20 H, ms_r20 H, ms_w20 H, ms_l20 H, ms_t22 H, ms_r22 H, ms_w22 H, ms_l22 H, ms_t24 H, ms_r24 H, ms_w24 H, ms_l24 H, ms_t27 H, ms_r27 H, ms_w27 H, ms_l27 H, ms_t32 H, ms_r32 H, ms_w32 H, ms_l32 H, ms_b H]
    rw [si_sa, si_sa, sa_sa, gi_sas]
    congr 2
    funext i
    unfold ud shf
    by_cases h1 : i = r + 1
    · rw [if_pos h1, if_neg (by omega), if_pos h1]
    · rw [if_neg h1]
      by_cases h2 : i = r
      · rw [if_pos h2, if_pos h2]
      · rw [if_neg h2, if_neg h2, if_neg h1, if_neg (by omega)]
  | succ k ih =>
    intro f M H hr hf
    obtain ⟨g, rfl⟩ : ∃ g, f = g + 1 := ⟨f - 1, by omega⟩
    have e := ih g (siM M 1011 (r + (k + 1) + 1) (giM M 1011 (r + (k + 1)))) (MS_2 rfl H) (by omega) (by omega)
    have em : nI (k + 1) + mI = nI k := n_subm (Nat.succ_pos _)
    show BM_addFirst_7 (LM_addFirst_7 g) 1003 (nI r) v (nI (k + 1)) M = _
    simp (disch := omega) only [BM_addFirst_7, gd1, bs1, ↓reduceIte, d_nz, d_nn, or_true, true_or, or_false, false_or, decide_true, Sum.elim_inl, Sum.elim_inr, ↓l_m1, l_0, l_1, l_2, l_3, l_4, l_5, l_6, l_7, l_8, l_9, l_10, l_16, l_17, l_18, l_20, l_23, l_24, l_30, l_31, l_32, l_39, l_40, l_41, l_48, l_57, l_58, l_59, l_60, l_63, l_90, l_97, l_98, l_99, l_100, l_102, l_103, l_104, l_107, l_109, l_112, l_115, l_116, l_117, l_120, l_122, l_126, l_166, l_180, l_240, l_255, l_640, l_999, l_2656, l_3064, l_3704, l_3708, l_3712, l_3713, l_3893, l_155720, l_1000000, em, n_ltT, n_ltF, n_leT, n_leF, n_eqT, n_eqF, n_eqm, n_eqm', n_mltn, n_mlen, n_nltm, n_nlem, n_mltm, n_mlem, n_add, n_mul, n_sub, n_subm, n_cl, n_ofNat, n_div, n_mod, obM_si, rdI_si, wrI_si, lnI_si, grM_si', tgM_si', obM_sa, rdI_sa, wrI_sa, lnI_sa, grM_sa', tgM_sa', ms_ob H, ms_g1 H, ms_g5 H, ms_g6 H, ms_g8 H, ms_g9 H, ms_g11 H, ms_g12 H, ms_g15 H, ms_g16 H, ms_g18 H, ms_g19 H, ms_g20 H, ms_g22 H, ms_g24 H, ms_g27 H, ms_g32 H, ms_g21 H, ms_t1 H, ms_r1 H, ms_w1 H, ms_l1 H, ms_t5 H, ms_r5 H, ms_w5 H, ms_l5 H, ms_t6 H, ms_r6 H, ms_w6 H, ms_l6 H, ms_t8 H, ms_r8 H, ms_w8 H, ms_l8 H, ms_t9 H, ms_r9 H, ms_w9 H, ms_l9 H, ms_t11 H, ms_r11 H, ms_w11 H, ms_l11 H, ms_t12 H, ms_r12 H, ms_w12 H, ms_l12 H, ms_t15 H, ms_r15 H, ms_w15 H, ms_l15 H, ms_t16 H, ms_r16 H, ms_w16 H, ms_l16 H, ms_t18 H, ms_r18 H, ms_w18 H, ms_l18 H, ms_t19 H, ms_r19 H, ms_w19 H, ms_l19 H, ms_t20 H, ms_r20 H, ms_w20 H, ms_l20 H, ms_t22 H, ms_r22 H, ms_w22 H, ms_l22 H, ms_t24 H, ms_r24 H, ms_w24 H, ms_l24 H, ms_t27 H, ms_r27 H, ms_w27 H, ms_l27 H, ms_t32 H, ms_r32 H, ms_w32 H, ms_l32 H, ms_b H, e]
    rw [saM_si, giM_ud]
    congr 2
    funext i
    unfold shf
    by_cases h2 : i = r
    · rw [if_pos h2, if_pos h2, ud_n _ _ (by omega)]
    · rw [if_neg h2, if_neg h2]
      by_cases h1 : i = r + 1
      · rw [if_pos h1, if_pos h1]
      · rw [if_neg h1, if_neg h1]
        by_cases h3 : r + 1 < i ∧ i ≤ r + k + 1
        · rw [if_pos h3, if_pos (by omega), ud_n _ _ (by omega)]
        · rw [if_neg h3]
          by_cases h4 : i = r + (k + 1) + 1
          · rw [if_pos (by omega), h4, ud_s]
            congr 1
          · rw [if_neg (by omega), ud_n _ _ h4]
section RW
variable {M : Mem} {r v : Nat} {xs : List Nat}
theorem addFirst_ok (H : MS M) (R : Rw (giM M 1011) r xs) (hr : r + xs.length + 1 < 3893) : ∃ N', fM_addFirst 1003 (nI r) (nI v) M = some (saM M 1011 N') ∧ Rw N' r (v :: xs) ∧ ∀ i, i < r ∨ r + xs.length + 1 < i → N' i = giM M 1011 i := by
  have e := af_loop (r := r) (v := nI v) xs.length 1000000 M H hr (by omega)
  have h0 := R.1
  refine ⟨shf r xs.length (nI v) (giM M 1011), ?_, ⟨?_, ?_⟩, ?_⟩
  · simp (disch := omega) only [fM_addFirst, gd1, bs1, ↓reduceIte, d_nz, d_nn, or_true, true_or, or_false, false_or, decide_true, Sum.elim_inl, Sum.elim_inr, ↓l_m1, l_0, l_1, l_2, l_3, l_4, l_5, l_6, l_7, l_8, l_9, l_10, l_16, l_17, l_18, l_20, l_23, l_24, l_30, l_31, l_32, l_39, l_40, l_41, l_48, l_57, l_58, l_59, l_60, l_63, l_90, l_97, l_98, l_99, l_100, l_102, l_103, l_104, l_107, l_109, l_112, l_115, l_116, l_117, l_120, l_122, l_126, l_166, l_180, l_240, l_255, l_640, l_999, l_2656, l_3064, l_3704, l_3708, l_3712, l_3713, l_3893, l_155720, l_1000000, n_ltT, n_ltF, n_leT, n_leF, n_eqT, n_eqF, n_eqm, n_eqm', n_mltn, n_mlen, n_nltm, n_nlem, n_mltm, n_mlem, n_add, n_mul, n_sub, n_subm, n_cl, n_ofNat, n_div, n_mod, obM_si, rdI_si, wrI_si, lnI_si, grM_si', tgM_si', obM_sa, rdI_sa, wrI_sa, lnI_sa, grM_sa', tgM_sa', ms_ob H, ms_g1 H, ms_g5 H, ms_g6 H, ms_g8 H, ms_g9 H, ms_g11 H, ms_g12 H, ms_g15 H, ms_g16 H, ms_g18 H, ms_g19 H, ms_g20 H, ms_g22 H, ms_g24 H, ms_g27 H, ms_g32 H, ms_g21 H, ms_t1 H, ms_r1 H, ms_w1 H, ms_l1 H, ms_t5 H, ms_r5 H, ms_w5 H, ms_l5 H, ms_t6 H, ms_r6 H, ms_w6 H, ms_l6 H, ms_t8 H, ms_r8 H, ms_w8 H, ms_l8 H, ms_t9 H, ms_r9 H, ms_w9 H, ms_l9 H, ms_t11 H, ms_r11 H, ms_w11 H, ms_l11 H, ms_t12 H, ms_r12 H, ms_w12 H, ms_l12 H, ms_t15 H, ms_r15 H, ms_w15 H, ms_l15 H, ms_t16 H, ms_r16 H, ms_w16 H, ms_l16 H, ms_t18 H, ms_r18 H, ms_w18 H, ms_l18 H, ms_t19 H, ms_r19 H, ms_w19 H, ms_l19 H, ms_t20 H, ms_r20 H, ms_w20 H, ms_l20 H, ms_t22 H, ms_r22 H, ms_w22 H, ms_l22 H, ms_t24 H, ms_r24 H, ms_w24 H, ms_l24 H, ms_t27 H, ms_r27 H, ms_w27 H, ms_l27 H, ms_t32 H, ms_r32 H, ms_w32 H, ms_l32 H, ms_b H, h0, e]
  · unfold shf
    rw [if_pos rfl, h0, n_add, List.length_cons]
  · intro i hi
    unfold shf
    rw [if_neg (by omega)]
    cases i with
    | zero => rw [if_pos rfl, List.getElem_cons_zero]
    | succ i =>
      rw [List.length_cons] at hi
      rw [if_neg (by omega), if_pos (by omega), List.getElem_cons_succ]
      exact R.2 i (by omega)
  · intro i hi
    unfold shf
    rw [if_neg (by omega), if_neg (by omega), if_neg (by omega)]
def ush (r k n : Nat) (N : Nat → Int32) : Nat → Int32 := fun i => if i = r then N r - nI 1 else if r + k ≤ i ∧ i < r + n then N (i + 1) else N i
theorem tf_loop {n : Nat} {v : Int32} : ∀ (d k f : Nat) (M : Mem), MS M → giM M 1011 r = nI n → k + d = n → 1 ≤ k → r + n < 3893 → d < f → LM_takeFirst_11 f 1003 (nI r) v (nI k) M = some (v, saM M 1011 (ush r k n (giM M 1011))) := by
  intro d
  induction d with
  | zero =>
    intro k f M H hn hk h1 hr hf
    obtain ⟨g, rfl⟩ : ∃ g, f = g + 1 := ⟨f - 1, by omega⟩
    show BM_takeFirst_11 (LM_takeFirst_11 g) 1003 (nI r) v (nI k) M = _
    simp (disch := omega) only [BM_takeFirst_11, gd1, bs1, ↓reduceIte, d_nz, d_nn, or_true, true_or, or_false, false_or, decide_true, Sum.elim_inl, Sum.elim_inr, ↓l_m1, l_0, l_1, l_2, l_3, l_4, l_5, l_6, l_7, l_8, l_9, l_10, l_16, l_17, l_18, l_20, l_23, l_24, l_30, l_31, l_32, l_39, l_40, l_41, l_48, l_57, l_58, l_59, l_60, l_63, l_90, l_97, l_98, l_99, l_100, l_102, l_103, l_104, l_107, l_109, l_112, l_115, l_116, l_117, l_120, l_122, l_126, l_166, l_180, l_240, l_255, l_640, l_999, l_2656, l_3064, l_3704, l_3708, l_3712, l_3713, l_3893, l_155720, l_1000000, n_leT, n_cl, obM_si, rdI_si, wrI_si, lnI_si, grM_si', tgM_si', obM_sa, rdI_sa, wrI_sa, lnI_sa, grM_sa', tgM_sa', ms_ob H, ms_g1 H, ms_g5 H, ms_g6 H, ms_g8 H, ms_g9 H, ms_g11 H, ms_g12 H, ms_g15 H, ms_g16 H, ms_g18 H, ms_g19 H, ms_g20 H, ms_g22 H, ms_g24 H, ms_g27 H, ms_g32 H, ms_g21 H, ms_t1 H, ms_r1 H, ms_w1 H, ms_l1 H, ms_t5 H, ms_r5 H, ms_w5 H, ms_l5 H, ms_t6 H, ms_r6 H, ms_w6 H, ms_l6 H, ms_t8 H, ms_r8 H, ms_w8 H, ms_l8 H, ms_t9 H, ms_r9 H, ms_w9 H, ms_l9 H, ms_t11 H, ms_r11 H, ms_w11 H, ms_l11 H, ms_t12 H, ms_r12 H, ms_w12 H, ms_l12 H, ms_t15 H, ms_r15 H, ms_w15 H, ms_l15 H, ms_t16 H, ms_r16 H, ms_w16 H, ms_l16 H, ms_t18 H, ms_r18 H, ms_w18 H, ms_l18 H, ms_t19 H, ms_r19 H, ms_w19 H, ms_l19 H, ms_t20 H, ms_r20 H, ms_w20 H, ms_l20 H, ms_t22 H, ms_r22 H, ms_w22 H, ms_l22 H, ms_t24 H, ms_r24 H, ms_w24 H, ms_l24 H, ms_t27 H, ms_r27 H, ms_w27 H, ms_l27 H, ms_t32 H, ms_r32 H, ms_w32 H, ms_l32 H, ms_b H, hn]
    rw [si_sa]
    congr 3
    funext i
    unfold ud ush
    by_cases h2 : i = r
    · rw [if_pos h2, if_pos h2, hn]
    · rw [if_neg h2, if_neg h2, if_neg (by omega)]
  | succ d ih =>
    intro k f M H hn hk h1 hr hf
    obtain ⟨g, rfl⟩ : ∃ g, f = g + 1 := ⟨f - 1, by omega⟩
    have e := ih (k + 1) g (siM M 1011 (r + k) (giM M 1011 (r + k + 1))) (MS_2 rfl H) (by rw [giM_ud, ud_n _ _ (by omega)]; exact hn) (by omega) (by omega) hr (by omega)
    show BM_takeFirst_11 (LM_takeFirst_11 g) 1003 (nI r) v (nI k) M = _
    simp (disch := omega) only [BM_takeFirst_11, gd1, bs1, ↓reduceIte, d_nz, d_nn, or_true, true_or, or_false, false_or, decide_true, Sum.elim_inl, Sum.elim_inr, ↓l_m1, l_0, l_1, l_2, l_3, l_4, l_5, l_6, l_7, l_8, l_9, l_10, l_16, l_17, l_18, l_20, l_23, l_24, l_30, l_31, l_32, l_39, l_40, l_41, l_48, l_57, l_58, l_59, l_60, l_63, l_90, l_97, l_98, l_99, l_100, l_102, l_103, l_104, l_107, l_109, l_112, l_115, l_116, l_117, l_120, l_122, l_126, l_166, l_180, l_240, l_255, l_640, l_999, l_2656, l_3064, l_3704, l_3708, l_3712, l_3713, l_3893, l_155720, l_1000000, n_ltT, n_ltF, n_leT, n_leF, n_eqT, n_eqF, n_eqm, n_eqm', n_mltn, n_mlen, n_nltm, n_nlem, n_mltm, n_mlem, n_add, n_mul, n_sub, n_subm, n_cl, n_ofNat, n_div, n_mod, obM_si, rdI_si, wrI_si, lnI_si, grM_si', tgM_si', obM_sa, rdI_sa, wrI_sa, lnI_sa, grM_sa', tgM_sa', ms_ob H, ms_g1 H, ms_g5 H, ms_g6 H, ms_g8 H, ms_g9 H, ms_g11 H, ms_g12 H, ms_g15 H, ms_g16 H, ms_g18 H, ms_g19 H, ms_g20 H, ms_g22 H, ms_g24 H, ms_g27 H, ms_g32 H, ms_g21 H, ms_t1 H, ms_r1 H, ms_w1 H, ms_l1 H, ms_t5 H, ms_r5 H, ms_w5 H, ms_l5 H, ms_t6 H, ms_r6 H, ms_w6 H, ms_l6 H, ms_t8 H, ms_r8 H, ms_w8 H, ms_l8 H, ms_t9 H, ms_r9 H, ms_w9 H, ms_l9 H, ms_t11 H, ms_r11 H, ms_w11 H, ms_l11 H, ms_t12 H, ms_r12 H, ms_w12 H, ms_l12 H, ms_t15 H, ms_r15 H, ms_w15 H, ms_l15 H, ms_t16 H, ms_r16 H, ms_w16 H, ms_l16 H, ms_t18 H, ms_r18 H, ms_w18 H, ms_l18 H, ms_t19 H, ms_r19 H, ms_w19 H, ms_l19 H, ms_t20 H, ms_r20 H, ms_w20 H, ms_l20 H, ms_t22 H, ms_r22 H, ms_w22 H, ms_l22 H, ms_t24 H, ms_r24 H, ms_w24 H, ms_l24 H, ms_t27 H, ms_r27 H, ms_w27 H, ms_l27 H, ms_t32 H, ms_r32 H, ms_w32 H, ms_l32 H, ms_b H, hn, e]
    rw [saM_si, giM_ud]
    congr 3
    funext i
    unfold ush
    by_cases h2 : i = r
    · rw [if_pos h2, if_pos h2, ud_n _ _ (by omega)]
    · rw [if_neg h2, if_neg h2]
      by_cases h3 : r + (k + 1) ≤ i ∧ i < r + n
      · rw [if_pos h3, if_pos (by omega), ud_n _ _ (by omega)]
      · rw [if_neg h3]
        by_cases h4 : i = r + k
        · rw [if_pos (by omega), h4, ud_s]
        · rw [if_neg (by omega), ud_n _ _ h4]
theorem takeFirst_ok (H : MS M) (R : Rw (giM M 1011) r (v :: xs)) (hr : r + xs.length + 1 < 3893) : ∃ N', fM_takeFirst 1003 (nI r) M = some (nI v, saM M 1011 N') ∧ Rw N' r xs ∧ ∀ i, i < r ∨ r + xs.length + 1 < i → N' i = giM M 1011 i := by
  have h0 := R.1
  have h1 := R.2 0 (by simp)
  rw [List.getElem_cons_zero, Nat.add_zero] at h1
  rw [List.length_cons] at h0
  have e := tf_loop (r := r) (n := xs.length + 1) (v := nI v) xs.length 1 1000000 M H h0 (by omega) (by omega) (by omega) (by omega)
  refine ⟨ush r 1 (xs.length + 1) (giM M 1011), ?_, ⟨?_, ?_⟩, ?_⟩
  · simp (disch := omega) only [fM_takeFirst, gd1, bs1, ↓reduceIte, d_nz, d_nn, or_true, true_or, or_false, false_or, decide_true, Sum.elim_inl, Sum.elim_inr, ↓l_m1, l_0, l_1, l_2, l_3, l_4, l_5, l_6, l_7, l_8, l_9, l_10, l_16, l_17, l_18, l_20, l_23, l_24, l_30, l_31, l_32, l_39, l_40, l_41, l_48, l_57, l_58, l_59, l_60, l_63, l_90, l_97, l_98, l_99, l_100, l_102, l_103, l_104, l_107, l_109, l_112, l_115, l_116, l_117, l_120, l_122, l_126, l_166, l_180, l_240, l_255, l_640, l_999, l_2656, l_3064, l_3704, l_3708, l_3712, l_3713, l_3893, l_155720, l_1000000, n_ltT, n_ltF, n_leT, n_leF, n_eqT, n_eqF, n_eqm, n_eqm', n_mltn, n_mlen, n_nltm, n_nlem, n_mltm, n_mlem, n_add, n_mul, n_sub, n_subm, n_cl, n_ofNat, n_div, n_mod, obM_si, rdI_si, wrI_si, lnI_si, grM_si', tgM_si', obM_sa, rdI_sa, wrI_sa, lnI_sa, grM_sa', tgM_sa', ms_ob H, ms_g1 H, ms_g5 H, ms_g6 H, ms_g8 H, ms_g9 H, ms_g11 H, ms_g12 H, ms_g15 H, ms_g16 H, ms_g18 H, ms_g19 H, ms_g20 H, ms_g22 H, ms_g24 H, ms_g27 H, ms_g32 H, ms_g21 H, ms_t1 H, ms_r1 H, ms_w1 H, ms_l1 H, ms_t5 H, ms_r5 H, ms_w5 H, ms_l5 H, ms_t6 H, ms_r6 H, ms_w6 H, ms_l6 H, ms_t8 H, ms_r8 H, ms_w8 H, ms_l8 H, ms_t9 H, ms_r9 H, ms_w9 H, ms_l9 H, ms_t11 H, ms_r11 H, ms_w11 H, ms_l11 H, ms_t12 H, ms_r12 H, ms_w12 H, ms_l12 H, ms_t15 H, ms_r15 H, ms_w15 H, ms_l15 H, ms_t16 H, ms_r16 H, ms_w16 H, ms_l16 H, ms_t18 H, ms_r18 H, ms_w18 H, ms_l18 H, ms_t19 H, ms_r19 H, ms_w19 H, ms_l19 H, ms_t20 H, ms_r20 H, ms_w20 H, ms_l20 H, ms_t22 H, ms_r22 H, ms_w22 H, ms_l22 H, ms_t24 H, ms_r24 H, ms_w24 H, ms_l24 H, ms_t27 H, ms_r27 H, ms_w27 H, ms_l27 H, ms_t32 H, ms_r32 H, ms_w32 H, ms_l32 H, ms_b H, h1, e]
  · unfold ush
    rw [if_pos rfl, h0, n_sub (by omega)]
    rfl
  · intro i hi
    have h2 := R.2 (i + 1) (by rw [List.length_cons]; omega)
    rw [List.getElem_cons_succ] at h2
    unfold ush
    rw [if_neg (by omega), if_pos (by omega)]
    exact h2
  · intro i hi
    unfold ush
    rw [if_neg (by omega), if_neg (by omega)]
theorem addLast_ok (H : MS M) (R : Rw (giM M 1011) r xs) (hr : r + xs.length + 1 < 3893) : ∃ N', fM_addLast 1003 (nI r) (nI v) M = some (saM M 1011 N') ∧ Rw N' r (xs ++ [v]) ∧ ∀ i, i < r ∨ r + xs.length + 1 < i → N' i = giM M 1011 i := by
  have h0 := R.1
  refine ⟨ud (ud (giM M 1011) r (nI (xs.length + 1))) (r + (xs.length + 1)) (nI v), ?_, ⟨?_, ?_⟩, ?_⟩
  · simp (disch := omega) only [fM_addLast, gd1, bs1, ↓reduceIte, d_nz, d_nn, or_true, true_or, or_false, false_or, decide_true, Sum.elim_inl, Sum.elim_inr, ↓l_m1, l_0, l_1, l_2, l_3, l_4, l_5, l_6, l_7, l_8, l_9, l_10, l_16, l_17, l_18, l_20, l_23, l_24, l_30, l_31, l_32, l_39, l_40, l_41, l_48, l_57, l_58, l_59, l_60, l_63, l_90, l_97, l_98, l_99, l_100, l_102, l_103, l_104, l_107, l_109, l_112, l_115, l_116, l_117, l_120, l_122, l_126, l_166, l_180, l_240, l_255, l_640, l_999, l_2656, l_3064, l_3704, l_3708, l_3712, l_3713, l_3893, l_155720, l_1000000, n_ltT, n_ltF, n_leT, n_leF, n_eqT, n_eqF, n_eqm, n_eqm', n_mltn, n_mlen, n_nltm, n_nlem, n_mltm, n_mlem, n_add, n_mul, n_sub, n_subm, n_cl, n_ofNat, n_div, n_mod, obM_si, rdI_si, wrI_si, lnI_si, grM_si', tgM_si', obM_sa, rdI_sa, wrI_sa, lnI_sa, grM_sa', tgM_sa', ms_ob H, ms_g1 H, ms_g5 H, ms_g6 H, ms_g8 H, ms_g9 H, ms_g11 H, ms_g12 H, ms_g15 H, ms_g16 H, ms_g18 H, ms_g19 H, ms_g20 H, ms_g22 H, ms_g24 H, ms_g27 H, ms_g32 H, ms_g21 H, ms_t1 H, ms_r1 H, ms_w1 H, ms_l1 H, ms_t5 H, ms_r5 H, ms_w5 H, ms_l5 H, ms_t6 H, ms_r6 H, ms_w6 H, ms_l6 H, ms_t8 H, ms_r8 H, ms_w8 H, ms_l8 H, ms_t9 H, ms_r9 H, ms_w9 H, ms_l9 H, ms_t11 H, ms_r11 H, ms_w11 H, ms_l11 H, ms_t12 H, ms_r12 H, ms_w12 H, ms_l12 H, ms_t15 H, ms_r15 H, ms_w15 H, ms_l15 H, ms_t16 H, ms_r16 H, ms_w16 H, ms_l16 H, ms_t18 H, ms_r18 H, ms_w18 H, ms_l18 H, ms_t19 H, ms_r19 H, ms_w19 H, ms_l19 H, ms_t20 H, ms_r20 H, ms_w20 H, ms_l20 H, ms_t22 H, ms_r22 H, ms_w22 H, ms_l22 H, ms_t24 H, ms_r24 H, ms_w24 H, ms_l24 H, ms_t27 H, ms_r27 H, ms_w27 H, ms_l27 H, ms_t32 H, ms_r32 H, ms_w32 H, ms_l32 H, ms_b H, h0, giM_ud, ud_s]
    rw [si_sa, si_sa, sa_sa, gi_sas]
  · rw [ud_n _ _ (by omega), ud_s, List.length_append]
    rfl
  · intro i hi
    rw [List.length_append, List.length_singleton] at hi
    by_cases h1 : i = xs.length
    · subst h1
      rw [ud_e (by omega)]
      congr 1
      simp
    · rw [ud_n _ _ (by omega), ud_n _ _ (by omega), R.2 i (by omega), List.getElem_append_left]
  · intro i hi
    rw [ud_n _ _ (by omega), ud_n _ _ (by omega)]
theorem to_loop {n : Nat} (hv : v < 2147483648) : ∀ (ys : List Nat) (f m k : Nat) (M : Mem), MS M → giM M 1011 r = nI n → k + ys.length = n + 1 → m < k → r + n < 3893 → (∀ y ∈ ys, y < 2147483648) → (∀ i (h : i < ys.length), giM M 1011 (r + k + i) = nI (ys[i]'h)) → ys.length < f → ∃ N', LM_takeOut_5 f 1003 (nI r) (nI v) (nI m) (nI k) M = some (saM M 1011 N') ∧ N' r = nI (m + (ys.filter (· ≠ v)).length) ∧ (∀ i, i < m → N' (r + 1 + i) = giM M 1011 (r + 1 + i)) ∧ (∀ i (h : i < (ys.filter (· ≠ v)).length), N' (r + 1 + m + i) = nI ((ys.filter (· ≠ v))[i]'h)) ∧ ∀ i, i < r ∨ r + n < i → N' i = giM M 1011 i := by
  intro ys
  induction ys with
  | nil =>
    intro f m k M H hn hk hm hr _ hy hf
    obtain ⟨g, rfl⟩ : ∃ g, f = g + 1 := ⟨f - 1, by omega⟩
    rw [List.length_nil] at hk
    refine ⟨ud (giM M 1011) r (nI m), ?_, ?_, ?_, ?_, ?_⟩
    · show BM_takeOut_5 (LM_takeOut_5 g) 1003 (nI r) (nI v) (nI m) (nI k) M = _
      simp (disch := omega) only [BM_takeOut_5, gd1, bs1, ↓reduceIte, d_nz, d_nn, or_true, true_or, or_false, false_or, decide_true, Sum.elim_inl, Sum.elim_inr, ↓l_m1, l_0, l_1, l_2, l_3, l_4, l_5, l_6, l_7, l_8, l_9, l_10, l_16, l_17, l_18, l_20, l_23, l_24, l_30, l_31, l_32, l_39, l_40, l_41, l_48, l_57, l_58, l_59, l_60, l_63, l_90, l_97, l_98, l_99, l_100, l_102, l_103, l_104, l_107, l_109, l_112, l_115, l_116, l_117, l_120, l_122, l_126, l_166, l_180, l_240, l_255, l_640, l_999, l_2656, l_3064, l_3704, l_3708, l_3712, l_3713, l_3893, l_155720, l_1000000, n_ltT, n_ltF, n_leT, n_leF, n_eqT, n_eqF, n_eqm, n_eqm', n_mltn, n_mlen, n_nltm, n_nlem, n_mltm, n_mlem, n_add, n_mul, n_sub, n_subm, n_cl, n_ofNat, n_div, n_mod, obM_si, rdI_si, wrI_si, lnI_si, grM_si', tgM_si', obM_sa, rdI_sa, wrI_sa, lnI_sa, grM_sa', tgM_sa', ms_ob H, ms_g1 H, ms_g5 H, ms_g6 H, ms_g8 H, ms_g9 H, ms_g11 H, ms_g12 H, ms_g15 H, ms_g16 H, ms_g18 H, ms_g19 H, ms_g20 H, ms_g22 H, ms_g24 H, ms_g27 H, ms_g32 H, ms_g21 H, ms_t1 H, ms_r1 H, ms_w1 H, ms_l1 H, ms_t5 H, ms_r5 H, ms_w5 H, ms_l5 H, ms_t6 H, ms_r6 H, ms_w6 H, ms_l6 H, ms_t8 H, ms_r8 H, ms_w8 H, ms_l8 H, ms_t9 H, ms_r9 H, ms_w9 H, ms_l9 H, ms_t11 H, ms_r11 H, ms_w11 H, ms_l11 H, ms_t12 H, ms_r12 H, ms_w12 H, ms_l12 H, ms_t15 H, ms_r15 H, ms_w15 H, ms_l15 H, ms_t16 H, ms_r16 H, ms_w16 H, ms_l16 H, ms_t18 H, ms_r18 H, ms_w18 H, ms_l18 H, ms_t19 H, ms_r19 H, ms_w19 H, ms_l19 H, ms_t20 H, ms_r20 H, ms_w20 H, ms_l20 H, ms_t22 H, ms_r22 H, ms_w22 H, ms_l22 H, ms_t24 H, ms_r24 H, ms_w24 H, ms_l24 H, ms_t27 H, ms_r27 H, ms_w27 H, ms_l27 H, ms_t32 H, ms_r32 H, ms_w32 H, ms_l32 H, ms_b H, hn]
      rw [si_sa]
    · rw [ud_s]
      simp
    · intro i hi
      rw [ud_n _ _ (by omega)]
    · intro i hi
      exact absurd hi (by simp)
    · intro i hi
      rw [ud_n _ _ (by omega)]
  | cons y ys ih =>
    intro f m k M H hn hk hm hr hlt hy hf
    obtain ⟨g, rfl⟩ : ∃ g, f = g + 1 := ⟨f - 1, by omega⟩
    rw [List.length_cons] at hk hf
    have h0 := hy 0 (by simp)
    rw [List.getElem_cons_zero, Nat.add_zero] at h0
    have hy1 := hlt y List.mem_cons_self
    by_cases hyv : y = v
    · obtain ⟨N', e, e1, e2, e3, e4⟩ := ih g m (k + 1) M H hn (by omega) (by omega) hr (fun z hz => hlt z (List.mem_cons_of_mem _ hz)) (fun i hi => by
        have := hy (i + 1) (by rw [List.length_cons]; omega)
        rw [List.getElem_cons_succ] at this
        rw [show r + (k + 1) + i = r + k + (i + 1) by omega]
        exact this) (by omega)
      have ef : (y :: ys).filter (· ≠ v) = ys.filter (· ≠ v) := List.filter_cons_of_neg (by simpa using hyv)
      refine ⟨N', ?_, by rw [ef]; exact e1, e2, by rw [ef]; exact e3, e4⟩
      show BM_takeOut_5 (LM_takeOut_5 g) 1003 (nI r) (nI v) (nI m) (nI k) M = _
      rw [hyv] at h0
      simp (disch := omega) only [BM_takeOut_5, BM_takeOut_49, gd1, bs1, ↓reduceIte, d_nz, d_nn, or_true, true_or, or_false, false_or, decide_true, Sum.elim_inl, Sum.elim_inr, ↓l_m1, l_0, l_1, l_2, l_3, l_4, l_5, l_6, l_7, l_8, l_9, l_10, l_16, l_17, l_18, l_20, l_23, l_24, l_30, l_31, l_32, l_39, l_40, l_41, l_48, l_57, l_58, l_59, l_60, l_63, l_90, l_97, l_98, l_99, l_100, l_102, l_103, l_104, l_107, l_109, l_112, l_115, l_116, l_117, l_120, l_122, l_126, l_166, l_180, l_240, l_255, l_640, l_999, l_2656, l_3064, l_3704, l_3708, l_3712, l_3713, l_3893, l_155720, l_1000000, n_ltT, n_ltF, n_leT, n_leF, n_eqT, n_eqF, n_eqm, n_eqm', n_mltn, n_mlen, n_nltm, n_nlem, n_mltm, n_mlem, n_add, n_mul, n_sub, n_subm, n_cl, n_ofNat, n_div, n_mod, obM_si, rdI_si, wrI_si, lnI_si, grM_si', tgM_si', obM_sa, rdI_sa, wrI_sa, lnI_sa, grM_sa', tgM_sa', ms_ob H, ms_g1 H, ms_g5 H, ms_g6 H, ms_g8 H, ms_g9 H, ms_g11 H, ms_g12 H, ms_g15 H, ms_g16 H, ms_g18 H, ms_g19 H, ms_g20 H, ms_g22 H, ms_g24 H, ms_g27 H, ms_g32 H, ms_g21 H, ms_t1 H, ms_r1 H, ms_w1 H, ms_l1 H, ms_t5 H, ms_r5 H, ms_w5 H, ms_l5 H, ms_t6 H, ms_r6 H, ms_w6 H, ms_l6 H, ms_t8 H, ms_r8 H, ms_w8 H, ms_l8 H, ms_t9 H, ms_r9 H, ms_w9 H, ms_l9 H, ms_t11 H, ms_r11 H, ms_w11 H, ms_l11 H, ms_t12 H, ms_r12 H, ms_w12 H, ms_l12 H, ms_t15 H, ms_r15 H, ms_w15 H, ms_l15 H, ms_t16 H, ms_r16 H, ms_w16 H, ms_l16 H, ms_t18 H, ms_r18 H, ms_w18 H, ms_l18 H, ms_t19 H, ms_r19 H, ms_w19 H, ms_l19 H, ms_t20 H, ms_r20 H, ms_w20 H, ms_l20 H, ms_t22 H, ms_r22 H, ms_w22 H, ms_l22 H, ms_t24 H, ms_r24 H, ms_w24 H, ms_l24 H, ms_t27 H, ms_r27 H, ms_w27 H, ms_l27 H, ms_t32 H, ms_r32 H, ms_w32 H, ms_l32 H, ms_b H, hn, h0, e]
    · obtain ⟨N', e, e1, e2, e3, e4⟩ := ih g (m + 1) (k + 1) (siM M 1011 (r + (m + 1)) (nI y)) (MS_2 rfl H) (by rw [giM_ud, ud_n _ _ (by omega)]; exact hn) (by omega) (by omega) hr (fun z hz => hlt z (List.mem_cons_of_mem _ hz)) (fun i hi => by
        have := hy (i + 1) (by rw [List.length_cons]; omega)
        rw [List.getElem_cons_succ] at this
        rw [giM_ud, ud_n _ _ (by omega), show r + (k + 1) + i = r + k + (i + 1) by omega]
        exact this) (by omega)
      rw [giM_ud] at e2 e4
      have ef : (y :: ys).filter (· ≠ v) = y :: ys.filter (· ≠ v) := List.filter_cons_of_pos (by simpa using hyv)
      refine ⟨N', ?_, ?_, ?_, ?_, ?_⟩
      · show BM_takeOut_5 (LM_takeOut_5 g) 1003 (nI r) (nI v) (nI m) (nI k) M = _
        simp (disch := omega) only [BM_takeOut_5, BM_takeOut_49, gd1, bs1, ↓reduceIte, d_nz, d_nn, or_true, true_or, or_false, false_or, decide_true, Sum.elim_inl, Sum.elim_inr, ↓l_m1, l_0, l_1, l_2, l_3, l_4, l_5, l_6, l_7, l_8, l_9, l_10, l_16, l_17, l_18, l_20, l_23, l_24, l_30, l_31, l_32, l_39, l_40, l_41, l_48, l_57, l_58, l_59, l_60, l_63, l_90, l_97, l_98, l_99, l_100, l_102, l_103, l_104, l_107, l_109, l_112, l_115, l_116, l_117, l_120, l_122, l_126, l_166, l_180, l_240, l_255, l_640, l_999, l_2656, l_3064, l_3704, l_3708, l_3712, l_3713, l_3893, l_155720, l_1000000, n_ltT, n_ltF, n_leT, n_leF, n_eqT, n_eqF, n_eqm, n_eqm', n_mltn, n_mlen, n_nltm, n_nlem, n_mltm, n_mlem, n_add, n_mul, n_sub, n_subm, n_cl, n_ofNat, n_div, n_mod, obM_si, rdI_si, wrI_si, lnI_si, grM_si', tgM_si', obM_sa, rdI_sa, wrI_sa, lnI_sa, grM_sa', tgM_sa', ms_ob H, ms_g1 H, ms_g5 H, ms_g6 H, ms_g8 H, ms_g9 H, ms_g11 H, ms_g12 H, ms_g15 H, ms_g16 H, ms_g18 H, ms_g19 H, ms_g20 H, ms_g22 H, ms_g24 H, ms_g27 H, ms_g32 H, ms_g21 H, ms_t1 H, ms_r1 H, ms_w1 H, ms_l1 H, ms_t5 H, ms_r5 H, ms_w5 H, ms_l5 H, ms_t6 H, ms_r6 H, ms_w6 H, ms_l6 H, ms_t8 H, ms_r8 H, ms_w8 H, ms_l8 H, ms_t9 H, ms_r9 H, ms_w9 H, ms_l9 H, ms_t11 H, ms_r11 H, ms_w11 H, ms_l11 H, ms_t12 H, ms_r12 H, ms_w12 H, ms_l12 H, ms_t15 H, ms_r15 H, ms_w15 H, ms_l15 H, ms_t16 H, ms_r16 H, ms_w16 H, ms_l16 H, ms_t18 H, ms_r18 H, ms_w18 H, ms_l18 H, ms_t19 H, ms_r19 H, ms_w19 H, ms_l19 H, ms_t20 H, ms_r20 H, ms_w20 H, ms_l20 H, ms_t22 H, ms_r22 H, ms_w22 H, ms_l22 H, ms_t24 H, ms_r24 H, ms_w24 H, ms_l24 H, ms_t27 H, ms_r27 H, ms_w27 H, ms_l27 H, ms_t32 H, ms_r32 H, ms_w32 H, ms_l32 H, ms_b H, hn, h0, e]
        rw [saM_si]
      · rw [ef, e1, List.length_cons]
        congr 1
        omega
      · intro i hi
        rw [e2 i (by omega), ud_n _ _ (by omega)]
      · rw [ef]
        intro i hi
        cases i with
        | zero =>
          rw [List.getElem_cons_zero, show r + 1 + m + 0 = r + 1 + m by omega, e2 m (by omega), ud_e (by omega)]
        | succ i =>
          rw [List.length_cons] at hi
          have := e3 i (by omega)
          rw [List.getElem_cons_succ, ← this]
          congr 1
          omega
      · intro i hi
        rw [e4 i hi, ud_n _ _ (by omega)]
theorem takeOut_ok (H : MS M) (R : Rw (giM M 1011) r xs) (hnd : xs.Nodup) (hv : v < 2147483648) (hx : ∀ y ∈ xs, y < 2147483648) (hr : r + xs.length < 3893) : ∃ N', fM_takeOut 1003 (nI r) (nI v) M = some (saM M 1011 N') ∧ Rw N' r (xs.erase v) ∧ ∀ i, i < r ∨ r + xs.length < i → N' i = giM M 1011 i := by
  obtain ⟨N', e, e1, e2, e3, e4⟩ := to_loop (r := r) hv xs 1000000 0 1 M H R.1 (by omega) (by omega) hr hx (fun i hi => by
    have := R.2 i hi
    exact this) (by omega)
  have ef : xs.erase v = xs.filter (· ≠ v) := by
    rw [List.Nodup.erase_eq_filter hnd]
    apply List.filter_congr
    intro x _
    by_cases hxv : x = v <;> simp [hxv]
  refine ⟨N', ?_, ⟨?_, ?_⟩, e4⟩
  · simp (disch := omega) only [fM_takeOut, gd1, bs1, ↓reduceIte, d_nz, d_nn, or_true, true_or, or_false, false_or, decide_true, Sum.elim_inl, Sum.elim_inr, ↓l_m1, l_0, l_1, l_2, l_3, l_4, l_5, l_6, l_7, l_8, l_9, l_10, l_16, l_17, l_18, l_20, l_23, l_24, l_30, l_31, l_32, l_39, l_40, l_41, l_48, l_57, l_58, l_59, l_60, l_63, l_90, l_97, l_98, l_99, l_100, l_102, l_103, l_104, l_107, l_109, l_112, l_115, l_116, l_117, l_120, l_122, l_126, l_166, l_180, l_240, l_255, l_640, l_999, l_2656, l_3064, l_3704, l_3708, l_3712, l_3713, l_3893, l_155720, l_1000000, n_ltT, n_ltF, n_leT, n_leF, n_eqT, n_eqF, n_eqm, n_eqm', n_mltn, n_mlen, n_nltm, n_nlem, n_mltm, n_mlem, n_add, n_mul, n_sub, n_subm, n_cl, n_ofNat, n_div, n_mod, obM_si, rdI_si, wrI_si, lnI_si, grM_si', tgM_si', obM_sa, rdI_sa, wrI_sa, lnI_sa, grM_sa', tgM_sa', e]
  · rw [ef, e1, Nat.zero_add]
  · rw [ef]
    intro i hi
    have := e3 i hi
    exact this
theorem ma_loop {s : Nat} : ∀ (k f : Nat) (M : Mem) (ys : List Nat), MS M → Rw (giM M 1011) s ys → (hk : k ≤ xs.length) → (∀ i (h : i < k), giM M 1011 (r + 1 + i) = nI (xs[i]'(by omega))) → (r + k < s ∨ s + ys.length + k < r) → r + k < 3893 → s + ys.length + k < 3893 → k < f → ∃ N', LM_moveAhead_7 f 1003 (nI r) (nI s) (nI k) M = some (saM M 1011 N') ∧ N' r = nI 0 ∧ Rw N' s (xs.take k ++ ys) ∧ ∀ i, i ≠ r → i < s ∨ s + ys.length + k < i → N' i = giM M 1011 i := by
  intro k
  induction k with
  | zero =>
    intro f M ys H R hk hx hd h1 h2 hf
    obtain ⟨g, rfl⟩ : ∃ g, f = g + 1 := ⟨f - 1, by omega⟩
    refine ⟨ud (giM M 1011) r (nI 0), ?_, ud_s _ _ _, ?_, ?_⟩
    · show BM_moveAhead_7 (LM_moveAhead_7 g) 1003 (nI r) (nI s) (nI 0) M = _
      simp (disch := omega) only [BM_moveAhead_7, gd1, bs1, ↓reduceIte, d_nz, d_nn, or_true, true_or, or_false, false_or, decide_true, Sum.elim_inl, Sum.elim_inr, ↓l_m1, l_0, l_1, l_2, l_3, l_4, l_5, l_6, l_7, l_8, l_9, l_10, l_16, l_17, l_18, l_20, l_23, l_24, l_30, l_31, l_32, l_39, l_40, l_41, l_48, l_57, l_58, l_59, l_60, l_63, l_90, l_97, l_98, l_99, l_100, l_102, l_103, l_104, l_107, l_109, l_112, l_115, l_116, l_117, l_120, l_122, l_126, l_166, l_180, l_240, l_255, l_640, l_999, l_2656, l_3064, l_3704, l_3708, l_3712, l_3713, l_3893, l_155720, l_1000000, n_ltT, n_ltF, n_leT, n_leF, n_eqT, n_eqF, n_eqm, n_eqm', n_mltn, n_mlen, n_nltm, n_nlem, n_mltm, n_mlem, n_add, n_mul, n_sub, n_subm, n_cl, n_ofNat, n_div, n_mod, obM_si, rdI_si, wrI_si, lnI_si, grM_si', tgM_si', obM_sa, rdI_sa, wrI_sa, lnI_sa, grM_sa', tgM_sa', ms_ob H, ms_g1 H, ms_g5 H, ms_g6 H, ms_g8 H, ms_g9 H, ms_g11 H, ms_g12 H, ms_g15 H, ms_g16 H, ms_g18 H, ms_g19 H, ms_g20 H, ms_g22 H, ms_g24 H, ms_g27 H, ms_g32 H, ms_g21 H, ms_t1 H, ms_r1 H, ms_w1 H, ms_l1 H, ms_t5 H, ms_r5 H, ms_w5 H, ms_l5 H, ms_t6 H, ms_r6 H, ms_w6 H, ms_l6 H, ms_t8 H, ms_r8 H, ms_w8 H, ms_l8 H, ms_t9 H, ms_r9 H, ms_w9 H, ms_l9 H, ms_t11 H, ms_r11 H, ms_w11 H, ms_l11 H, ms_t12 H, ms_r12 H, ms_w12 H, ms_l12 H, ms_t15 H, ms_r15 H, ms_w15 H, ms_l15 H, ms_t16 H, ms_r16 H, ms_w16 H, ms_l16 H, ms_t18 H, ms_r18 H, ms_w18 H, ms_l18 H, ms_t19 H, ms_r19 H, ms_w19 H, ms_l19 H, ms_t20 H, ms_r20 H, ms_w20 H, ms_l20 H, ms_t22 H, ms_r22 H, ms_w22 H, ms_l22 H, ms_t24 H, ms_r24 H, ms_w24 H, ms_l24 H, ms_t27 H, ms_r27 H, ms_w27 H, ms_l27 H, ms_t32 H, ms_r32 H, ms_w32 H, ms_l32 H, ms_b H]
      rw [si_sa]
    · rw [List.take_zero, List.nil_append]
      exact Rw_congr R (fun i hi hi2 => ud_n _ _ (by omega))
    · intro i hi _
      exact ud_n _ _ hi
  | succ k ih =>
    intro f M ys H R hk hx hd h1 h2 hf
    obtain ⟨g, rfl⟩ : ∃ g, f = g + 1 := ⟨f - 1, by omega⟩
    have h0 := hx k (by omega)
    obtain ⟨N1, e1, R1, F1⟩ := addFirst_ok (v := xs[k]'(by omega)) H R (by omega)
    obtain ⟨N2, e2, z2, R2, F2⟩ := ih g (saM M 1011 N1) (xs[k]'(by omega) :: ys) (MS_2 rfl H) (by rw [gi_sas]; exact R1) (by omega) (fun i hi => by
      rw [gi_sas, F1 _ (by omega)]
      exact hx i (by omega)) (by rw [List.length_cons]; omega) (by omega) (by rw [List.length_cons]; omega) (by omega)
    rw [sa_sa] at e2
    rw [gi_sas] at F2
    have em : nI (k + 1) + mI = nI k := n_subm (Nat.succ_pos _)
    have ea : r + (k + 1) = r + 1 + k := by omega
    refine ⟨N2, ?_, z2, ?_, ?_⟩
    · show BM_moveAhead_7 (LM_moveAhead_7 g) 1003 (nI r) (nI s) (nI (k + 1)) M = _
      rw [← ea] at h0
      simp (disch := omega) only [BM_moveAhead_7, gd1, bs1, ↓reduceIte, d_nz, d_nn, or_true, true_or, or_false, false_or, decide_true, Sum.elim_inl, Sum.elim_inr, ↓l_m1, l_0, l_1, l_2, l_3, l_4, l_5, l_6, l_7, l_8, l_9, l_10, l_16, l_17, l_18, l_20, l_23, l_24, l_30, l_31, l_32, l_39, l_40, l_41, l_48, l_57, l_58, l_59, l_60, l_63, l_90, l_97, l_98, l_99, l_100, l_102, l_103, l_104, l_107, l_109, l_112, l_115, l_116, l_117, l_120, l_122, l_126, l_166, l_180, l_240, l_255, l_640, l_999, l_2656, l_3064, l_3704, l_3708, l_3712, l_3713, l_3893, l_155720, l_1000000, em, n_ltT, n_ltF, n_leT, n_leF, n_eqT, n_eqF, n_eqm, n_eqm', n_mltn, n_mlen, n_nltm, n_nlem, n_mltm, n_mlem, n_add, n_mul, n_sub, n_subm, n_cl, n_ofNat, n_div, n_mod, obM_si, rdI_si, wrI_si, lnI_si, grM_si', tgM_si', obM_sa, rdI_sa, wrI_sa, lnI_sa, grM_sa', tgM_sa', ms_ob H, ms_g1 H, ms_g5 H, ms_g6 H, ms_g8 H, ms_g9 H, ms_g11 H, ms_g12 H, ms_g15 H, ms_g16 H, ms_g18 H, ms_g19 H, ms_g20 H, ms_g22 H, ms_g24 H, ms_g27 H, ms_g32 H, ms_g21 H, ms_t1 H, ms_r1 H, ms_w1 H, ms_l1 H, ms_t5 H, ms_r5 H, ms_w5 H, ms_l5 H, ms_t6 H, ms_r6 H, ms_w6 H, ms_l6 H, ms_t8 H, ms_r8 H, ms_w8 H, ms_l8 H, ms_t9 H, ms_r9 H, ms_w9 H, ms_l9 H, ms_t11 H, ms_r11 H, ms_w11 H, ms_l11 H, ms_t12 H, ms_r12 H, ms_w12 H, ms_l12 H, ms_t15 H, ms_r15 H, ms_w15 H, ms_l15 H, ms_t16 H, ms_r16 H, ms_w16 H, ms_l16 H, ms_t18 H, ms_r18 H, ms_w18 H, ms_l18 H, ms_t19 H, ms_r19 H, ms_w19 H, ms_l19 H, ms_t20 H, ms_r20 H, ms_w20 H, ms_l20 H, ms_t22 H, ms_r22 H, ms_w22 H, ms_l22 H, ms_t24 H, ms_r24 H, ms_w24 H, ms_l24 H, ms_t27 H, ms_r27 H, ms_w27 H, ms_l27 H, ms_t32 H, ms_r32 H, ms_w32 H, ms_l32 H, ms_b H, h0, e1, e2]
    · rw [List.take_succ_eq_append_getElem (by omega), List.append_assoc]
      exact R2
    · intro i hi hi2
      rw [F2 i hi (by rw [List.length_cons]; omega), F1 i (by omega)]
theorem moveAhead_ok {s : Nat} {ys : List Nat} (H : MS M) (R : Rw (giM M 1011) r xs) (R2 : Rw (giM M 1011) s ys) (hd : r + xs.length < s ∨ s + ys.length + xs.length < r) (h1 : r + xs.length < 3893) (h2 : s + ys.length + xs.length < 3893) : ∃ N', fM_moveAhead 1003 (nI r) (nI s) M = some (saM M 1011 N') ∧ N' r = nI 0 ∧ Rw N' s (xs ++ ys) ∧ ∀ i, i ≠ r → i < s ∨ s + ys.length + xs.length < i → N' i = giM M 1011 i := by
  have h0 := R.1
  obtain ⟨N', e, e1, e2, e3⟩ := ma_loop (r := r) (xs := xs) (s := s) xs.length 1000000 M ys H R2 (Nat.le_refl _) (fun i hi => R.2 i hi) hd h1 h2 (by omega)
  rw [List.take_length] at e2
  refine ⟨N', ?_, e1, e2, e3⟩
  simp (disch := omega) only [fM_moveAhead, gd1, bs1, ↓reduceIte, d_nz, d_nn, or_true, true_or, or_false, false_or, decide_true, Sum.elim_inl, Sum.elim_inr, ↓l_m1, l_0, l_1, l_2, l_3, l_4, l_5, l_6, l_7, l_8, l_9, l_10, l_16, l_17, l_18, l_20, l_23, l_24, l_30, l_31, l_32, l_39, l_40, l_41, l_48, l_57, l_58, l_59, l_60, l_63, l_90, l_97, l_98, l_99, l_100, l_102, l_103, l_104, l_107, l_109, l_112, l_115, l_116, l_117, l_120, l_122, l_126, l_166, l_180, l_240, l_255, l_640, l_999, l_2656, l_3064, l_3704, l_3708, l_3712, l_3713, l_3893, l_155720, l_1000000, n_ltT, n_ltF, n_leT, n_leF, n_eqT, n_eqF, n_eqm, n_eqm', n_mltn, n_mlen, n_nltm, n_nlem, n_mltm, n_mlem, n_add, n_mul, n_sub, n_subm, n_cl, n_ofNat, n_div, n_mod, obM_si, rdI_si, wrI_si, lnI_si, grM_si', tgM_si', obM_sa, rdI_sa, wrI_sa, lnI_sa, grM_sa', tgM_sa', ms_ob H, ms_g1 H, ms_g5 H, ms_g6 H, ms_g8 H, ms_g9 H, ms_g11 H, ms_g12 H, ms_g15 H, ms_g16 H, ms_g18 H, ms_g19 H, ms_g20 H, ms_g22 H, ms_g24 H, ms_g27 H, ms_g32 H, ms_g21 H, ms_t1 H, ms_r1 H, ms_w1 H, ms_l1 H, ms_t5 H, ms_r5 H, ms_w5 H, ms_l5 H, ms_t6 H, ms_r6 H, ms_w6 H, ms_l6 H, ms_t8 H, ms_r8 H, ms_w8 H, ms_l8 H, ms_t9 H, ms_r9 H, ms_w9 H, ms_l9 H, ms_t11 H, ms_r11 H, ms_w11 H, ms_l11 H, ms_t12 H, ms_r12 H, ms_w12 H, ms_l12 H, ms_t15 H, ms_r15 H, ms_w15 H, ms_l15 H, ms_t16 H, ms_r16 H, ms_w16 H, ms_l16 H, ms_t18 H, ms_r18 H, ms_w18 H, ms_l18 H, ms_t19 H, ms_r19 H, ms_w19 H, ms_l19 H, ms_t20 H, ms_r20 H, ms_w20 H, ms_l20 H, ms_t22 H, ms_r22 H, ms_w22 H, ms_l22 H, ms_t24 H, ms_r24 H, ms_w24 H, ms_l24 H, ms_t27 H, ms_r27 H, ms_w27 H, ms_l27 H, ms_t32 H, ms_r32 H, ms_w32 H, ms_l32 H, ms_b H, h0, e]
theorem pi_loop (hv : v < 2147483648) : ∀ (ys : List Nat) (f k : Nat), MS M → giM M 1011 r = nI xs.length → k + ys.length = xs.length + 1 → 1 ≤ k → r + xs.length < 3893 → (∀ y ∈ ys, y < 2147483648) → (∀ i (h : i < ys.length), giM M 1011 (r + k + i) = nI (ys[i]'h)) → ys.length < f → LM_placeIn_2 f 1003 (nI r) (nI v) (nI k) M = some (if v ∈ ys then nI (k - 1 + ys.idxOf v) else mI, M) := by
  intro ys
  induction ys with
  | nil =>
    intro f k H hn hk h1 hr _ hy hf
    obtain ⟨g, rfl⟩ : ∃ g, f = g + 1 := ⟨f - 1, by omega⟩
    rw [List.length_nil] at hk
    show BM_placeIn_2 (LM_placeIn_2 g) 1003 (nI r) (nI v) (nI k) M = _
    simp (disch := omega) only [BM_placeIn_2, gd1, bs1, ↓reduceIte, d_nz, d_nn, or_true, true_or, or_false, false_or, decide_true, Sum.elim_inl, Sum.elim_inr, ↓l_m1, l_0, l_1, l_2, l_3, l_4, l_5, l_6, l_7, l_8, l_9, l_10, l_16, l_17, l_18, l_20, l_23, l_24, l_30, l_31, l_32, l_39, l_40, l_41, l_48, l_57, l_58, l_59, l_60, l_63, l_90, l_97, l_98, l_99, l_100, l_102, l_103, l_104, l_107, l_109, l_112, l_115, l_116, l_117, l_120, l_122, l_126, l_166, l_180, l_240, l_255, l_640, l_999, l_2656, l_3064, l_3704, l_3708, l_3712, l_3713, l_3893, l_155720, l_1000000, n_ltT, n_ltF, n_leT, n_leF, n_eqT, n_eqF, n_eqm, n_eqm', n_mltn, n_mlen, n_nltm, n_nlem, n_mltm, n_mlem, n_add, n_mul, n_sub, n_subm, n_cl, n_ofNat, n_div, n_mod, obM_si, rdI_si, wrI_si, lnI_si, grM_si', tgM_si', obM_sa, rdI_sa, wrI_sa, lnI_sa, grM_sa', tgM_sa', ms_ob H, ms_g1 H, ms_g5 H, ms_g6 H, ms_g8 H, ms_g9 H, ms_g11 H, ms_g12 H, ms_g15 H, ms_g16 H, ms_g18 H, ms_g19 H, ms_g20 H, ms_g22 H, ms_g24 H, ms_g27 H, ms_g32 H, ms_g21 H, ms_t1 H, ms_r1 H, ms_w1 H, ms_l1 H, ms_t5 H, ms_r5 H, ms_w5 H, ms_l5 H, ms_t6 H, ms_r6 H, ms_w6 H, ms_l6 H, ms_t8 H, ms_r8 H, ms_w8 H, ms_l8 H, ms_t9 H, ms_r9 H, ms_w9 H, ms_l9 H, ms_t11 H, ms_r11 H, ms_w11 H, ms_l11 H, ms_t12 H, ms_r12 H, ms_w12 H, ms_l12 H, ms_t15 H, ms_r15 H, ms_w15 H, ms_l15 H, ms_t16 H, ms_r16 H, ms_w16 H, ms_l16 H, ms_t18 H, ms_r18 H, ms_w18 H, ms_l18 H, ms_t19 H, ms_r19 H, ms_w19 H, ms_l19 H, ms_t20 H, ms_r20 H, ms_w20 H, ms_l20 H, ms_t22 H, ms_r22 H, ms_w22 H, ms_l22 H, ms_t24 H, ms_r24 H, ms_w24 H, ms_l24 H, ms_t27 H, ms_r27 H, ms_w27 H, ms_l27 H, ms_t32 H, ms_r32 H, ms_w32 H, ms_l32 H, ms_b H, hn]
    simp
  | cons y ys ih =>
    intro f k H hn hk h1 hr hlt hy hf
    obtain ⟨g, rfl⟩ : ∃ g, f = g + 1 := ⟨f - 1, by omega⟩
    rw [List.length_cons] at hk hf
    have h0 := hy 0 (by simp)
    rw [List.getElem_cons_zero, Nat.add_zero] at h0
    have hy1 := hlt y List.mem_cons_self
    show BM_placeIn_2 (LM_placeIn_2 g) 1003 (nI r) (nI v) (nI k) M = _
    by_cases hyv : y = v
    · rw [hyv] at h0
      rw [hyv, if_pos List.mem_cons_self, List.idxOf_cons_self, Nat.add_zero]
      simp (disch := omega) only [BM_placeIn_2, gd1, bs1, ↓reduceIte, d_nz, d_nn, or_true, true_or, or_false, false_or, decide_true, Sum.elim_inl, Sum.elim_inr, ↓l_m1, l_0, l_1, l_2, l_3, l_4, l_5, l_6, l_7, l_8, l_9, l_10, l_16, l_17, l_18, l_20, l_23, l_24, l_30, l_31, l_32, l_39, l_40, l_41, l_48, l_57, l_58, l_59, l_60, l_63, l_90, l_97, l_98, l_99, l_100, l_102, l_103, l_104, l_107, l_109, l_112, l_115, l_116, l_117, l_120, l_122, l_126, l_166, l_180, l_240, l_255, l_640, l_999, l_2656, l_3064, l_3704, l_3708, l_3712, l_3713, l_3893, l_155720, l_1000000, n_ltT, n_ltF, n_leT, n_leF, n_eqT, n_eqF, n_eqm, n_eqm', n_mltn, n_mlen, n_nltm, n_nlem, n_mltm, n_mlem, n_add, n_mul, n_sub, n_subm, n_cl, n_ofNat, n_div, n_mod, obM_si, rdI_si, wrI_si, lnI_si, grM_si', tgM_si', obM_sa, rdI_sa, wrI_sa, lnI_sa, grM_sa', tgM_sa', ms_ob H, ms_g1 H, ms_g5 H, ms_g6 H, ms_g8 H, ms_g9 H, ms_g11 H, ms_g12 H, ms_g15 H, ms_g16 H, ms_g18 H, ms_g19 H, ms_g20 H, ms_g22 H, ms_g24 H, ms_g27 H, ms_g32 H, ms_g21 H, ms_t1 H, ms_r1 H, ms_w1 H, ms_l1 H, ms_t5 H, ms_r5 H, ms_w5 H, ms_l5 H, ms_t6 H, ms_r6 H, ms_w6 H, ms_l6 H, ms_t8 H, ms_r8 H, ms_w8 H, ms_l8 H, ms_t9 H, ms_r9 H, ms_w9 H, ms_l9 H, ms_t11 H, ms_r11 H, ms_w11 H, ms_l11 H, ms_t12 H, ms_r12 H, ms_w12 H, ms_l12 H, ms_t15 H, ms_r15 H, ms_w15 H, ms_l15 H, ms_t16 H, ms_r16 H, ms_w16 H, ms_l16 H, ms_t18 H, ms_r18 H, ms_w18 H, ms_l18 H, ms_t19 H, ms_r19 H, ms_w19 H, ms_l19 H, ms_t20 H, ms_r20 H, ms_w20 H, ms_l20 H, ms_t22 H, ms_r22 H, ms_w22 H, ms_l22 H, ms_t24 H, ms_r24 H, ms_w24 H, ms_l24 H, ms_t27 H, ms_r27 H, ms_w27 H, ms_l27 H, ms_t32 H, ms_r32 H, ms_w32 H, ms_l32 H, ms_b H, hn, h0]
    · have e := ih g (k + 1) H hn (by omega) (by omega) hr (fun z hz => hlt z (List.mem_cons_of_mem _ hz)) (fun i hi => by
        have := hy (i + 1) (by rw [List.length_cons]; omega)
        rw [List.getElem_cons_succ] at this
        rw [show r + (k + 1) + i = r + k + (i + 1) by omega]
        exact this) (by omega)
      simp (disch := omega) only [BM_placeIn_2, gd1, bs1, ↓reduceIte, d_nz, d_nn, or_true, true_or, or_false, false_or, decide_true, Sum.elim_inl, Sum.elim_inr, ↓l_m1, l_0, l_1, l_2, l_3, l_4, l_5, l_6, l_7, l_8, l_9, l_10, l_16, l_17, l_18, l_20, l_23, l_24, l_30, l_31, l_32, l_39, l_40, l_41, l_48, l_57, l_58, l_59, l_60, l_63, l_90, l_97, l_98, l_99, l_100, l_102, l_103, l_104, l_107, l_109, l_112, l_115, l_116, l_117, l_120, l_122, l_126, l_166, l_180, l_240, l_255, l_640, l_999, l_2656, l_3064, l_3704, l_3708, l_3712, l_3713, l_3893, l_155720, l_1000000, n_ltT, n_ltF, n_leT, n_leF, n_eqT, n_eqF, n_eqm, n_eqm', n_mltn, n_mlen, n_nltm, n_nlem, n_mltm, n_mlem, n_add, n_mul, n_sub, n_subm, n_cl, n_ofNat, n_div, n_mod, obM_si, rdI_si, wrI_si, lnI_si, grM_si', tgM_si', obM_sa, rdI_sa, wrI_sa, lnI_sa, grM_sa', tgM_sa', ms_ob H, ms_g1 H, ms_g5 H, ms_g6 H, ms_g8 H, ms_g9 H, ms_g11 H, ms_g12 H, ms_g15 H, ms_g16 H, ms_g18 H, ms_g19 H, ms_g20 H, ms_g22 H, ms_g24 H, ms_g27 H, ms_g32 H, ms_g21 H, ms_t1 H, ms_r1 H, ms_w1 H, ms_l1 H, ms_t5 H, ms_r5 H, ms_w5 H, ms_l5 H, ms_t6 H, ms_r6 H, ms_w6 H, ms_l6 H, ms_t8 H, ms_r8 H, ms_w8 H, ms_l8 H, ms_t9 H, ms_r9 H, ms_w9 H, ms_l9 H, ms_t11 H, ms_r11 H, ms_w11 H, ms_l11 H, ms_t12 H, ms_r12 H, ms_w12 H, ms_l12 H, ms_t15 H, ms_r15 H, ms_w15 H, ms_l15 H, ms_t16 H, ms_r16 H, ms_w16 H, ms_l16 H, ms_t18 H, ms_r18 H, ms_w18 H, ms_l18 H, ms_t19 H, ms_r19 H, ms_w19 H, ms_l19 H, ms_t20 H, ms_r20 H, ms_w20 H, ms_l20 H, ms_t22 H, ms_r22 H, ms_w22 H, ms_l22 H, ms_t24 H, ms_r24 H, ms_w24 H, ms_l24 H, ms_t27 H, ms_r27 H, ms_w27 H, ms_l27 H, ms_t32 H, ms_r32 H, ms_w32 H, ms_l32 H, ms_b H, hn, h0, e]
      by_cases hm : v ∈ ys
      · have ei : (y :: ys).idxOf v = ys.idxOf v + 1 := by rw [List.idxOf_cons, beq_false_of_ne hyv]; rfl
        rw [if_pos hm, if_pos (List.mem_cons_of_mem _ hm), ei]
        congr 3
        omega
      · rw [if_neg hm, if_neg (fun w => by
          rcases List.mem_cons.mp w with w | w
          · exact hyv w.symm
          · exact hm w)]
theorem placeIn_ok (H : MS M) (R : Rw (giM M 1011) r xs) (hv : v < 2147483648) (hx : ∀ y ∈ xs, y < 2147483648) (hr : r + xs.length < 3893) : fM_placeIn 1003 (nI r) (nI v) M = some (if v ∈ xs then nI (xs.idxOf v) else mI, M) := by
  have e := pi_loop (M := M) (r := r) (xs := xs) hv xs 1000000 1 H R.1 (by omega) (by omega) hr hx (fun i hi => R.2 i hi) (by omega)
  rw [Nat.sub_self, Nat.zero_add] at e
  simp (disch := omega) only [fM_placeIn, gd1, bs1, ↓reduceIte, d_nz, d_nn, or_true, true_or, or_false, false_or, decide_true, Sum.elim_inl, Sum.elim_inr, ↓l_m1, l_0, l_1, l_2, l_3, l_4, l_5, l_6, l_7, l_8, l_9, l_10, l_16, l_17, l_18, l_20, l_23, l_24, l_30, l_31, l_32, l_39, l_40, l_41, l_48, l_57, l_58, l_59, l_60, l_63, l_90, l_97, l_98, l_99, l_100, l_102, l_103, l_104, l_107, l_109, l_112, l_115, l_116, l_117, l_120, l_122, l_126, l_166, l_180, l_240, l_255, l_640, l_999, l_2656, l_3064, l_3704, l_3708, l_3712, l_3713, l_3893, l_155720, l_1000000, n_ltT, n_ltF, n_leT, n_leF, n_eqT, n_eqF, n_eqm, n_eqm', n_mltn, n_mlen, n_nltm, n_nlem, n_mltm, n_mlem, n_add, n_mul, n_sub, n_subm, n_cl, n_ofNat, n_div, n_mod, obM_si, rdI_si, wrI_si, lnI_si, grM_si', tgM_si', obM_sa, rdI_sa, wrI_sa, lnI_sa, grM_sa', tgM_sa', e]
end RW
