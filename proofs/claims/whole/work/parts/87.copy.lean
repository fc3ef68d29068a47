/-! COPIES -/
section CP
variable {M : Mem} {s d n1 n2 : Nat} {ρ : Rul} {β : Nat} {S : HSt}
theorem cpC_ok (S1 : ChS M s n1 n2) (S2 : ChS M d n1 n2) (hd : s + 4 < d ∨ d + 4 < s) : ∃ M', fC_copyFrom d s M = some M' ∧ Fr M M' (d + 1) (d + 4) ∧ (∀ k, k < n1 → giM M' (d + 1) k = giM M (s + 1) k ∧ giM M' (d + 2) k = giM M (s + 2) k) ∧ ∀ k, k < n2 → giM M' (d + 3) k = giM M (s + 3) k ∧ giM M' (d + 4) k = giM M (s + 4) k := by
  have hb := S1.1
  have c1 := cp_ok S1.2.2.2.1 S2.2.2.2.1 (Nat.le_refl n1)
  have c2 := cp_ok S1.2.2.2.2.1 S2.2.2.2.2.1 (Nat.le_refl n1)
  have c3 := cp_ok S1.2.2.2.2.2.1 S2.2.2.2.2.2.1 (Nat.le_refl n2)
  have c4 := cp_ok S1.2.2.2.2.2.2 S2.2.2.2.2.2.2 (Nat.le_refl n2)
  refine ⟨saM (saM (saM (saM M (d + 1) (cpN (giM M (s + 1)) (giM M (d + 1)) n1)) (d + 2) (cpN (giM M (s + 2)) (giM M (d + 2)) n1)) (d + 3) (cpN (giM M (s + 3)) (giM M (d + 3)) n2)) (d + 4) (cpN (giM M (s + 4)) (giM M (d + 4)) n2), ?_, ⟨rfl, fun a ha => ?_⟩, fun k hk => ?_, fun k hk => ?_⟩
  · simp (disch := omega) only [fC_copyFrom, gd1, bs1, ↓reduceIte, d_nz, d_nn, or_true, true_or, or_false, false_or, decide_true, Sum.elim_inl, Sum.elim_inr, ↓l_m1, l_0, l_1, l_2, l_3, l_4, l_5, l_6, l_7, l_8, l_9, l_10, l_16, l_17, l_18, l_20, l_23, l_24, l_30, l_31, l_32, l_39, l_40, l_41, l_48, l_57, l_58, l_59, l_60, l_63, l_90, l_97, l_98, l_99, l_100, l_102, l_103, l_104, l_107, l_109, l_112, l_115, l_116, l_117, l_120, l_122, l_126, l_166, l_180, l_240, l_255, l_640, l_999, l_2656, l_3064, l_3704, l_3708, l_3712, l_3713, l_3893, l_155720, l_1000000, n_ltT, n_ltF, n_leT, n_leF, n_eqT, n_eqF, n_eqm, n_eqm', n_mltn, n_mlen, n_nltm, n_nlem, n_mltm, n_mlem, n_add, n_mul, n_sub, n_subm, n_cl, n_ofNat, n_div, n_mod, obM_si, rdI_si, wrI_si, lnI_si, grM_si', tgM_si', obM_sa, rdI_sa, wrI_sa, lnI_sa, grM_sa', tgM_sa', cs_ob S1, cs_g0 S1, cs_g1 S1, cs_g2 S1, cs_g3 S1, cs_t1 S1, cs_t2 S1, cs_t3 S1, cs_t4 S1, cs_r1 S1, cs_r2 S1, cs_r3 S1, cs_r4 S1, cs_w1 S1, cs_w2 S1, cs_w3 S1, cs_w4 S1, cs_l1 S1, cs_l2 S1, cs_l3 S1, cs_l4 S1, cs_ob S2, cs_g0 S2, cs_g1 S2, cs_g2 S2, cs_g3 S2, cs_t1 S2, cs_t2 S2, cs_t3 S2, cs_t4 S2, cs_r1 S2, cs_r2 S2, cs_r3 S2, cs_r4 S2, cs_w1 S2, cs_w2 S2, cs_w3 S2, cs_w4 S2, cs_l1 S2, cs_l2 S2, cs_l3 S2, cs_l4 S2, c1, c2, c3, c4, cp_cpy, gi_san]
  · simp (disch := omega) only [gi_san]
  · simp (disch := omega) only [gi_san, gi_sas, cpN_lt hk]
    exact ⟨trivial, trivial⟩
  · simp (disch := omega) only [gi_san, gi_sas, cpN_lt hk]
    exact ⟨trivial, trivial⟩
theorem ChR_cp {F m N H F' m' N' H' : Nat → Int32} {Ls : Nat → List Nat} (h : ChR F m N H Ls n1 n2) (e1 : ∀ k, k < n1 → F' k = F k ∧ m' k = m k) (e2 : ∀ k, k < n2 → N' k = N k ∧ H' k = H k) : ChR F' m' N' H' Ls n1 n2 := by
  intro l hl
  obtain ⟨a1, a2, a3, a4⟩ := h l hl
  rw [(e1 l hl).1, (e1 l hl).2]
  exact ⟨LSg_cg _ _ (fun z hz => (e2 z (a4 z hz).1).1) a1, a2, a3, fun t ht => ⟨(a4 t ht).1, by rw [(e2 t (a4 t ht).1).2]; exact (a4 t ht).2⟩⟩
theorem cpH_ok (H1 : HS M s) (H2 : HS M d) (hd : s + 17 < d ∨ d + 17 < s) : ∃ M', fH_copyFrom d s M = some M' ∧ Fr M M' (d + 1) (d + 17) ∧ (∀ k, k < 16 → giM M' (d + 1) k = giM M (s + 1) k ∧ giM M' (d + 2) k = giM M (s + 2) k ∧ giM M' (d + 3) k = giM M (s + 3) k ∧ giM M' (d + 7) k = giM M (s + 7) k ∧ giM M' (d + 8) k = giM M (s + 8) k) ∧ (∀ k, k < 24 → giM M' (d + 5) k = giM M (s + 5) k ∧ giM M' (d + 6) k = giM M (s + 6) k) ∧ (∀ k, k < 112 → giM M' (d + 10) k = giM M (s + 10) k ∧ giM M' (d + 11) k = giM M (s + 11) k) ∧ (∀ k, k < 640 → giM M' (d + 12) k = giM M (s + 12) k ∧ giM M' (d + 13) k = giM M (s + 13) k) ∧ (∀ k, k < 4 → giM M' (d + 14) k = giM M (s + 14) k ∧ giM M' (d + 15) k = giM M (s + 15) k) ∧ (∀ k, k < 60 → giM M' (d + 17) k = giM M (s + 17) k) ∧ giM M' (d + 16) 1 = giM M (s + 16) 1 := by
  have hb1 := hs_b H1
  have hb2 := hs_b H2
  have c1 := cp_ok (hs_a1 H1) (hs_a1 H2) (Nat.le_refl 16)
  have c2 := cp_ok (hs_a2 H1) (hs_a2 H2) (Nat.le_refl 16)
  have c3 := cp_ok (hs_a3 H1) (hs_a3 H2) (Nat.le_refl 16)
  obtain ⟨M1, hM1⟩ : ∃ M1, M1 = saM (saM (saM M (d + 1) (cpN (giM M (s + 1)) (giM M (d + 1)) 16)) (d + 2) (cpN (giM M (s + 2)) (giM M (d + 2)) 16)) (d + 3) (cpN (giM M (s + 3)) (giM M (d + 3)) 16) := ⟨_, rfl⟩
  have s1 : M1.2 = M.2 := by rw [hM1]; rfl
  have g1 : ∀ a, a ≠ d + 1 → a ≠ d + 2 → a ≠ d + 3 → giM M1 a = giM M a := fun a h1 h2 h3 => by
    rw [hM1]
    simp (disch := omega) only [gi_san]
  have G1 : ∀ k, k < 16 → giM M1 (d + 1) k = giM M (s + 1) k ∧ giM M1 (d + 2) k = giM M (s + 2) k ∧ giM M1 (d + 3) k = giM M (s + 3) k := fun k hk => by
    rw [hM1]
    simp (disch := omega) only [gi_san, gi_sas, cpN_lt hk]
    exact ⟨trivial, trivial, trivial⟩
  obtain ⟨M2, e2, F2, A2, B2⟩ := cpC_ok (M := M1) (hs_q (HS_2 s1 H1)) (hs_q (HS_2 s1 H2)) (by omega)
  have s2 : M2.2 = M.2 := F2.1.trans s1
  obtain ⟨M3, e3, F3, A3, B3⟩ := cpC_ok (M := M2) (hs_k (HS_2 s2 H1)) (hs_k (HS_2 s2 H2)) (by omega)
  have s3 : M3.2 = M.2 := F3.1.trans s2
  have H13 := HS_2 s3 H1
  have H23 := HS_2 s3 H2
  have c6 := cp_ok (hs_a14 H13) (hs_a14 H23) (Nat.le_refl 4)
  have c7 := cp_ok (hs_a15 H13) (hs_a15 H23) (Nat.le_refl 4)
  have c8 : cpM (saM (saM M3 (d + 14) (cpN (giM M3 (s + 14)) (giM M3 (d + 14)) 4)) (d + 15) (cpN (giM M3 (s + 15)) (giM M3 (d + 15)) 4)) (s + 17) (nI 0) (d + 17) (nI 0) (nI 60) = true := cp_ok (hs_a17 (HS_2 rfl H13)) (hs_a17 (HS_2 rfl H23)) (Nat.le_refl 60)
  refine ⟨siM (saM (saM (saM M3 (d + 14) (cpN (giM M3 (s + 14)) (giM M3 (d + 14)) 4)) (d + 15) (cpN (giM M3 (s + 15)) (giM M3 (d + 15)) 4)) (d + 17) (cpN (giM M3 (s + 17)) (giM M3 (d + 17)) 60)) (d + 16) 1 (giM M3 (s + 16) 1), ?_, ⟨s3, fun a ha => ?_⟩, fun k hk => ?_, fun k hk => ?_, fun k hk => ?_, fun k hk => ?_, fun k hk => ?_, fun k hk => ?_, ?_⟩
  · rw [hM1] at e2
    simp (disch := omega) only [fH_copyFrom, fL_copyFrom, gd1, bs1, ↓reduceIte, d_nz, d_nn, or_true, true_or, or_false, false_or, decide_true, Sum.elim_inl, Sum.elim_inr, ↓l_m1, l_0, l_1, l_2, l_3, l_4, l_5, l_6, l_7, l_8, l_9, l_10, l_16, l_17, l_18, l_20, l_23, l_24, l_30, l_31, l_32, l_39, l_40, l_41, l_48, l_57, l_58, l_59, l_60, l_63, l_90, l_97, l_98, l_99, l_100, l_102, l_103, l_104, l_107, l_109, l_112, l_115, l_116, l_117, l_120, l_122, l_126, l_166, l_180, l_240, l_255, l_640, l_999, l_2656, l_3064, l_3704, l_3708, l_3712, l_3713, l_3893, l_155720, l_1000000, n_ltT, n_ltF, n_leT, n_leF, n_eqT, n_eqF, n_eqm, n_eqm', n_mltn, n_mlen, n_nltm, n_nlem, n_mltm, n_mlem, n_add, n_mul, n_sub, n_subm, n_cl, n_ofNat, n_div, n_mod, obM_si, rdI_si, wrI_si, lnI_si, grM_si', tgM_si', obM_sa, rdI_sa, wrI_sa, lnI_sa, grM_sa', tgM_sa', obM_2 s2, rdI_2 s2, wrI_2 s2, lnI_2 s2, grM_2 s2, tgM_2 s2, obM_2 s3, rdI_2 s3, wrI_2 s3, lnI_2 s3, grM_2 s3, tgM_2 s3, hs_ob H1, hs_g0 H1, hs_g1 H1, hs_g2 H1, hs_g3 H1, hs_g4 H1, hs_g5 H1, hs_g6 H1, hs_g7 H1, hs_g8 H1, hs_t1 H1, hs_r1 H1, hs_w1 H1, hs_l1 H1, hs_t2 H1, hs_r2 H1, hs_w2 H1, hs_l2 H1, hs_t3 H1, hs_r3 H1, hs_w3 H1, hs_l3 H1, hs_t14 H1, hs_r14 H1, hs_w14 H1, hs_l14 H1, hs_t15 H1, hs_r15 H1, hs_w15 H1, hs_l15 H1, hs_ob4 H1, hs_g4_0 H1, hs_t5 H1, hs_r5 H1, hs_w5 H1, hs_l5 H1, hs_g4_1 H1, hs_t6 H1, hs_r6 H1, hs_w6 H1, hs_l6 H1, hs_g4_2 H1, hs_t7 H1, hs_r7 H1, hs_w7 H1, hs_l7 H1, hs_g4_3 H1, hs_t8 H1, hs_r8 H1, hs_w8 H1, hs_l8 H1, hs_ob9 H1, hs_g9_0 H1, hs_t10 H1, hs_r10 H1, hs_w10 H1, hs_l10 H1, hs_g9_1 H1, hs_t11 H1, hs_r11 H1, hs_w11 H1, hs_l11 H1, hs_g9_2 H1, hs_t12 H1, hs_r12 H1, hs_w12 H1, hs_l12 H1, hs_g9_3 H1, hs_t13 H1, hs_r13 H1, hs_w13 H1, hs_l13 H1, hs_ob16 H1, hs_g16 H1, hs_t17 H1, hs_r17 H1, hs_w17 H1, hs_l17 H1, hs_ob5 H1, hs_g50 H1, hs_g51 H1, hs_tu6 H1, hs_ru6 H1, hs_wu6 H1, hs_lu6 H1, hs_tu7 H1, hs_ru7 H1, hs_wu7 H1, hs_lu7 H1, hs_ob H2, hs_g0 H2, hs_g1 H2, hs_g2 H2, hs_g3 H2, hs_g4 H2, hs_g5 H2, hs_g6 H2, hs_g7 H2, hs_g8 H2, hs_t1 H2, hs_r1 H2, hs_w1 H2, hs_l1 H2, hs_t2 H2, hs_r2 H2, hs_w2 H2, hs_l2 H2, hs_t3 H2, hs_r3 H2, hs_w3 H2, hs_l3 H2, hs_t14 H2, hs_r14 H2, hs_w14 H2, hs_l14 H2, hs_t15 H2, hs_r15 H2, hs_w15 H2, hs_l15 H2, hs_ob4 H2, hs_g4_0 H2, hs_t5 H2, hs_r5 H2, hs_w5 H2, hs_l5 H2, hs_g4_1 H2, hs_t6 H2, hs_r6 H2, hs_w6 H2, hs_l6 H2, hs_g4_2 H2, hs_t7 H2, hs_r7 H2, hs_w7 H2, hs_l7 H2, hs_g4_3 H2, hs_t8 H2, hs_r8 H2, hs_w8 H2, hs_l8 H2, hs_ob9 H2, hs_g9_0 H2, hs_t10 H2, hs_r10 H2, hs_w10 H2, hs_l10 H2, hs_g9_1 H2, hs_t11 H2, hs_r11 H2, hs_w11 H2, hs_l11 H2, hs_g9_2 H2, hs_t12 H2, hs_r12 H2, hs_w12 H2, hs_l12 H2, hs_g9_3 H2, hs_t13 H2, hs_r13 H2, hs_w13 H2, hs_l13 H2, hs_ob16 H2, hs_g16 H2, hs_t17 H2, hs_r17 H2, hs_w17 H2, hs_l17 H2, hs_ob5 H2, hs_g50 H2, hs_g51 H2, hs_tu6 H2, hs_ru6 H2, hs_wu6 H2, hs_lu6 H2, hs_tu7 H2, hs_ru7 H2, hs_wu7 H2, hs_lu7 H2, c1, c2, c3, cp_cpy, gi_san, e2, e3, c6, c7, c8]
  · simp (disch := omega) only [gi_san, giM_un]
    rw [F3.2 a (by omega), F2.2 a (by omega), g1 a (by omega) (by omega) (by omega)]
  · simp (disch := omega) only [gi_san, giM_un]
    rw [F3.2 (d + 1) (by omega), F3.2 (d + 2) (by omega), F3.2 (d + 3) (by omega), F3.2 (d + 7) (by omega), F3.2 (d + 8) (by omega), F2.2 (d + 1) (by omega), F2.2 (d + 2) (by omega), F2.2 (d + 3) (by omega)]
    refine ⟨(G1 k hk).1, (G1 k hk).2.1, (G1 k hk).2.2, (B2 k hk).1.trans ?_, (B2 k hk).2.trans ?_⟩
    · rw [g1 (s + 4 + 3) (by omega) (by omega) (by omega)]
    · rw [g1 (s + 4 + 4) (by omega) (by omega) (by omega)]
  · simp (disch := omega) only [gi_san, giM_un]
    rw [F3.2 (d + 5) (by omega), F3.2 (d + 6) (by omega)]
    refine ⟨(A2 k hk).1.trans ?_, (A2 k hk).2.trans ?_⟩
    · rw [g1 (s + 4 + 1) (by omega) (by omega) (by omega)]
    · rw [g1 (s + 4 + 2) (by omega) (by omega) (by omega)]
  · simp (disch := omega) only [gi_san, giM_un]
    refine ⟨(A3 k hk).1.trans ?_, (A3 k hk).2.trans ?_⟩
    · rw [F2.2 (s + 9 + 1) (by omega), g1 (s + 9 + 1) (by omega) (by omega) (by omega)]
    · rw [F2.2 (s + 9 + 2) (by omega), g1 (s + 9 + 2) (by omega) (by omega) (by omega)]
  · simp (disch := omega) only [gi_san, giM_un]
    refine ⟨(B3 k hk).1.trans ?_, (B3 k hk).2.trans ?_⟩
    · rw [F2.2 (s + 9 + 3) (by omega), g1 (s + 9 + 3) (by omega) (by omega) (by omega)]
    · rw [F2.2 (s + 9 + 4) (by omega), g1 (s + 9 + 4) (by omega) (by omega) (by omega)]
  · simp (disch := omega) only [gi_san, giM_un, gi_sas, cpN_lt hk]
    rw [F3.2 (s + 14) (by omega), F2.2 (s + 14) (by omega), g1 (s + 14) (by omega) (by omega) (by omega), F3.2 (s + 15) (by omega), F2.2 (s + 15) (by omega), g1 (s + 15) (by omega) (by omega) (by omega)]
    exact ⟨rfl, rfl⟩
  · simp (disch := omega) only [gi_san, giM_un, gi_sas, cpN_lt hk]
    rw [F3.2 (s + 17) (by omega), F2.2 (s + 17) (by omega), g1 (s + 17) (by omega) (by omega) (by omega)]
  · rw [giM_ud, ud_s, F3.2 (s + 16) (by omega), F2.2 (s + 16) (by omega), g1 (s + 16) (by omega) (by omega) (by omega)]
theorem cCopy (C : CC M s ρ β S) (V : Inv ρ β S) (H2 : HS M d) (hd : s + 17 < d ∨ d + 17 < s) : ∃ M', fH_copyFrom d s M = some M' ∧ Fr M M' (d + 1) (d + 17) ∧ CC M' d ρ β S := by
  obtain ⟨M', e, F, a1, a2, a3, a4, a5, a6, a7⟩ := cpH_ok C.1 H2 hd
  have hb2 := hs_b H2
  refine ⟨M', e, F, ?_⟩
  obtain ⟨H, R, hR, C1, C2, C3, C4, C5, n, n1, n2, n3, n4⟩ := C
  refine ⟨HS_2 F.1 H2, RuC_Fr R F (by omega), hR, fun p hp => ?_, ?_, ?_, fun p b hp hb hh => ?_, fun t ht => ?_, n, n1, ?_, n3, fun i hi => ?_⟩
  · obtain ⟨b1, b2, b3, -, b4⟩ := a1 p hp
    rw [b1, b2, b3, b4]
    exact C1 p hp
  · exact ChR_cp C2 (fun k hk => a2 k hk) (fun k hk => ⟨(a1 k hk).2.2.2.1, (a1 k hk).2.2.2.2⟩)
  · exact ChR_cp C3 (fun k hk => a3 k hk) (fun k hk => a4 k hk)
  · have hc := cut_le hR V.1 hp
    rw [(a4 (40 * p + b) (by omega)).2]
    exact C4 p b hp hb hh
  · rw [(a5 t ht).1, (a5 t ht).2]
    exact C5 t ht
  · rw [a7]; exact n2
  · rw [a6 _ (Nat.mod_lt _ (by omega))]
    exact n4 i hi
end CP
/-! copies of the reference -/
def mx (M : Mem) (dst off src so k : Nat) : Nat → Int32 := fun i => if off ≤ i ∧ i < off + k then giM M src (so + (i - off)) else giM M dst i
theorem mx_0 (M : Mem) (dst off src so : Nat) : saM M dst (mx M dst off src so 0) = M := by
  have e : mx M dst off src so 0 = giM M dst := by
    funext i
    exact if_neg (by omega)
  rw [e, saM_id]
theorem mx_s {M : Mem} {dst off src so k : Nat} (h : src ≠ dst) : siM (saM M dst (mx M dst off src so k)) dst (off + k) (giM (saM M dst (mx M dst off src so k)) src (so + k)) = saM M dst (mx M dst off src so (k + 1)) := by
  rw [si_sa, sa_sa, gi_sas, gi_san h]
  congr 1
  funext i
  unfold mx
  by_cases e : i = off + k
  · rw [ud_e e, if_pos (by omega), e]
    congr 1
    omega
  · rw [ud_n _ _ e]
    by_cases e2 : off ≤ i ∧ i < off + k
    · rw [if_pos e2, if_pos (by omega)]
    · rw [if_neg e2, if_neg (by omega)]
theorem RW_cg {N N' : Nat → Int32} {S : HSt} (W : Wd S) (h : RW N S) (e : ∀ i, i < 3893 → N' i = N i) : RW N' S := by
  obtain ⟨h1, h2, h3, h4, h5⟩ := h
  refine ⟨fun p hp => ?_, fun l hl => Rw_congr (h2 l hl) (fun i i1 i2 => e i ?_), fun q hq => Rw_congr (h3 q hq) (fun i i1 i2 => e i ?_), fun t ht => ?_, ?_⟩
  · rw [e _ (by omega), e _ (by omega), e _ (by omega)]
    refine ⟨(h1 p hp).1, (h1 p hp).2.1, (h1 p hp).2.2.1, fun b hb => ?_⟩
    rw [e _ (by omega)]
    exact (h1 p hp).2.2.2 b hb
  · have := la_rg hl
    have := W.1 l hl
    omega
  · have := W.2.1 q hq
    unfold qa at i1 i2
    omega
  · rw [e _ (by omega), e _ (by omega)]
    exact h4 t ht
  · have hl := W.2.2
    refine ⟨(e _ (by omega)).trans h5.1, fun i hi => ?_⟩
    rw [e _ (by omega), e _ (by omega), e _ (by omega)]
    exact h5.2 i hi
section CM
variable {M : Mem} {ρ : Rul} {β : Nat} {S : HSt} {m : Nat}
/-- a copy of the reference's, cell by cell -/
theorem cpL {R : Type} {L : Nat → Nat → Mem → Option R} {dst off src so n f : Nat} (hne : src ≠ dst) (hs : ∀ f k M', M'.2 = M.2 → (∀ a, a ≠ dst → giM M' a = giM M a) → k < n → L (f + 1) k M' = L f (k + 1) (siM M' dst (off + k) (giM M' src (so + k)))) (hf : n < f) : L f 0 M = L (f - n) n (saM M dst (mx M dst off src so n)) := by
  have key : ∀ k, k ≤ n → L f 0 M = L (f - k) k (saM M dst (mx M dst off src so k)) := by
    intro k
    induction k with
    | zero => intro _; rw [mx_0]; rfl
    | succ k ih =>
      intro hk
      rw [ih (by omega), show f - k = (f - (k + 1)) + 1 by omega, hs _ k (saM M dst (mx M dst off src so k)) rfl (fun a ha => gi_san ha _) (by omega), mx_s hne]
  exact key n (Nat.le_refl _)
theorem mkp_loop (H : MS M) (hm : m < 40) (ha : giM M 1003 25 = nI m) : LM_keep_53 1000000 1003 (nI 0) M = some (siM (saM M 1018 (mx M 1018 (3893 * m) 1011 0 3893)) 1003 25 (nI (m + 1))) := by
  have e := cpL (M := M) (L := fun f k M => LM_keep_53 f 1003 (nI k) M) (dst := 1018) (off := 3893 * m) (src := 1011) (so := 0) (n := 3893) (f := 1000000) (by omega) (fun f k M' s hg hk => by
    have ha' : giM M' 1003 25 = nI m := by rw [hg 1003 (by omega)]; exact ha
    show BM_keep_53 (LM_keep_53 f) 1003 (nI k) M' = LM_keep_53 f 1003 (nI (k + 1)) (siM M' 1018 (3893 * m + k) (giM M' 1011 (0 + k)))
    rw [Nat.zero_add]
    simp (disch := omega) only [BM_keep_53, gd1, bs1, ↓reduceIte, d_nz, d_nn, or_true, true_or, or_false, false_or, decide_true, Sum.elim_inl, Sum.elim_inr, ↓l_m1, l_0, l_1, l_2, l_3, l_4, l_5, l_6, l_7, l_8, l_9, l_10, l_16, l_17, l_18, l_20, l_23, l_24, l_30, l_31, l_32, l_39, l_40, l_41, l_48, l_57, l_58, l_59, l_60, l_63, l_90, l_97, l_98, l_99, l_100, l_102, l_103, l_104, l_107, l_109, l_112, l_115, l_116, l_117, l_120, l_122, l_126, l_166, l_180, l_240, l_255, l_640, l_999, l_2656, l_3064, l_3704, l_3708, l_3712, l_3713, l_3893, l_155720, l_1000000, n_ltT, n_ltF, n_leT, n_leF, n_eqT, n_eqF, n_eqm, n_eqm', n_mltn, n_mlen, n_nltm, n_nlem, n_mltm, n_mlem, n_add, n_mul, n_sub, n_subm, n_cl, n_ofNat, n_div, n_mod, obM_si, rdI_si, wrI_si, lnI_si, grM_si', tgM_si', obM_sa, rdI_sa, wrI_sa, lnI_sa, grM_sa', tgM_sa', obM_2 s, rdI_2 s, wrI_2 s, lnI_2 s, grM_2 s, tgM_2 s, ms_ob H, ms_g1 H, ms_g5 H, ms_g6 H, ms_g8 H, ms_g9 H, ms_g11 H, ms_g12 H, ms_g15 H, ms_g16 H, ms_g18 H, ms_g19 H, ms_g20 H, ms_g22 H, ms_g24 H, ms_g27 H, ms_g32 H, ms_g21 H, ms_t1 H, ms_r1 H, ms_w1 H, ms_l1 H, ms_t5 H, ms_r5 H, ms_w5 H, ms_l5 H, ms_t6 H, ms_r6 H, ms_w6 H, ms_l6 H, ms_t8 H, ms_r8 H, ms_w8 H, ms_l8 H, ms_t9 H, ms_r9 H, ms_w9 H, ms_l9 H, ms_t11 H, ms_r11 H, ms_w11 H, ms_l11 H, ms_t12 H, ms_r12 H, ms_w12 H, ms_l12 H, ms_t15 H, ms_r15 H, ms_w15 H, ms_l15 H, ms_t16 H, ms_r16 H, ms_w16 H, ms_l16 H, ms_t18 H, ms_r18 H, ms_w18 H, ms_l18 H, ms_t19 H, ms_r19 H, ms_w19 H, ms_l19 H, ms_t20 H, ms_r20 H, ms_w20 H, ms_l20 H, ms_t22 H, ms_r22 H, ms_w22 H, ms_l22 H, ms_t24 H, ms_r24 H, ms_w24 H, ms_l24 H, ms_t27 H, ms_r27 H, ms_w27 H, ms_l27 H, ms_t32 H, ms_r32 H, ms_w32 H, ms_l32 H, ms_b H, ha']) (by omega)
  have e : LM_keep_53 1000000 1003 (nI 0) M = LM_keep_53 996107 1003 (nI 3893) (saM M 1018 (mx M 1018 (3893 * m) 1011 0 3893)) := e
  rw [e]
  generalize hN : mx M 1018 (3893 * m) 1011 0 3893 = N
  have sN : (saM M 1018 N).2 = M.2 := rfl
  have ha' : giM (saM M 1018 N) 1003 25 = nI m := by rw [gi_san (by omega)]; exact ha
  have key : ∀ f, LM_keep_53 (f + 1) 1003 (nI 3893) (saM M 1018 N) = some (siM (saM M 1018 N) 1003 25 (nI (m + 1))) := fun f => by
    show BM_keep_53 (LM_keep_53 f) 1003 (nI 3893) (saM M 1018 N) = _
    simp (disch := omega) only [BM_keep_53, gd1n, bs1n, ↓reduceIte, d_nz, d_nn, or_true, true_or, or_false, false_or, decide_true, Sum.elim_inl, Sum.elim_inr, ↓l_m1, l_0, l_1, l_2, l_3, l_4, l_5, l_6, l_7, l_8, l_9, l_10, l_16, l_17, l_18, l_20, l_23, l_24, l_30, l_31, l_32, l_39, l_40, l_41, l_48, l_57, l_58, l_59, l_60, l_63, l_90, l_97, l_98, l_99, l_100, l_102, l_103, l_104, l_107, l_109, l_112, l_115, l_116, l_117, l_120, l_122, l_126, l_166, l_180, l_240, l_255, l_640, l_999, l_2656, l_3064, l_3704, l_3708, l_3712, l_3713, l_3893, l_155720, l_1000000, n_ltT, n_ltF, n_leT, n_leF, n_eqT, n_eqF, n_eqm, n_eqm', n_mltn, n_mlen, n_nltm, n_nlem, n_mltm, n_mlem, n_add, n_mul, n_sub, n_subm, n_cl, n_ofNat, n_div, n_mod, obM_2 sN, rdI_2 sN, wrI_2 sN, lnI_2 sN, grM_2 sN, tgM_2 sN, ms_ob H, ms_g1 H, ms_g5 H, ms_g6 H, ms_g8 H, ms_g9 H, ms_g11 H, ms_g12 H, ms_g15 H, ms_g16 H, ms_g18 H, ms_g19 H, ms_g20 H, ms_g22 H, ms_g24 H, ms_g27 H, ms_g32 H, ms_g21 H, ms_t1 H, ms_r1 H, ms_w1 H, ms_l1 H, ms_t5 H, ms_r5 H, ms_w5 H, ms_l5 H, ms_t6 H, ms_r6 H, ms_w6 H, ms_l6 H, ms_t8 H, ms_r8 H, ms_w8 H, ms_l8 H, ms_t9 H, ms_r9 H, ms_w9 H, ms_l9 H, ms_t11 H, ms_r11 H, ms_w11 H, ms_l11 H, ms_t12 H, ms_r12 H, ms_w12 H, ms_l12 H, ms_t15 H, ms_r15 H, ms_w15 H, ms_l15 H, ms_t16 H, ms_r16 H, ms_w16 H, ms_l16 H, ms_t18 H, ms_r18 H, ms_w18 H, ms_l18 H, ms_t19 H, ms_r19 H, ms_w19 H, ms_l19 H, ms_t20 H, ms_r20 H, ms_w20 H, ms_l20 H, ms_t22 H, ms_r22 H, ms_w22 H, ms_l22 H, ms_t24 H, ms_r24 H, ms_w24 H, ms_l24 H, ms_t27 H, ms_r27 H, ms_w27 H, ms_l27 H, ms_t32 H, ms_r32 H, ms_w32 H, ms_l32 H, ms_b H, ha']
  exact key 996106
def sh3 (k : Nat) (N : Nat → Int32) : Nat → Int32 := fun i => if i + 3893 < k then N (i + 3893) else N i
theorem mks_loop : ∀ (d k f : Nat) (M : Mem), MS M → k + d = 155720 → 3893 ≤ k → d < f → LM_keep_13 f 1003 (nI k) M = some (saM M 1018 (fun i => if k ≤ i + 3893 ∧ i + 3893 < 155720 then giM M 1018 (i + 3893) else giM M 1018 i)) := by
  intro d
  induction d with
  | zero =>
    intro k f M H hk h3 hf
    obtain ⟨g, rfl⟩ : ∃ g, f = g + 1 := ⟨f - 1, by omega⟩
    have e : (fun i => if k ≤ i + 3893 ∧ i + 3893 < 155720 then giM M 1018 (i + 3893) else giM M 1018 i) = giM M 1018 := by
      funext i
      exact if_neg (by omega)
    rw [e, saM_id]
    show BM_keep_13 (LM_keep_13 g) 1003 (nI k) M = _
    simp (disch := omega) only [BM_keep_13, gd1, bs1, ↓reduceIte, d_nz, d_nn, or_true, true_or, or_false, false_or, decide_true, Sum.elim_inl, Sum.elim_inr, ↓l_m1, l_0, l_1, l_2, l_3, l_4, l_5, l_6, l_7, l_8, l_9, l_10, l_16, l_17, l_18, l_20, l_23, l_24, l_30, l_31, l_32, l_39, l_40, l_41, l_48, l_57, l_58, l_59, l_60, l_63, l_90, l_97, l_98, l_99, l_100, l_102, l_103, l_104, l_107, l_109, l_112, l_115, l_116, l_117, l_120, l_122, l_126, l_166, l_180, l_240, l_255, l_640, l_999, l_2656, l_3064, l_3704, l_3708, l_3712, l_3713, l_3893, l_155720, l_1000000, n_ltT, n_ltF, n_leT, n_leF, n_eqT, n_eqF, n_eqm, n_eqm', n_mltn, n_mlen, n_nltm, n_nlem, n_mltm, n_mlem, n_add, n_mul, n_sub, n_subm, n_cl, n_ofNat, n_div, n_mod, obM_si, rdI_si, wrI_si, lnI_si, grM_si', tgM_si', obM_sa, rdI_sa, wrI_sa, lnI_sa, grM_sa', tgM_sa']
  | succ d ih =>
    intro k f M H hk h3 hf
    obtain ⟨g, rfl⟩ : ∃ g, f = g + 1 := ⟨f - 1, by omega⟩
    have e := ih (k + 1) g (siM M 1018 (k - 3893) (giM M 1018 k)) (MS_2 rfl H) (by omega) (by omega) (by omega)
    show BM_keep_13 (LM_keep_13 g) 1003 (nI k) M = _
    have e0 : BM_keep_13 (LM_keep_13 g) 1003 (nI k) M = LM_keep_13 g 1003 (nI (k + 1)) (siM M 1018 (k - 3893) (giM M 1018 k)) := by
      simp (disch := omega) only [BM_keep_13, gd1, bs1, ↓reduceIte, d_nz, d_nn, or_true, true_or, or_false, false_or, decide_true, Sum.elim_inl, Sum.elim_inr, ↓l_m1, l_0, l_1, l_2, l_3, l_4, l_5, l_6, l_7, l_8, l_9, l_10, l_16, l_17, l_18, l_20, l_23, l_24, l_30, l_31, l_32, l_39, l_40, l_41, l_48, l_57, l_58, l_59, l_60, l_63, l_90, l_97, l_98, l_99, l_100, l_102, l_103, l_104, l_107, l_109, l_112, l_115, l_116, l_117, l_120, l_122, l_126, l_166, l_180, l_240, l_255, l_640, l_999, l_2656, l_3064, l_3704, l_3708, l_3712, l_3713, l_3893, l_155720, l_1000000, n_ltT, n_ltF, n_leT, n_leF, n_eqT, n_eqF, n_eqm, n_eqm', n_mltn, n_mlen, n_nltm, n_nlem, n_mltm, n_mlem, n_add, n_mul, n_sub, n_subm, n_cl, n_ofNat, n_div, n_mod, obM_si, rdI_si, wrI_si, lnI_si, grM_si', tgM_si', obM_sa, rdI_sa, wrI_sa, lnI_sa, grM_sa', tgM_sa', ms_ob H, ms_g1 H, ms_g5 H, ms_g6 H, ms_g8 H, ms_g9 H, ms_g11 H, ms_g12 H, ms_g15 H, ms_g16 H, ms_g18 H, ms_g19 H, ms_g20 H, ms_g22 H, ms_g24 H, ms_g27 H, ms_g32 H, ms_g21 H, ms_t1 H, ms_r1 H, ms_w1 H, ms_l1 H, ms_t5 H, ms_r5 H, ms_w5 H, ms_l5 H, ms_t6 H, ms_r6 H, ms_w6 H, ms_l6 H, ms_t8 H, ms_r8 H, ms_w8 H, ms_l8 H, ms_t9 H, ms_r9 H, ms_w9 H, ms_l9 H, ms_t11 H, ms_r11 H, ms_w11 H, ms_l11 H, ms_t12 H, ms_r12 H, ms_w12 H, ms_l12 H, ms_t15 H, ms_r15 H, ms_w15 H, ms_l15 H, ms_t16 H, ms_r16 H, ms_w16 H, ms_l16 H, ms_t18 H, ms_r18 H, ms_w18 H, ms_l18 H, ms_t19 H, ms_r19 H, ms_w19 H, ms_l19 H, ms_t20 H, ms_r20 H, ms_w20 H, ms_l20 H, ms_t22 H, ms_r22 H, ms_w22 H, ms_l22 H, ms_t24 H, ms_r24 H, ms_w24 H, ms_l24 H, ms_t27 H, ms_r27 H, ms_w27 H, ms_l27 H, ms_t32 H, ms_r32 H, ms_w32 H, ms_l32 H, ms_b H]
    rw [e0, e, saM_si, giM_ud]
    congr 2
    funext i
    by_cases h1 : k + 1 ≤ i + 3893 ∧ i + 3893 < 155720
    · rw [if_pos h1, if_pos (by omega), ud_n _ _ (by omega)]
    · rw [if_neg h1]
      by_cases h2 : i = k - 3893
      · rw [if_pos (by omega), h2, ud_s]
        congr 1
        omega
      · rw [if_neg (by omega), ud_n _ _ h2]
end CM
