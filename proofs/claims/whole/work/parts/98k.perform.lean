/-! PERFORM -/
section PF
variable {M M1 M2 : Mem} {ρ : Rul} {β : Nat} {S : HSt} {sn n : Nat} {v : Int32}
theorem isS_F (A : SHP M) (s2 : giM M 1 5 = nI sn) (hv : v < nI 0 ∨ nI sn ≤ v) : fA_isScript 1 v M = some (nI 0, M) := by
  by_cases h0 : v < nI 0
  · simp (disch := omega) only [fA_isScript, BA_isScript_16, BA_isScript_17, gd1, bs1, ↓reduceIte, d_nz, d_nn, or_true, true_or, or_false, false_or, decide_true, Sum.elim_inl, Sum.elim_inr, ↓l_m1, l_0, l_1, l_2, l_3, l_4, l_5, l_6, l_7, l_8, l_9, l_10, l_16, l_17, l_18, l_20, l_23, l_24, l_30, l_31, l_32, l_39, l_40, l_41, l_48, l_57, l_58, l_59, l_60, l_63, l_90, l_97, l_98, l_99, l_100, l_102, l_103, l_104, l_107, l_109, l_112, l_115, l_116, l_117, l_120, l_122, l_126, l_166, l_180, l_240, l_255, l_640, l_999, l_2656, l_3064, l_3704, l_3708, l_3712, l_3713, l_3893, l_155720, l_1000000, n_ltT, n_ltF, n_leT, n_leF, n_eqT, n_eqF, n_eqm, n_eqm', n_mltn, n_mlen, n_nltm, n_nlem, n_mltm, n_mlem, n_add, n_mul, n_sub, n_subm, n_cl, n_ofNat, n_div, n_mod, obM_si, rdI_si, wrI_si, lnI_si, grM_si', tgM_si', obM_sa, rdI_sa, wrI_sa, lnI_sa, grM_sa', tgM_sa', h0]
  · have h1 := hv.resolve_left h0
    simp (disch := omega) only [fA_isScript, BA_isScript_16, BA_isScript_17, gd1, bs1, ↓reduceIte, d_nz, d_nn, or_true, true_or, or_false, false_or, decide_true, Sum.elim_inl, Sum.elim_inr, ↓l_m1, l_0, l_1, l_2, l_3, l_4, l_5, l_6, l_7, l_8, l_9, l_10, l_16, l_17, l_18, l_20, l_23, l_24, l_30, l_31, l_32, l_39, l_40, l_41, l_48, l_57, l_58, l_59, l_60, l_63, l_90, l_97, l_98, l_99, l_100, l_102, l_103, l_104, l_107, l_109, l_112, l_115, l_116, l_117, l_120, l_122, l_126, l_166, l_180, l_240, l_255, l_640, l_999, l_2656, l_3064, l_3704, l_3708, l_3712, l_3713, l_3893, l_155720, l_1000000, n_ltT, n_ltF, n_leT, n_leF, n_eqT, n_eqF, n_eqm, n_eqm', n_mltn, n_mlen, n_nltm, n_nlem, n_mltm, n_mlem, n_add, n_mul, n_sub, n_subm, n_cl, n_ofNat, n_div, n_mod, obM_si, rdI_si, wrI_si, lnI_si, grM_si', tgM_si', obM_sa, rdI_sa, wrI_sa, lnI_sa, grM_sa', tgM_sa', as_o1 A, as_g1_0 A, as_g1_1 A, as_g1_2 A, as_g1_3 A, as_g1_4 A, as_g1_6 A, as_g1_7 A, as_g1_8 A, as_g1_9 A, as_g1_11 A, as_g1_12 A, as_g1_13 A, as_g1_14 A, as_o2 A, as_g2_0 A, as_t3 A, as_r3 A, as_w3 A, as_l3 A, as_o4 A, as_g4_0 A, as_o5 A, as_g5_0 A, as_g5_1 A, as_t6 A, as_r6 A, as_w6 A, as_l6 A, as_t7 A, as_r7 A, as_w7 A, as_l7 A, as_o8 A, as_g8_0 A, as_g8_1 A, as_t9 A, as_r9 A, as_w9 A, as_l9 A, as_t10 A, as_r10 A, as_w10 A, as_l10 A, as_o28 A, as_g28_0 A, as_g28_1 A, as_g28_2 A, as_t29 A, as_r29 A, as_w29 A, as_l29 A, as_t30 A, as_r30 A, as_w30 A, as_l30 A, as_t31 A, as_r31 A, as_w31 A, as_l31 A, as_o50 A, as_g50_0 A, as_t790 A, as_r790 A, as_w790 A, as_l790 A, as_o791 A, as_g791_0 A, as_g791_1 A, as_g791_2 A, as_o999 A, as_g999_0 A, as_g999_1 A, as_g999_2 A, as_t1000 A, as_r1000 A, as_w1000 A, as_l1000 A, as_t1001 A, as_r1001 A, as_w1001 A, as_l1001 A, as_t1002 A, as_r1002 A, as_w1002 A, as_l1002 A, as_x11 A, as_x51 A, as_x792 A, as_x793 A, as_x794 A, as_t792 A, as_ln792 A, as_s11 A, as_so A, as_sg0 A, as_sg1 A, as_sg2 A, as_sr1 A, as_sr2 A, as_sr3 A, as_p51 A, s2, h0, h1]
theorem isS_T (A : SHP M) (s2 : giM M 1 5 = nI sn) (hn : n < sn) (h4 : sn ≤ 4) : fA_isScript 1 (nI n) M = some (nI 1, M) := by
  simp (disch := omega) only [fA_isScript, BA_isScript_16, BA_isScript_17, gd1, bs1, ↓reduceIte, d_nz, d_nn, or_true, true_or, or_false, false_or, decide_true, Sum.elim_inl, Sum.elim_inr, ↓l_m1, l_0, l_1, l_2, l_3, l_4, l_5, l_6, l_7, l_8, l_9, l_10, l_16, l_17, l_18, l_20, l_23, l_24, l_30, l_31, l_32, l_39, l_40, l_41, l_48, l_57, l_58, l_59, l_60, l_63, l_90, l_97, l_98, l_99, l_100, l_102, l_103, l_104, l_107, l_109, l_112, l_115, l_116, l_117, l_120, l_122, l_126, l_166, l_180, l_240, l_255, l_640, l_999, l_2656, l_3064, l_3704, l_3708, l_3712, l_3713, l_3893, l_155720, l_1000000, n_ltT, n_ltF, n_leT, n_leF, n_eqT, n_eqF, n_eqm, n_eqm', n_mltn, n_mlen, n_nltm, n_nlem, n_mltm, n_mlem, n_add, n_mul, n_sub, n_subm, n_cl, n_ofNat, n_div, n_mod, obM_si, rdI_si, wrI_si, lnI_si, grM_si', tgM_si', obM_sa, rdI_sa, wrI_sa, lnI_sa, grM_sa', tgM_sa', as_o1 A, as_g1_0 A, as_g1_1 A, as_g1_2 A, as_g1_3 A, as_g1_4 A, as_g1_6 A, as_g1_7 A, as_g1_8 A, as_g1_9 A, as_g1_11 A, as_g1_12 A, as_g1_13 A, as_g1_14 A, as_o2 A, as_g2_0 A, as_t3 A, as_r3 A, as_w3 A, as_l3 A, as_o4 A, as_g4_0 A, as_o5 A, as_g5_0 A, as_g5_1 A, as_t6 A, as_r6 A, as_w6 A, as_l6 A, as_t7 A, as_r7 A, as_w7 A, as_l7 A, as_o8 A, as_g8_0 A, as_g8_1 A, as_t9 A, as_r9 A, as_w9 A, as_l9 A, as_t10 A, as_r10 A, as_w10 A, as_l10 A, as_o28 A, as_g28_0 A, as_g28_1 A, as_g28_2 A, as_t29 A, as_r29 A, as_w29 A, as_l29 A, as_t30 A, as_r30 A, as_w30 A, as_l30 A, as_t31 A, as_r31 A, as_w31 A, as_l31 A, as_o50 A, as_g50_0 A, as_t790 A, as_r790 A, as_w790 A, as_l790 A, as_o791 A, as_g791_0 A, as_g791_1 A, as_g791_2 A, as_o999 A, as_g999_0 A, as_g999_1 A, as_g999_2 A, as_t1000 A, as_r1000 A, as_w1000 A, as_l1000 A, as_t1001 A, as_r1001 A, as_w1001 A, as_l1001 A, as_t1002 A, as_r1002 A, as_w1002 A, as_l1002 A, as_x11 A, as_x51 A, as_x792 A, as_x793 A, as_x794 A, as_t792 A, as_ln792 A, as_s11 A, as_so A, as_sg0 A, as_sg1 A, as_sg2 A, as_sr1 A, as_sr2 A, as_sr3 A, as_p51 A, s2]
theorem mS_u (A : SHP M) (U : UT M) : fM_isScript 1003 v M = some (nI 0, M) := by
  have H := MS_of A
  have e := u_arena A U
  unfold fM_isScript BM_isScript_25 BM_isScript_26
  rw [ms_ob H, gd1n, e, bs1n, if_pos (show ((nI 0, M) : Int32 × Mem).1 = 0 from rfl), bd00, gd1n]
  rfl
theorem mS_F (C : RC M ρ S) (ea : fM_isArena 1003 M = some (nI 1, M)) (s3 : giM M 1003 13 = nI sn) (h4 : sn ≤ 4) (hv : v < nI 0 ∨ nI sn ≤ v) : fM_isScript 1003 v M = some (nI 0, M) := by
  have H := C.1
  have e : fM_in v 0 (nI sn - 1) M = some (nI 0, M) := in_F2 (by omega) hv
  unfold fM_isScript BM_isScript_25 BM_isScript_26
  rw [ms_ob H, gd1n, ea, bs1n, if_neg (show ¬ ((nI 1, M) : Int32 × Mem).1 = 0 from (show ¬ nI 1 = 0 by decide)), ms_ob H, gd1n, s3, e, bs1n, if_pos (show ((nI 0, M) : Int32 × Mem).1 = 0 from rfl), bd00, gd1n]
  rfl
theorem mS_T (C : RC M ρ S) (ea : fM_isArena 1003 M = some (nI 1, M)) (s3 : giM M 1003 13 = nI sn) (h4 : sn ≤ 4) (hn : n < sn) : fM_isScript 1003 (nI n) M = some (nI 1, M) := by
  have H := C.1
  have e : fM_in (nI n) 0 (nI sn - 1) M = some (nI 1, M) := in_T2 hn (by omega)
  unfold fM_isScript BM_isScript_26
  rw [ms_ob H, gd1n, ea, bs1n, if_neg (show ¬ ((nI 1, M) : Int32 × Mem).1 = 0 from (show ¬ nI 1 = 0 by decide)), ms_ob H, gd1n, s3, e, bs1n, if_neg (show ¬ ((nI 1, M) : Int32 × Mem).1 = 0 from (show ¬ nI 1 = 0 by decide)), bd01, gd1n]
  rfl
theorem PS_999 (A : SHP M) : PSh M 999 := ⟨⟨by omega, by omega⟩, as_o999 A, ⟨as_g999_0 A, as_g999_1 A, as_g999_2 A⟩, as_a1000 A, as_a1001 A, as_a1002 A⟩
theorem SS_of (A : SHP M) (hn : n < 4) : SSh M (12 + 4 * n) := ⟨by omega, as_so A hn, ⟨as_sg A hn (k := 0) (by omega), as_sg A hn (k := 1) (by omega), as_sg A hn (k := 2) (by omega)⟩, as_sa A hn (k := 0) (by omega), as_sa A hn (k := 1) (by omega), as_sa A hn (k := 2) (by omega)⟩
/-- the script n on both sides -/
theorem SC_n (sc : SC M) (s2 : giM M 1 5 = nI sn) (h4 : sn ≤ 4) (hn : n < sn) : ∃ sg st, SGO sg st ∧ giM M (12 + 4 * n) 3 = nI st ∧ giM M 1010 n = nI st ∧ (∀ j, j < st → STc M (12 + 4 * n) j (sg j)) ∧ ∀ j, j < st → STm M (3 * (24 * n + j)) (sg j) := by
  obtain ⟨m, h1, h2, h3, h5⟩ := sc
  obtain rfl : m = sn := n_inj (by omega) (by omega) (h2.symm.trans s2)
  obtain ⟨st, a1, a2, a3, a4⟩ := h5 n hn
  obtain ⟨sg, b1, b2⟩ := SC1_sg a3
  refine ⟨sg, st, b1, a1, a2, fun j hj => b2 j hj, fun j hj => ?_⟩
  obtain ⟨c1, c2, c3⟩ := a4 j hj
  obtain ⟨e1, e2, e3⟩ := b2 j hj
  exact ⟨c1.trans e1, c2.trans e2, c3.trans e3⟩
theorem RY_RX (X : RX M M1) : RY M M1 := ⟨X.1, fun a ha => X.2.1 a (by omega) (by omega) (by omega), fun k hk => X.2.2 k (by omega) (by omega)⟩
theorem RY_RQ (X : RQ 0 M M1) : RY M M1 := ⟨X.1, fun a ha => X.2.1 a (by omega) (by omega) (by omega), fun k hk => X.2.2.1 k (by omega) (by omega)⟩
theorem RY_tr (h : RY M M1) (g : RY M1 M2) : RY M M2 := ⟨g.1.trans h.1, fun a ha => (g.2.1 a ha).trans (h.2.1 a ha), fun k hk => (g.2.2 k hk).trans (h.2.2 k hk)⟩
theorem PR_RQ {m : Nat} {T : Nat → HSt} (P : PR M m T) (F : RQ 0 M M1) : PR M1 m T := by
  unfold PR
  rw [F.2.2.1 25 (by omega) (by omega), F.2.1 1018 (by omega) (by omega) (by omega)]
  exact P
theorem a_perform (G : GR M β) (hβ : β < 1900000000) (v : Int32) : ST2 (fA_perform 1 v) (fM_perform 1003 v) M (β + 24) := by
  have G0 := G
  obtain ⟨A, tp, sc, re, U | ⟨ρ, S, D⟩⟩ := G
  · refine ST2_mono (Nat.le_add_right β 24) ?_
    have A1 : SHP (siM M 790 0 (giM M 790 0 + nI 1)) := SHP_790 A
    have H := MS_of A1
    have e2 := mS_u (v := v) A1 (UT_790 U)
    have r := ref_m H (w := 0) (by omega)
    have r0 := ref_c A (w := 0) (by omega)
    refine fin_ref G0 (w := 0) (by omega) ?_ ?_
    · have r0 : fA_refuse 1 0 M = _ := r0
      unfold fA_perform BA_perform_18
      rw [as_o1 A, gd1n, as_g1_2 A, d_nz (by omega), gd1n, as_o5 A, gd1n, u_told A U, bs1n, if_pos (show ((nI 0, M) : Int32 × Mem).1 = 0 from rfl), as_o1 A, gd1n, r0, bs1n]
    · have r : fM_isRefused 1003 0 _ = _ := r
      unfold fM_perform BM_perform_14
      rw [ms_ob H, gd1n, e2, bs1n, if_pos (show ((nI 0, siM M 790 0 (giM M 790 0 + nI 1)) : Int32 × Mem).1 = 0 from rfl), ms_ob H, gd1n, r, bs1n, if_neg (show ¬ ((nI 1, siM (siM M 790 0 (giM M 790 0 + nI 1)) 1012 0 (giM (siM M 790 0 (giM M 790 0 + nI 1)) 1012 0 + nI 1)) : Int32 × Mem).1 = 0 from (show ¬ nI 1 = 0 by decide))]
      rfl
  · obtain ⟨o, m, T, b, S', ho, hm, hb, C, P, I, C', P', I', V, VT, VI⟩ := TD_get D
    have sc0 := sc
    obtain ⟨sn, h4, s2, s3, -⟩ := sc0
    rcases sp v (k := sn) (by omega) with hv | ⟨n, hn, rfl⟩
    · refine ST2_mono (Nat.le_add_right β 24) ?_
      have C1 : RC (siM M 790 0 (giM M 790 0 + nI 1)) ρ S := RC_790 C'
      have A1 : SHP (siM M 790 0 (giM M 790 0 + nI 1)) := SHP_790 A
      have H := C1.1
      have ea := mArena C1
      have e2 := mS_F (v := v) C1 ea (by rw [giM_un (by omega)]; exact s3) h4 hv
      have r := ref_m H (w := 0) (by omega)
      have r0 := ref_c A (w := 0) (by omega)
      refine fin_ref G0 (w := 0) (by omega) ?_ ?_
      · have r0 : fA_refuse 1 0 M = _ := r0
        unfold fA_perform BA_perform_18
        rw [as_o1 A, gd1n, as_g1_2 A, d_nz (by omega), gd1n, as_o5 A, gd1n, told_ok A C, bs1n, if_neg (show ¬ ((nI 1, M) : Int32 × Mem).1 = 0 from (show ¬ nI 1 = 0 by decide)), as_o1 A, gd1n, isS_F A s2 hv, bs1n, if_pos (show ((nI 0, M) : Int32 × Mem).1 = 0 from rfl), as_o1 A, gd1n, r0, bs1n]
      · have r : fM_isRefused 1003 0 _ = _ := r
        unfold fM_perform BM_perform_14
        rw [ms_ob H, gd1n, e2, bs1n, if_pos (show ((nI 0, siM M 790 0 (giM M 790 0 + nI 1)) : Int32 × Mem).1 = 0 from rfl), ms_ob H, gd1n, r, bs1n, if_neg (show ¬ ((nI 1, siM (siM M 790 0 (giM M 790 0 + nI 1)) 1012 0 (giM (siM M 790 0 (giM M 790 0 + nI 1)) 1012 0 + nI 1)) : Int32 × Mem).1 = 0 from (show ¬ nI 1 = 0 by decide))]
        rfl
    · obtain ⟨sg, st, hg, q1, q2, q3, q4⟩ := SC_n sc s2 h4 hn
      have hR := C.2.2.1
      obtain ⟨M1, o', k1, F1, ho', P1⟩ := cKeep A C V.1 P ho hm
      have A1 := SHP_Fr A F1 (by omega)
      have C1 : CC M1 32 ρ β S := CC_Fr C F1 (by omega) (by omega)
      obtain ⟨M2, k2, F2, C2, V2⟩ := cRunW hR (by omega) (by omega) (by omega) hg (PS_999 A1) (SS_of A1 (show n < 4 by omega)) C1 V (by omega) (by rw [F1.2 (12 + 4 * n) (by omega)]; exact q1) (fun j hj => by
        have := q3 j hj
        unfold STc at this ⊢
        rw [F1.2 (12 + 4 * n + 1) (by omega), F1.2 (12 + 4 * n + 2) (by omega), F1.2 (12 + 4 * n + 3) (by omega)]
        exact this)
      have FF : FC M M2 := ⟨F2.1.trans F1.1, fun a ha => by rw [F2.2 a (by omega) (by omega), F1.2 a (by omega)]⟩
      have P2 : PC M2 ρ (β + 24) o' (pm m) (pushT m T S) := ⟨by rw [F2.2 50 (by omega) (by omega)]; exact P1.1, by rw [F2.2 50 (by omega) (by omega)]; exact P1.2.1, fun j hj => CC_mono (by omega) (CC_cg (P1.2.2 j hj) F2.1 (fun a ha => F2.2 a (by omega) (by have := Nat.mod_lt (o' + j) (show 0 < 40 by omega); omega)))⟩
      have gR : ∀ a, 1002 < a → giM M2 a = giM M a := fun a ha => FF.2 a (by omega)
      have R2 : RC M2 ρ S := by
        refine ⟨MS_2 FF.1 C'.1, ?_, hR, by rw [gR 1011 (by omega)]; exact C'.2.2.2⟩
        unfold RuM
        rw [gR 1007 (by omega), gR 1008 (by omega), gR 1003 (by omega)]
        exact C'.2.1
      have Q2 : PR M2 m T := by
        unfold PR
        rw [gR 1003 (by omega), gR 1018 (by omega)]
        exact P'
      have W := Wd_of hR V.1
      obtain ⟨M3, j1, X3, R3, Q3⟩ := mKeep R2 W Q2 hm (fun j hj => Wd_of hR (VT j hj).1)
      have Y3 := RY_RX X3
      obtain ⟨M4, j2, F4', R4, V4⟩ := mRunW (r := true) (sn := n) hR (by omega) hg R3 V (by omega) (by rw [Y3.2.1 1010 (by omega), gR 1010 (by omega)]; exact q2) (fun j hj => by
        have := q4 j hj
        unfold STm at this ⊢
        rw [Y3.2.1 1009 (by omega), gR 1009 (by omega)]
        exact this)
      have j2 : fM_runScript 1003 (nI n) 1 M3 = some (nI (runA ρ true sg st S).1, M4) := j2
      have H2 := R2.1
      have H3 := R3.1
      refine fin_act3 (v := nI (runA ρ true sg st S).1) (Nat.le_add_right β 24) A tp sc re hb I I' VI ?_ FF C2 ho' (pm_le m hm) P2 ?_ (RY_tr Y3 (RY_RQ F4')) R4 (PR_RQ Q3 F4') V2 (pushT_ok hm (fun j hj => OKS_mono (by omega) (VT j hj)) (OKS_mono (by omega) V))
      · unfold fA_perform
        rw [as_o1 A, gd1n, as_g1_2 A, d_nz (by omega), gd1n, as_o5 A, gd1n, told_ok A C, bs1n, if_neg (show ¬ ((nI 1, M) : Int32 × Mem).1 = 0 from (show ¬ nI 1 = 0 by decide)), as_o1 A, gd1n, isS_T A s2 hn h4, bs1n, if_neg (show ¬ ((nI 1, M) : Int32 × Mem).1 = 0 from (show ¬ nI 1 = 0 by decide)), as_o1 A, gd1n, as_g1_8 A, d_nz (by omega), gd1n, as_g1_7 A, d_nz (by omega), gd1n, as_o50 A, gd1n, k1, bs1n, as_o1 A1, gd1n, as_g1_14 A1, d_nz (by omega), gd1n, as_g1_7 A1, d_nz (by omega), gd1n, as_g1_4 A1, d_nz (by omega), gd1n, as_x11 A1 (show n < 4 by omega), gd1n, n_cl (by omega), as_s11 A1 (show n < 4 by omega), d_nz (by omega), gd1n, as_o999 A1, gd1n, k2, bs1n]
      · have ea := mArena R2
        unfold fM_perform BM_perform_14
        rw [ms_ob H2, gd1n, mS_T R2 ea (by rw [gR 1003 (by omega)]; exact s3) h4 hn, bs1n, if_neg (show ¬ ((nI 1, M2) : Int32 × Mem).1 = 0 from (show ¬ nI 1 = 0 by decide)), ms_ob H2, gd1n]
        show ((fM_isRefused 1003 mI M2).bind _) = _
        rw [ref_no, bs1n, if_pos (show ((nI 0, M2) : Int32 × Mem).1 = 0 from rfl), ms_ob H2, gd1n, j1, bs1n, ms_ob H3, gd1n, j2, bs1n]
end PF
