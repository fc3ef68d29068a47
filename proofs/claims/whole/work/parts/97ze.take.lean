/-! AN ARENA BEGINS: the reference -/
section TK
variable {M M1 M2 : Mem} {β : Nat} {f z : Nat → Nat} {k : Nat}
def arR (f : Nat → Nat) (k : Nat) (z : Nat → Nat) : Rul := (f 0, f 1, f 2, f 3, f 4, k, z)
theorem arR_ok (hw : WH k z (f 2)) (hk : k ≤ 6) (hf : ∀ j, loS j ≤ f j ∧ f j ≤ hiS j) (hz : ∀ j, j < k → 1 ≤ z j ∧ z j ≤ 40) : RuOK (arR f k z) := by
  have h0 := hf 0
  have h1 := hf 1
  have h2 := hf 2
  have h3 := hf 3
  have h4 := hf 4
  have e0 : loS 0 = 1 ∧ hiS 0 = 4 := ⟨rfl, rfl⟩
  have e1 : loS 1 = 1 ∧ hiS 1 = 16 := ⟨rfl, rfl⟩
  have e2 : loS 2 = 4 ∧ hiS 2 = 40 := ⟨rfl, rfl⟩
  have e3 : loS 3 = 1 ∧ hiS 3 = 9 := ⟨rfl, rfl⟩
  have e4 : loS 4 = 1 ∧ hiS 4 = 30 := ⟨rfl, rfl⟩
  have hk0 := hw.1
  have ha := (wh_all hk0).1 hw
  refine ⟨⟨?_, ?_, ?_, ?_, ?_, ?_⟩, fun j hj => ⟨(hz j hj).1, (ha j (by omega) hj).1⟩, fun j hj => ?_⟩
  · show 1 ≤ f 0 ∧ f 0 ≤ 4
    omega
  · show 1 ≤ f 1 ∧ f 1 ≤ 16
    omega
  · show 4 ≤ f 2 ∧ f 2 ≤ 40
    omega
  · show 1 ≤ f 3 ∧ f 3 ≤ 9
    omega
  · show 1 ≤ f 4 ∧ f 4 ≤ 30
    omega
  · show 1 ≤ k ∧ k ≤ 6
    omega
  · have hj : j + 1 < k := hj
    exact (ha (j + 1) (by omega) hj).2 (by omega)
def FK (M M' : Mem) : Prop := M'.2 = M.2 ∧ (∀ x, x ≠ 1003 → x ≠ 1007 → x ≠ 1008 → x ≠ 1011 → giM M' x = giM M x) ∧ ∀ j, j ≠ 10 → j ≠ 25 → j ≠ 33 → giM M' 1003 j = giM M 1003 j
theorem tk_ok (H : MS M) (g : RGm M f k z) (hR : RuOK (arR f k z)) : ∃ M', fM_takeArena 1003 M = some (nI k, M') ∧ FK M M' ∧ RC M' (arR f k z) (nwS (arR f k z)) ∧ giM M' 1003 25 = nI 0 ∧ giM M' 1003 33 = nI 0 := by
  obtain ⟨gk, g7, gf, gz⟩ := g
  have hT : 1 ≤ f 0 ∧ f 0 ≤ 4 := hR.1.1
  have H0 : MS (siM M 1003 10 (nI k)) := MS_2 rfl H
  have q5 : ∀ j, j < 5 → giM (siM M 1003 10 (nI k)) 1005 j = nI (f j) := fun j hj => by
    rw [giM_un (by omega)]
    have := gf j hj
    rw [Nat.zero_add] at this
    exact this
  have q6 : ∀ j, j < k → giM (siM M 1003 10 (nI k)) 1006 j = nI (z j) := fun j hj => by rw [giM_un (by omega)]; exact gz j hj
  have q10 : giM (siM M 1003 10 (nI k)) 1003 10 = nI k := by rw [giM_ud, ud_s]
  have qx : ∀ x, x ≠ 1003 → giM (siM M 1003 10 (nI k)) x = giM M x := fun x h => giM_un h
  have qj : ∀ j, j ≠ 10 → giM (siM M 1003 10 (nI k)) 1003 j = giM M 1003 j := fun j h => by rw [giM_ud, ud_n _ _ h]
  have sx : (siM M 1003 10 (nI k)).2 = M.2 := rfl
  have start : fM_takeArena 1003 M = (LM_takeArena_10 1000000 1003 (nI 0) (siM M 1003 10 (nI k))).bind (fun y3 => (LM_takeArena_35 1000000 1003 (nI 0) y3).bind (fun y5 => (LM_takeArena_61 1000000 1003 (nI 0) y5).bind (fun y7 => (LM_takeArena_83 1000000 1003 (nI 0) y7).bind (fun r9 => some r9)))) := by
    unfold fM_takeArena
    rw [ms_ob H, gd1n, g7]
    rfl
  generalize siM M 1003 10 (nI k) = N0 at H0 q5 q6 q10 qx qj sx start
  obtain ⟨N1, e1, s1, g1, w1, -⟩ := wrL (M := N0) (L := fun f k M => LM_takeArena_10 f 1003 (nI k) M) (dst := 1007) (off := 0) (n := 5) (f := 1000000) (val := fun j => nI (f j)) (fun fu j M' s hg hj => by
    have v5 : giM M' 1005 j = nI (f j) := by rw [hg 1005 (by omega)]; exact q5 j hj
    show BM_takeArena_10 (LM_takeArena_10 fu) 1003 (nI j) M' = LM_takeArena_10 fu 1003 (nI (j + 1)) (siM M' 1007 (0 + j) (nI (f j)))
    rw [Nat.zero_add]
    simp (disch := omega) only [BM_takeArena_10, gd1n, bs1n, ↓reduceIte, d_nz, d_nn, or_true, true_or, or_false, false_or, decide_true, Sum.elim_inl, Sum.elim_inr, ↓l_m1, l_0, l_1, l_2, l_3, l_4, l_5, l_6, l_7, l_8, l_9, l_10, l_16, l_17, l_18, l_20, l_23, l_24, l_30, l_31, l_32, l_39, l_40, l_41, l_48, l_57, l_58, l_59, l_60, l_63, l_90, l_97, l_98, l_99, l_100, l_102, l_103, l_104, l_107, l_109, l_112, l_115, l_116, l_117, l_120, l_122, l_126, l_166, l_180, l_240, l_255, l_640, l_999, l_2656, l_3064, l_3704, l_3708, l_3712, l_3713, l_3893, l_155720, l_1000000, n_ltT, n_ltF, n_leT, n_leF, n_eqT, n_eqF, n_eqm, n_eqm', n_mltn, n_mlen, n_nltm, n_nlem, n_mltm, n_mlem, n_add, n_mul, n_sub, n_subm, n_cl, n_ofNat, n_div, n_mod, obM_si, rdI_si, wrI_si, lnI_si, grM_si', tgM_si', obM_sa, rdI_sa, wrI_sa, lnI_sa, grM_sa', tgM_sa', obM_2 s, rdI_2 s, wrI_2 s, lnI_2 s, grM_2 s, tgM_2 s, ms_ob H0, ms_g1 H0, ms_g5 H0, ms_g6 H0, ms_g8 H0, ms_g9 H0, ms_g11 H0, ms_g12 H0, ms_g15 H0, ms_g16 H0, ms_g18 H0, ms_g19 H0, ms_g20 H0, ms_g22 H0, ms_g24 H0, ms_g27 H0, ms_g32 H0, ms_g21 H0, ms_t1 H0, ms_r1 H0, ms_w1 H0, ms_l1 H0, ms_t5 H0, ms_r5 H0, ms_w5 H0, ms_l5 H0, ms_t6 H0, ms_r6 H0, ms_w6 H0, ms_l6 H0, ms_t8 H0, ms_r8 H0, ms_w8 H0, ms_l8 H0, ms_t9 H0, ms_r9 H0, ms_w9 H0, ms_l9 H0, ms_t11 H0, ms_r11 H0, ms_w11 H0, ms_l11 H0, ms_t12 H0, ms_r12 H0, ms_w12 H0, ms_l12 H0, ms_t15 H0, ms_r15 H0, ms_w15 H0, ms_l15 H0, ms_t16 H0, ms_r16 H0, ms_w16 H0, ms_l16 H0, ms_t18 H0, ms_r18 H0, ms_w18 H0, ms_l18 H0, ms_t19 H0, ms_r19 H0, ms_w19 H0, ms_l19 H0, ms_t20 H0, ms_r20 H0, ms_w20 H0, ms_l20 H0, ms_t22 H0, ms_r22 H0, ms_w22 H0, ms_l22 H0, ms_t24 H0, ms_r24 H0, ms_w24 H0, ms_l24 H0, ms_t27 H0, ms_r27 H0, ms_w27 H0, ms_l27 H0, ms_t32 H0, ms_r32 H0, ms_w32 H0, ms_l32 H0, ms_b H0, v5]) (by omega)
  have e1 : LM_takeArena_10 1000000 1003 (nI 0) N0 = LM_takeArena_10 999995 1003 (nI 5) N1 := e1
  have k1 : LM_takeArena_10 999995 1003 (nI 5) N1 = some N1 := by
    have key : ∀ g, LM_takeArena_10 (g + 1) 1003 (nI 5) N1 = some N1 := fun g => by
      show BM_takeArena_10 (LM_takeArena_10 g) 1003 (nI 5) N1 = _
      unfold BM_takeArena_10
      rw [if_pos (show (5 : Int32) ≤ nI 5 by decide)]
    exact key 999994
  have H1 : MS N1 := MS_2 s1 H0
  obtain ⟨N2, e2, s2, g2, w2, -⟩ := wrL (M := N1) (L := fun f k M => LM_takeArena_35 f 1003 (nI k) M) (dst := 1008) (off := 0) (n := 6) (f := 1000000) (val := fun j => giM N1 1006 j) (fun fu j M' s hg hj => by
    have v5 : giM M' 1006 = giM N1 1006 := hg 1006 (by omega)
    show BM_takeArena_35 (LM_takeArena_35 fu) 1003 (nI j) M' = LM_takeArena_35 fu 1003 (nI (j + 1)) (siM M' 1008 (0 + j) (giM N1 1006 j))
    rw [Nat.zero_add]
    simp (disch := omega) only [BM_takeArena_35, gd1n, bs1n, ↓reduceIte, d_nz, d_nn, or_true, true_or, or_false, false_or, decide_true, Sum.elim_inl, Sum.elim_inr, ↓l_m1, l_0, l_1, l_2, l_3, l_4, l_5, l_6, l_7, l_8, l_9, l_10, l_16, l_17, l_18, l_20, l_23, l_24, l_30, l_31, l_32, l_39, l_40, l_41, l_48, l_57, l_58, l_59, l_60, l_63, l_90, l_97, l_98, l_99, l_100, l_102, l_103, l_104, l_107, l_109, l_112, l_115, l_116, l_117, l_120, l_122, l_126, l_166, l_180, l_240, l_255, l_640, l_999, l_2656, l_3064, l_3704, l_3708, l_3712, l_3713, l_3893, l_155720, l_1000000, n_ltT, n_ltF, n_leT, n_leF, n_eqT, n_eqF, n_eqm, n_eqm', n_mltn, n_mlen, n_nltm, n_nlem, n_mltm, n_mlem, n_add, n_mul, n_sub, n_subm, n_cl, n_ofNat, n_div, n_mod, obM_si, rdI_si, wrI_si, lnI_si, grM_si', tgM_si', obM_sa, rdI_sa, wrI_sa, lnI_sa, grM_sa', tgM_sa', obM_2 s, rdI_2 s, wrI_2 s, lnI_2 s, grM_2 s, tgM_2 s, ms_ob H1, ms_g1 H1, ms_g5 H1, ms_g6 H1, ms_g8 H1, ms_g9 H1, ms_g11 H1, ms_g12 H1, ms_g15 H1, ms_g16 H1, ms_g18 H1, ms_g19 H1, ms_g20 H1, ms_g22 H1, ms_g24 H1, ms_g27 H1, ms_g32 H1, ms_g21 H1, ms_t1 H1, ms_r1 H1, ms_w1 H1, ms_l1 H1, ms_t5 H1, ms_r5 H1, ms_w5 H1, ms_l5 H1, ms_t6 H1, ms_r6 H1, ms_w6 H1, ms_l6 H1, ms_t8 H1, ms_r8 H1, ms_w8 H1, ms_l8 H1, ms_t9 H1, ms_r9 H1, ms_w9 H1, ms_l9 H1, ms_t11 H1, ms_r11 H1, ms_w11 H1, ms_l11 H1, ms_t12 H1, ms_r12 H1, ms_w12 H1, ms_l12 H1, ms_t15 H1, ms_r15 H1, ms_w15 H1, ms_l15 H1, ms_t16 H1, ms_r16 H1, ms_w16 H1, ms_l16 H1, ms_t18 H1, ms_r18 H1, ms_w18 H1, ms_l18 H1, ms_t19 H1, ms_r19 H1, ms_w19 H1, ms_l19 H1, ms_t20 H1, ms_r20 H1, ms_w20 H1, ms_l20 H1, ms_t22 H1, ms_r22 H1, ms_w22 H1, ms_l22 H1, ms_t24 H1, ms_r24 H1, ms_w24 H1, ms_l24 H1, ms_t27 H1, ms_r27 H1, ms_w27 H1, ms_l27 H1, ms_t32 H1, ms_r32 H1, ms_w32 H1, ms_l32 H1, ms_b H1, v5]) (by omega)
  have e2 : LM_takeArena_35 1000000 1003 (nI 0) N1 = LM_takeArena_35 999994 1003 (nI 6) N2 := e2
  have k2 : LM_takeArena_35 999994 1003 (nI 6) N2 = some N2 := by
    have key : ∀ g, LM_takeArena_35 (g + 1) 1003 (nI 6) N2 = some N2 := fun g => by
      show BM_takeArena_35 (LM_takeArena_35 g) 1003 (nI 6) N2 = _
      unfold BM_takeArena_35
      rw [if_pos (show (6 : Int32) ≤ nI 6 by decide)]
    exact key 999993
  have H2 : MS N2 := MS_2 s2 H1
  obtain ⟨N3, e3, s3, g3, w3, -⟩ := wrL (M := N2) (L := fun f k M => LM_takeArena_61 f 1003 (nI k) M) (dst := 1011) (off := 0) (n := 3893) (f := 1000000) (val := fun _ => nI 0) (fun fu j M' s hg hj => by
    show BM_takeArena_61 (LM_takeArena_61 fu) 1003 (nI j) M' = LM_takeArena_61 fu 1003 (nI (j + 1)) (siM M' 1011 (0 + j) (nI 0))
    rw [Nat.zero_add]
    simp (disch := omega) only [BM_takeArena_61, gd1n, bs1n, ↓reduceIte, d_nz, d_nn, or_true, true_or, or_false, false_or, decide_true, Sum.elim_inl, Sum.elim_inr, ↓l_m1, l_0, l_1, l_2, l_3, l_4, l_5, l_6, l_7, l_8, l_9, l_10, l_16, l_17, l_18, l_20, l_23, l_24, l_30, l_31, l_32, l_39, l_40, l_41, l_48, l_57, l_58, l_59, l_60, l_63, l_90, l_97, l_98, l_99, l_100, l_102, l_103, l_104, l_107, l_109, l_112, l_115, l_116, l_117, l_120, l_122, l_126, l_166, l_180, l_240, l_255, l_640, l_999, l_2656, l_3064, l_3704, l_3708, l_3712, l_3713, l_3893, l_155720, l_1000000, n_ltT, n_ltF, n_leT, n_leF, n_eqT, n_eqF, n_eqm, n_eqm', n_mltn, n_mlen, n_nltm, n_nlem, n_mltm, n_mlem, n_add, n_mul, n_sub, n_subm, n_cl, n_ofNat, n_div, n_mod, obM_si, rdI_si, wrI_si, lnI_si, grM_si', tgM_si', obM_sa, rdI_sa, wrI_sa, lnI_sa, grM_sa', tgM_sa', obM_2 s, rdI_2 s, wrI_2 s, lnI_2 s, grM_2 s, tgM_2 s, ms_ob H2, ms_g1 H2, ms_g5 H2, ms_g6 H2, ms_g8 H2, ms_g9 H2, ms_g11 H2, ms_g12 H2, ms_g15 H2, ms_g16 H2, ms_g18 H2, ms_g19 H2, ms_g20 H2, ms_g22 H2, ms_g24 H2, ms_g27 H2, ms_g32 H2, ms_g21 H2, ms_t1 H2, ms_r1 H2, ms_w1 H2, ms_l1 H2, ms_t5 H2, ms_r5 H2, ms_w5 H2, ms_l5 H2, ms_t6 H2, ms_r6 H2, ms_w6 H2, ms_l6 H2, ms_t8 H2, ms_r8 H2, ms_w8 H2, ms_l8 H2, ms_t9 H2, ms_r9 H2, ms_w9 H2, ms_l9 H2, ms_t11 H2, ms_r11 H2, ms_w11 H2, ms_l11 H2, ms_t12 H2, ms_r12 H2, ms_w12 H2, ms_l12 H2, ms_t15 H2, ms_r15 H2, ms_w15 H2, ms_l15 H2, ms_t16 H2, ms_r16 H2, ms_w16 H2, ms_l16 H2, ms_t18 H2, ms_r18 H2, ms_w18 H2, ms_l18 H2, ms_t19 H2, ms_r19 H2, ms_w19 H2, ms_l19 H2, ms_t20 H2, ms_r20 H2, ms_w20 H2, ms_l20 H2, ms_t22 H2, ms_r22 H2, ms_w22 H2, ms_l22 H2, ms_t24 H2, ms_r24 H2, ms_w24 H2, ms_l24 H2, ms_t27 H2, ms_r27 H2, ms_w27 H2, ms_l27 H2, ms_t32 H2, ms_r32 H2, ms_w32 H2, ms_l32 H2, ms_b H2]) (by omega)
  have e3 : LM_takeArena_61 1000000 1003 (nI 0) N2 = LM_takeArena_61 996107 1003 (nI 3893) N3 := e3
  have k3 : LM_takeArena_61 996107 1003 (nI 3893) N3 = some N3 := by
    have key : ∀ g, LM_takeArena_61 (g + 1) 1003 (nI 3893) N3 = some N3 := fun g => by
      show BM_takeArena_61 (LM_takeArena_61 g) 1003 (nI 3893) N3 = _
      unfold BM_takeArena_61
      rw [if_pos (show (3893 : Int32) ≤ nI 3893 from of_eq_true (n_leT (a := 3893) (b := 3893) (by omega) (by omega)))]
    exact key 996106
  have H3 : MS N3 := MS_2 s3 H2
  have t3 : giM N3 1007 0 = nI (f 0) := by
    rw [g3 1007 (by omega), g2 1007 (by omega)]
    exact w1 0 (by omega)
  obtain ⟨N4, e4, s4, g4, w4, u4⟩ := wrL (M := N3) (L := fun f k M => LM_takeArena_83 f 1003 (nI k) M) (dst := 1011) (off := 3704) (n := f 0) (f := 1000000) (val := fun _ => nI 1) (fun fu j M' s hg hj => by
    have v5 : giM M' 1007 0 = nI (f 0) := by rw [hg 1007 (by omega)]; exact t3
    show BM_takeArena_83 (LM_takeArena_83 fu) 1003 (nI j) M' = LM_takeArena_83 fu 1003 (nI (j + 1)) (siM M' 1011 (3704 + j) (nI 1))
    simp (disch := omega) only [BM_takeArena_83, gd1n, bs1n, ↓reduceIte, d_nz, d_nn, or_true, true_or, or_false, false_or, decide_true, Sum.elim_inl, Sum.elim_inr, ↓l_m1, l_0, l_1, l_2, l_3, l_4, l_5, l_6, l_7, l_8, l_9, l_10, l_16, l_17, l_18, l_20, l_23, l_24, l_30, l_31, l_32, l_39, l_40, l_41, l_48, l_57, l_58, l_59, l_60, l_63, l_90, l_97, l_98, l_99, l_100, l_102, l_103, l_104, l_107, l_109, l_112, l_115, l_116, l_117, l_120, l_122, l_126, l_166, l_180, l_240, l_255, l_640, l_999, l_2656, l_3064, l_3704, l_3708, l_3712, l_3713, l_3893, l_155720, l_1000000, n_ltT, n_ltF, n_leT, n_leF, n_eqT, n_eqF, n_eqm, n_eqm', n_mltn, n_mlen, n_nltm, n_nlem, n_mltm, n_mlem, n_add, n_mul, n_sub, n_subm, n_cl, n_ofNat, n_div, n_mod, obM_si, rdI_si, wrI_si, lnI_si, grM_si', tgM_si', obM_sa, rdI_sa, wrI_sa, lnI_sa, grM_sa', tgM_sa', obM_2 s, rdI_2 s, wrI_2 s, lnI_2 s, grM_2 s, tgM_2 s, ms_ob H3, ms_g1 H3, ms_g5 H3, ms_g6 H3, ms_g8 H3, ms_g9 H3, ms_g11 H3, ms_g12 H3, ms_g15 H3, ms_g16 H3, ms_g18 H3, ms_g19 H3, ms_g20 H3, ms_g22 H3, ms_g24 H3, ms_g27 H3, ms_g32 H3, ms_g21 H3, ms_t1 H3, ms_r1 H3, ms_w1 H3, ms_l1 H3, ms_t5 H3, ms_r5 H3, ms_w5 H3, ms_l5 H3, ms_t6 H3, ms_r6 H3, ms_w6 H3, ms_l6 H3, ms_t8 H3, ms_r8 H3, ms_w8 H3, ms_l8 H3, ms_t9 H3, ms_r9 H3, ms_w9 H3, ms_l9 H3, ms_t11 H3, ms_r11 H3, ms_w11 H3, ms_l11 H3, ms_t12 H3, ms_r12 H3, ms_w12 H3, ms_l12 H3, ms_t15 H3, ms_r15 H3, ms_w15 H3, ms_l15 H3, ms_t16 H3, ms_r16 H3, ms_w16 H3, ms_l16 H3, ms_t18 H3, ms_r18 H3, ms_w18 H3, ms_l18 H3, ms_t19 H3, ms_r19 H3, ms_w19 H3, ms_l19 H3, ms_t20 H3, ms_r20 H3, ms_w20 H3, ms_l20 H3, ms_t22 H3, ms_r22 H3, ms_w22 H3, ms_l22 H3, ms_t24 H3, ms_r24 H3, ms_w24 H3, ms_l24 H3, ms_t27 H3, ms_r27 H3, ms_w27 H3, ms_l27 H3, ms_t32 H3, ms_r32 H3, ms_w32 H3, ms_l32 H3, ms_b H3, v5]) (by omega)
  have H4 : MS N4 := MS_2 s4 H3
  have t4 : giM N4 1007 0 = nI (f 0) := by rw [g4 1007 (by omega)]; exact t3
  have r4 : giM N4 1003 10 = nI k := by rw [g4 1003 (by omega), g3 1003 (by omega), g2 1003 (by omega), g1 1003 (by omega)]; exact q10
  have e4 : LM_takeArena_83 1000000 1003 (nI 0) N3 = LM_takeArena_83 (1000000 - f 0) 1003 (nI (f 0)) N4 := e4
  have k4 : LM_takeArena_83 (1000000 - f 0) 1003 (nI (f 0)) N4 = some (nI k, siM (siM N4 1003 25 (nI 0)) 1003 33 (nI 0)) := by
    rw [show 1000000 - f 0 = (999999 - f 0) + 1 by omega]
    show BM_takeArena_83 (LM_takeArena_83 (999999 - f 0)) 1003 (nI (f 0)) N4 = _
    have r5 : giM (siM (siM N4 1003 25 (nI 0)) 1003 33 (nI 0)) 1003 10 = nI k := by rw [giM_ud, ud_n _ _ (by omega), giM_ud, ud_n _ _ (by omega)]; exact r4
    simp (disch := omega) only [BM_takeArena_83, gd1n, bs1n, ↓reduceIte, d_nz, d_nn, or_true, true_or, or_false, false_or, decide_true, Sum.elim_inl, Sum.elim_inr, ↓l_m1, l_0, l_1, l_2, l_3, l_4, l_5, l_6, l_7, l_8, l_9, l_10, l_16, l_17, l_18, l_20, l_23, l_24, l_30, l_31, l_32, l_39, l_40, l_41, l_48, l_57, l_58, l_59, l_60, l_63, l_90, l_97, l_98, l_99, l_100, l_102, l_103, l_104, l_107, l_109, l_112, l_115, l_116, l_117, l_120, l_122, l_126, l_166, l_180, l_240, l_255, l_640, l_999, l_2656, l_3064, l_3704, l_3708, l_3712, l_3713, l_3893, l_155720, l_1000000, n_ltT, n_ltF, n_leT, n_leF, n_eqT, n_eqF, n_eqm, n_eqm', n_mltn, n_mlen, n_nltm, n_nlem, n_mltm, n_mlem, n_add, n_mul, n_sub, n_subm, n_cl, n_ofNat, n_div, n_mod, obM_si, rdI_si, wrI_si, lnI_si, grM_si', tgM_si', obM_sa, rdI_sa, wrI_sa, lnI_sa, grM_sa', tgM_sa', ms_ob H4, ms_g1 H4, ms_g5 H4, ms_g6 H4, ms_g8 H4, ms_g9 H4, ms_g11 H4, ms_g12 H4, ms_g15 H4, ms_g16 H4, ms_g18 H4, ms_g19 H4, ms_g20 H4, ms_g22 H4, ms_g24 H4, ms_g27 H4, ms_g32 H4, ms_g21 H4, ms_t1 H4, ms_r1 H4, ms_w1 H4, ms_l1 H4, ms_t5 H4, ms_r5 H4, ms_w5 H4, ms_l5 H4, ms_t6 H4, ms_r6 H4, ms_w6 H4, ms_l6 H4, ms_t8 H4, ms_r8 H4, ms_w8 H4, ms_l8 H4, ms_t9 H4, ms_r9 H4, ms_w9 H4, ms_l9 H4, ms_t11 H4, ms_r11 H4, ms_w11 H4, ms_l11 H4, ms_t12 H4, ms_r12 H4, ms_w12 H4, ms_l12 H4, ms_t15 H4, ms_r15 H4, ms_w15 H4, ms_l15 H4, ms_t16 H4, ms_r16 H4, ms_w16 H4, ms_l16 H4, ms_t18 H4, ms_r18 H4, ms_w18 H4, ms_l18 H4, ms_t19 H4, ms_r19 H4, ms_w19 H4, ms_l19 H4, ms_t20 H4, ms_r20 H4, ms_w20 H4, ms_l20 H4, ms_t22 H4, ms_r22 H4, ms_w22 H4, ms_l22 H4, ms_t24 H4, ms_r24 H4, ms_w24 H4, ms_l24 H4, ms_t27 H4, ms_r27 H4, ms_w27 H4, ms_l27 H4, ms_t32 H4, ms_r32 H4, ms_w32 H4, ms_l32 H4, ms_b H4, t4, r5]
  have gx : ∀ x, x ≠ 1003 → x ≠ 1007 → x ≠ 1008 → x ≠ 1011 → giM N4 x = giM M x := fun x h1 h2 h3 h4 => by rw [g4 x h4, g3 x h4, g2 x h3, g1 x h2, qx x h1]
  refine ⟨siM (siM N4 1003 25 (nI 0)) 1003 33 (nI 0), ?_, ⟨?_, fun x h1 h2 h3 h4 => ?_, fun j h1 h2 h3 => ?_⟩, ⟨MS_2 rfl H4, ⟨?_, ?_, ?_, ?_, ?_, ?_, fun j hj => ?_⟩, hR, ?_⟩, ?_, ?_⟩
  · rw [start, e1, k1, bs1n, e2, k2, bs1n, e3, k3, bs1n, e4, k4, bs1n]
  · show N4.2 = M.2
    rw [s4, s3, s2, s1, sx]
  · rw [giM_un h1, giM_un h1]; exact gx x h1 h2 h3 h4
  · rw [giM_ud, ud_n _ _ h3, giM_ud, ud_n _ _ h2, g4 1003 (by omega), g3 1003 (by omega), g2 1003 (by omega), g1 1003 (by omega)]
    exact qj j h1
  · rw [giM_un (by omega), giM_un (by omega)]; exact t4
  · rw [giM_un (by omega), giM_un (by omega), g4 1007 (by omega), g3 1007 (by omega), g2 1007 (by omega)]; exact w1 1 (by omega)
  · rw [giM_un (by omega), giM_un (by omega), g4 1007 (by omega), g3 1007 (by omega), g2 1007 (by omega)]; exact w1 2 (by omega)
  · rw [giM_un (by omega), giM_un (by omega), g4 1007 (by omega), g3 1007 (by omega), g2 1007 (by omega)]; exact w1 3 (by omega)
  · rw [giM_un (by omega), giM_un (by omega), g4 1007 (by omega), g3 1007 (by omega), g2 1007 (by omega)]; exact w1 4 (by omega)
  · rw [giM_ud, ud_n _ _ (by omega), giM_ud, ud_n _ _ (by omega)]; exact r4
  · have hj : j < k := hj
    rw [giM_un (by omega), giM_un (by omega), g4 1008 (by omega), g3 1008 (by omega)]
    have := w2 j (by omega)
    rw [Nat.zero_add] at this
    rw [this, g1 1006 (by omega)]
    exact q6 j hj
  · rw [giM_un (by omega), giM_un (by omega)]
    refine nw_RW (fun i hi h => ?_) (fun t ht => ?_)
    · rw [u4 i (by omega)]
      have := w3 i hi
      rw [Nat.zero_add] at this
      exact this
    · show giM N4 1011 (3704 + t) = nI (if t < f 0 then 1 else 0)
      by_cases h : t < f 0
      · rw [if_pos h]; exact w4 t h
      · rw [if_neg h, u4 _ (by omega)]
        have := w3 (3704 + t) (by omega)
        rw [Nat.zero_add] at this
        exact this
  · rw [giM_ud, ud_n _ _ (by omega), giM_ud, ud_s]
  · rw [giM_ud, ud_s]
end TK
