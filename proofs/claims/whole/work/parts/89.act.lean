/-! ACTS: both, from one related memory to the next -/
def XS (M M' : Mem) : Prop := giM M' 5006 = giM M 5006 ∧ tgM M' 5006 = tgM M 5006
def ST2 (x y : Mem → Option (Int32 × Mem)) (M : Mem) (β' : Nat) : Prop := ∃ v M1 M2, x M = some (v, M1) ∧ y M1 = some (v, M2) ∧ GR M2 β' ∧ SHP M1 ∧ XS M M1 ∧ XS M M2
section AC
variable {M M1 M2 M4 : Mem} {ρ : Rul} {β β' o m b : Nat} {S S' S2 : HSt} {T T' : Nat → HSt}
theorem ST2_SA {x y : Mem → Option (Int32 × Mem)} (G : GR M β) (h : SA (x M) (y M) M) : ST2 x y M β := by
  obtain ⟨v, e1, e2⟩ := h
  exact ⟨v, M, M, e1, e2, G, G.1, ⟨rfl, rfl⟩, ⟨rfl, rfl⟩⟩
theorem OKS_mono (h : β ≤ β') (V : OKS ρ β S) : OKS ρ β' S := ⟨Inv_mono h V.1, V.2⟩
theorem TD_get (D : TD M ρ β S) : ∃ o m T b S', o < 40 ∧ m ≤ 40 ∧ (b = 0 ∨ b = 1) ∧ CC M 32 ρ β S ∧ PC M ρ β o m T ∧ IC M ρ β b S' ∧ RC M ρ S ∧ PR M m T ∧ IR M b S' ∧ OKS ρ β S ∧ (∀ j, j < m → OKS ρ β (T j)) ∧ (b = 1 → OKS ρ β S') := by
  obtain ⟨C, C', V, ⟨o, m, T, ho, hm, p1, p2, p3, p4⟩, I⟩ := D
  rcases I with ⟨i1, i2⟩ | ⟨i1, i2, S', i3, i4, i5⟩
  · exact ⟨o, m, T, 0, S, ho, hm, Or.inl rfl, C, ⟨p1, p2, fun j hj => (p4 j hj).1⟩, ⟨i1, fun h => by omega⟩, C', ⟨p3, fun j hj => (p4 j hj).2.1⟩, ⟨i2, fun h => by omega⟩, V, fun j hj => (p4 j hj).2.2, fun h => by omega⟩
  · exact ⟨o, m, T, 1, S', ho, hm, Or.inr rfl, C, ⟨p1, p2, fun j hj => (p4 j hj).1⟩, ⟨i1, fun _ => i3⟩, C', ⟨p3, fun j hj => (p4 j hj).2.1⟩, ⟨i2, fun _ => i4⟩, V, fun j hj => (p4 j hj).2.2, fun _ => i5⟩
theorem TD_mk (ho : o < 40) (hm : m ≤ 40) (hb : b = 0 ∨ b = 1) (C : CC M 32 ρ β S) (P : PC M ρ β o m T) (I : IC M ρ β b S') (C' : RC M ρ S) (P' : PR M m T) (I' : IR M b S') (V : OKS ρ β S) (VT : ∀ j, j < m → OKS ρ β (T j)) (VI : b = 1 → OKS ρ β S') : TD M ρ β S := by
  refine ⟨C, C', V, ⟨o, m, T, ho, hm, P.1, P.2.1, P'.1, fun j hj => ⟨P.2.2 j hj, P'.2 j hj, VT j hj⟩⟩, ?_⟩
  rcases hb with rfl | rfl
  · exact Or.inl ⟨I.1, I'.1⟩
  · exact Or.inr ⟨I.1, I'.1, S', I.2 rfl, I'.2 rfl, VI rfl⟩
theorem RX_Fr (X : RX M M1) : Fr M M1 1003 1018 := ⟨X.1, fun a ha => X.2.1 a (by omega) (by omega) (by omega)⟩
theorem PC_Fr {lo hi : Nat} (P : PC M ρ β o m T) (F : Fr M M1 lo hi) (h : hi < 50 ∨ 771 < lo) (h2 : 7 < lo) : PC M1 ρ β o m T := by
  obtain ⟨p1, p2, p3⟩ := P
  refine ⟨by rw [F.2 50 (by omega)]; exact p1, by rw [F.2 50 (by omega)]; exact p2, fun j hj => ?_⟩
  have : (o + j) % 40 < 40 := Nat.mod_lt _ (by omega)
  exact CC_Fr (p3 j hj) F (by omega) h2
theorem PC_mono (h : β ≤ β') (P : PC M ρ β o m T) : PC M ρ β' o m T := ⟨P.1, P.2.1, fun j hj => CC_mono h (P.2.2 j hj)⟩
theorem IC_Fr {lo hi : Nat} (P : IC M ρ β b S) (F : Fr M M1 lo hi) (h : hi < 772 ∨ 789 < lo) (h2 : 7 < lo) : IC M1 ρ β b S := ⟨by rw [F.2 1 (by omega)]; exact P.1, fun e => CC_Fr (P.2 e) F (by omega) h2⟩
theorem IC_mono (h : β ≤ β') (P : IC M ρ β b S) : IC M ρ β' b S := ⟨P.1, fun e => CC_mono h (P.2 e)⟩
theorem RC_Fr {lo hi : Nat} (C : RC M ρ S) (F : Fr M M1 lo hi) (h : hi < 1003) : RC M1 ρ S := by
  obtain ⟨H, R, hR, W⟩ := C
  refine ⟨MS_2 F.1 H, ?_, hR, by rw [F.2 1011 (by omega)]; exact W⟩
  unfold RuM
  rw [F.2 1007 (by omega), F.2 1008 (by omega), F.2 1003 (by omega)]
  exact R
theorem PR_Fr {lo hi : Nat} (P : PR M m T) (F : Fr M M1 lo hi) (h : hi < 1003) : PR M1 m T := by
  unfold PR
  rw [F.2 1003 (by omega), F.2 1018 (by omega)]
  exact P
theorem IR_Fr {lo hi : Nat} (P : IR M b S) (F : Fr M M1 lo hi) (h : hi < 1003) : IR M1 b S := by
  unfold IR
  rw [F.2 1003 (by omega), F.2 1020 (by omega)]
  exact P
theorem TP_cg (P : TP M) (e1 : giM M1 2 = giM M 2) (e2 : giM M1 3 = giM M 3) (e3 : giM M1 1003 2 = giM M 1003 2) (e4 : giM M1 1004 = giM M 1004) : TP M1 := by
  unfold TP
  rw [e1, e2, e3, e4]
  exact P
theorem SC_cg (P : SC M) (e1 : giM M1 1 5 = giM M 1 5) (e2 : ∀ a, 12 ≤ a → a < 28 → giM M1 a = giM M a) (e3 : giM M1 1003 13 = giM M 1003 13) (e4 : giM M1 1009 = giM M 1009) (e5 : giM M1 1010 = giM M 1010) : SC M1 := by
  obtain ⟨n, h1, h2, h3, h4⟩ := P
  refine ⟨n, h1, e1.trans h2, e3.trans h3, fun j hj => ?_⟩
  rw [e4, e5, e2 (12 + 4 * j) (by omega) (by omega), e2 (12 + 4 * j + 1) (by omega) (by omega), e2 (12 + 4 * j + 2) (by omega) (by omega), e2 (12 + 4 * j + 3) (by omega) (by omega)]
  exact h4 j hj
theorem RE_cg (P : RE M) (e1 : giM M1 790 = giM M 790) (e2 : giM M1 1012 = giM M 1012) : RE M1 := by
  unfold RE
  rw [e1, e2]
  exact P
theorem SHP_Fr {lo hi : Nat} (A : SHP M) (F : Fr M M1 lo hi) (h : hi ≤ 5000) : SHP M1 := SHP_2 A F.1 (fun a h1 _ => F.2 a (by omega))
theorem XS_Fr {lo hi : Nat} (F : Fr M M1 lo hi) (h : hi ≤ 5000) : XS M M1 := ⟨F.2 5006 (by omega), by rw [tgM_2 F.1]⟩
theorem XS_tr (h : XS M M1) (g : XS M1 M2) : XS M M2 := ⟨g.1.trans h.1, g.2.trans h.2⟩
/-- the end of an act -/
theorem fin_act {v : Int32} {x y : Mem → Option (Int32 × Mem)} (hβ : β ≤ β') (A : SHP M) (tp : TP M) (sc : SC M) (re : RE M) (hb : b = 0 ∨ b = 1) (I : IC M ρ β b S') (I' : IR M b S') (VI : b = 1 → OKS ρ β S') (ex : x M = some (v, M2)) (F : Fr M M2 33 771) (C : CC M2 32 ρ β' S2) (ho : o < 40) (hm : m ≤ 40) (P : PC M2 ρ β' o m T) (ey : y M2 = some (v, M4)) (X : RX M2 M4) (C' : RC M4 ρ S2) (P' : PR M4 m T) (V : OKS ρ β' S2) (VT : ∀ j, j < m → OKS ρ β' (T j)) : ST2 x y M β' := by
  have FX := RX_Fr X
  refine ⟨v, M2, M4, ex, ey, ⟨SHP_Fr (SHP_Fr A F (by omega)) FX (by omega), ?_, ?_, ?_, Or.inr ⟨ρ, S2, ?_⟩⟩, SHP_Fr A F (by omega), XS_Fr F (by omega), XS_tr (XS_Fr F (by omega)) (XS_Fr FX (by omega))⟩
  · exact TP_cg (TP_cg tp (F.2 2 (by omega)) (F.2 3 (by omega)) (by rw [F.2 1003 (by omega)]) (F.2 1004 (by omega))) (X.2.1 2 (by omega) (by omega) (by omega)) (X.2.1 3 (by omega) (by omega) (by omega)) (X.2.2 2 (by omega) (by omega)) (X.2.1 1004 (by omega) (by omega) (by omega))
  · exact SC_cg (SC_cg sc (by rw [F.2 1 (by omega)]) (fun a h1 h2 => F.2 a (by omega)) (by rw [F.2 1003 (by omega)]) (F.2 1009 (by omega)) (F.2 1010 (by omega))) (by rw [X.2.1 1 (by omega) (by omega) (by omega)]) (fun a h1 h2 => X.2.1 a (by omega) (by omega) (by omega)) (X.2.2 13 (by omega) (by omega)) (X.2.1 1009 (by omega) (by omega) (by omega)) (X.2.1 1010 (by omega) (by omega) (by omega))
  · exact RE_cg (RE_cg re (F.2 790 (by omega)) (F.2 1012 (by omega))) (X.2.1 790 (by omega) (by omega) (by omega)) (X.2.1 1012 (by omega) (by omega) (by omega))
  · refine TD_mk ho hm hb (CC_Fr C FX (by omega) (by omega)) (PC_Fr P FX (by omega) (by omega)) (IC_Fr (IC_mono hβ (IC_Fr I F (by omega) (by omega))) FX (by omega) (by omega)) C' P' ?_ V VT (fun e => OKS_mono hβ (VI e))
    have I2 := IR_Fr I' F (by omega)
    exact ⟨(X.2.2 33 (by omega) (by omega)).trans I2.1, fun e => by rw [X.2.1 1020 (by omega) (by omega) (by omega)]; exact I2.2 e⟩
/-! refusals -/
theorem ref_c (A : SHP M) {w : Nat} (hw : w < 4) : fA_refuse 1 (nI w) M = some (mI, siM M 790 w (giM M 790 w + nI 1)) := by
  simp (disch := omega) only [fA_refuse, BA_refuse_23, gd1, bs1, ↓reduceIte, d_nz, d_nn, or_true, true_or, or_false, false_or, decide_true, Sum.elim_inl, Sum.elim_inr, ↓l_m1, l_0, l_1, l_2, l_3, l_4, l_5, l_6, l_7, l_8, l_9, l_10, l_16, l_17, l_18, l_20, l_23, l_24, l_30, l_31, l_32, l_39, l_40, l_41, l_48, l_57, l_58, l_59, l_60, l_63, l_90, l_97, l_98, l_99, l_100, l_102, l_103, l_104, l_107, l_109, l_112, l_115, l_116, l_117, l_120, l_122, l_126, l_166, l_180, l_240, l_255, l_640, l_999, l_2656, l_3064, l_3704, l_3708, l_3712, l_3713, l_3893, l_155720, l_1000000, n_ltT, n_ltF, n_leT, n_leF, n_eqT, n_eqF, n_eqm, n_eqm', n_mltn, n_mlen, n_nltm, n_nlem, n_mltm, n_mlem, n_add, n_mul, n_sub, n_subm, n_cl, n_ofNat, n_div, n_mod, obM_si, rdI_si, wrI_si, lnI_si, grM_si', tgM_si', obM_sa, rdI_sa, wrI_sa, lnI_sa, grM_sa', tgM_sa', as_o1 A, as_g1_0 A, as_g1_1 A, as_g1_2 A, as_g1_3 A, as_g1_4 A, as_g1_6 A, as_g1_7 A, as_g1_8 A, as_g1_9 A, as_g1_11 A, as_g1_12 A, as_g1_13 A, as_g1_14 A, as_o2 A, as_g2_0 A, as_t3 A, as_r3 A, as_w3 A, as_l3 A, as_o4 A, as_g4_0 A, as_o5 A, as_g5_0 A, as_g5_1 A, as_t6 A, as_r6 A, as_w6 A, as_l6 A, as_t7 A, as_r7 A, as_w7 A, as_l7 A, as_o8 A, as_g8_0 A, as_g8_1 A, as_t9 A, as_r9 A, as_w9 A, as_l9 A, as_t10 A, as_r10 A, as_w10 A, as_l10 A, as_o28 A, as_g28_0 A, as_g28_1 A, as_g28_2 A, as_t29 A, as_r29 A, as_w29 A, as_l29 A, as_t30 A, as_r30 A, as_w30 A, as_l30 A, as_t31 A, as_r31 A, as_w31 A, as_l31 A, as_o50 A, as_g50_0 A, as_t790 A, as_r790 A, as_w790 A, as_l790 A, as_o791 A, as_g791_0 A, as_g791_1 A, as_g791_2 A, as_o999 A, as_g999_0 A, as_g999_1 A, as_g999_2 A, as_t1000 A, as_r1000 A, as_w1000 A, as_l1000 A, as_t1001 A, as_r1001 A, as_w1001 A, as_l1001 A, as_t1002 A, as_r1002 A, as_w1002 A, as_l1002 A, as_x11 A, as_x51 A, as_x792 A, as_x793 A, as_x794 A, as_t792 A, as_ln792 A, as_s11 A, as_so A, as_sg0 A, as_sg1 A, as_sg2 A, as_sr1 A, as_sr2 A, as_sr3 A, as_p51 A]
theorem ref_m (H : MS M) {w : Nat} (hw : w < 4) : fM_isRefused 1003 (nI w) M = some (nI 1, siM M 1012 w (giM M 1012 w + nI 1)) := by
  simp (disch := omega) only [fM_isRefused, BM_isRefused_15, BM_isRefused_25, gd1, bs1, ↓reduceIte, d_nz, d_nn, or_true, true_or, or_false, false_or, decide_true, Sum.elim_inl, Sum.elim_inr, ↓l_m1, l_0, l_1, l_2, l_3, l_4, l_5, l_6, l_7, l_8, l_9, l_10, l_16, l_17, l_18, l_20, l_23, l_24, l_30, l_31, l_32, l_39, l_40, l_41, l_48, l_57, l_58, l_59, l_60, l_63, l_90, l_97, l_98, l_99, l_100, l_102, l_103, l_104, l_107, l_109, l_112, l_115, l_116, l_117, l_120, l_122, l_126, l_166, l_180, l_240, l_255, l_640, l_999, l_2656, l_3064, l_3704, l_3708, l_3712, l_3713, l_3893, l_155720, l_1000000, n_ltT, n_ltF, n_leT, n_leF, n_eqT, n_eqF, n_eqm, n_eqm', n_mltn, n_mlen, n_nltm, n_nlem, n_mltm, n_mlem, n_add, n_mul, n_sub, n_subm, n_cl, n_ofNat, n_div, n_mod, obM_si, rdI_si, wrI_si, lnI_si, grM_si', tgM_si', obM_sa, rdI_sa, wrI_sa, lnI_sa, grM_sa', tgM_sa', ms_ob H, ms_g1 H, ms_g5 H, ms_g6 H, ms_g8 H, ms_g9 H, ms_g11 H, ms_g12 H, ms_g15 H, ms_g16 H, ms_g18 H, ms_g19 H, ms_g20 H, ms_g22 H, ms_g24 H, ms_g27 H, ms_g32 H, ms_g21 H, ms_t1 H, ms_r1 H, ms_w1 H, ms_l1 H, ms_t5 H, ms_r5 H, ms_w5 H, ms_l5 H, ms_t6 H, ms_r6 H, ms_w6 H, ms_l6 H, ms_t8 H, ms_r8 H, ms_w8 H, ms_l8 H, ms_t9 H, ms_r9 H, ms_w9 H, ms_l9 H, ms_t11 H, ms_r11 H, ms_w11 H, ms_l11 H, ms_t12 H, ms_r12 H, ms_w12 H, ms_l12 H, ms_t15 H, ms_r15 H, ms_w15 H, ms_l15 H, ms_t16 H, ms_r16 H, ms_w16 H, ms_l16 H, ms_t18 H, ms_r18 H, ms_w18 H, ms_l18 H, ms_t19 H, ms_r19 H, ms_w19 H, ms_l19 H, ms_t20 H, ms_r20 H, ms_w20 H, ms_l20 H, ms_t22 H, ms_r22 H, ms_w22 H, ms_l22 H, ms_t24 H, ms_r24 H, ms_w24 H, ms_l24 H, ms_t27 H, ms_r27 H, ms_w27 H, ms_l27 H, ms_t32 H, ms_r32 H, ms_w32 H, ms_l32 H, ms_b H]
theorem ref_no : fM_isRefused 1003 mI M = some (nI 0, M) := by
  simp (disch := omega) only [fM_isRefused, BM_isRefused_15, BM_isRefused_25, gd1, bs1, ↓reduceIte, d_nz, d_nn, or_true, true_or, or_false, false_or, decide_true, Sum.elim_inl, Sum.elim_inr, ↓l_m1, l_0, l_1, l_2, l_3, l_4, l_5, l_6, l_7, l_8, l_9, l_10, l_16, l_17, l_18, l_20, l_23, l_24, l_30, l_31, l_32, l_39, l_40, l_41, l_48, l_57, l_58, l_59, l_60, l_63, l_90, l_97, l_98, l_99, l_100, l_102, l_103, l_104, l_107, l_109, l_112, l_115, l_116, l_117, l_120, l_122, l_126, l_166, l_180, l_240, l_255, l_640, l_999, l_2656, l_3064, l_3704, l_3708, l_3712, l_3713, l_3893, l_155720, l_1000000, n_ltT, n_ltF, n_leT, n_leF, n_eqT, n_eqF, n_eqm, n_eqm', n_mltn, n_mlen, n_nltm, n_nlem, n_mltm, n_mlem, n_add, n_mul, n_sub, n_subm, n_cl, n_ofNat, n_div, n_mod, obM_si, rdI_si, wrI_si, lnI_si, grM_si', tgM_si', obM_sa, rdI_sa, wrI_sa, lnI_sa, grM_sa', tgM_sa']
theorem GR_ref (G : GR M β) {w : Nat} (hw : w < 4) : GR (siM (siM M 790 w (giM M 790 w + nI 1)) 1012 w (giM (siM M 790 w (giM M 790 w + nI 1)) 1012 w + nI 1)) β := by
  obtain ⟨A, tp, sc, re, D⟩ := G
  have g : ∀ a, a ≠ 790 → a ≠ 1012 → giM (siM (siM M 790 w (giM M 790 w + nI 1)) 1012 w (giM (siM M 790 w (giM M 790 w + nI 1)) 1012 w + nI 1)) a = giM M a := fun a h1 h2 => by rw [giM_un h2, giM_un h1]
  have F1 : Fr M (siM M 790 w (giM M 790 w + nI 1)) 790 790 := Fr_si (by omega) (by omega)
  have F2 : Fr (siM M 790 w (giM M 790 w + nI 1)) (siM (siM M 790 w (giM M 790 w + nI 1)) 1012 w (giM (siM M 790 w (giM M 790 w + nI 1)) 1012 w + nI 1)) 1012 1012 := Fr_si (by omega) (by omega)
  refine ⟨SHP_Fr (SHP_Fr A F1 (by omega)) F2 (by omega), TP_cg tp (g 2 (by omega) (by omega)) (g 3 (by omega) (by omega)) (by rw [g 1003 (by omega) (by omega)]) (g 1004 (by omega) (by omega)), SC_cg sc (by rw [g 1 (by omega) (by omega)]) (fun a h1 h2 => g a (by omega) (by omega)) (by rw [g 1003 (by omega) (by omega)]) (g 1009 (by omega) (by omega)) (g 1010 (by omega) (by omega)), ?_, ?_⟩
  · intro x hx
    rw [giM_un (by omega), giM_ud, giM_ud, giM_un (by omega)]
    by_cases e : x = w
    · rw [e, ud_s, ud_s, re w hw]
    · rw [ud_n _ _ e, ud_n _ _ e]
      exact re x hx
  · rcases D with U | ⟨ρ, S, D⟩
    · left
      unfold UT
      rw [g 5 (by omega) (by omega), g 6 (by omega) (by omega), g 1003 (by omega) (by omega), g 50 (by omega) (by omega), g 1 (by omega) (by omega), g 48 (by omega) (by omega), g 1011 (by omega) (by omega)]
      exact U
    · right
      obtain ⟨o, m, T, b, S', ho, hm, hb, C, P, I, C', P', I', V, VT, VI⟩ := TD_get D
      refine ⟨ρ, S, TD_mk ho hm hb (CC_Fr (CC_Fr C F1 (by omega) (by omega)) F2 (by omega) (by omega)) (PC_Fr (PC_Fr P F1 (by omega) (by omega)) F2 (by omega) (by omega)) (IC_Fr (IC_Fr I F1 (by omega) (by omega)) F2 (by omega) (by omega)) ?_ ?_ ?_ V VT VI⟩
      · obtain ⟨H, R, hR, W⟩ := C'
        refine ⟨MS_2 rfl H, ?_, hR, by rw [g 1011 (by omega) (by omega)]; exact W⟩
        unfold RuM
        rw [g 1007 (by omega) (by omega), g 1008 (by omega) (by omega), g 1003 (by omega) (by omega)]
        exact R
      · unfold PR
        rw [g 1003 (by omega) (by omega), g 1018 (by omega) (by omega)]
        exact P'
      · unfold IR
        rw [g 1003 (by omega) (by omega), g 1020 (by omega) (by omega)]
        exact I'
theorem fin_ref {x y : Mem → Option (Int32 × Mem)} (G : GR M β) {w : Nat} (hw : w < 4) (ex : x M = some (mI, siM M 790 w (giM M 790 w + nI 1))) (ey : y (siM M 790 w (giM M 790 w + nI 1)) = some (mI, siM (siM M 790 w (giM M 790 w + nI 1)) 1012 w (giM (siM M 790 w (giM M 790 w + nI 1)) 1012 w + nI 1))) : ST2 x y M β := by
  have F1 : Fr M (siM M 790 w (giM M 790 w + nI 1)) 790 790 := Fr_si (by omega) (by omega)
  have F2 : Fr (siM M 790 w (giM M 790 w + nI 1)) (siM (siM M 790 w (giM M 790 w + nI 1)) 1012 w (giM (siM M 790 w (giM M 790 w + nI 1)) 1012 w + nI 1)) 1012 1012 := Fr_si (by omega) (by omega)
  exact ⟨mI, _, _, ex, ey, GR_ref G hw, SHP_Fr G.1 F1 (by omega), XS_Fr F1 (by omega), XS_tr (XS_Fr F1 (by omega)) (XS_Fr F2 (by omega))⟩
/-- the reference's questions do not look at what was refused by the class -/
theorem UT_790 {w : Nat} {z : Int32} (U : UT M) : UT (siM M 790 w z) := by
  unfold UT
  rw [giM_un (show 5 ≠ 790 by omega), giM_un (show 6 ≠ 790 by omega), giM_un (show 1003 ≠ 790 by omega), giM_un (show 50 ≠ 790 by omega), giM_un (show 1 ≠ 790 by omega), giM_un (show 48 ≠ 790 by omega), giM_un (show 1011 ≠ 790 by omega)]
  exact U
theorem SHP_790 {w : Nat} {z : Int32} (A : SHP M) : SHP (siM M 790 w z) := SHP_Fr A (Fr_si (lo := 790) (hi := 790) (by omega) (by omega)) (by omega)
theorem RC_790 {w : Nat} {z : Int32} (C : RC M ρ S) : RC (siM M 790 w z) ρ S := RC_Fr C (Fr_si (lo := 790) (hi := 790) (by omega) (by omega)) (by omega)
end AC
