/-! RUN -/
section RN
variable {M M1 M2 : Mem} {ρ : Rul} {β : Nat} {S : HSt} {sn n : Nat} {v : Int32}
theorem RZ_RQ {sd : Nat} (F : RQ sd M M1) : RZ M M1 := ⟨F.1, fun a h => F.2.1 a (by omega) (by omega) (by omega), fun k h => F.2.2.1 k (by omega) (by omega)⟩
theorem a_run (G : GR M β) (hβ : β < 1900000000) (v1 v2 : Int32) : ST2 (fA_run 1 v1 v2) (fM_run 1003 v1 v2) M β := by
  have G0 := G
  obtain ⟨A, tp, sc, re, U | ⟨ρ, S, D⟩⟩ := G
  · have H := MS_of A
    have e2 := mS_u (v := v1) A U
    refine ST2_SA G0 ⟨mI, ?_, ?_⟩
    · unfold fA_run BA_run_27
      rw [as_o1 A, gd1n, as_g1_2 A, d_nz (by omega), gd1n, as_o5 A, gd1n, u_told A U, bs1n, if_pos (show ((nI 0, M) : Int32 × Mem).1 = 0 from rfl)]
      rfl
    · unfold fM_run BM_run_17
      rw [ms_ob H, gd1n, e2, bs1n, if_pos (show ((nI 0, M) : Int32 × Mem).1 = 0 from rfl)]
      rfl
  · obtain ⟨o, m, T, b, S', ho, hm, hb, C, P, I, C', P', I', V, VT, VI⟩ := TD_get D
    have H := C'.1
    have ea := mArena C'
    have hR := C.2.2.1
    have n10 : ¬ nI 1 = 0 := by decide
    have sc0 := sc
    obtain ⟨sn, h4, s2, s3, -⟩ := sc0
    rcases sp v1 (k := sn) (by omega) with hv | ⟨n, hn, rfl⟩
    · have e2 := mS_F (v := v1) C' ea s3 h4 hv
      refine ST2_SA G0 ⟨mI, ?_, ?_⟩
      · unfold fA_run BA_run_27
        rw [as_o1 A, gd1n, as_g1_2 A, d_nz (by omega), gd1n, as_o5 A, gd1n, told_ok A C, bs1n, if_neg (show ¬ ((nI 1, M) : Int32 × Mem).1 = 0 from n10), as_o1 A, gd1n, isS_F A s2 hv, bs1n, if_pos (show ((nI 0, M) : Int32 × Mem).1 = 0 from rfl)]
        rfl
      · unfold fM_run BM_run_17
        rw [ms_ob H, gd1n, e2, bs1n, if_pos (show ((nI 0, M) : Int32 × Mem).1 = 0 from rfl)]
        rfl
    · have eS := mS_T C' ea s3 h4 hn
      rcases sp v2 (k := 3) (by omega) with hv | ⟨j, hj, rfl⟩
      · refine ST2_SA G0 ⟨mI, ?_, ?_⟩
        · unfold fA_run BA_run_27
          rw [as_o1 A, gd1n, as_g1_2 A, d_nz (by omega), gd1n, as_o5 A, gd1n, told_ok A C, bs1n, if_neg (show ¬ ((nI 1, M) : Int32 × Mem).1 = 0 from n10), as_o1 A, gd1n, isS_T A s2 hn h4, bs1n, if_neg (show ¬ ((nI 1, M) : Int32 × Mem).1 = 0 from n10)]
          by_cases h0 : v2 < 0
          · rw [if_pos h0]
            rfl
          · have h3 : nI 3 ≤ v2 := hv.resolve_left h0
            rw [if_neg h0, if_neg (show ¬ v2 ≤ 2 from fun h => absurd (Int32.le_trans h3 h) (by decide))]
            rfl
        · have i1 : fM_in v2 0 2 M = some (nI 0, M) := in_Fm (k := 2) (by omega) hv
          unfold fM_run BM_run_17
          rw [ms_ob H, gd1n, eS, bs1n, if_neg (show ¬ ((nI 1, M) : Int32 × Mem).1 = 0 from n10), i1, bs1n, if_pos (show ((nI 0, M) : Int32 × Mem).1 = 0 from rfl)]
          rfl
      · obtain ⟨sg, st, hg, q1, q2, q3, q4⟩ := SC_n sc s2 h4 hn
        obtain ⟨M1, k1, F1, C1⟩ := cCopy C V.1 (HS_of A hp_981) (by omega)
        have A1 := SHP_Fr A F1 (by omega)
        obtain ⟨M2, k2, F2, C2, V2⟩ := cRunW hR (by omega) (by omega) (by omega) hg (PS_999 A1) (SS_of A1 (show n < 4 by omega)) C1 V (by omega) (by rw [F1.2 (12 + 4 * n) (by omega)]; exact q1) (fun j hj => by
          have := q3 j hj
          unfold STc at this ⊢
          rw [F1.2 (12 + 4 * n + 1) (by omega), F1.2 (12 + 4 * n + 2) (by omega), F1.2 (12 + 4 * n + 3) (by omega)]
          exact this)
        obtain ⟨f', el⟩ := runA_lg (ρ := ρ) sg st S (lg S)
        rw [wlg_id] at el
        rw [el] at k2 C2 V2
        have FF : Fr M M2 791 1002 := ⟨F2.1.trans F1.1, fun a ha => by rw [F2.2 a (by omega) (by omega), F1.2 a (by omega)]⟩
        have A2 := SHP_Fr A FF (by omega)
        have R2 := RC_Fr C' FF (by omega)
        have H2 := R2.1
        have e4 := mPut (d := 0) H2 (by omega)
        have W := Wd_of hR V.1
        have a1 := AS_put (M := M2) (d := 0)
        generalize hN : mx M2 1019 (3712 * 0) 1011 0 3712 = N at e4 a1
        have X1 : RZ M2 (saM M2 1019 N) := RZ_sa (by omega)
        have R3 : RC (saM M2 1019 N) ρ S := RC_RZ R2 X1 (by rw [gi_san (by omega)]; exact R2.2.2.2)
        have g3 : ∀ a, a ≠ 1019 → 1002 < a → giM (saM M2 1019 N) a = giM M a := fun a h1 h2 => by rw [gi_san h1, FF.2 a (by omega)]
        obtain ⟨M4, j2, F4', R4, V4⟩ := mRunW (r := false) (sn := n) hR (by omega) hg R3 V (by omega) (by rw [g3 1010 (by omega) (by omega)]; exact q2) (fun j hj => by
          have := q4 j hj
          unfold STm at this ⊢
          rw [g3 1009 (by omega) (by omega)]
          exact this)
        have j2 : fM_runScript 1003 (nI n) 0 (saM M2 1019 N) = some (nI (runA ρ false sg st S).1, M4) := j2
        have H3 := R3.1
        have H4 := R4.1
        have e7 := mBak (d := 0) H4 (by omega)
        have w7 := AS_back W R2.2.2.2 (AS_cg a1 (F4'.2.1 1019 (by omega) (by omega) (by omega))) (by have := R4.2.2.2.2.2.2.2; rw [runA_F] at this; exact this) W.2.2
        generalize hN' : mx M4 1011 0 1019 (3712 * 0) 3712 = N' at e7 w7
        have X2 : RZ M2 (saM M4 1011 N') := RZ_tr X1 (RZ_tr (RZ_RQ F4') (RZ_sa (by omega)))
        have ea2 := mArena R2
        have eS2 := mS_T R2 ea2 (by rw [FF.2 1003 (by omega)]; exact s3) h4 hn
        have i1 : fM_in (nI j) 0 2 M2 = some (nI 1, M2) := in_Tm (a := j) (k := 2) (by omega) (by omega)
        have u1 := qUse C2 V2.1
        have u2 := qHeldAll C2 V2.1
        have w1 := mUse R4 V4.1
        have w2 := mHeldMany R4 V4.1
        have cA : fA_run 1 (nI n) (nI j) M = if nI j = 0 then (some (nI (runA ρ false sg st S).1, M2)) else if nI j = 1 then (gd (obM M2 1 10 15) <| gd (decide (grM M2 1 13 ≠ 0)) <| gd (obM M2 (grM M2 1 13) 1 9) <| (fH_pagesInUse (grM M2 1 13) M2).bind fun q22 => some (q22.1, q22.2)) else (gd (obM M2 1 10 15) <| gd (decide (grM M2 1 13 ≠ 0)) <| gd (obM M2 (grM M2 1 13) 1 9) <| (fH_heldInAll (grM M2 1 13) M2).bind fun q26 => some (q26.1, q26.2)) := by
          unfold fA_run
          rw [as_o1 A, gd1n, as_g1_2 A, d_nz (by omega), gd1n, as_o5 A, gd1n, told_ok A C, bs1n, if_neg (show ¬ ((nI 1, M) : Int32 × Mem).1 = 0 from n10), as_o1 A, gd1n, isS_T A s2 hn h4, bs1n, if_neg (show ¬ ((nI 1, M) : Int32 × Mem).1 = 0 from n10), if_neg (show ¬ nI j < 0 from of_eq_false (n_ltF (a := j) (b := 0) (by omega) (by omega))), if_pos (show nI j ≤ 2 from of_eq_true (n_leT (a := j) (b := 2) (by omega) (by omega))), as_o1 A, gd1n, as_g1_13 A, d_nz (by omega), gd1n, as_g1_7 A, d_nz (by omega), gd1n, hs_ob (HS_of A hp_981), gd1n, k1, bs1n, as_o1 A1, gd1n, as_g1_14 A1, d_nz (by omega), gd1n, as_g1_13 A1, d_nz (by omega), gd1n, as_g1_4 A1, d_nz (by omega), gd1n, as_x11 A1 (show n < 4 by omega), gd1n, n_cl (by omega), as_s11 A1 (show n < 4 by omega), d_nz (by omega), gd1n, as_o999 A1, gd1n, k2, bs1n]
        have cM : fM_run 1003 (nI n) (nI j) M2 = if nI j = 0 then (BM_run_55 1003 (nI (runA ρ false sg st S).1) M4) else (if nI j = 1 then (gd (obM M4 1003 11 34) <| (fM_pagesInUse 1003 M4).bind fun q10 => BM_run_55 1003 q10.1 q10.2) else (gd (obM M4 1003 11 34) <| (fM_heldMany 1003 M4).bind fun q8 => BM_run_55 1003 q8.1 q8.2)) := by
          have e4 : fM_putAside 1003 0 M2 = some (saM M2 1019 N) := e4
          unfold fM_run
          rw [ms_ob H2, gd1n, eS2, bs1n, if_neg (show ¬ ((nI 1, M2) : Int32 × Mem).1 = 0 from n10), i1, bs1n, if_neg (show ¬ ((nI 1, M2) : Int32 × Mem).1 = 0 from n10), ms_ob H2, gd1n, e4, bs1n, ms_ob H3, gd1n, j2, bs1n]
        have b55 : ∀ w, BM_run_55 1003 w M4 = some (w, saM M4 1011 N') := fun w => by
          have e7 : fM_takeBack 1003 0 M4 = some (saM M4 1011 N') := e7
          unfold BM_run_55
          rw [ms_ob H4, gd1n, e7, bs1n]
        have wr : RW (giM (saM M4 1011 N') 1011) S := by rw [gi_sas]; exact w7
        have hsT := hs_ob (HS_of A2 hp_981)
        rcases (show j = 0 ∨ j = 1 ∨ j = 2 by omega) with rfl | rfl | rfl
        · refine fin_trial (v := nI (runA ρ false sg st S).1) A tp sc re D ?_ FF ?_ X2 wr
          · rw [cA, if_pos (show nI 0 = 0 from rfl)]
          · rw [cM, if_pos (show nI 0 = 0 from rfl), b55]
        · refine fin_trial (v := nI (sm (us1 (runA ρ false sg st S).2) (rP ρ))) A tp sc re D ?_ FF ?_ X2 wr
          · rw [cA, if_neg n10, if_pos (show nI 1 = 1 from rfl), as_o1 A2, gd1n, as_g1_13 A2, d_nz (by omega), gd1n, hsT, gd1n, u1, bs1n]
            rfl
          · rw [cM, if_neg n10, if_pos (show nI 1 = 1 from rfl), ms_ob H4, gd1n, w1, bs1n, b55]
        · refine fin_trial (v := nI (sm (hdn ρ (runA ρ false sg st S).2) (rP ρ))) A tp sc re D ?_ FF ?_ X2 wr
          · rw [cA, if_neg (show ¬ nI 2 = 0 by decide), if_neg (show ¬ nI 2 = 1 by decide), as_o1 A2, gd1n, as_g1_13 A2, d_nz (by omega), gd1n, hsT, gd1n, u2, bs1n]
            rfl
          · rw [cM, if_neg (show ¬ nI 2 = 0 by decide), if_neg (show ¬ nI 2 = 1 by decide), ms_ob H4, gd1n, w2, bs1n, b55]
end RN
