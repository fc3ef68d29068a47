/-! WAYS -/
section WZ
variable {M M1 M2 : Mem} {ρ : Rul} {β : Nat} {S : HSt}
theorem a_ways (G : GR M β) (hβ : β < 1900000000) (v1 v2 v3 : Int32) : ST2 (fA_ways 1 v1 v2 v3) (fM_ways 1003 v1 v2 v3) M β := by
  have G0 := G
  have n10 : ¬ nI 1 = 0 := by decide
  obtain ⟨A, tp, sc, re, U | ⟨ρ, S, D⟩⟩ := G
  · have H := MS_of A
    have e2 := mS_u (v := v1) A U
    refine ST2_SA G0 ⟨mI, ?_, ?_⟩
    · unfold fA_ways BA_ways_40
      rw [as_o1 A, gd1n, as_g1_2 A, d_nz (by omega), gd1n, as_o5 A, gd1n, u_told A U, bs1n, if_pos (show ((nI 0, M) : Int32 × Mem).1 = 0 from rfl)]
      rfl
    · unfold fM_ways BM_ways_46
      rw [ms_ob H, gd1n, e2, bs1n, if_pos (show ((nI 0, M) : Int32 × Mem).1 = 0 from rfl)]
      rfl
  · obtain ⟨o, m, T, bb, S', ho, hm, hbb, C, P, I, C', P', I', V, VT, VI⟩ := TD_get D
    have H := C'.1
    have ea := mArena C'
    have hR := C.2.2.1
    have sc0 := sc
    obtain ⟨sn, h4, s2, s3, -⟩ := sc0
    have tl := told_ok A C
    rcases sp v1 (k := sn) (by omega) with hv | ⟨a, hna, rfl⟩
    · have e2 := mS_F (v := v1) C' ea s3 h4 hv
      refine ST2_SA G0 ⟨mI, ?_, ?_⟩
      · unfold fA_ways BA_ways_40
        rw [as_o1 A, gd1n, as_g1_2 A, d_nz (by omega), gd1n, as_o5 A, gd1n, tl, bs1n, if_neg (show ¬ ((nI 1, M) : Int32 × Mem).1 = 0 from n10), as_o1 A, gd1n, isS_F A s2 hv, bs1n, if_pos (show ((nI 0, M) : Int32 × Mem).1 = 0 from rfl)]
        rfl
      · unfold fM_ways BM_ways_46
        rw [ms_ob H, gd1n, e2, bs1n, if_pos (show ((nI 0, M) : Int32 × Mem).1 = 0 from rfl)]
        rfl
    · have eA := mS_T C' ea s3 h4 hna
      have cA := isS_T A s2 hna h4
      rcases sp v2 (k := sn) (by omega) with hv | ⟨b, hnb, rfl⟩
      · have e2 := mS_F (v := v2) C' ea s3 h4 hv
        refine ST2_SA G0 ⟨mI, ?_, ?_⟩
        · unfold fA_ways BA_ways_40
          rw [as_o1 A, gd1n, as_g1_2 A, d_nz (by omega), gd1n, as_o5 A, gd1n, tl, bs1n, if_neg (show ¬ ((nI 1, M) : Int32 × Mem).1 = 0 from n10), as_o1 A, gd1n, cA, bs1n, if_neg (show ¬ ((nI 1, M) : Int32 × Mem).1 = 0 from n10), as_o1 A, gd1n, isS_F A s2 hv, bs1n, if_pos (show ((nI 0, M) : Int32 × Mem).1 = 0 from rfl)]
          rfl
        · unfold fM_ways BM_ways_46
          rw [ms_ob H, gd1n, eA, bs1n, if_neg (show ¬ ((nI 1, M) : Int32 × Mem).1 = 0 from n10), ms_ob H, gd1n, e2, bs1n, if_pos (show ((nI 0, M) : Int32 × Mem).1 = 0 from rfl)]
          rfl
      · have eB := mS_T C' ea s3 h4 hnb
        have cB := isS_T A s2 hnb h4
        by_cases hab : a = b
        · subst hab
          refine ST2_SA G0 ⟨mI, ?_, ?_⟩
          · unfold fA_ways BA_ways_40
            rw [as_o1 A, gd1n, as_g1_2 A, d_nz (by omega), gd1n, as_o5 A, gd1n, tl, bs1n, if_neg (show ¬ ((nI 1, M) : Int32 × Mem).1 = 0 from n10), as_o1 A, gd1n, cA, bs1n, if_neg (show ¬ ((nI 1, M) : Int32 × Mem).1 = 0 from n10), as_o1 A, gd1n, cA, bs1n, if_neg (show ¬ ((nI 1, M) : Int32 × Mem).1 = 0 from n10), if_pos rfl]
            rfl
          · unfold fM_ways BM_ways_46
            rw [ms_ob H, gd1n, eA, bs1n, if_neg (show ¬ ((nI 1, M) : Int32 × Mem).1 = 0 from n10), ms_ob H, gd1n, eA, bs1n, if_neg (show ¬ ((nI 1, M) : Int32 × Mem).1 = 0 from n10), if_pos rfl]
            rfl
        · have nab : ¬ nI a = nI b := fun e => hab (n_inj (by omega) (by omega) e)
          obtain ⟨sa, la, hga, qa1, qa2, qa3, qa4⟩ := SC_n sc s2 h4 hna
          obtain ⟨sb, lb, hgb, qb1, qb2, qb3, qb4⟩ := SC_n sc s2 h4 hnb
          have fa := few_m H (show a ≤ 4 by omega) qa2 hga.1 qa4 (fun j hj => (hga.2 j hj).1.1)
          have fb := few_m H (show b ≤ 4 by omega) qb2 hgb.1 qb4 (fun j hj => (hgb.2 j hj).1.1)
          rcases sp v3 (k := 4) (by omega) with hv | ⟨j, hj, rfl⟩
          · refine ST2_SA G0 ⟨mI, ?_, ?_⟩
            · unfold fA_ways BA_ways_40
              rw [as_o1 A, gd1n, as_g1_2 A, d_nz (by omega), gd1n, as_o5 A, gd1n, tl, bs1n, if_neg (show ¬ ((nI 1, M) : Int32 × Mem).1 = 0 from n10), as_o1 A, gd1n, cA, bs1n, if_neg (show ¬ ((nI 1, M) : Int32 × Mem).1 = 0 from n10), as_o1 A, gd1n, cB, bs1n, if_neg (show ¬ ((nI 1, M) : Int32 × Mem).1 = 0 from n10), if_neg nab]
              by_cases h0 : v3 < 0
              · rw [if_pos h0]
                rfl
              · have h3 : nI 4 ≤ v3 := hv.resolve_left h0
                rw [if_neg h0, if_neg (show ¬ v3 ≤ 3 from fun h => absurd (Int32.le_trans h3 h) (by decide))]
                rfl
            · have i1 : fM_in v3 0 3 M = some (nI 0, M) := in_Fm (k := 3) (by omega) hv
              unfold fM_ways BM_ways_46
              rw [ms_ob H, gd1n, eA, bs1n, if_neg (show ¬ ((nI 1, M) : Int32 × Mem).1 = 0 from n10), ms_ob H, gd1n, eB, bs1n, if_neg (show ¬ ((nI 1, M) : Int32 × Mem).1 = 0 from n10), if_neg nab, ms_ob H, gd1n]
              rcases fa with ⟨-, fa⟩ | ⟨-, fa⟩
              · rw [fa, bs1n, if_neg (show ¬ ((nI 1, M) : Int32 × Mem).1 = 0 from n10), ms_ob H, gd1n]
                rcases fb with ⟨-, fb⟩ | ⟨-, fb⟩
                · rw [fb, bs1n, if_neg (show ¬ ((nI 1, M) : Int32 × Mem).1 = 0 from n10), i1, bs1n, if_pos (show ((nI 0, M) : Int32 × Mem).1 = 0 from rfl)]
                  rfl
                · rw [fb, bs1n, if_pos (show ((nI 0, M) : Int32 × Mem).1 = 0 from rfl)]
                  rfl
              · rw [fa, bs1n, if_pos (show ((nI 0, M) : Int32 × Mem).1 = 0 from rfl)]
                rfl
          · have g0 : ¬ nI j < 0 := of_eq_false (n_ltF (a := j) (b := 0) (by omega) (by omega))
            have g3 : nI j ≤ 3 := of_eq_true (n_leT (a := j) (b := 3) (by omega) (by omega))
            have ma := mix_c (SS_of A (show a < 4 by omega)) qa1 hga.1 qa3 (fun j hj => (hga.2 j hj).1.1)
            have mb := mix_c (SS_of A (show b < 4 by omega)) qb1 hgb.1 qb3 (fun j hj => (hgb.2 j hj).1.1)
            rcases fa with ⟨fa0, fa⟩ | ⟨fa0, fa⟩
            · have ma : fS_isMixable (12 + 4 * a) M = some (nI 1, M) := by
                rcases ma with ⟨-, ma⟩ | ⟨h, -⟩
                · exact ma
                · exact absurd fa0 h
              rcases fb with ⟨fb0, fb⟩ | ⟨fb0, fb⟩
              · have mb : fS_isMixable (12 + 4 * b) M = some (nI 1, M) := by
                  rcases mb with ⟨-, mb⟩ | ⟨h, -⟩
                  · exact mb
                  · exact absurd fb0 h
                have ha7 : la < 7 := by have := fa0.1; omega
                have hb7 : lb < 7 := by have := fb0.1; omega
                have Ha : ∀ i, i < la → TOK (sa i) ∧ (sa i).1 < 5 := fun i hi => ⟨(hga.2 i hi).1, fa0.2 i hi⟩
                have Hb : ∀ i, i < lb → TOK (sb i) ∧ (sb i).1 < 5 := fun i hi => ⟨(hgb.2 i hi).1, fb0.2 i hi⟩
                obtain ⟨M1, k1, X1, C1, Q1, Q2, ac1⟩ := cBeg (ca := 12 + 4 * a) (cb := 12 + 4 * b) A C V.1 (by omega) (by omega)
                have A0 : SHP (srM (srM M 791 3 (12 + 4 * a)) 791 4 (12 + 4 * b)) := SHP_sr (SHP_sr A (by omega)) (by omega)
                have D0 : TD (srM (srM M 791 3 (12 + 4 * a)) 791 4 (12 + 4 * b)) ρ β S := TD_sr (SHP_sr A (by omega)) (by omega) (TD_sr A (by omega) D)
                have r3 : grM (srM (srM M 791 3 (12 + 4 * a)) 791 4 (12 + 4 * b)) 791 3 = 12 + 4 * a := by
                  rw [gr_srq, if_neg (by omega), gr_srq, if_pos ⟨rfl, rfl⟩]
                have r4 : grM (srM (srM M 791 3 (12 + 4 * a)) 791 4 (12 + 4 * b)) 791 4 = 12 + 4 * b := by
                  rw [gr_srq, if_pos ⟨rfl, rfl⟩]
                have gi0 : giM (srM (srM M 791 3 (12 + 4 * a)) 791 4 (12 + 4 * b)) = giM M := rfl
                have xs0 : XS M (srM (srM M 791 3 (12 + 4 * a)) 791 4 (12 + 4 * b)) := ⟨rfl, rfl⟩
                have tp0 : TP (srM (srM M 791 3 (12 + 4 * a)) 791 4 (12 + 4 * b)) := tp
                have sc0 : SC (srM (srM M 791 3 (12 + 4 * a)) 791 4 (12 + 4 * b)) := sc
                have re0 : RE (srM (srM M 791 3 (12 + 4 * a)) 791 4 (12 + 4 * b)) := re
                generalize srM (srM M 791 3 (12 + 4 * a)) 791 4 (12 + 4 * b) = M0 at X1 A0 D0 r3 r4 gi0 xs0 tp0 sc0 re0
                have A1 := SHP_MF A0 X1
                have gM : ∀ x, x ≠ 791 → (x < 795 ∨ 976 < x) → giM M1 x = giM M x := fun x h1 h2 => by rw [X1.2 x h1 (by omega), gi0]
                have st1 : ∀ {c i : Nat} {t : StT}, c + 3 < 791 → STc M c i t → STc M1 c i t := fun h e => by
                  unfold STc
                  rw [gM _ (by omega) (by omega), gM _ (by omega) (by omega), gM _ (by omega) (by omega)]
                  exact e
                obtain ⟨M2, k2, X2, ac2⟩ := mixW (ca := 12 + 4 * a) (cb := 12 + 4 * b) (sa := sa) (sb := sb) hR ha7 hb7 ⟨by omega, by omega⟩ ⟨by omega, by omega⟩ Ha Hb 20 0 0 0 S (lg S) 0 g00 0 g00 0 0 0 16 β M1 (by omega) (by omega) (by omega) (by omega) (by omega) (by omega) A1 (by rw [grM_2 X1.1]; exact r3) (by rw [grM_2 X1.1]; exact r4) (SS_of A1 (show a < 4 by omega)) (SS_of A1 (show b < 4 by omega)) (by rw [gM _ (by omega) (by omega)]; exact qa1) (by rw [gM _ (by omega) (by omega)]; exact qb1) (fun q hq => st1 (by omega) (qa3 q hq)) (fun q hq => st1 (by omega) (qb3 q hq)) C1 V GOK_0 GOK_0 CX_0 Q1 Q2 ac1 (by omega)
                rw [Nat.zero_add, Nat.zero_add] at ac2
                have k2 : fX_mix 20 791 0 0 0 M1 = some M2 := k2
                have A2 := SHP_MF A1 X2
                have X02 := MF_tr X1 X2
                have FF : Fr M0 M2 791 1002 := ⟨X02.1, fun x hx => X02.2 x (by omega) (by omega)⟩
                have R2 : RC M2 ρ S := RC_Fr D0.2.1 FF (by omega)
                have gF : ∀ x, 1002 < x → giM M2 x = giM M x := fun x h1 => by rw [FF.2 x (by omega), gi0]
                have ea2 := mArena R2
                have s32 : giM M2 1003 13 = nI sn := by rw [gF 1003 (by omega)]; exact s3
                have eA2 := mS_T R2 ea2 s32 h4 hna
                have eB2 := mS_T R2 ea2 s32 h4 hnb
                have tA : ∀ q, q < la → STm M2 (3 * (24 * a + q)) (sa q) := fun q hq => by
                  have := qa4 q hq
                  unfold STm at this ⊢
                  rw [gF 1009 (by omega)]
                  exact this
                have tB : ∀ q, q < lb → STm M2 (3 * (24 * b + q)) (sb q) := fun q hq => by
                  have := qb4 q hq
                  unfold STm at this ⊢
                  rw [gF 1009 (by omega)]
                  exact this
                have ya : giM M2 1010 a = nI la := by rw [gF 1010 (by omega)]; exact qa2
                have yb : giM M2 1010 b = nI lb := by rw [gF 1010 (by omega)]; exact qb2
                have fa2 : fM_isFew 1003 (nI a) M2 = some (nI 1, M2) := by
                  rcases few_m R2.1 (show a ≤ 4 by omega) ya hga.1 tA (fun j hj => (hga.2 j hj).1.1) with ⟨-, h⟩ | ⟨h, -⟩
                  · exact h
                  · exact absurd fa0 h
                have fb2 : fM_isFew 1003 (nI b) M2 = some (nI 1, M2) := by
                  rcases few_m R2.1 (show b ≤ 4 by omega) yb hgb.1 tB (fun j hj => (hgb.2 j hj).1.1) with ⟨-, h⟩ | ⟨h, -⟩
                  · exact h
                  · exact absurd fb0 h
                obtain ⟨M3, k3, X3, w3, ac3⟩ := mWays (j := j) R2 V (by omega) ha7 hb7 (show a < 4 by omega) (show b < 4 by omega) hab (by omega) Ha Hb eA2 eB2 fa2 fb2 ya yb tA tB
                have ne := wy_ne (ρ := ρ) (sa := sa) (sb := sb) ha7 hb7 (f := 20) (i := 0) (j := 0) (Y := S) (n := 0) (m := 0) (g := g00) (k := g00) (by omega) (by omega) (by omega)
                have sm := wy_sum (ρ := ρ) (sa := sa) (sb := sb) ha7 hb7 20 0 0 S 0 g00 0 g00 (by omega) (by omega) (by omega)
                have sm : sA (wyL ρ sa sb la lb 20 0 0 S 0 g00 0 g00) = wN la lb := sm
                have fe := fFe_n ne ac3.2.2.2.2.1
                rw [fe] at ac3
                rw [sm] at ac2
                generalize wyL ρ sa sb la lb 20 0 0 S 0 g00 0 g00 = L at ac2 ac3
                have cl : fA_ways 1 (nI a) (nI b) (nI j) M = some (giM M2 791 (5 + j), M2) := by
                  unfold fA_ways
                  rw [as_o1 A, gd1n, as_g1_2 A, d_nz (by omega), gd1n, as_o5 A, gd1n, tl, bs1n, if_neg (show ¬ ((nI 1, M) : Int32 × Mem).1 = 0 from n10), as_o1 A, gd1n, cA, bs1n, if_neg (show ¬ ((nI 1, M) : Int32 × Mem).1 = 0 from n10), as_o1 A, gd1n, cB, bs1n, if_neg (show ¬ ((nI 1, M) : Int32 × Mem).1 = 0 from n10), if_neg nab, if_neg g0, if_pos g3, as_o1 A, gd1n, as_g1_4 A, d_nz (by omega), gd1n, as_x11 A (show a < 4 by omega), gd1n, n_cl (a := a) (by omega), as_s11 A (show a < 4 by omega), d_nz (by omega), gd1n, as_so A (show a < 4 by omega), gd1n, ma, bs1n, if_neg (show ¬ ((nI 1, M) : Int32 × Mem).1 = 0 from n10), as_o1 A, gd1n, as_g1_4 A, d_nz (by omega), gd1n, as_x11 A (show b < 4 by omega), gd1n, n_cl (a := b) (by omega), as_s11 A (show b < 4 by omega), d_nz (by omega), gd1n, as_so A (show b < 4 by omega), gd1n, mb, bs1n, if_neg (show ¬ ((nI 1, M) : Int32 × Mem).1 = 0 from n10), as_o1 A, gd1n, as_g1_12 A, d_nz (by omega), gd1n, as_g1_7 A, d_nz (by omega), gd1n, as_g1_4 A, d_nz (by omega), gd1n, as_x11 A (show a < 4 by omega), gd1n, as_s11 A (show a < 4 by omega), d_nz (by omega), gd1n, as_x11 A (show b < 4 by omega), gd1n, as_s11 A (show b < 4 by omega), d_nz (by omega), gd1n, as_o791 A, gd1n, k1, bs1n, as_o1 A1, gd1n, as_g1_12 A1, d_nz (by omega), gd1n, as_o791 A1, gd1n, k2, bs1n]
                  rcases (show j = 0 ∨ j = 1 ∨ j = 2 ∨ j = 3 by omega) with rfl | rfl | rfl | rfl
                  · rw [if_pos (show nI 0 = 0 from rfl), as_o1 A2, gd1n, as_g1_12 A2, d_nz (by omega), gd1n, as_o791 A2, gd1n] <;> rfl
                  · rw [if_neg n10, if_pos (show nI 1 = 1 from rfl), as_o1 A2, gd1n, as_g1_12 A2, d_nz (by omega), gd1n, as_o791 A2, gd1n] <;> rfl
                  · rw [if_neg (show ¬ nI 2 = 0 by decide), if_neg (show ¬ nI 2 = 1 by decide), if_pos (show nI 2 = 2 from rfl), as_o1 A2, gd1n, as_g1_12 A2, d_nz (by omega), gd1n, as_o791 A2, gd1n] <;> rfl
                  · rw [if_neg (show ¬ nI 3 = 0 by decide), if_neg (show ¬ nI 3 = 1 by decide), if_neg (show ¬ nI 3 = 2 by decide), as_o1 A2, gd1n, as_g1_12 A2, d_nz (by omega), gd1n, as_o791 A2, gd1n] <;> rfl
                have eq : giM M2 791 (5 + j) = giM M3 1003 (28 + j) := by
                  obtain ⟨b1, b2, b3, b4, -⟩ := ac2
                  obtain ⟨d1, d2, d3, -, -, d0⟩ := ac3
                  rcases (show j = 0 ∨ j = 1 ∨ j = 2 ∨ j = 3 by omega) with rfl | rfl | rfl | rfl
                  · exact b1.trans d0.symm
                  · exact b2.trans d1.symm
                  · exact b3.trans d2.symm
                  · exact b4.trans d3.symm
                rw [← eq] at k3
                obtain ⟨v, N1, N2, u1, u2, u3, u4, u5, u6⟩ := fin_trial (x := fun _ => some (giM M2 791 (5 + j), M2)) (y := fM_ways 1003 (nI a) (nI b) (nI j)) A0 tp0 sc0 re0 D0 rfl FF k3 X3 w3
                obtain ⟨rfl, rfl⟩ := Prod.mk.inj (Option.some.inj u1)
                exact ⟨_, _, N2, cl, u2, u3, u4, XS_tr xs0 u5, XS_tr xs0 u6⟩
              · have mb : fS_isMixable (12 + 4 * b) M = some (nI 0, M) := by
                  rcases mb with ⟨h, -⟩ | ⟨-, mb⟩
                  · exact absurd h fb0
                  · exact mb
                refine ST2_SA G0 ⟨mI, ?_, ?_⟩
                · unfold fA_ways BA_ways_66
                  rw [as_o1 A, gd1n, as_g1_2 A, d_nz (by omega), gd1n, as_o5 A, gd1n, tl, bs1n, if_neg (show ¬ ((nI 1, M) : Int32 × Mem).1 = 0 from n10), as_o1 A, gd1n, cA, bs1n, if_neg (show ¬ ((nI 1, M) : Int32 × Mem).1 = 0 from n10), as_o1 A, gd1n, cB, bs1n, if_neg (show ¬ ((nI 1, M) : Int32 × Mem).1 = 0 from n10), if_neg nab, if_neg g0, if_pos g3, as_o1 A, gd1n, as_g1_4 A, d_nz (by omega), gd1n, as_x11 A (show a < 4 by omega), gd1n, n_cl (a := a) (by omega), as_s11 A (show a < 4 by omega), d_nz (by omega), gd1n, as_so A (show a < 4 by omega), gd1n, ma, bs1n, if_neg (show ¬ ((nI 1, M) : Int32 × Mem).1 = 0 from n10), as_o1 A, gd1n, as_g1_4 A, d_nz (by omega), gd1n, as_x11 A (show b < 4 by omega), gd1n, n_cl (a := b) (by omega), as_s11 A (show b < 4 by omega), d_nz (by omega), gd1n, as_so A (show b < 4 by omega), gd1n, mb, bs1n, if_pos (show ((nI 0, M) : Int32 × Mem).1 = 0 from rfl)]
                  rfl
                · unfold fM_ways BM_ways_46
                  rw [ms_ob H, gd1n, eA, bs1n, if_neg (show ¬ ((nI 1, M) : Int32 × Mem).1 = 0 from n10), ms_ob H, gd1n, eB, bs1n, if_neg (show ¬ ((nI 1, M) : Int32 × Mem).1 = 0 from n10), if_neg nab, ms_ob H, gd1n, fa, bs1n, if_neg (show ¬ ((nI 1, M) : Int32 × Mem).1 = 0 from n10), ms_ob H, gd1n, fb, bs1n, if_pos (show ((nI 0, M) : Int32 × Mem).1 = 0 from rfl)]
                  rfl
            · have ma : fS_isMixable (12 + 4 * a) M = some (nI 0, M) := by
                rcases ma with ⟨h, -⟩ | ⟨-, ma⟩
                · exact absurd h fa0
                · exact ma
              refine ST2_SA G0 ⟨mI, ?_, ?_⟩
              · unfold fA_ways BA_ways_66
                rw [as_o1 A, gd1n, as_g1_2 A, d_nz (by omega), gd1n, as_o5 A, gd1n, tl, bs1n, if_neg (show ¬ ((nI 1, M) : Int32 × Mem).1 = 0 from n10), as_o1 A, gd1n, cA, bs1n, if_neg (show ¬ ((nI 1, M) : Int32 × Mem).1 = 0 from n10), as_o1 A, gd1n, cB, bs1n, if_neg (show ¬ ((nI 1, M) : Int32 × Mem).1 = 0 from n10), if_neg nab, if_neg g0, if_pos g3, as_o1 A, gd1n, as_g1_4 A, d_nz (by omega), gd1n, as_x11 A (show a < 4 by omega), gd1n, n_cl (a := a) (by omega), as_s11 A (show a < 4 by omega), d_nz (by omega), gd1n, as_so A (show a < 4 by omega), gd1n, ma, bs1n, if_pos (show ((nI 0, M) : Int32 × Mem).1 = 0 from rfl)]
                rfl
              · unfold fM_ways BM_ways_46
                rw [ms_ob H, gd1n, eA, bs1n, if_neg (show ¬ ((nI 1, M) : Int32 × Mem).1 = 0 from n10), ms_ob H, gd1n, eB, bs1n, if_neg (show ¬ ((nI 1, M) : Int32 × Mem).1 = 0 from n10), if_neg nab, ms_ob H, gd1n, fa, bs1n, if_pos (show ((nI 0, M) : Int32 × Mem).1 = 0 from rfl)]
                rfl
end WZ
