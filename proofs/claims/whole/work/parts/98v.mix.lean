/-! WAYS: the class goes all ways -/
section MV
variable {ρ : Rul} {sa sb : Nat → StT} {la lb ca cb : Nat}
theorem mixW (hR : RuOK ρ) (ha : la < 7) (hb : lb < 7) (h1a : 0 < ca ∧ ca + 3 < 791) (h1b : 0 < cb ∧ cb + 3 < 791) (Ha : ∀ i, i < la → TOK (sa i) ∧ (sa i).1 < 5) (Hb : ∀ i, i < lb → TOK (sb i) ∧ (sb i).1 < 5) : ∀ f i j l Y fl n g m k al w mo fw β M, (la - i) + (lb - j) < f → i ≤ la → j ≤ lb → l ≤ i → n ≤ i → m ≤ j → SHP M → grM M 791 3 = ca → grM M 791 4 = cb → SSh M ca → SSh M cb → giM M ca 3 = nI la → giM M cb 3 = nI lb → (∀ q, q < la → STc M ca q (sa q)) → (∀ q, q < lb → STc M cb q (sb q)) → CC M (795 + 26 * l) ρ β (wlg Y fl) → OKS ρ β (wlg Y fl) → GOK ρ (wlg Y fl) n g → GOK ρ (wlg Y fl) m k → CX n g m k → PG M (813 + 26 * l) n 0 g → PG M (817 + 26 * l) m 0 k → AcX M al w mo fw → β + f < 2000000000 → ∃ M', fX_mix f 791 (nI l) (nI i) (nI j) M = some M' ∧ MF l M M' ∧ AcX M' (al + sA (wyL ρ sa sb la lb f i j Y n g m k)) (w + sW (wyL ρ sa sb la lb f i j Y n g m k)) (fMo mo (wyL ρ sa sb la lb f i j Y n g m k)) (fFx fw (wyL ρ sa sb la lb f i j Y n g m k)) := by
  intro f
  induction f with
  | zero => intro i j l Y fl n g m k al w mo fw β M hf; omega
  | succ f ih =>
    intro i j l Y fl n g m k al w mo fw β M hf hi hj hl hn hm A r3 r4 SA SB s3 s4 Sa Sb C V G G2 cx P P2 ac hβ
    have l7 : l < 7 := by omega
    have t7 : Int32.ofNat (tgM M 792).2 = nI 7 := by
      rw [as_t792 A]
      rfl
    have head : fX_mix (f + 1) 791 (nI l) (nI i) (nI j) M = if 0 < nI (la - i) then (BX_mix_76 (fX_mix f) 791 (nI l) (nI i) (nI j) (nI (la - i)) (nI (lb - j)) M) else (if 0 < nI (lb - j) then (BX_mix_76 (fX_mix f) 791 (nI l) (nI i) (nI j) (nI (la - i)) (nI (lb - j)) M) else ((fX_tally 791 (795 + 26 * l) 1 (siM M 791 6 ((giM M 791 6) + 1))).bind fun q10 => some q10)) := by
      show gX_mix (fX_mix f) 791 (nI l) (nI i) (nI j) M = _
      unfold gX_mix
      rw [as_o791 A, gd1n, as_g791_0 A, d_nz (by omega), gd1n, as_ln792 A, gd1n, t7, if_neg (show ¬ nI 7 ≤ nI l from of_eq_false (n_leF (by omega) (by omega))), if_neg (show ¬ 6 < nI i from of_eq_false (n_ltF (a := 6) (b := i) (by omega) (by omega))), if_pos (show nI j ≤ 6 from of_eq_true (n_leT (a := j) (b := 6) (by omega) (by omega))), r3, d_nz (by omega), gd1n, SA.2.1, gd1n, r4, d_nz (by omega), gd1n, SB.2.1, gd1n, s3, s4, n_sub (by omega), n_sub (by omega), as_x792 A l7, gd1n, n_cl (a := l) (by omega), zx_h A l7, d_nz (by omega), gd1n]
    rw [head]
    unfold wyL
    by_cases hE : la ≤ i ∧ lb ≤ j
    · rw [if_pos hE, if_neg (show ¬ 0 < nI (la - i) from of_eq_false (n_ltF (a := 0) (b := la - i) (by omega) (by omega))), if_neg (show ¬ 0 < nI (lb - j) from of_eq_false (n_ltF (a := 0) (b := lb - j) (by omega) (by omega))), ac.2.1, show nI w + 1 = nI (w + 1) from by rw [l_1, n_add]]
      have F0 : Fr M (siM M 791 6 (nI (w + 1))) 791 791 := Fr_si (by omega) (by omega)
      have ac0 : AcX (siM M 791 6 (nI (w + 1))) al (w + 1) mo fw := ⟨by rw [giM_ud, ud_n _ _ (by omega)]; exact ac.1, by rw [giM_ud, ud_s], by rw [giM_ud, ud_n _ _ (by omega)]; exact ac.2.2.1, by rw [giM_ud, ud_n _ _ (by omega)]; exact ac.2.2.2.1, ac.2.2.2.2⟩
      obtain ⟨M', k1, F1, a1⟩ := cTal (c := 1) (SHP_Fr A F0 (by omega)) (CC_Fr C F0 (by omega) (by omega)) V.1 (by omega) ac0
      refine ⟨M', ?_, MF_tr (MF_9 F0) (MF_9 F1), a1⟩
      have k1 : fX_tally 791 (795 + 26 * l) 1 (siM M 791 6 (nI (w + 1))) = some M' := k1
      rw [k1, bs1n]
    · rw [if_neg hE, sA_app, sW_app, fMo_app, fFx_app]
      have h76 : (if 0 < nI (la - i) then (BX_mix_76 (fX_mix f) 791 (nI l) (nI i) (nI j) (nI (la - i)) (nI (lb - j)) M) else (if 0 < nI (lb - j) then (BX_mix_76 (fX_mix f) 791 (nI l) (nI i) (nI j) (nI (la - i)) (nI (lb - j)) M) else ((fX_tally 791 (795 + 26 * l) 1 (siM M 791 6 ((giM M 791 6) + 1))).bind fun q10 => some q10))) = BX_mix_76 (fX_mix f) 791 (nI l) (nI i) (nI j) (nI (la - i)) (nI (lb - j)) M := by
        by_cases c1 : 0 < la - i
        · rw [if_pos (show 0 < nI (la - i) from of_eq_true (n_ltT (a := 0) (b := la - i) (by omega) (by omega)))]
        · rw [if_neg (show ¬ 0 < nI (la - i) from of_eq_false (n_ltF (a := 0) (b := la - i) (by omega) (by omega))), if_pos (show 0 < nI (lb - j) from of_eq_true (n_ltT (a := 0) (b := lb - j) (by omega) (by omega)))]
      rw [h76]
      -- the one's side
      obtain ⟨M1, t1, X1, ac1, C1, P1⟩ : ∃ M1, BX_mix_76 (fX_mix f) 791 (nI l) (nI i) (nI j) (nI (la - i)) (nI (lb - j)) M = BX_mix_155 (fX_mix f) 791 (nI l) (nI i) (nI j) (nI (la - i)) (nI (lb - j)) M1 ∧ MF l M M1 ∧ AcX M1 (al + sA (if i < la then (match stp ρ false (sa i) (Y, n, 0, g) with
            | none => [(pgU ρ Y, 0, wN (la - i - 1) (lb - j))]
            | some x => wyL ρ sa sb la lb f (i + 1) j x.1 x.2.1 x.2.2.2 m k) else [])) (w + sW (if i < la then (match stp ρ false (sa i) (Y, n, 0, g) with
            | none => [(pgU ρ Y, 0, wN (la - i - 1) (lb - j))]
            | some x => wyL ρ sa sb la lb f (i + 1) j x.1 x.2.1 x.2.2.2 m k) else [])) (fMo mo (if i < la then (match stp ρ false (sa i) (Y, n, 0, g) with
            | none => [(pgU ρ Y, 0, wN (la - i - 1) (lb - j))]
            | some x => wyL ρ sa sb la lb f (i + 1) j x.1 x.2.1 x.2.2.2 m k) else [])) (fFx fw (if i < la then (match stp ρ false (sa i) (Y, n, 0, g) with
            | none => [(pgU ρ Y, 0, wN (la - i - 1) (lb - j))]
            | some x => wyL ρ sa sb la lb f (i + 1) j x.1 x.2.1 x.2.2.2 m k) else [])) ∧ (j < lb → CC M1 (795 + 26 * l) ρ β (wlg Y fl)) ∧ (j < lb → PG M1 (813 + 26 * l) n 0 g ∧ PG M1 (817 + 26 * l) m 0 k) := by
        by_cases ci : i < la
        · rw [if_pos ci]
          obtain ⟨tk, t5⟩ := Ha i ci
          -- at a level nx, from a memory M0
          have go : ∀ nx M0, nx < 7 → l ≤ nx → nx ≤ i + 1 → MF l M M0 → CC M0 (795 + 26 * nx) ρ β (wlg Y fl) → PG M0 (813 + 26 * nx) n 0 g → PG M0 (817 + 26 * nx) m 0 k → AcX M0 al w mo fw → ∃ M1, BX_mix_95 (fX_mix f) 791 (nI l) (nI i) (nI j) (nI (la - i)) (nI (lb - j)) (nI nx) M0 = BX_mix_155 (fX_mix f) 791 (nI l) (nI i) (nI j) (nI (la - i)) (nI (lb - j)) M1 ∧ MF nx M0 M1 ∧ AcX M1 (al + sA (sdL ρ Y n g (sa i) (wN (la - i - 1) (lb - j)) (fun x => wyL ρ sa sb la lb f (i + 1) j x.1 x.2.1 x.2.2.2 m k))) (w + sW (sdL ρ Y n g (sa i) (wN (la - i - 1) (lb - j)) (fun x => wyL ρ sa sb la lb f (i + 1) j x.1 x.2.1 x.2.2.2 m k))) (fMo mo (sdL ρ Y n g (sa i) (wN (la - i - 1) (lb - j)) (fun x => wyL ρ sa sb la lb f (i + 1) j x.1 x.2.1 x.2.2.2 m k))) (fFx fw (sdL ρ Y n g (sa i) (wN (la - i - 1) (lb - j)) (fun x => wyL ρ sa sb la lb f (i + 1) j x.1 x.2.1 x.2.2.2 m k))) := by
            intro nx M0 x7 lx xi X0 C0 Q Q2 a0
            have A0 := SHP_MF A X0
            have e3 : grM M0 791 3 = ca := by rw [grM_2 X0.1]; exact r3
            have e4 : grM M0 791 4 = cb := by rw [grM_2 X0.1]; exact r4
            have SA0 := SS_2 X0.1 SA
            have h95 : BX_mix_95 (fX_mix f) 791 (nI l) (nI i) (nI j) (nI (la - i)) (nI (lb - j)) (nI nx) M0 = (fG_doStep (813 + 26 * nx) (795 + 26 * nx) ca (nI i) M0).bind fun q9 => if q9.1 = 0 then (gd (obM q9.2 791 3 9) <| gd (decide (grM q9.2 791 0 ≠ 0)) <| gd (wrT 103 q9.2 (grM q9.2 791 0) (nI nx)) <| gd (decide (grM q9.2 (grM q9.2 791 0) (Int32.toNatClampNeg (nI nx)) ≠ 0)) <| (fX_waysOf (nI (la - i) - 1) (nI (lb - j)) q9.2).bind fun q15 => gd (obM q15.2 791 3 9) <| (fX_tally 791 (grM q9.2 (grM q9.2 791 0) (Int32.toNatClampNeg (nI nx))) q15.1 q15.2).bind fun q16 => BX_mix_155 (fX_mix f) 791 (nI l) (nI i) (nI j) (nI (la - i)) (nI (lb - j)) q16) else (gd (obM q9.2 791 3 9) <| (fX_mix f 791 (nI nx) (nI i + 1) (nI j) q9.2).bind fun q18 => BX_mix_155 (fX_mix f) 791 (nI l) (nI i) (nI j) (nI (la - i)) (nI (lb - j)) q18) := by
              unfold BX_mix_95
              rw [as_o791 A0, gd1n, as_g791_1 A0, d_nz (by omega), gd1n, as_x793 A0 x7, gd1n, n_cl (a := nx) (by omega), zx_1 A0 x7, d_nz (by omega), gd1n, as_g791_0 A0, d_nz (by omega), gd1n, as_x792 A0 x7, gd1n, zx_h A0 x7, d_nz (by omega), gd1n, e3, d_nz (by omega), gd1n, ps_ob (PS_mx A0 x7 (Or.inl rfl)), gd1n]
            rw [h95]
            rcases cSd (self' := fX_mix f 791 (nI nx) (nI i + 1) (nI j)) (c := wN (la - i - 1) (lb - j)) (L := fun x => wyL ρ sa sb la lb f (i + 1) j x.1 x.2.1 x.2.2.2 m k) A0 x7 (Or.inl ⟨rfl, rfl⟩) C0 V G G2 cx Q Q2 a0 SA0 (show i < 24 by omega) (by omega) (by omega) tk t5 (STc_MF (Sa i ci) X0 (by omega)) (fun M2 x fl' hx A2 X2 C2 V2 G3 G4 cx2 nn Q3 Q4 a2 => by
              rw [show nI i + 1 = nI (i + 1) from by rw [l_1, n_add]]
              have Z := MF_tr X0 (MF_w X2 lx)
              exact ih (i + 1) j nx x.1 fl' x.2.1 x.2.2.2 m k al w mo fw (β + 1) M2 (by omega) (by omega) hj (by omega) (by omega) hm A2 (by rw [grM_2 Z.1]; exact r3) (by rw [grM_2 Z.1]; exact r4) (SS_2 Z.1 SA) (SS_2 Z.1 SB) (by rw [Z.2 ca (by omega) (by omega)]; exact s3) (by rw [Z.2 cb (by omega) (by omega)]; exact s4) (fun q hq => STc_MF (Sa q hq) Z (by omega)) (fun q hq => STc_MF (Sb q hq) Z (by omega)) C2 V2 G3 G4 cx2 Q3 Q4 a2 (by omega)) with ⟨j1, M3, j2, X3, a3⟩ | ⟨M2, j1, A2, M3, j2, X3, a3⟩
            · refine ⟨M3, ?_, X3, a3⟩
              rw [j1, bs1n, if_pos (show ((nI 0, M0) : Int32 × Mem).1 = 0 from rfl), as_o791 A0, gd1n, as_g791_0 A0, d_nz (by omega), gd1n, as_x792 A0 x7, gd1n, n_cl (a := nx) (by omega), zx_h A0 x7, d_nz (by omega), gd1n, show nI (la - i) - 1 = nI (la - i - 1) from by rw [l_1, n_sub (by omega)], wO_ok (by omega) (by omega), bs1n, as_o791 A0, gd1n, j2, bs1n]
            · refine ⟨M3, ?_, X3, a3⟩
              rw [j1, bs1n, if_neg (show ¬ ((nI 1, M2) : Int32 × Mem).1 = 0 from (show ¬ nI 1 = 0 by decide)), as_o791 A2, gd1n, j2, bs1n]
          by_cases cj : j < lb
          · obtain ⟨M0, d1, F0, C0, Q0, Q20⟩ := cDeep A (show l < 6 by omega) C V.1 P P2 (by omega) (by omega)
            have X0 : MF l M M0 := MF_Fr F0 (by omega) (by omega)
            obtain ⟨M1, g1, g2, g3⟩ := go (l + 1) M0 (by omega) (by omega) (by omega) X0 C0 Q0 Q20 (AcX_cg ac (F0.2 791 (by omega)))
            have sm : ∀ a, 795 + 26 * l ≤ a → a < 795 + 26 * (l + 1) → giM M1 a = giM M a := fun a h1 h2 => by rw [g2.2 a (by omega) (by omega), F0.2 a (by omega)]
            refine ⟨M1, ?_, MF_tr X0 (MF_w g2 (by omega)), g3, fun _ => ?_, fun _ => ⟨PG_cg P (fun a h1 h2 => sm a (by omega) (by omega)), PG_cg P2 (fun a h1 h2 => sm a (by omega) (by omega))⟩⟩
            · unfold BX_mix_76
              rw [if_neg (show ¬ nI (la - i) ≤ 0 from of_eq_false (n_leF (a := la - i) (b := 0) (by omega) (by omega))), if_neg (show ¬ nI (lb - j) ≤ 0 from of_eq_false (n_leF (a := lb - j) (b := 0) (by omega) (by omega))), as_o791 A, gd1n, d1, bs1n]
              exact g1
            · refine CC_cg C (g2.1.trans F0.1) (fun a ha => ?_)
              rcases ha with h | h
              · rw [g2.2 a (by omega) (by omega), F0.2 a (by omega)]
              · exact sm a (by omega) (by omega)
          · obtain ⟨M1, g1, g2, g3⟩ := go l M l7 (Nat.le_refl l) (by omega) (MF_refl l M) C P P2 ac
            refine ⟨M1, ?_, g2, g3, fun h => absurd h cj, fun h => absurd h cj⟩
            unfold BX_mix_76
            rw [if_neg (show ¬ nI (la - i) ≤ 0 from of_eq_false (n_leF (a := la - i) (b := 0) (by omega) (by omega))), if_pos (show nI (lb - j) ≤ 0 from of_eq_true (n_leT (a := lb - j) (b := 0) (by omega) (by omega)))]
            exact g1
        · rw [if_neg ci]
          refine ⟨M, ?_, MF_refl l M, ac, fun _ => C, fun _ => ⟨P, P2⟩⟩
          unfold BX_mix_76
          rw [if_pos (show nI (la - i) ≤ 0 from of_eq_true (n_leT (a := la - i) (b := 0) (by omega) (by omega)))]
      rw [t1, ← Nat.add_assoc, ← Nat.add_assoc]
      generalize (if i < la then (match stp ρ false (sa i) (Y, n, 0, g) with
            | none => [(pgU ρ Y, 0, wN (la - i - 1) (lb - j))]
            | some x => wyL ρ sa sb la lb f (i + 1) j x.1 x.2.1 x.2.2.2 m k) else []) = La at ac1
      have A1 := SHP_MF A X1
      have q4 : grM M1 791 4 = cb := by rw [grM_2 X1.1]; exact r4
      by_cases cj : j < lb
      · rw [if_pos cj]
        obtain ⟨tk, t5⟩ := Hb j cj
        have C1 := C1 cj
        obtain ⟨Q1, Q2⟩ := P1 cj
        have h155 : BX_mix_155 (fX_mix f) 791 (nI l) (nI i) (nI j) (nI (la - i)) (nI (lb - j)) M1 = (fG_doStep (817 + 26 * l) (795 + 26 * l) cb (nI j) M1).bind fun q9 => if q9.1 = 0 then (gd (obM q9.2 791 3 9) <| gd (decide (grM q9.2 791 0 ≠ 0)) <| gd (wrT 103 q9.2 (grM q9.2 791 0) (nI l)) <| gd (decide (grM q9.2 (grM q9.2 791 0) (Int32.toNatClampNeg (nI l)) ≠ 0)) <| (fX_waysOf (nI (la - i)) (nI (lb - j) - 1) q9.2).bind fun q15 => gd (obM q15.2 791 3 9) <| (fX_tally 791 (grM q9.2 (grM q9.2 791 0) (Int32.toNatClampNeg (nI l))) q15.1 q15.2).bind fun q16 => BX_mix_214 (fX_mix f) q16) else (gd (obM q9.2 791 3 9) <| (fX_mix f 791 (nI l) (nI i) (nI j + 1) q9.2).bind fun q18 => BX_mix_214 (fX_mix f) q18) := by
          unfold BX_mix_155
          rw [if_neg (show ¬ nI (lb - j) ≤ 0 from of_eq_false (n_leF (a := lb - j) (b := 0) (by omega) (by omega))), as_o791 A1, gd1n, as_g791_2 A1, d_nz (by omega), gd1n, as_x794 A1 l7, gd1n, n_cl (a := l) (by omega), zx_2 A1 l7, d_nz (by omega), gd1n, as_g791_0 A1, d_nz (by omega), gd1n, as_x792 A1 l7, gd1n, zx_h A1 l7, d_nz (by omega), gd1n, q4, d_nz (by omega), gd1n, ps_ob (PS_mx A1 l7 (Or.inr rfl)), gd1n]
        rw [h155]
        rcases cSd (self' := fX_mix f 791 (nI l) (nI i) (nI j + 1)) (c := wN (la - i) (lb - j - 1)) (L := fun x => wyL ρ sa sb la lb f i (j + 1) x.1 n g x.2.1 x.2.2.2) A1 l7 (Or.inr ⟨rfl, rfl⟩) C1 V G2 G (CX_sym cx) Q2 Q1 ac1 (SS_2 X1.1 SB) (show j < 24 by omega) (by omega) (by omega) tk t5 (STc_MF (Sb j cj) X1 (by omega)) (fun M2 x fl' hx A2 X2 C2 V2 G3 G4 cx2 nn Q3 Q4 a2 => by
          rw [show nI j + 1 = nI (j + 1) from by rw [l_1, n_add]]
          have Z := MF_tr X1 X2
          exact ih i (j + 1) l x.1 fl' n g x.2.1 x.2.2.2 _ _ _ _ (β + 1) M2 (by omega) hi (by omega) hl hn (by omega) A2 (by rw [grM_2 Z.1]; exact r3) (by rw [grM_2 Z.1]; exact r4) (SS_2 Z.1 SA) (SS_2 Z.1 SB) (by rw [Z.2 ca (by omega) (by omega)]; exact s3) (by rw [Z.2 cb (by omega) (by omega)]; exact s4) (fun q hq => STc_MF (Sa q hq) Z (by omega)) (fun q hq => STc_MF (Sb q hq) Z (by omega)) C2 V2 G4 G3 (CX_sym cx2) Q4 Q3 a2 (by omega)) with ⟨j1, M3, j2, X3, a3⟩ | ⟨M2, j1, A2, M3, j2, X3, a3⟩
        · refine ⟨M3, ?_, MF_tr X1 X3, a3⟩
          rw [j1, bs1n, if_pos (show ((nI 0, M1) : Int32 × Mem).1 = 0 from rfl), as_o791 A1, gd1n, as_g791_0 A1, d_nz (by omega), gd1n, as_x792 A1 l7, gd1n, n_cl (a := l) (by omega), zx_h A1 l7, d_nz (by omega), gd1n, show nI (lb - j) - 1 = nI (lb - j - 1) from by rw [l_1, n_sub (by omega)], wO_ok (by omega) (by omega), bs1n, as_o791 A1, gd1n, j2, bs1n]
          rfl
        · refine ⟨M3, ?_, MF_tr X1 X3, a3⟩
          rw [j1, bs1n, if_neg (show ¬ ((nI 1, M2) : Int32 × Mem).1 = 0 from (show ¬ nI 1 = 0 by decide)), as_o791 A2, gd1n, j2, bs1n]
          rfl
      · rw [if_neg cj]
        refine ⟨M1, ?_, X1, ac1⟩
        unfold BX_mix_155
        rw [if_pos (show nI (lb - j) ≤ 0 from of_eq_true (n_leT (a := lb - j) (b := 0) (by omega) (by omega)))]
        rfl
end MV
