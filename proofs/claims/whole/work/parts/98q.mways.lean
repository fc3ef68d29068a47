/-! WAYS: the reference goes all ways -/
section WO
variable {z : Int32} {M M1 M2 : Mem} {ρ : Rul} {sa sb : Nat → StT} {la lb a b : Nat}
theorem sW_app (l l' : List (Nat × Nat × Nat)) : sW (l ++ l') = sW l + sW l' := by
  unfold sW
  rw [List.map_append, List.sum_append]
theorem fMo_app (mo : Nat) (l l' : List (Nat × Nat × Nat)) : fMo mo (l ++ l') = fMo (fMo mo l) l' := List.foldl_append
theorem fFe_app (fe : Option Nat) (l l' : List (Nat × Nat × Nat)) : fFe fe (l ++ l') = fFe (fFe fe l) l' := List.foldl_append
theorem goW (hR : RuOK ρ) (ha : la < 7) (hb : lb < 7) (a4 : a ≤ 4) (b4 : b ≤ 4) (Ha : ∀ i, i < la → TOK (sa i) ∧ (sa i).1 < 5) (Hb : ∀ i, i < lb → TOK (sb i) ∧ (sb i).1 < 5) : ∀ f i j Y n g m k w mo fe β M, (la - i) + (lb - j) < f → i ≤ la → j ≤ lb → n ≤ i → m ≤ j → PGm M 0 n 0 g → PGm M 1 m 0 k → RC M ρ Y → OKS ρ β Y → GOK ρ Y n g → GOK ρ Y m k → CX n g m k → AcM z M w mo fe → β + f < 2000000000 → giM M 1010 a = nI la → giM M 1010 b = nI lb → (∀ q, q < la → STm M (3 * (24 * a + q)) (sa q)) → (∀ q, q < lb → STm M (3 * (24 * b + q)) (sb q)) → ∃ M', fM_goWays f 1003 (nI a) (nI b) (nI i) (nI j) M = some M' ∧ RZ M M' ∧ RC M' ρ Y ∧ PGm M' 0 n 0 g ∧ PGm M' 1 m 0 k ∧ AcM z M' (w + sW (wyL ρ sa sb la lb f i j Y n g m k)) (fMo mo (wyL ρ sa sb la lb f i j Y n g m k)) (fFe fe (wyL ρ sa sb la lb f i j Y n g m k)) ∧ ∀ d' N, d' < i + j → AS M d' N → AS M' d' N := by
  intro f
  induction f with
  | zero => intro i j Y n g m k w mo fe β M hf; omega
  | succ f ih =>
    intro i j Y n g m k w mo fe β M hf hi hj hn hm P P2 C V G G2 cx ac hβ l1 l2 S1 S2
    have H := C.1
    have STz : ∀ {M1 : Mem} {o : Nat} {t : StT}, RZ M M1 → STm M o t → STm M1 o t := fun X e => by
      unfold STm
      rw [X.2.1 1009 (by omega)]
      exact e
    show ∃ M', gM_goWays (fM_goWays f) 1003 (nI a) (nI b) (nI i) (nI j) M = some M' ∧ _
    unfold wyL
    by_cases he : la ≤ i ∧ lb ≤ j
    · rw [if_pos he]
      obtain rfl : i = la := by omega
      obtain rfl : j = lb := by omega
      have X1 : RZ M (siM M 1003 29 (nI (w + 1))) := RZ_fi (by omega)
      have C1 : RC (siM M 1003 29 (nI (w + 1))) ρ Y := RC_RZ C X1 (by rw [giM_un (by omega)]; exact C.2.2.2)
      have ac1 : AcM z (siM M 1003 29 (nI (w + 1))) (w + 1) mo fe := ⟨by rw [giM_ud, ud_s], by rw [giM_ud, ud_n _ _ (by omega)]; exact ac.2.1, by rw [giM_ud, ud_n _ _ (by omega)]; exact ac.2.2.1, ac.2.2.2.1, ac.2.2.2.2.1, by rw [giM_ud, ud_n _ _ (by omega)]; exact ac.2.2.2.2.2⟩
      obtain ⟨M', k1, s1, g1, g2, a2⟩ := mEw C1 V.1 ac1
      have X2 : RZ (siM M 1003 29 (nI (w + 1))) M' := ⟨s1, fun c hc => g1 c (by omega), fun j hj => g2 j (by omega) (by omega)⟩
      have X := RZ_tr X1 X2
      have gx : ∀ x, x ≠ 1003 → giM M' x = giM M x := fun x h => by rw [g1 x h, giM_un h]
      have g23 : giM M' 1003 23 = giM M 1003 23 := by rw [g2 23 (by omega) (by omega), giM_ud, ud_n _ _ (by omega)]
      refine ⟨M', ?_, X, RC_RZ C X (by rw [gx 1011 (by omega)]; exact C.2.2.2), PGm_cg P (fun c h1 h2 => gx c (by omega)) g23, PGm_cg P2 (fun c h1 h2 => gx c (by omega)) g23, a2, fun d' N h1 h2 => AS_cg h2 (gx 1019 (by omega))⟩
      unfold gM_goWays
      rw [ms_ob H, gd1n, ms_g12 H, d_nz (by omega), gd1n, ms_r12 H (show a < 5 by omega), gd1n, n_cl (a := a) (by omega), l1, if_pos rfl, ms_r12 H (show b < 5 by omega), gd1n, n_cl (a := b) (by omega), l2, if_pos rfl, ac.1, show nI w + 1 = nI (w + 1) from by rw [l_1, n_add], k1, bs1n]
    · rw [if_neg he, sW_app, fMo_app, fFe_app]
      have head : gM_goWays (fM_goWays f) 1003 (nI a) (nI b) (nI i) (nI j) M = (LM_goWays_45 (fM_goWays f) 1000000 1003 (nI a) (nI b) (nI i) (nI j) (nI (i + j)) (nI 0) M).bind (fun r2 => some r2) := by
        unfold gM_goWays BM_goWays_36
        rw [ms_ob H, gd1n, ms_g12 H, d_nz (by omega), gd1n, ms_r12 H (show a < 5 by omega), gd1n, n_cl (a := a) (by omega), l1, ms_r12 H (show b < 5 by omega), gd1n, n_cl (a := b) (by omega), l2, n_add]
        by_cases c1 : nI i = nI la
        · rw [if_pos c1]
          have e1 := n_inj (by omega) (by omega) c1
          rw [if_neg (show ¬ nI j = nI lb from fun e => he ⟨by omega, by have := n_inj (by omega) (by omega) e; omega⟩)]
          rfl
        · rw [if_neg c1]
          rfl
      rw [head]
      -- the first side
      obtain ⟨M1, t1, X1, C1, P1, P21, ac1, as1⟩ : ∃ M1, LM_goWays_45 (fM_goWays f) 1000000 1003 (nI a) (nI b) (nI i) (nI j) (nI (i + j)) (nI 0) M = LM_goWays_45 (fM_goWays f) 999999 1003 (nI a) (nI b) (nI i) (nI j) (nI (i + j)) (nI 1) M1 ∧ RZ M M1 ∧ RC M1 ρ Y ∧ PGm M1 0 n 0 g ∧ PGm M1 1 m 0 k ∧ AcM z M1 (w + sW (if i < la then (match stp ρ false (sa i) (Y, n, 0, g) with
            | none => [(pgU ρ Y, 0, wN (la - i - 1) (lb - j))]
            | some x => wyL ρ sa sb la lb f (i + 1) j x.1 x.2.1 x.2.2.2 m k) else [])) (fMo mo (if i < la then (match stp ρ false (sa i) (Y, n, 0, g) with
            | none => [(pgU ρ Y, 0, wN (la - i - 1) (lb - j))]
            | some x => wyL ρ sa sb la lb f (i + 1) j x.1 x.2.1 x.2.2.2 m k) else [])) (fFe fe (if i < la then (match stp ρ false (sa i) (Y, n, 0, g) with
            | none => [(pgU ρ Y, 0, wN (la - i - 1) (lb - j))]
            | some x => wyL ρ sa sb la lb f (i + 1) j x.1 x.2.1 x.2.2.2 m k) else [])) ∧ ∀ d' N, d' < i + j → AS M d' N → AS M1 d' N := by
        have h0 : LM_goWays_45 (fM_goWays f) 1000000 1003 (nI a) (nI b) (nI i) (nI j) (nI (i + j)) (nI 0) M = BM_goWays_74 (fM_goWays f) (LM_goWays_45 (fM_goWays f) 999999) 1003 (nI a) (nI b) (nI i) (nI j) (nI (i + j)) (nI 0) (nI a) (nI i) M := by
          have key : ∀ F, LM_goWays_45 (fM_goWays f) (F + 1) 1003 (nI a) (nI b) (nI i) (nI j) (nI (i + j)) (nI 0) M = BM_goWays_74 (fM_goWays f) (LM_goWays_45 (fM_goWays f) F) 1003 (nI a) (nI b) (nI i) (nI j) (nI (i + j)) (nI 0) (nI a) (nI i) M := fun F => by
            show BM_goWays_45 (fM_goWays f) (LM_goWays_45 (fM_goWays f) F) 1003 (nI a) (nI b) (nI i) (nI j) (nI (i + j)) (nI 0) M = _
            unfold BM_goWays_45 BM_goWays_61
            rw [if_neg (show ¬ 2 ≤ nI 0 by decide), if_pos (show nI 0 = 0 from rfl), if_pos (show nI 0 = 0 from rfl)]
          exact key 999999
        rw [h0]
        by_cases ci : i < la
        · rw [if_pos ci]
          obtain ⟨tk, t5⟩ := Ha i ci
          exact mSide (self := fM_goWays f) (K := LM_goWays_45 (fM_goWays f) 999999) (sd := 0) (sn := a) (ki := i) (dd := i + j) (va := nI a) (vb := nI b) (p3 := nI i + 1) (p4 := nI j) (c := wN (la - i - 1) (lb - j)) (L := fun x => wyL ρ sa sb la lb f (i + 1) j x.1 x.2.1 x.2.2.2 m k) (by omega) (Or.inl ⟨rfl, rfl, rfl⟩) a4 ci (by omega) l1 (by omega) P P2 (by omega) C V G (by omega) (by omega) tk t5 (S1 i ci) ac (fun M2 x hx C2 Q Q2 ac2 X2 => by
            obtain ⟨V3, G3, n3, d3⟩ := stp_ok hR V G hx tk.1
            obtain ⟨G4, cx4, -⟩ := stp_x hR V G G2 cx t5 hx
            rw [show nI i + 1 = nI (i + 1) from by rw [l_1, n_add]]
            obtain ⟨M3, r1, r2, r3, r4, r5, r6, r7⟩ := ih (i + 1) j x.1 x.2.1 x.2.2.2 m k w mo fe (β + 1) M2 (by omega) (by omega) hj (by omega) hm Q Q2 C2 V3 G3 G4 cx4 ac2 (by omega) (by rw [X2.2.1 1010 (by omega)]; exact l1) (by rw [X2.2.1 1010 (by omega)]; exact l2) (fun q hq => STz X2 (S1 q hq)) (fun q hq => STz X2 (S2 q hq))
            exact ⟨M3, r1, r2, r3, r4, r5, r6, fun d' N h => r7 d' N (by omega)⟩)
        · rw [if_neg ci]
          refine ⟨M, ?_, RZ_refl M, C, P, P2, ac, fun d' N _ h => h⟩
          unfold BM_goWays_74 BM_goWays_220
          rw [ms_ob H, gd1n, ms_g12 H, d_nz (by omega), gd1n, ms_r12 H (show a < 5 by omega), gd1n, n_cl (a := a) (by omega), l1, if_pos (show nI la ≤ nI i from of_eq_true (n_leT (by omega) (by omega)))]
          rfl
      have H1 := C1.1
      have l11 : giM M1 1010 a = nI la := by rw [X1.2.1 1010 (by omega)]; exact l1
      have l21 : giM M1 1010 b = nI lb := by rw [X1.2.1 1010 (by omega)]; exact l2
      rw [t1]
      rw [← Nat.add_assoc]
      generalize (if i < la then (match stp ρ false (sa i) (Y, n, 0, g) with
            | none => [(pgU ρ Y, 0, wN (la - i - 1) (lb - j))]
            | some x => wyL ρ sa sb la lb f (i + 1) j x.1 x.2.1 x.2.2.2 m k) else []) = La at ac1
      have fin : ∀ M2, LM_goWays_45 (fM_goWays f) 999998 1003 (nI a) (nI b) (nI i) (nI j) (nI (i + j)) (nI 2) M2 = some M2 := fun M2 => by
        have key : ∀ F, LM_goWays_45 (fM_goWays f) (F + 1) 1003 (nI a) (nI b) (nI i) (nI j) (nI (i + j)) (nI 2) M2 = some M2 := fun F => by
          show BM_goWays_45 (fM_goWays f) (LM_goWays_45 (fM_goWays f) F) 1003 (nI a) (nI b) (nI i) (nI j) (nI (i + j)) (nI 2) M2 = _
          unfold BM_goWays_45
          rw [if_pos (show 2 ≤ nI 2 by decide)]
        exact key 999997
      have h1 : LM_goWays_45 (fM_goWays f) 999999 1003 (nI a) (nI b) (nI i) (nI j) (nI (i + j)) (nI 1) M1 = BM_goWays_74 (fM_goWays f) (LM_goWays_45 (fM_goWays f) 999998) 1003 (nI a) (nI b) (nI i) (nI j) (nI (i + j)) (nI 1) (nI b) (nI j) M1 := by
        have key : ∀ F, LM_goWays_45 (fM_goWays f) (F + 1) 1003 (nI a) (nI b) (nI i) (nI j) (nI (i + j)) (nI 1) M1 = BM_goWays_74 (fM_goWays f) (LM_goWays_45 (fM_goWays f) F) 1003 (nI a) (nI b) (nI i) (nI j) (nI (i + j)) (nI 1) (nI b) (nI j) M1 := fun F => by
          show BM_goWays_45 (fM_goWays f) (LM_goWays_45 (fM_goWays f) F) 1003 (nI a) (nI b) (nI i) (nI j) (nI (i + j)) (nI 1) M1 = _
          unfold BM_goWays_45 BM_goWays_61
          rw [if_neg (show ¬ 2 ≤ nI 1 by decide), if_neg (show ¬ nI 1 = 0 by decide), if_neg (show ¬ nI 1 = 0 by decide)]
        exact key 999998
      rw [h1]
      by_cases cj : j < lb
      · rw [if_pos cj]
        obtain ⟨tk, t5⟩ := Hb j cj
        obtain ⟨M2, t2, X2, C2, Q2, Q1, ac2, as2⟩ := mSide (M := M1) (self := fM_goWays f) (K := LM_goWays_45 (fM_goWays f) 999998) (sd := 1) (sn := b) (ki := j) (dd := i + j) (va := nI a) (vb := nI b) (p3 := nI i) (p4 := nI j + 1) (c := wN (la - i) (lb - j - 1)) (L := fun x => wyL ρ sa sb la lb f i (j + 1) x.1 n g x.2.1 x.2.2.2) (by omega) (Or.inr ⟨rfl, rfl, rfl⟩) b4 cj (by omega) l21 (by omega) P21 P1 (by omega) C1 V G2 (by omega) (by omega) tk t5 (STz X1 (S2 j cj)) ac1 (fun M2 x hx C2 Q Q2 ac2 X2 => by
          obtain ⟨V3, G3, n3, d3⟩ := stp_ok hR V G2 hx tk.1
          obtain ⟨G4, cx4, -⟩ := stp_x hR V G2 G (CX_sym cx) t5 hx
          have X3 := RZ_tr X1 X2
          rw [show nI j + 1 = nI (j + 1) from by rw [l_1, n_add]]
          obtain ⟨M3, r1, r2, r3, r4, r5, r6, r7⟩ := ih i (j + 1) x.1 n g x.2.1 x.2.2.2 _ _ _ (β + 1) M2 (by omega) hi (by omega) hn (by omega) Q2 Q C2 V3 G4 G3 (CX_sym cx4) ac2 (by omega) (by rw [X3.2.1 1010 (by omega)]; exact l1) (by rw [X3.2.1 1010 (by omega)]; exact l2) (fun q hq => STz X3 (S1 q hq)) (fun q hq => STz X3 (S2 q hq))
          exact ⟨M3, r1, r2, r3, r5, r4, r6, fun d' N h => r7 d' N (by omega)⟩)
        refine ⟨M2, ?_, RZ_tr X1 X2, C2, Q1, Q2, ac2, fun d' N h1 h2 => as2 d' N h1 (as1 d' N h1 h2)⟩
        rw [t2]
        show (LM_goWays_45 (fM_goWays f) 999998 1003 (nI a) (nI b) (nI i) (nI j) (nI (i + j)) (nI 2) M2).bind _ = _
        rw [fin, bs1n]
      · rw [if_neg cj]
        refine ⟨M1, ?_, X1, C1, P1, P21, ac1, as1⟩
        have e74 : BM_goWays_74 (fM_goWays f) (LM_goWays_45 (fM_goWays f) 999998) 1003 (nI a) (nI b) (nI i) (nI j) (nI (i + j)) (nI 1) (nI b) (nI j) M1 = LM_goWays_45 (fM_goWays f) 999998 1003 (nI a) (nI b) (nI i) (nI j) (nI (i + j)) (nI 2) M1 := by
          unfold BM_goWays_74 BM_goWays_220
          rw [ms_ob H1, gd1n, ms_g12 H1, d_nz (by omega), gd1n, ms_r12 H1 (show b < 5 by omega), gd1n, n_cl (a := b) (by omega), l21, if_pos (show nI lb ≤ nI j from of_eq_true (n_leT (by omega) (by omega)))]
          rfl
        rw [e74, fin, bs1n]
end WO
