/-! TEXT -/
section TT
variable {M M1 M2 : Mem} {β : Nat} {l : List Nat}
theorem past_o (D : UT M ∨ ∃ ρ S, TD M ρ β S) : ∃ o, o < 40 ∧ giM M 50 1 = nI o := by
  rcases D with U | ⟨ρ, S, T⟩
  · obtain ⟨-, -, -, -, -, -, -, -, -, -, o, h1, h2⟩ := U
    exact ⟨o, h1, h2⟩
  · obtain ⟨-, -, -, ⟨o, m, T', h1, h2, h3, -⟩, -⟩ := T
    exact ⟨o, h1, h3⟩
theorem ans_u {v : Int32} {P : (Nat → Nat) → Nat → (Nat → Nat) → Prop} (h : ANS l v P) (hv : v = -1) : ∃ f k z, P f k z ∧ WH k z (f 2) ∧ k ≤ 6 ∧ (∀ j, loS j ≤ f j ∧ f j ≤ hiS j) ∧ (∀ j, j < k → 1 ≤ z j ∧ z j ≤ 40) ∧ ∀ v' P', ANS l v' P' → v' = -1 ∧ P' f k z := by
  unfold ANS at h
  split at h
  · next p f k z hx =>
    obtain ⟨k6, fr, zr⟩ := rd_rg hx (by omega) us_rg (fun j hj => by omega)
    rcases h with ⟨h1, h2, h3⟩ | ⟨h1, h2, h3⟩
    · refine ⟨f, k, z, h3, h1, k6, fr, zr, fun v' P' g => ?_⟩
      unfold ANS at g
      rw [hx] at g
      rcases g with ⟨g1, g2, g3⟩ | ⟨g1, g2, g3⟩
      · exact ⟨g2, g3⟩
      · exact absurd h1 g1
    · rw [h2] at hv
      exact absurd hv (ne_m1 h3)
  · rw [h.1] at hv
    exact absurd hv (ne_m1 h.2)
theorem ant_u {v : Int32} {P : Nat → (Nat → StT) → Prop} (h : ANT l v P) (hv : v = -1) : ∃ st g, P st g ∧ scL l 24 0 0 0 (fun _ => (0, 0, 0)) = .inl (st, g) ∧ ∀ v' P', ANT l v' P' → v' = -1 ∧ P' st g := by
  unfold ANT at h
  split at h
  · next st g hx =>
    refine ⟨st, g, h.2, hx, fun v' P' q => ?_⟩
    unfold ANT at q
    rw [hx] at q
    exact q
  · rw [h.1] at hv
    exact absurd hv (ne_m1 h.2)
theorem t_arena (G : GR M β) : ST2 (fA_text 1 0) (fM_text 1003 0) M β := by
  obtain ⟨A, tp, sc, re, D⟩ := G
  obtain ⟨l, lk, tc, tm⟩ := TP_l tp
  have H := MS_of A
  obtain ⟨v1, M1, k1, F1, t1, an1⟩ := rf_ok lk A tc
  have d1 := FA_DS F1
  have A1 := SHP_DS A d1
  have H1 := MS_of A1
  have tm1 : TPm M1 l := TPm_cg tm (by rw [F1.2 1003 (by omega) (by omega) (by omega) (by omega)]) (F1.2 1004 (by omega) (by omega) (by omega) (by omega))
  have c1 : fA_text 1 0 M = (fA_beginArena 1 M).bind fun q3 => some (q3.1, q3.2) := by
    unfold fA_text
    rw [if_pos (show (0 : Int32) = 0 from rfl), as_o1 A, gd1n]
  have c2 : fA_beginArena 1 M = if v1 = -1 then (gd (obM M1 1 10 15) <| gd (decide (grM M1 1 2 ≠ 0)) <| gd (decide (grM M1 1 3 ≠ 0)) <| gd (obM M1 (grM M1 1 2) 7 3) <| (fU_copyFrom (grM M1 1 2) (grM M1 1 3) M1).bind fun q9 => gd (obM q9 1 10 15) <| gd (decide (grM q9 1 7 ≠ 0)) <| gd (obM q9 (grM q9 1 7) 1 9) <| (fH_makeNew (grM q9 1 7) q9).bind fun q13 => gd (obM q13 1 10 15) <| gd (decide (grM q13 1 8 ≠ 0)) <| gd (obM q13 (grM q13 1 8) 4 3) <| (fP_forget (grM q13 1 8) q13).bind fun q17 => gd (obM q17 1 10 15) <| gd (decide (grM q17 1 0 ≠ 0)) <| gd (obM q17 (grM q17 1 0) 9 2) <| gd (decide (grM q17 1 2 ≠ 0)) <| gd (obM q17 (grM q17 1 2) 7 3) <| some (giM (siM (siM q17 1 10 0) (grM q17 1 0) 1 0) (grM q17 1 2) 2, siM (siM q17 1 10 0) (grM q17 1 0) 1 0)) else (some (-1, M1)) := by
    unfold fA_beginArena
    rw [as_o1 A, gd1n, as_g1_3 A, d_nz (by omega), gd1n, as_g1_1 A, d_nz (by omega), gd1n, as_o8 A, gd1n, k1, bs1n]
  by_cases hv : v1 = -1
  · -- the class begins it
    obtain ⟨f, k, z, g1, hw, k6, fr, zr, un⟩ := ans_u an1 hv
    have hR := arR_ok hw k6 fr zr
    obtain ⟨N1, e1, E1, R1⟩ := cu_ok A1 g1
    have B1 := SHP_Fr A1 E1 (by omega)
    obtain ⟨N2, e2, E2, n1, n2, n3, n4, n5, n6⟩ := nw_ok B1
    have B2 := SHP_Fr B1 E2 (by omega)
    have s12 : N2.2 = M1.2 := E2.1.trans E1.1
    have X4 : ∀ x, x ≠ 1 → x ≠ 2 → x ≠ 50 → giM (siM (siM (siM N2 50 2 (nI 0)) 1 10 (nI 0)) 2 1 (nI 0)) x = giM N2 x := fun x h1 h2 h3 => by rw [giM_un h2, giM_un h1, giM_un h3]
    have s4 : (siM (siM (siM N2 50 2 (nI 0)) 1 10 (nI 0)) 2 1 (nI 0)).2 = M.2 := (s12.trans F1.1)
    have y1 : ∀ j, j ≠ 10 → giM (siM (siM (siM N2 50 2 (nI 0)) 1 10 (nI 0)) 2 1 (nI 0)) 1 j = giM N2 1 j := fun j h => by rw [giM_un (by omega), giM_ud, ud_n _ _ h, giM_un (by omega)]
    have y10 : giM (siM (siM (siM N2 50 2 (nI 0)) 1 10 (nI 0)) 2 1 (nI 0)) 1 10 = nI 0 := by rw [giM_un (by omega), giM_ud, ud_s]
    have y21 : giM (siM (siM (siM N2 50 2 (nI 0)) 1 10 (nI 0)) 2 1 (nI 0)) 2 1 = nI 0 := by rw [giM_ud, ud_s]
    have y502 : giM (siM (siM (siM N2 50 2 (nI 0)) 1 10 (nI 0)) 2 1 (nI 0)) 50 2 = nI 0 := by rw [giM_un (by omega), giM_un (by omega), giM_ud, ud_s]
    have y501 : giM (siM (siM (siM N2 50 2 (nI 0)) 1 10 (nI 0)) 2 1 (nI 0)) 50 1 = giM N2 50 1 := by rw [giM_un (by omega), giM_un (by omega), giM_ud, ud_n _ _ (by omega)]
    have cA : fA_text 1 0 M = some (nI k, siM (siM (siM N2 50 2 (nI 0)) 1 10 (nI 0)) 2 1 (nI 0)) := by
      have B3 : SHP (siM N2 50 2 (nI 0)) := SHP_Fr B2 (Fr_si (lo := 50) (hi := 50) (by omega) (by omega)) (by omega)
      have z5 : giM (siM (siM (siM N2 50 2 (nI 0)) 1 10 (nI 0)) 2 1 (nI 0)) 5 2 = nI k := by rw [X4 5 (by omega) (by omega) (by omega), E2.2 5 (by omega)]; exact R1.2.2.2.2.2.1
      rw [c1, c2, if_pos hv, as_o1 A1, gd1n, as_g1_2 A1, d_nz (by omega), gd1n, as_g1_3 A1, d_nz (by omega), gd1n, as_o5 A1, gd1n, e1, bs1n, as_o1 B1, gd1n, as_g1_7 B1, d_nz (by omega), gd1n, hs_ob (HS_of B1 hp_32), gd1n, e2, bs1n, as_o1 B2, gd1n, as_g1_8 B2, d_nz (by omega), gd1n, as_o50 B2, gd1n]
      unfold fP_forget
      rw [as_o50 B2, gd1n, bs1n]
      show (((gd (obM (siM N2 50 2 (nI 0)) 1 10 15) <| gd (decide (grM (siM N2 50 2 (nI 0)) 1 0 ≠ 0)) <| gd (obM (siM N2 50 2 (nI 0)) (grM (siM N2 50 2 (nI 0)) 1 0) 9 2) <| gd (decide (grM (siM N2 50 2 (nI 0)) 1 2 ≠ 0)) <| gd (obM (siM N2 50 2 (nI 0)) (grM (siM N2 50 2 (nI 0)) 1 2) 7 3) <| some (giM (siM (siM (siM N2 50 2 (nI 0)) 1 10 (nI 0)) (grM (siM N2 50 2 (nI 0)) 1 0) 1 (nI 0)) (grM (siM N2 50 2 (nI 0)) 1 2) 2, siM (siM (siM N2 50 2 (nI 0)) 1 10 (nI 0)) (grM (siM N2 50 2 (nI 0)) 1 0) 1 (nI 0))) : Option (Int32 × Mem)).bind fun q3 => some (q3.1, q3.2)) = _
      rw [as_o1 B3, gd1n, as_g1_0 B3, d_nz (by omega), gd1n, as_o2 B3, gd1n, as_g1_2 B3, d_nz (by omega), gd1n, as_o5 B3, gd1n, bs1n, z5]
    generalize siM (siM (siM N2 50 2 (nI 0)) 1 10 (nI 0)) 2 1 (nI 0) = M4 at X4 s4 y1 y10 y21 y502 y501 cA
    have gM : ∀ x, (11 ≤ x ∧ x ≤ 31) ∨ 51 ≤ x → giM M4 x = giM M x := fun x h => by rw [X4 x (by omega) (by omega) (by omega), E2.2 x (by omega), E1.2 x (by omega), F1.2 x (by omega) (by omega) (by omega) (by omega)]
    have A4 : SHP M4 := SHP_2 A s4 (fun x h1 _ => gM x (by omega))
    have H4 := MS_of A4
    have tm4 : TPm M4 l := TPm_cg tm (by rw [gM 1003 (by omega)]) (gM 1004 (by omega))
    obtain ⟨v2, M5, k5, F5, t5, an2⟩ := ra_ok lk H4 tm4
    obtain ⟨hv2, gr⟩ := un v2 _ an2
    have H5 : MS M5 := MS_2 F5.1 H4
    have H6 : MS (siM M5 1003 2 (nI 0)) := MS_2 rfl H5
    have g6 : RGm (siM M5 1003 2 (nI 0)) f k z := ⟨gr.1, by rw [giM_ud, ud_n _ _ (by omega)]; exact gr.2.1, fun j hj => by rw [giM_un (by omega)]; exact gr.2.2.1 j hj, fun j hj => by rw [giM_un (by omega)]; exact gr.2.2.2 j hj⟩
    obtain ⟨M7, k7, F7, C7, p25, p33⟩ := tk_ok H6 g6 hR
    have k7 : fM_takeArena 1003 (siM M5 1003 2 0) = some (nI k, M7) := k7
    have g7 : ∀ x, x < 1003 ∨ x = 1004 ∨ x = 1009 ∨ x = 1010 ∨ 1012 ≤ x → giM M7 x = giM M4 x := fun x h => by rw [F7.2.1 x (by omega) (by omega) (by omega) (by omega), giM_un (by omega), F5.2.1 x (by omega) (by omega) (by omega)]
    have s7 : M7.2 = M.2 := (F7.1.trans F5.1).trans s4
    have A7 : SHP M7 := SHP_2 A s7 (fun x h1 _ => by rw [g7 x (by omega), gM x (by omega)])
    have h2 : giM M7 1003 2 = nI 0 := by rw [F7.2.2 2 (by omega) (by omega) (by omega), giM_ud, ud_s]
    have h13 : giM M7 1003 13 = giM M 1003 13 := by rw [F7.2.2 13 (by omega) (by omega) (by omega), giM_ud, ud_n _ _ (by omega), F5.2.2 13 (by omega) (by omega) (by omega), gM 1003 (by omega)]
    obtain ⟨o, o1, o2⟩ := past_o D
    have gN : ∀ x, 33 ≤ x ∧ x ≤ 49 → giM M7 x = giM N2 x := fun x h => by rw [g7 x (by omega), X4 x (by omega) (by omega) (by omega)]
    have gN5 : ∀ x, 5 ≤ x ∧ x ≤ 7 → giM M7 x = giM N1 x := fun x h => by rw [g7 x (by omega), X4 x (by omega) (by omega) (by omega), E2.2 x (by omega)]
    have R7 : RuC M7 (arR f k z) := RuC_of R1 (gN5 5 (by omega)) (gN5 6 (by omega)) (gN5 7 (by omega))
    have CC7 : CC M7 32 (arR f k z) β (nwS (arR f k z)) := nw_CC A7 R7 hR (fun j hj => by rw [gN 33 (by omega), gN 34 (by omega), gN 35 (by omega), gN 39 (by omega), gN 40 (by omega)]; exact n1 j hj) (fun j hj => by rw [gN 37 (by omega), gN 38 (by omega)]; exact n2 j hj) (fun j hj => by rw [gN 42 (by omega), gN 43 (by omega)]; exact n3 j hj) (fun j hj => by rw [gN 46 (by omega), gN 47 (by omega)]; exact n5 j hj) (by rw [gN 48 (by omega)]; exact n6)
    refine ⟨nI k, M4, M7, cA, ?_, ⟨A7, l_TP (l := []) ⟨by show 0 ≤ 240; omega, fun x hx => by cases hx⟩ ⟨?_, fun i hi => ?_⟩ ⟨h2, fun i hi => ?_⟩, ?_, ?_, Or.inr ⟨arR f k z, nwS (arR f k z), CC7, C7, nw_OKS hR, ⟨o, 0, fun _ => nwS (arR f k z), o1, by omega, ?_, ?_, p25, fun j hj => ?_⟩, Or.inl ⟨?_, p33⟩⟩⟩, A4, ?_, ?_⟩
    · unfold fM_text
      rw [if_pos (show (0 : Int32) = 0 from rfl), ms_ob H4, gd1n, k5, bs1n, if_pos (show ((v2, M5) : Int32 × Mem).1 = -1 from hv2), ms_ob H5, gd1n, k7, bs1n]
    · rw [g7 2 (by omega)]; exact y21
    · have hi : i < 0 := hi
      omega
    · have hi : i < 0 := hi
      omega
    · exact SC_cg sc (by rw [g7 1 (by omega), y1 5 (by omega), E2.2 1 (by omega), E1.2 1 (by omega), F1.2 1 (by omega) (by omega) (by omega) (by omega)]) (fun a h1 h2 => by rw [g7 a (by omega), gM a (by omega)]) h13 (by rw [g7 1009 (by omega), gM 1009 (by omega)]) (by rw [g7 1010 (by omega), gM 1010 (by omega)])
    · exact RE_cg re (by rw [g7 790 (by omega), gM 790 (by omega)]) (by rw [g7 1012 (by omega), gM 1012 (by omega)])
    · rw [g7 50 (by omega), y501, E2.2 50 (by omega), E1.2 50 (by omega), F1.2 50 (by omega) (by omega) (by omega) (by omega)]; exact o2
    · rw [g7 50 (by omega)]; exact y502
    · omega
    · rw [g7 1 (by omega)]; exact y10
    · exact ⟨gM 5006 (by omega), by rw [tgM_2 s4]⟩
    · exact ⟨by rw [g7 5006 (by omega), gM 5006 (by omega)], by rw [tgM_2 s7]⟩
  · obtain ⟨v2, M2, k2, F2, t2, an2⟩ := ra_ok lk H1 tm1
    obtain ⟨rfl, -⟩ := ans_eq an1 an2
    have d2 := DS_tr d1 (FB_DS F2)
    have tc2 : TPc M2 l := TPc_cg t1 (F2.2.1 2 (by omega) (by omega) (by omega)) (F2.2.1 3 (by omega) (by omega) (by omega))
    refine ⟨mI, M1, M2, ?_, ?_, ⟨SHP_DS A d2, l_TP lk tc2 t2, ?_, RE_DS re d2, DT_DS D d2⟩, A1, XS_DS d1, XS_DS d2⟩
    · rw [c1, c2, if_neg hv, bs1n]
      rfl
    · unfold fM_text BM_text_22 BM_text_69
      rw [if_pos (show (0 : Int32) = 0 from rfl), ms_ob H1, gd1n, k2, bs1n, if_neg (show ¬ ((v1, M2) : Int32 × Mem).1 = -1 from hv), if_neg (show ¬ (0 : Int32) = 1 by decide)]
      rfl
    · exact SC_cg sc (by rw [F2.2.1 1 (by omega) (by omega) (by omega), F1.2 1 (by omega) (by omega) (by omega) (by omega)]) (fun a h1 h2 => by rw [F2.2.1 a (by omega) (by omega) (by omega), F1.2 a (by omega) (by omega) (by omega) (by omega)]) (by rw [F2.2.2 13 (by omega) (by omega) (by omega), F1.2 1003 (by omega) (by omega) (by omega) (by omega)]) (by rw [F2.2.1 1009 (by omega) (by omega) (by omega), F1.2 1009 (by omega) (by omega) (by omega) (by omega)]) (by rw [F2.2.1 1010 (by omega) (by omega) (by omega), F1.2 1010 (by omega) (by omega) (by omega) (by omega)])
end TT
