/-! TEXT: a script's -/
section TU
variable {M M1 M2 : Mem} {β : Nat} {l : List Nat}
theorem t_script (G : GR M β) : ST2 (fA_text 1 1) (fM_text 1003 1) M β := by
  have G0 := G
  obtain ⟨A, tp, sc, re, D⟩ := G
  obtain ⟨l, lk, tc, tm⟩ := TP_l tp
  have H := MS_of A
  have sc0 := sc
  obtain ⟨m, m4, m1, m2, m3⟩ := sc0
  have c1 : fA_text 1 1 M = (fA_addScript 1 M).bind fun q1 => some (q1.1, q1.2) := by
    unfold fA_text BA_text_22
    rw [if_neg (show ¬ (1 : Int32) = 0 by decide), if_pos (show (1 : Int32) = 1 from rfl), as_o1 A, gd1n]
  rcases Nat.lt_or_ge m 4 with hm | hm
  · have n4 : ¬ (4 : Int32) ≤ nI m := of_eq_false (n_leF (a := 4) (b := m) (by omega) (by omega))
    obtain ⟨v1, M1, k1, F1, t1, an1⟩ := rs_ok lk A tc
    have d1 := FT_DS F1
    have A1 := SHP_DS A d1
    have H1 := MS_of A1
    have g1 : ∀ x, x ≠ 4 → (x < 28 ∨ 31 < x) → giM M1 x = giM M x := fun x h1 h2 => F1.2 x h1 (by omega) (by omega) (by omega) (by omega)
    have sc1 : SC M1 := SC_cg sc (by rw [g1 1 (by omega) (by omega)]) (fun a h1 h2 => g1 a (by omega) (by omega)) (by rw [g1 1003 (by omega) (by omega)]) (g1 1009 (by omega) (by omega)) (g1 1010 (by omega) (by omega))
    have tm1 : TPm M1 l := TPm_cg tm (by rw [g1 1003 (by omega) (by omega)]) (g1 1004 (by omega) (by omega))
    have e15 : giM M1 1 5 = nI m := by rw [g1 1 (by omega) (by omega)]; exact m1
    have e13 : giM M1 1003 13 = nI m := by rw [g1 1003 (by omega) (by omega)]; exact m2
    have c2 : fA_addScript 1 M = if v1 = -1 then (gd (obM M1 1 10 15) <| gd (decide (grM M1 1 4 ≠ 0)) <| gd (wrT 104 M1 (grM M1 1 4) (giM M1 1 5)) <| gd (decide (grM M1 (grM M1 1 4) (Int32.toNatClampNeg (giM M1 1 5)) ≠ 0)) <| gd (decide (grM M1 1 6 ≠ 0)) <| gd (obM M1 (grM M1 (grM M1 1 4) (Int32.toNatClampNeg (giM M1 1 5))) 8 4) <| (fS_copyFrom (grM M1 (grM M1 1 4) (Int32.toNatClampNeg (giM M1 1 5))) (grM M1 1 6) M1).bind fun q11 => gd (obM q11 1 10 15) <| gd (decide (grM q11 1 0 ≠ 0)) <| gd (obM q11 (grM q11 1 0) 9 2) <| some ((giM (siM (siM q11 1 5 ((giM q11 1 5) + 1)) (grM q11 1 0) 1 0) 1 5) - 1, siM (siM q11 1 5 ((giM q11 1 5) + 1)) (grM q11 1 0) 1 0)) else (some (-1, M1)) := by
      unfold fA_addScript BA_addScript_23
      rw [as_o1 A, gd1n, m1, if_neg n4, as_g1_6 A, d_nz (by omega), gd1n, as_g1_1 A, d_nz (by omega), gd1n, as_o28 A, gd1n, k1, bs1n]
    by_cases hv : v1 = -1
    · obtain ⟨st, g, ⟨sg, s3⟩, hsc, un⟩ := ant_u an1 hv
      obtain ⟨st0, st24, tok⟩ := sc_rg lk 24 0 0 0 _ g st hsc (by omega) rfl (by omega) (fun j hj => by omega)
      obtain ⟨M2, k2, F2, v2, w2⟩ := cs_ok A1 hm
      have A2 := SHP_Fr A1 F2 (by omega)
      have e25 : giM M2 1 5 = nI m := by rw [F2.2 1 (by omega)]; exact e15
      have y15 : giM (siM (siM M2 1 5 (nI (m + 1))) 2 1 (nI 0)) 1 5 = nI (m + 1) := by rw [giM_un (by omega), giM_ud, ud_s]
      have y1 : giM (siM (siM M2 1 5 (nI (m + 1))) 2 1 (nI 0)) 1 10 = giM M 1 10 := by rw [giM_un (by omega), giM_ud, ud_n _ _ (by omega), F2.2 1 (by omega), g1 1 (by omega) (by omega)]
      have y2 : giM (siM (siM M2 1 5 (nI (m + 1))) 2 1 (nI 0)) 2 1 = nI 0 := by rw [giM_ud, ud_s]
      have yx : ∀ x, x ≠ 1 → x ≠ 2 → giM (siM (siM M2 1 5 (nI (m + 1))) 2 1 (nI 0)) x = giM M2 x := fun x h1 h2 => by rw [giM_un h2, giM_un h1]
      have ys : (siM (siM M2 1 5 (nI (m + 1))) 2 1 (nI 0)).2 = M.2 := F2.1.trans F1.1
      have cA : fA_text 1 1 M = some (nI m, siM (siM M2 1 5 (nI (m + 1))) 2 1 (nI 0)) := by
        have ev : nI m + 1 = nI (m + 1) := by rw [l_1, n_add]
        have y15' : giM (siM (siM M2 1 5 (nI (m + 1))) 2 1 0) 1 5 = nI (m + 1) := y15
        rw [c1, c2, if_pos hv, as_o1 A1, gd1n, as_g1_4 A1, d_nz (by omega), gd1n, e15, as_x11 A1 hm, gd1n, n_cl (by omega), as_s11 A1 hm, d_nz (by omega), gd1n, as_g1_6 A1, d_nz (by omega), gd1n, as_so A1 hm, gd1n, k2, bs1n, as_o1 A2, gd1n, as_g1_0 A2, d_nz (by omega), gd1n, as_o2 A2, gd1n, e25, ev, y15', l_1, n_sub (by omega), Nat.add_sub_cancel, bs1n]
        rfl
      generalize siM (siM M2 1 5 (nI (m + 1))) 2 1 (nI 0) = M3 at y15 y1 y2 yx ys cA
      have gM : ∀ x, (5 ≤ x ∧ x < 12) ∨ 32 ≤ x → giM M3 x = giM M x := fun x h => by rw [yx x (by omega) (by omega), F2.2 x (by omega), g1 x (by omega) (by omega)]
      have A3 : SHP M3 := SHP_2 A ys (fun x h1 _ => gM x (by omega))
      have H3 := MS_of A3
      have tm3 : TPm M3 l := TPm_cg tm (by rw [gM 1003 (by omega)]) (gM 1004 (by omega))
      obtain ⟨v4, M4, k4, F4', t4, an4⟩ := msc_ok (n := m) lk m4 H3 tm3
      obtain ⟨hv4, sg4, s4⟩ := un v4 _ an4
      have H4 : MS M4 := MS_2 F4'.1 H3
      have e413 : giM M4 1003 13 = nI m := by rw [F4'.2.2.1 13 (by omega) (by omega) (by omega), gM 1003 (by omega)]; exact m2
      have z13 : giM (siM (siM M4 1003 2 (nI 0)) 1003 13 (nI (m + 1))) 1003 13 = nI (m + 1) := by rw [giM_ud, ud_s]
      have z2 : giM (siM (siM M4 1003 2 (nI 0)) 1003 13 (nI (m + 1))) 1003 2 = nI 0 := by rw [giM_ud, ud_n _ _ (by omega), giM_ud, ud_s]
      have zk : ∀ k, k = 10 ∨ k = 25 ∨ k = 33 → giM (siM (siM M4 1003 2 (nI 0)) 1003 13 (nI (m + 1))) 1003 k = giM M 1003 k := fun k hk => by rw [giM_ud, ud_n _ _ (by omega), giM_ud, ud_n _ _ (by omega), F4'.2.2.1 k (by omega) (by omega) (by omega), gM 1003 (by omega)]
      have zx : ∀ x, x ≠ 1003 → giM (siM (siM M4 1003 2 (nI 0)) 1003 13 (nI (m + 1))) x = giM M4 x := fun x h => by rw [giM_un h, giM_un h]
      have zs : (siM (siM M4 1003 2 (nI 0)) 1003 13 (nI (m + 1))).2 = M.2 := F4'.1.trans ys
      have cM : fM_text 1003 1 M3 = some (nI m, siM (siM M4 1003 2 (nI 0)) 1003 13 (nI (m + 1))) := by
        have e313 : giM M3 1003 13 = nI m := by rw [gM 1003 (by omega)]; exact m2
        have e5 : giM (siM M4 1003 2 0) 1003 13 + 1 = nI (m + 1) := by
          rw [giM_ud, ud_n _ _ (by omega), e413, l_1, n_add]
        have z13' : giM (siM (siM M4 1003 2 0) 1003 13 (nI (m + 1))) 1003 13 = nI (m + 1) := z13
        unfold fM_text BM_text_22
        rw [if_neg (show ¬ (1 : Int32) = 0 by decide), if_pos (show (1 : Int32) = 1 from rfl), ms_ob H3, gd1n, e313, if_neg n4, k4, bs1n, if_pos (show ((v4, M4) : Int32 × Mem).1 = -1 from hv4), ms_ob H4, gd1n, e5, z13', l_1, n_sub (by omega), Nat.add_sub_cancel]
        rfl
      generalize siM (siM M4 1003 2 (nI 0)) 1003 13 (nI (m + 1)) = M5 at z13 z2 zk zx zs cM
      have g5 : ∀ x, x ≠ 1003 → x ≠ 1009 → x ≠ 1010 → giM M5 x = giM M3 x := fun x h1 h2 h3 => by rw [zx x h1, F4'.2.1 x h1 h2 h3]
      have d5 : DS M M5 := ⟨zs, fun a ha => by rw [g5 a (by omega) (by omega) (by omega), gM a (by omega)], by rw [g5 1 (by omega) (by omega) (by omega)]; exact y1, zk⟩
      refine ⟨nI m, M3, M5, cA, cM, ⟨SHP_DS A d5, l_TP (l := []) ⟨by show 0 ≤ 240; omega, fun x hx => by cases hx⟩ ⟨by rw [g5 2 (by omega) (by omega) (by omega)]; exact y2, fun i hi => ?_⟩ ⟨z2, fun i hi => ?_⟩, ⟨m + 1, by omega, by rw [g5 1 (by omega) (by omega) (by omega)]; exact y15, z13, fun n hn => ?_⟩, RE_DS re d5, DT_DS D d5⟩, A3, ⟨gM 5006 (by omega), by rw [tgM_2 ys]⟩, XS_DS d5⟩
      · have hi : i < 0 := hi
        omega
      · have hi : i < 0 := hi
        omega
      · have gs : ∀ j, j ≤ 3 → giM M5 (12 + 4 * n + j) = giM M2 (12 + 4 * n + j) := fun j hj => by rw [g5 _ (by omega) (by omega) (by omega), yx _ (by omega) (by omega)]
        have gs0 : giM M5 (12 + 4 * n) = giM M2 (12 + 4 * n) := gs 0 (by omega)
        rcases Nat.lt_or_ge n m with hnm | hnm
        · obtain ⟨st', q1, q2, q3, q4⟩ := m3 n hnm
          have ho : ∀ j, j ≤ 3 → giM M5 (12 + 4 * n + j) = giM M (12 + 4 * n + j) := fun j hj => by rw [gs j hj, F2.2 _ (by omega), g1 _ (by omega) (by omega)]
          have ho0 : giM M5 (12 + 4 * n) = giM M (12 + 4 * n) := ho 0 (by omega)
          have hst := q3.2.1
          have h9 : ∀ j, j < 72 * m → giM M5 1009 j = giM M 1009 j := fun j hj => by rw [zx 1009 (by omega), F4'.2.2.2.1 j (by omega), gM 1009 (by omega)]
          refine ⟨st', by rw [ho0]; exact q1, ?_, by rw [ho 1 (by omega), ho 2 (by omega), ho 3 (by omega)]; exact q3, fun i hi => ?_⟩
          · rw [zx 1010 (by omega), F4'.2.2.2.2 n (by omega), gM 1010 (by omega)]; exact q2
          · rw [ho 1 (by omega), ho 2 (by omega), ho 3 (by omega), h9 _ (by omega), h9 _ (by omega), h9 _ (by omega)]
            exact q4 i hi
        · obtain rfl : n = m := by omega
          have hD : ∀ j, j < st → giM M5 (12 + 4 * n + 1) j = nI (g j).1 ∧ giM M5 (12 + 4 * n + 2) j = dB (g j) ∧ giM M5 (12 + 4 * n + 3) j = dN (g j) := fun j hj => by
            rw [gs 1 (by omega), gs 2 (by omega), gs 3 (by omega), (v2 j (by omega)).1, (v2 j (by omega)).2.1, (v2 j (by omega)).2.2]
            exact sg j hj
          refine ⟨st, by rw [gs0, w2]; exact s3, by rw [zx 1010 (by omega)]; exact s4, sc_SC1 st0 st24 tok hD, fun i hi => ?_⟩
          rw [(hD i hi).1, (hD i hi).2.1, (hD i hi).2.2, zx 1009 (by omega)]
          exact sg4 i hi
    · obtain ⟨v2, M2, k2, F2, t2, an2⟩ := msc_ok (n := m) lk m4 H1 tm1
      obtain ⟨rfl, -⟩ := ant_eq an1 an2
      have d2 := DS_tr d1 (FTm_DS F2)
      have tc2 : TPc M2 l := TPc_cg t1 (F2.2.1 2 (by omega) (by omega) (by omega)) (F2.2.1 3 (by omega) (by omega) (by omega))
      refine ⟨mI, M1, M2, ?_, ?_, ⟨SHP_DS A d2, l_TP lk tc2 t2, SC_FTm sc1 e13 m4 (Nat.le_refl m) F2, RE_DS re d2, DT_DS D d2⟩, A1, XS_DS d1, XS_DS d2⟩
      · rw [c1, c2, if_neg hv, bs1n]
        rfl
      · unfold fM_text BM_text_22 BM_text_69
        rw [if_neg (show ¬ (1 : Int32) = 0 by decide), if_pos (show (1 : Int32) = 1 from rfl), ms_ob H1, gd1n, e13, if_neg n4, k2, bs1n, if_neg (show ¬ ((v1, M2) : Int32 × Mem).1 = -1 from hv)]
        rfl
  · have n4 : (4 : Int32) ≤ nI m := of_eq_true (n_leT (a := 4) (b := m) (by omega) (by omega))
    refine ST2_SA G0 ⟨mI, ?_, ?_⟩
    · rw [c1]
      unfold fA_addScript BA_addScript_23
      rw [as_o1 A, gd1n, m1, if_pos n4, bs1n]
      rfl
    · unfold fM_text BM_text_22 BM_text_69
      rw [if_neg (show ¬ (1 : Int32) = 0 by decide), if_pos (show (1 : Int32) = 1 from rfl), ms_ob H, gd1n, m2, if_pos n4]
      rfl
theorem a_text (G : GR M β) (v : Int32) : ST2 (fA_text 1 v) (fM_text 1003 v) M β := by
  by_cases h0 : v = 0
  · rw [h0]; exact t_arena G
  · by_cases h1 : v = 1
    · rw [h1]; exact t_script G
    · refine ST2_SA G ⟨mI, ?_, ?_⟩
      · unfold fA_text BA_text_22
        rw [if_neg h0, if_neg h1]
        rfl
      · unfold fM_text BM_text_22 BM_text_69
        rw [if_neg h0, if_neg h1]
        rfl
end TU
