/-! FAULT -/
section FT
variable {M M1 M2 : Mem} {β : Nat} {l : List Nat}
theorem FA_DS (F : FA M M1) : DS M M1 := ⟨F.1, fun a ha => F.2 a (by omega) (by omega) (by omega) (by omega), by rw [F.2 1 (by omega) (by omega) (by omega) (by omega)], fun k hk => by rw [F.2 1003 (by omega) (by omega) (by omega) (by omega)]⟩
theorem FB_DS (F : FB M M1) : DS M M1 := ⟨F.1, fun a ha => F.2.1 a (by omega) (by omega) (by omega), by rw [F.2.1 1 (by omega) (by omega) (by omega)], fun k hk => F.2.2 k (by omega) (by omega) (by omega)⟩
theorem FT_DS (F : FT M M1) : DS M M1 := ⟨F.1, fun a ha => F.2 a (by omega) (by omega) (by omega) (by omega) (by omega), by rw [F.2 1 (by omega) (by omega) (by omega) (by omega) (by omega)], fun k hk => by rw [F.2 1003 (by omega) (by omega) (by omega) (by omega) (by omega)]⟩
theorem FTm_DS {n : Nat} (F : FTm n M M1) : DS M M1 := ⟨F.1, fun a ha => F.2.1 a (by omega) (by omega) (by omega), by rw [F.2.1 1 (by omega) (by omega) (by omega)], fun k hk => F.2.2.1 k (by omega) (by omega) (by omega)⟩
theorem SC_FTm {n m : Nat} (P : SC M) (hm : giM M 1003 13 = nI m) (hm4 : m ≤ 4) (hn : m ≤ n) (F : FTm n M M1) : SC M1 := by
  obtain ⟨m', h1, h2, h3, h4⟩ := P
  obtain rfl : m' = m := n_inj (by omega) (by omega) (h3.symm.trans hm)
  refine ⟨m', h1, by rw [F.2.1 1 (by omega) (by omega) (by omega)]; exact h2, by rw [F.2.2.1 13 (by omega) (by omega) (by omega)]; exact h3, fun n' hn' => ?_⟩
  obtain ⟨st, q1, q2, q3, q4⟩ := h4 n' hn'
  have g0 := F.2.1 (12 + 4 * n') (by omega) (by omega) (by omega)
  have g1 := F.2.1 (12 + 4 * n' + 1) (by omega) (by omega) (by omega)
  have g2 := F.2.1 (12 + 4 * n' + 2) (by omega) (by omega) (by omega)
  have g3 := F.2.1 (12 + 4 * n' + 3) (by omega) (by omega) (by omega)
  have hst := q3.2.1
  refine ⟨st, by rw [g0]; exact q1, by rw [F.2.2.2.2 n' (by omega)]; exact q2, by rw [g1, g2, g3]; exact q3, fun i hi => ?_⟩
  rw [g1, g2, g3, F.2.2.2.1 _ (by omega), F.2.2.2.1 _ (by omega), F.2.2.2.1 _ (by omega)]
  exact q4 i hi
theorem a_fault (G : GR M β) (v : Int32) : ST2 (fA_fault 1 v) (fM_fault 1003 v) M β := by
  have G0 := G
  obtain ⟨A, tp, sc, re, D⟩ := G
  obtain ⟨l, lk, tc, tm⟩ := TP_l tp
  have H := MS_of A
  by_cases h0 : v = 0
  · obtain ⟨v1, M1, k1, F1, t1, an1⟩ := rf_ok lk A tc
    have d1 := FA_DS F1
    have A1 := SHP_DS A d1
    have H1 := MS_of A1
    have tm1 : TPm M1 l := TPm_cg tm (by rw [F1.2 1003 (by omega) (by omega) (by omega) (by omega)]) (F1.2 1004 (by omega) (by omega) (by omega) (by omega))
    obtain ⟨v2, M2, k2, F2, t2, an2⟩ := ra_ok lk H1 tm1
    obtain ⟨rfl, -⟩ := ans_eq an1 an2
    have d2 := DS_tr d1 (FB_DS F2)
    have tc2 : TPc M2 l := TPc_cg t1 (F2.2.1 2 (by omega) (by omega) (by omega)) (F2.2.1 3 (by omega) (by omega) (by omega))
    refine ⟨v1, M1, M2, ?_, ?_, ⟨SHP_DS A d2, l_TP lk tc2 t2, ?_, RE_DS re d2, DT_DS D d2⟩, A1, XS_DS d1, XS_DS d2⟩
    · unfold fA_fault
      rw [if_pos h0, as_o1 A, gd1n, as_g1_3 A, d_nz (by omega), gd1n, as_g1_1 A, d_nz (by omega), gd1n, as_o8 A, gd1n, k1, bs1n]
    · unfold fM_fault BM_fault_26
      rw [if_pos h0, ms_ob H1, gd1n, k2, bs1n]
    · exact SC_cg sc (by rw [F2.2.1 1 (by omega) (by omega) (by omega), F1.2 1 (by omega) (by omega) (by omega) (by omega)]) (fun a h1 h2 => by rw [F2.2.1 a (by omega) (by omega) (by omega), F1.2 a (by omega) (by omega) (by omega) (by omega)]) (by rw [F2.2.2 13 (by omega) (by omega) (by omega), F1.2 1003 (by omega) (by omega) (by omega) (by omega)]) (by rw [F2.2.1 1009 (by omega) (by omega) (by omega), F1.2 1009 (by omega) (by omega) (by omega) (by omega)]) (by rw [F2.2.1 1010 (by omega) (by omega) (by omega), F1.2 1010 (by omega) (by omega) (by omega) (by omega)])
  · by_cases h1 : v = 1
    · obtain ⟨v1, M1, k1, F1, t1, an1⟩ := rs_ok lk A tc
      have d1 := FT_DS F1
      have A1 := SHP_DS A d1
      have H1 := MS_of A1
      have e3 := F1.2 1003 (by omega) (by omega) (by omega) (by omega) (by omega)
      have tm1 : TPm M1 l := TPm_cg tm (by rw [e3]) (F1.2 1004 (by omega) (by omega) (by omega) (by omega) (by omega))
      obtain ⟨v2, M2, k2, F2, t2, an2⟩ := msc_ok (n := 4) lk (by omega) H1 tm1
      obtain ⟨rfl, -⟩ := ant_eq an1 an2
      have d2 := DS_tr d1 (FTm_DS F2)
      have tc2 : TPc M2 l := TPc_cg t1 (F2.2.1 2 (by omega) (by omega) (by omega)) (F2.2.1 3 (by omega) (by omega) (by omega))
      have sc1 : SC M1 := SC_cg sc (by rw [F1.2 1 (by omega) (by omega) (by omega) (by omega) (by omega)]) (fun a h1 h2 => F1.2 a (by omega) (by omega) (by omega) (by omega) (by omega)) (by rw [e3]) (F1.2 1009 (by omega) (by omega) (by omega) (by omega) (by omega)) (F1.2 1010 (by omega) (by omega) (by omega) (by omega) (by omega))
      have sc1' := sc1
      obtain ⟨m, m4, -, m2, -⟩ := sc1'
      refine ⟨v1, M1, M2, ?_, ?_, ⟨SHP_DS A d2, l_TP lk tc2 t2, SC_FTm sc1 m2 m4 m4 F2, RE_DS re d2, DT_DS D d2⟩, A1, XS_DS d1, XS_DS d2⟩
      · unfold fA_fault BA_fault_37
        rw [if_neg h0, if_pos h1, as_o1 A, gd1n, as_g1_6 A, d_nz (by omega), gd1n, as_g1_1 A, d_nz (by omega), gd1n, as_o28 A, gd1n, k1, bs1n]
      · have k2 : fM_readScript 1003 4 M1 = some (v1, M2) := k2
        unfold fM_fault BM_fault_26
        rw [if_neg h0, if_pos h1, ms_ob H1, gd1n, k2, bs1n]
    · refine ST2_SA G0 ⟨-2, ?_, ?_⟩
      · unfold fA_fault BA_fault_37
        rw [if_neg h0, if_neg h1]
      · unfold fM_fault BM_fault_26
        rw [if_neg h0, if_neg h1]
end FT
