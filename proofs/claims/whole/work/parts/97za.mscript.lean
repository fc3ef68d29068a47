/-! READING: a step and a script, the reference -/
section MU
variable {M M1 M2 : Mem} {l : List Nat} {a p o s w n : Nat}
theorem mt80 (lk : LOK l) (H : MS M) (ho : o + 2 < 360) (hw : w ≤ 6) {b : Nat} {d : Int32} (h : RdM M l b mI) (hb : b ≤ l.length) (h14 : giM M 1003 14 = nI s) (hd : nI s + d = nI (scp w s)) : ∃ M', BM_readStep_80 1003 (nI o) (nI w) 1003 (nI s) d M = some M' ∧ FSm o M M' ∧ SPOm l o s (if 5 ≤ w then .inl (b, w, 0, 0) else spD l w (skp l b)) M' := by
  have ll := lk.1
  have X : FSm o M (siM (siM (siM (siM M 1003 14 (nI (scp w s))) 1009 o (nI w)) 1009 (o + 1) mI) 1009 (o + 2) mI) := FSm_tr (FSm_14 _) (FSm_tr (FSm_9 _ (by omega) (by omega)) (FSm_tr (FSm_9 _ (by omega) (by omega)) (FSm_9 _ (by omega) (by omega))))
  have r0 : RdM (siM (siM (siM (siM M 1003 14 (nI (scp w s))) 1009 o (nI w)) 1009 (o + 1) mI) 1009 (o + 2) mI) l b mI := RdM_9 (RdM_9 (RdM_9 (RdM_14 h)))
  have z0 : giM (siM (siM (siM (siM M 1003 14 (nI (scp w s))) 1009 o (nI w)) 1009 (o + 1) mI) 1009 (o + 2) mI) 1009 o = nI w := by rw [giM_ud, ud_n _ _ (by omega), giM_ud, ud_n _ _ (by omega), giM_ud, ud_s]
  have z1 : giM (siM (siM (siM (siM M 1003 14 (nI (scp w s))) 1009 o (nI w)) 1009 (o + 1) mI) 1009 (o + 2) mI) 1009 (o + 1) = mI := by rw [giM_ud, ud_n _ _ (by omega), giM_ud, ud_s]
  have z2 : giM (siM (siM (siM (siM M 1003 14 (nI (scp w s))) 1009 o (nI w)) 1009 (o + 1) mI) 1009 (o + 2) mI) 1009 (o + 2) = mI := by rw [giM_ud, ud_s]
  have z14 : giM (siM (siM (siM (siM M 1003 14 (nI (scp w s))) 1009 o (nI w)) 1009 (o + 1) mI) 1009 (o + 2) mI) 1003 14 = nI (scp w s) := by rw [giM_un (by omega), giM_un (by omega), giM_un (by omega), giM_ud, ud_s]
  unfold BM_readStep_80
  rw [ms_ob H, gd1n, gd1n, ms_g11 H, d_nz (by omega), gd1n, ms_w11 H (show o < 360 by omega), gd1n, show nI o + 1 = nI (o + 1) from by rw [l_1, n_add], ms_w11 H (show o + 1 < 360 by omega), gd1n]
  rw [show nI o + 2 = nI (o + 2) from by rw [l_2, n_add], ms_w11 H ho, gd1n, n_cl (a := o) (by omega), n_cl (a := o + 1) (by omega), n_cl (a := o + 2) (by omega), hd]
  generalize hN : siM (siM (siM (siM M 1003 14 (nI (scp w s))) 1009 o (nI w)) 1009 (o + 1) mI) 1009 (o + 2) mI = N at X r0 z0 z1 z2 z14
  have hN' : siM (siM (siM (siM M 1003 14 (nI (scp w s))) 1009 o (nI w)) 1009 (o + 1) (-1)) 1009 (o + 2) (-1) = N := hN
  rw [hN']
  have HN : MS N := MS_2 X.1 H
  by_cases h5 : 5 ≤ w
  · rw [if_pos h5, if_neg (show ¬ nI w < 5 from of_eq_false (n_ltF (a := w) (b := 5) (by omega) (by omega)))]
    refine ⟨_, rfl, X, r0, hb, ⟨z0, ?_, ?_⟩, z14⟩
    · rw [z1]; exact (if_neg (show ¬ w < 5 by omega)).symm
    · rw [z2]; exact (if_neg (show ¬ w < 2 by omega)).symm
  · rw [if_neg h5, if_pos (show nI w < 5 from of_eq_true (n_ltT (a := w) (b := 5) (by omega) (by omega)))]
    obtain ⟨M1, k1, F1, r1⟩ := ah_ok lk HN r0 hb
    have hsl := skp_le (l := l) hb
    have H1 : MS M1 := MS_2 F1.1 HN
    rw [k1, bs1n]
    unfold spD
    generalize skp l b = c at k1 r1 hsl
    cases hd' : dgL l c with
    | none =>
      have d0 := dM0 (M := M1) lk hd'
      have b1 := bad_ok H1 r1
      have d0' : fM_isDigit ((chL l c, M1) : Int32 × Mem).1 ((chL l c, M1) : Int32 × Mem).2 = some (nI 0, M1) := d0
      rw [d0', bs1n, if_pos (show ((nI 0, M1) : Int32 × Mem).1 = 0 from rfl), ms_ob H1, gd1n, b1, bs1n]
      exact ⟨_, rfl, FSm_tr X (FSm_RP (RP_tr F1 (RP_4 _))), by omega, c, RdM_2 r1 _⟩
    | some y =>
      obtain ⟨j1, j2, j3⟩ := dg_some hd'
      have d1 := dM1 (M := M1) lk hd'
      have d1' : fM_isDigit ((chL l c, M1) : Int32 × Mem).1 ((chL l c, M1) : Int32 × Mem).2 = some (nI 1, M1) := d1
      have hh := here_ok lk H1 r1 hsl
      have e48 : chL l c - 48 = nI y := by rw [j3, l_48, n_sub (by omega), Nat.add_sub_cancel]
      have X2 : FSm o N (siM (siM M1 1009 (o + 1) (nI y)) 1003 3 (nI (c + 1))) := FSm_tr (FSm_RP F1) (FSm_tr (FSm_9 _ (by omega) (by omega)) (FSm_RP (RP_3 _)))
      have r2 : RdM (siM (siM M1 1009 (o + 1) (nI y)) 1003 3 (nI (c + 1))) l (c + 1) mI := RdM_1 (RdM_9 r1) (c + 1)
      have y0 : giM (siM (siM M1 1009 (o + 1) (nI y)) 1003 3 (nI (c + 1))) 1009 o = nI w := by rw [giM_un (by omega), giM_ud, ud_n _ _ (by omega), F1.2.1 1009 (by omega)]; exact z0
      have y1 : giM (siM (siM M1 1009 (o + 1) (nI y)) 1003 3 (nI (c + 1))) 1009 (o + 1) = nI y := by rw [giM_un (by omega), giM_ud, ud_s]
      have y2 : giM (siM (siM M1 1009 (o + 1) (nI y)) 1003 3 (nI (c + 1))) 1009 (o + 2) = mI := by rw [giM_un (by omega), giM_ud, ud_n _ _ (by omega), F1.2.1 1009 (by omega)]; exact z2
      have y14 : giM (siM (siM M1 1009 (o + 1) (nI y)) 1003 3 (nI (c + 1))) 1003 14 = nI (scp w s) := by rw [giM_ud, ud_n _ _ (by omega), giM_un (by omega), F1.2.2 14 (by omega) (by omega)]; exact z14
      have e3 : giM (siM M1 1009 (o + 1) (nI y)) 1003 3 + 1 = nI (c + 1) := by rw [giM_un (by omega), r1.2.1, l_1, n_add]
      rw [d1', bs1n, if_neg (show ¬ ((nI 1, M1) : Int32 × Mem).1 = 0 from (show ¬ nI 1 = 0 by decide)), ms_ob H1, gd1n, ms_g11 H1, d_nz (by omega), gd1n]
      show ∃ M', ((fM_here 1003 M1).bind _) = some M' ∧ _
      rw [hh, bs1n]
      show ∃ M', (gd (wrI M1 1009 (nI (o + 1))) <| gd (obM M1 1003 11 34) <| if nI w ≤ 1 then ((fM_ahead 1003 (siM (siM M1 1009 (o + 1) (chL l c - 48)) 1003 3 ((giM (siM M1 1009 (o + 1) (chL l c - 48)) 1003 3) + 1))).bind _) else (some (siM (siM M1 1009 (o + 1) (chL l c - 48)) 1003 3 ((giM (siM M1 1009 (o + 1) (chL l c - 48)) 1003 3) + 1)))) = some M' ∧ _
      rw [ms_w11 H1 (show o + 1 < 360 by omega), gd1n, ms_ob H1, gd1n, e48, e3]
      by_cases hw2 : 2 ≤ w
      · rw [if_neg (show ¬ nI w ≤ 1 from of_eq_false (n_leF (a := w) (b := 1) (by omega) (by omega)))]
        refine ⟨_, rfl, FSm_tr X X2, ?_⟩
        show SPOm l o s (if 2 ≤ w then .inl (c + 1, w, y, 0) else spN l w y (skp l (c + 1))) _
        rw [if_pos hw2]
        refine ⟨r2, by omega, ⟨y0, ?_, ?_⟩, y14⟩
        · rw [y1]; exact (if_pos (show w < 5 by omega)).symm
        · rw [y2]; exact (if_neg (show ¬ w < 2 by omega)).symm
      · rw [if_pos (show nI w ≤ 1 from of_eq_true (n_leT (a := w) (b := 1) (by omega) (by omega)))]
        show ∃ M', _ = some M' ∧ _ ∧ SPOm l o s (if 2 ≤ w then .inl (c + 1, w, y, 0) else spN l w y (skp l (c + 1))) M'
        rw [if_neg hw2]
        obtain ⟨M', k4, F4', q⟩ := mtN (s := s) lk (MS_2 X2.1 HN) ho (by omega) r2 (by omega) y0 y1 y14
        rw [show nI o + 2 = nI (o + 2) from by rw [l_2, n_add]] at k4
        exact ⟨M', k4, FSm_tr X (FSm_tr X2 F4'), q⟩
theorem srMl (lk : LOK l) (H : MS M) (h : RdM M l a mI) (ha : a ≤ l.length) (ho : o + 2 < 360) (hs : s ≤ 6) (h14 : giM M 1003 14 = nI s) : ∃ M', fM_readStep 1003 (nI o) M = some M' ∧ FSm o M M' ∧ SPOm l o s (spR l a s) M' := by
  have ll := lk.1
  obtain ⟨M1, k1, F1, r1⟩ := ah_ok lk H h ha
  have hsl := skp_le (l := l) ha
  have H1 : MS M1 := MS_2 F1.1 H
  have g14 : giM M1 1003 14 = nI s := by rw [F1.2.2 14 (by omega) (by omega)]; exact h14
  unfold fM_readStep spR
  rw [ms_ob H, gd1n, k1, bs1n]
  show ∃ M', ((fM_sortOf (chL l (skp l a)) M1).bind _) = some M' ∧ _
  rw [so_ok lk, bs1n]
  have b1 := bad_ok H1 r1
  have stop : ∃ M', BM_readStep_40 1003 M1 = some M' ∧ FSm o M M' ∧ SPOm l o s (.inr (skp l a)) M' := by
    refine ⟨_, ?_, FSm_RP (RP_tr F1 (RP_4 _)), by omega, skp l a, RdM_2 r1 _⟩
    unfold BM_readStep_40
    rw [ms_ob H1, gd1n, b1, bs1n]
  generalize hbb : skp l a = b at *
  cases ht : (l[b]?).bind (tix 2) with
  | none =>
    show ∃ M', (if mI = -1 then BM_readStep_40 1003 M1 else _) = some M' ∧ _
    rw [if_pos (show mI = -1 from rfl)]
    exact stop
  | some w =>
    have hbl : b < l.length := by
      rcases Nat.lt_or_ge b l.length with h1 | h1
      · exact h1
      · rw [List.getElem?_eq_none h1] at ht
        cases ht
    have hw : w ≤ 6 := by
      rw [List.getElem?_eq_getElem hbl, bs1n] at ht
      exact tix_26 ht
    have H2 : MS (siM M1 1003 3 (nI (b + 1))) := MS_2 rfl H1
    have r2 := RdM_1 r1 (b + 1)
    have q14 : giM (siM M1 1003 3 (nI (b + 1))) 1003 14 = nI s := by rw [giM_ud, ud_n _ _ (by omega)]; exact g14
    have F2 : FSm o M (siM M1 1003 3 (nI (b + 1))) := FSm_RP (RP_tr F1 (RP_3 _))
    have e45 : ¬ ((w = 5 ∧ 6 ≤ s) ∨ (w = 6 ∧ s = 0)) → ∃ M', BM_readStep_45 1003 (nI o) (nI w) M1 = some M' ∧ FSm o M M' ∧ SPOm l o s (if 5 ≤ w then .inl (b + 1, w, 0, 0) else spD l w (skp l (b + 1))) M' := fun hn => by
      unfold BM_readStep_45
      rw [ms_ob H1, gd1n, r1.2.1, l_1, n_add, q14]
      by_cases h5 : w = 5
      · rw [if_pos (show nI w = 5 by rw [h5]; rfl)]
        obtain ⟨M', k, F, q⟩ := mt80 (d := nI 1) lk H2 ho hw r2 (by omega) q14 (by rw [n_add]; unfold scp; rw [if_pos h5])
        exact ⟨M', k, FSm_tr F2 F, q⟩
      · rw [if_neg (show ¬ nI w = 5 from fun e => h5 (n_inj (b := 5) (by omega) (by omega) e))]
        by_cases h6 : w = 6
        · rw [if_pos (show nI w = 6 by rw [h6]; rfl)]
          obtain ⟨M', k, F, q⟩ := mt80 (d := mI) lk H2 ho hw r2 (by omega) q14 (by rw [n_subm (by omega)]; unfold scp; rw [if_neg h5, if_pos h6])
          exact ⟨M', k, FSm_tr F2 F, q⟩
        · rw [if_neg (show ¬ nI w = 6 from fun e => h6 (n_inj (b := 6) (by omega) (by omega) e))]
          obtain ⟨M', k, F, q⟩ := mt80 (d := nI 0) lk H2 ho hw r2 (by omega) q14 (by rw [n_add]; unfold scp; rw [if_neg h5, if_neg h6]; rfl)
          exact ⟨M', k, FSm_tr F2 F, q⟩
    have nw : ¬ nI w = -1 := of_eq_false (n_eqm (show w < 2147483648 by omega))
    show ∃ M', (if nI w = -1 then BM_readStep_40 1003 M1 else (if nI w = 5 then (gd (obM M1 1003 11 34) <| if (giM M1 1003 14) = 6 then (BM_readStep_40 1003 M1) else (BM_readStep_27 1003 (nI o) (nI w) M1)) else (BM_readStep_27 1003 (nI o) (nI w) M1))) = some M' ∧ FSm o M M' ∧ SPOm l o s (if (w = 5 ∧ 6 ≤ s) ∨ (w = 6 ∧ s = 0) then .inr b else if 5 ≤ w then .inl (b + 1, w, 0, 0) else spD l w (skp l (b + 1))) M'
    rw [if_neg nw]
    unfold BM_readStep_27
    by_cases h5 : w = 5
    · rw [if_pos (show nI w = 5 by rw [h5]; rfl), ms_ob H1, gd1n, g14]
      by_cases h6 : s = 6
      · rw [if_pos (show nI s = 6 by rw [h6]; rfl), if_pos (show (w = 5 ∧ 6 ≤ s) ∨ (w = 6 ∧ s = 0) from Or.inl ⟨h5, by omega⟩)]
        exact stop
      · have hn : ¬ ((w = 5 ∧ 6 ≤ s) ∨ (w = 6 ∧ s = 0)) := by omega
        rw [if_neg (show ¬ nI s = 6 from fun e => h6 (n_inj (b := 6) (by omega) (by omega) e)), if_neg (show ¬ nI w = 6 from fun e => by have := n_inj (b := 6) (by omega) (by omega) e; omega), if_neg hn]
        exact e45 hn
    · rw [if_neg (show ¬ nI w = 5 from fun e => h5 (n_inj (b := 5) (by omega) (by omega) e))]
      by_cases h6 : w = 6
      · rw [if_pos (show nI w = 6 by rw [h6]; rfl), ms_ob H1, gd1n, g14]
        by_cases h0 : s = 0
        · rw [if_pos (show nI s = 0 by rw [h0]; rfl), if_pos (show (w = 5 ∧ 6 ≤ s) ∨ (w = 6 ∧ s = 0) from Or.inr ⟨h6, h0⟩)]
          exact stop
        · have hn : ¬ ((w = 5 ∧ 6 ≤ s) ∨ (w = 6 ∧ s = 0)) := by omega
          rw [if_neg (show ¬ nI s = 0 from fun e => h0 (n_inj (b := 0) (by omega) (by omega) e)), if_neg hn]
          exact e45 hn
      · have hn : ¬ ((w = 5 ∧ 6 ≤ s) ∨ (w = 6 ∧ s = 0)) := by omega
        rw [if_neg (show ¬ nI w = 6 from fun e => h6 (n_inj (b := 6) (by omega) (by omega) e)), if_neg hn]
        exact e45 hn
end MU
