/-! WAYS -/
section WY
variable {M M1 M2 : Mem} {ρ : Rul} {β : Nat} {S : HSt}
theorem GOK_0 : GOK ρ S 0 g00 := ⟨fun r hr => by omega, fun r r' hr => by omega⟩
theorem CX_0 : CX 0 g00 0 g00 := fun r r' hr => by omega
/-- the reference's answer to all four questions -/
theorem mWays {sa sb : Nat → StT} {la lb a b j : Nat} (C : RC M ρ S) (V : OKS ρ β S) (hβ : β + 20 < 2000000000) (ha : la < 7) (hb : lb < 7) (a4 : a < 4) (b4 : b < 4) (hne : a ≠ b) (j3 : j ≤ 3) (Ha : ∀ i, i < la → TOK (sa i) ∧ (sa i).1 < 5) (Hb : ∀ i, i < lb → TOK (sb i) ∧ (sb i).1 < 5) (e1 : fM_isScript 1003 (nI a) M = some (nI 1, M)) (e2 : fM_isScript 1003 (nI b) M = some (nI 1, M)) (w1 : fM_isFew 1003 (nI a) M = some (nI 1, M)) (w2 : fM_isFew 1003 (nI b) M = some (nI 1, M)) (l1 : giM M 1010 a = nI la) (l2 : giM M 1010 b = nI lb) (S1 : ∀ q, q < la → STm M (3 * (24 * a + q)) (sa q)) (S2 : ∀ q, q < lb → STm M (3 * (24 * b + q)) (sb q)) : ∃ M', fM_ways 1003 (nI a) (nI b) (nI j) M = some (giM M' 1003 (28 + j), M') ∧ RZ M M' ∧ RW (giM M' 1011) S ∧ AcM (nI (wN la lb)) M' (sW (wyL ρ sa sb la lb 20 0 0 S 0 g00 0 g00)) (fMo 0 (wyL ρ sa sb la lb 20 0 0 S 0 g00 0 g00)) (fFe none (wyL ρ sa sb la lb 20 0 0 S 0 g00 0 g00)) := by
  have H := C.1
  have hR := C.2.2.1
  have n10 : ¬ nI 1 = 0 := by decide
  obtain ⟨M1, k1, z1, s1, g1, f1⟩ := wM_loop (vd := nI j) ha hb (show a ≤ 4 by omega) (show b ≤ 4 by omega) lb 1 1 1000000 (siM M 1003 28 (nI 1)) (by omega) (by omega) (by decide) (by omega) (MS_2 rfl H) (by rw [giM_un (by omega)]; exact l1) (by rw [giM_un (by omega)]; exact l2) (by rw [giM_ud, ud_s])
  have z1 : giM M1 1003 28 = nI (wN la lb) := z1
  have k1 : LM_ways_56 1000000 1003 (nI a) (nI b) (nI j) 1 (siM M 1003 28 1) = some M1 := k1
  have gx : ∀ x, x ≠ 1003 → giM M1 x = giM M x := fun x h => by rw [g1 x h, giM_un h]
  have fx : ∀ i, i ≠ 28 → giM M1 1003 i = giM M 1003 i := fun i h => by rw [f1 i h, giM_ud, ud_n _ _ h]
  have X1 : RZ M M1 := ⟨s1, fun x hx => gx x (by omega), fun i hi => fx i (by omega)⟩
  have C1 : RC M1 ρ S := RC_RZ C X1 (by rw [gx 1011 (by omega)]; exact C.2.2.2)
  have H1 := C1.1
  have X2 : RZ M1 (siM (siM (siM (siM (siM (siM M1 1003 29 (nI 0)) 1003 30 (nI 0)) 1003 31 mI) 1017 0 (nI 0)) 1017 1 (nI 0)) 1003 23 (nI 0)) := RZ_tr (RZ_tr (RZ_tr (RZ_tr (RZ_tr (RZ_fi (by omega)) (RZ_fi (by omega))) (RZ_fi (by omega))) (RZ_si (by omega))) (RZ_si (by omega))) (RZ_fi (by omega))
  have g2 : ∀ x, x ≠ 1003 → x ≠ 1017 → giM (siM (siM (siM (siM (siM (siM M1 1003 29 (nI 0)) 1003 30 (nI 0)) 1003 31 mI) 1017 0 (nI 0)) 1017 1 (nI 0)) 1003 23 (nI 0)) x = giM M1 x := fun x h1 h2 => by rw [giM_un h1, giM_un h2, giM_un h2, giM_un h1, giM_un h1, giM_un h1]
  have y29 : giM (siM (siM (siM (siM (siM (siM M1 1003 29 (nI 0)) 1003 30 (nI 0)) 1003 31 mI) 1017 0 (nI 0)) 1017 1 (nI 0)) 1003 23 (nI 0)) 1003 29 = nI 0 := by rw [giM_ud, ud_n _ _ (by omega), giM_un (by omega), giM_un (by omega), giM_ud, ud_n _ _ (by omega), giM_ud, ud_n _ _ (by omega), giM_ud, ud_s]
  have y30 : giM (siM (siM (siM (siM (siM (siM M1 1003 29 (nI 0)) 1003 30 (nI 0)) 1003 31 mI) 1017 0 (nI 0)) 1017 1 (nI 0)) 1003 23 (nI 0)) 1003 30 = nI 0 := by rw [giM_ud, ud_n _ _ (by omega), giM_un (by omega), giM_un (by omega), giM_ud, ud_n _ _ (by omega), giM_ud, ud_s]
  have y31 : giM (siM (siM (siM (siM (siM (siM M1 1003 29 (nI 0)) 1003 30 (nI 0)) 1003 31 mI) 1017 0 (nI 0)) 1017 1 (nI 0)) 1003 23 (nI 0)) 1003 31 = mI := by rw [giM_ud, ud_n _ _ (by omega), giM_un (by omega), giM_un (by omega), giM_ud, ud_s]
  have y28 : giM (siM (siM (siM (siM (siM (siM M1 1003 29 (nI 0)) 1003 30 (nI 0)) 1003 31 mI) 1017 0 (nI 0)) 1017 1 (nI 0)) 1003 23 (nI 0)) 1003 28 = nI (wN la lb) := by rw [giM_ud, ud_n _ _ (by omega), giM_un (by omega), giM_un (by omega), giM_ud, ud_n _ _ (by omega), giM_ud, ud_n _ _ (by omega), giM_ud, ud_n _ _ (by omega)]; exact z1
  have y23 : giM (siM (siM (siM (siM (siM (siM M1 1003 29 (nI 0)) 1003 30 (nI 0)) 1003 31 mI) 1017 0 (nI 0)) 1017 1 (nI 0)) 1003 23 (nI 0)) 1003 23 = nI 0 := by rw [giM_ud, ud_s]
  have y0 : giM (siM (siM (siM (siM (siM (siM M1 1003 29 (nI 0)) 1003 30 (nI 0)) 1003 31 mI) 1017 0 (nI 0)) 1017 1 (nI 0)) 1003 23 (nI 0)) 1017 0 = nI 0 := by rw [giM_un (by omega), giM_ud, ud_n _ _ (by omega), giM_ud, ud_s]
  have y1 : giM (siM (siM (siM (siM (siM (siM M1 1003 29 (nI 0)) 1003 30 (nI 0)) 1003 31 mI) 1017 0 (nI 0)) 1017 1 (nI 0)) 1003 23 (nI 0)) 1017 1 = nI 0 := by rw [giM_un (by omega), giM_ud, ud_s]
  have i1 : fM_in (nI j) 0 3 M = some (nI 1, M) := in_Tm (a := j) (k := 3) (by omega) (by omega)
  have c0 : Int32.toNatClampNeg 0 = 0 := by decide
  have c1 : Int32.toNatClampNeg 1 = 1 := by decide
  have wr0 : wrI M1 1017 0 = true := ar_wr (ms_a22 H1) (show 0 < 2 by omega)
  have wr1 : wrI M1 1017 1 = true := ar_wr (ms_a22 H1) (show 1 < 2 by omega)
  have hd : fM_ways 1003 (nI a) (nI b) (nI j) M = (fM_goWays 20 1003 (nI a) (nI b) 0 0 (siM (siM (siM (siM (siM (siM M1 1003 29 0) 1003 30 0) 1003 31 (-1)) 1017 0 0) 1017 1 0) 1003 23 0)).bind fun q17 => if nI j = 0 then (gd (obM q17 1003 11 34) <| BM_ways_175 (giM q17 1003 28) q17) else (if nI j = 1 then (gd (obM q17 1003 11 34) <| BM_ways_175 (giM q17 1003 29) q17) else (if nI j = 2 then (gd (obM q17 1003 11 34) <| BM_ways_175 (giM q17 1003 30) q17) else (gd (obM q17 1003 11 34) <| BM_ways_175 (giM q17 1003 31) q17))) := by
    unfold fM_ways
    rw [ms_ob H, gd1n, e1, bs1n, if_neg (show ¬ ((nI 1, M) : Int32 × Mem).1 = 0 from n10), ms_ob H, gd1n, e2, bs1n, if_neg (show ¬ ((nI 1, M) : Int32 × Mem).1 = 0 from n10), if_neg (show ¬ nI a = nI b from fun e => hne (n_inj (by omega) (by omega) e)), ms_ob H, gd1n, w1, bs1n, if_neg (show ¬ ((nI 1, M) : Int32 × Mem).1 = 0 from n10), ms_ob H, gd1n, w2, bs1n, if_neg (show ¬ ((nI 1, M) : Int32 × Mem).1 = 0 from n10), i1, bs1n, if_neg (show ¬ ((nI 1, M) : Int32 × Mem).1 = 0 from n10), ms_ob H, gd1n, k1, bs1n, ms_ob H1, gd1n, ms_g22 H1, d_nz (by omega), gd1n, wr0, gd1n, wr1, gd1n, c0, c1]
  rw [hd]
  have hM2 : siM (siM (siM (siM (siM (siM M1 1003 29 0) 1003 30 0) 1003 31 (-1)) 1017 0 0) 1017 1 0) 1003 23 0 = siM (siM (siM (siM (siM (siM M1 1003 29 (nI 0)) 1003 30 (nI 0)) 1003 31 mI) 1017 0 (nI 0)) 1017 1 (nI 0)) 1003 23 (nI 0) := rfl
  rw [hM2]
  generalize siM (siM (siM (siM (siM (siM M1 1003 29 (nI 0)) 1003 30 (nI 0)) 1003 31 mI) 1017 0 (nI 0)) 1017 1 (nI 0)) 1003 23 (nI 0) = M2 at X2 g2 y29 y30 y31 y28 y23 y0 y1
  have X3 := RZ_tr X1 X2
  have C2 : RC M2 ρ S := RC_RZ C X3 (by rw [g2 1011 (by omega) (by omega), gx 1011 (by omega)]; exact C.2.2.2)
  have STz : ∀ {o : Nat} {t : StT}, STm M o t → STm M2 o t := fun e => by
    unfold STm
    rw [X3.2.1 1009 (by omega)]
    exact e
  obtain ⟨M3, r1, r2, r3, -, -, r4, -⟩ := goW (z := nI (wN la lb)) (sa := sa) (sb := sb) hR ha hb (show a ≤ 4 by omega) (show b ≤ 4 by omega) Ha Hb 20 0 0 S 0 g00 0 g00 0 0 none β M2 (by omega) (by omega) (by omega) (by omega) (by omega) ⟨y0, y23, fun r hr => by omega⟩ ⟨y1, y23, fun r hr => by omega⟩ C2 V GOK_0 GOK_0 CX_0 ⟨y29, y30, y31, by omega, fun y hy => (by cases hy), y28⟩ hβ (by rw [X3.2.1 1010 (by omega)]; exact l1) (by rw [X3.2.1 1010 (by omega)]; exact l2) (fun q hq => STz (S1 q hq)) (fun q hq => STz (S2 q hq))
  rw [Nat.zero_add] at r4
  have r1 : fM_goWays 20 1003 (nI a) (nI b) 0 0 M2 = some M3 := r1
  refine ⟨M3, ?_, RZ_tr X3 r2, r3.2.2.2, r4⟩
  have H3 := r3.1
  unfold BM_ways_175
  rw [r1, bs1n]
  rcases (show j = 0 ∨ j = 1 ∨ j = 2 ∨ j = 3 by omega) with rfl | rfl | rfl | rfl
  · rw [if_pos (show nI 0 = 0 from rfl), ms_ob H3, gd1n] <;> rfl
  · rw [if_neg n10, if_pos (show nI 1 = 1 from rfl), ms_ob H3, gd1n] <;> rfl
  · rw [if_neg (show ¬ nI 2 = 0 by decide), if_neg (show ¬ nI 2 = 1 by decide), if_pos (show nI 2 = 2 from rfl), ms_ob H3, gd1n] <;> rfl
  · rw [if_neg (show ¬ nI 3 = 0 by decide), if_neg (show ¬ nI 3 = 1 by decide), if_neg (show ¬ nI 3 = 2 by decide), ms_ob H3, gd1n] <;> rfl
end WY
