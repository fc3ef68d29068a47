/-! SCRIPTS RUN: a step of the reference -/
section MS2
variable {M M1 M2 : Mem} {ρ : Rul} {β n d sd sn i : Nat} {S : HSt} {g : Nat → GoT} {t : StT} {r : Bool}
theorem mLv {y : Nat} (C : RC M ρ S) (V : Inv ρ β S) (hy : y ≤ 9) : fM_doesLive 1003 (nI y) M = some (nI (if y < rT ρ ∧ lv S y = 1 then 1 else 0), M) := by
  have hR := ru_b C.2.2.1
  by_cases h : y < rT ρ
  · have hl := (V.2.2.2.2.1 y (by omega)).1
    rw [mLive C V h]
    rcases (show lv S y = 0 ∨ lv S y = 1 by omega) with l0 | l1
    · rw [if_neg (by omega), l0]
    · rw [if_pos ⟨h, l1⟩, l1]
  · rw [mLive_F C (y_F hy h C.2.2.1), if_neg (fun e => h e.1)]
theorem st_of {k : Nat} (H : MS M) (hs : sn ≤ 4) (hi : i < 24) (hk : k < 3) : fM_stepOf 1003 (nI sn) (nI i) (nI k) M = some (giM M 1009 (3 * (24 * sn + i) + k), M) := by
  have e : 3 * (24 * nI sn + nI i) + nI k = nI (3 * (24 * sn + i) + k) := by rw [l_3, l_24, n_mul, n_add, n_mul, n_add]
  unfold fM_stepOf
  rw [ms_ob H, gd1n, ms_g11 H, d_nz (by omega), gd1n, e, ar_rd (ms_a11 H) (show 3 * (24 * sn + i) + k < 360 by omega), gd1n, n_cl (by omega)]
theorem mGetS {y z c p : Nat} (P : PGm M sd n d g) (C : RC M ρ S) (V : OKS ρ β S) (hβ : β < 2000000000) (hn : n < 24) (hsd : sd ≤ 1) (d7 : d ≤ 7) (hy : y < rT ρ) (hz : 1 ≤ z) (hz4 : z ≤ 40) (hk : kcF ρ (nI z) = some c) (hp : pgF ρ y c S = some p) : ∃ M', fM_stepGet 1003 (nI y) (nI z) (nI sd) (hI r) M = some M' ∧ RQ sd M M' ∧ PGm M' sd (n + 1) d (ud g n (100 * p + aBlk ρ y c p S, y, d, true)) ∧ RC M' ρ (nt r (100 * p + aBlk ρ y c p S, y, hwF y p S) (aGet ρ y c p S)) := by
  have H := C.1
  have hR := C.2.2.1
  have hb := ru_b hR
  have hc := kcF_lt hk
  have pc := (pgF_cases hR V.1 hy hc hp).1
  have hbk := aBlk_lt hR V.1 hy hc hp
  have kc := (asked_T C hk).2
  obtain ⟨M1, j1, F1, C1, h17⟩ := mGetNow C V.1 hβ hy hc hp
  have H1 := C1.1
  have P1 := PGm_RF P F1
  have ei : 24 * nI sd + nI n = nI (24 * sd + n) := by rw [l_24, n_mul, n_add]
  generalize hB : 100 * p + aBlk ρ y c p S = B at j1
  have hB16 : B < 1600 := by omega
  have R5 : RQ sd M1 (siM (siM (siM (siM (siM M1 1013 (24 * sd + n) (nI B)) 1014 (24 * sd + n) (nI y)) 1015 (24 * sd + n) (sI d)) 1016 (24 * sd + n) (nI 1)) 1017 sd (nI (n + 1))) := RQ_tr (RQ_c (by omega) (by omega) hn) (RQ_tr (RQ_c (by omega) (by omega) hn) (RQ_tr (RQ_c (by omega) (by omega) hn) (RQ_tr (RQ_c (by omega) (by omega) hn) RQ_17)))
  have P5 : PGm (siM (siM (siM (siM (siM M1 1013 (24 * sd + n) (nI B)) 1014 (24 * sd + n) (nI y)) 1015 (24 * sd + n) (sI d)) 1016 (24 * sd + n) (nI 1)) 1017 sd (nI (n + 1))) sd (n + 1) d (ud g n (B, y, d, true)) := by
    refine ⟨by rw [giM_ud, ud_s], by rw [giM_un (by omega), giM_un (by omega), giM_un (by omega), giM_un (by omega), giM_un (by omega)]; exact P1.2.1, fun r hr => ?_⟩
    rw [giM_un (show (1013 : Nat) ≠ 1017 by omega), giM_un (show (1013 : Nat) ≠ 1016 by omega), giM_un (show (1013 : Nat) ≠ 1015 by omega), giM_un (show (1013 : Nat) ≠ 1014 by omega), giM_ud, giM_un (show (1014 : Nat) ≠ 1017 by omega), giM_un (show (1014 : Nat) ≠ 1016 by omega), giM_un (show (1014 : Nat) ≠ 1015 by omega), giM_ud, giM_un (show (1014 : Nat) ≠ 1013 by omega), giM_un (show (1015 : Nat) ≠ 1017 by omega), giM_un (show (1015 : Nat) ≠ 1016 by omega), giM_ud, giM_un (show (1015 : Nat) ≠ 1014 by omega), giM_un (show (1015 : Nat) ≠ 1013 by omega), giM_un (show (1016 : Nat) ≠ 1017 by omega), giM_ud, giM_un (show (1016 : Nat) ≠ 1015 by omega), giM_un (show (1016 : Nat) ≠ 1014 by omega), giM_un (show (1016 : Nat) ≠ 1013 by omega)]
    by_cases e : r = n
    · rw [ud_e e, ud_e (show 24 * sd + r = 24 * sd + n by omega), ud_e (show 24 * sd + r = 24 * sd + n by omega), ud_e (show 24 * sd + r = 24 * sd + n by omega), ud_e (show 24 * sd + r = 24 * sd + n by omega)]
      exact ⟨rfl, rfl, rfl, rfl, d7⟩
    · have ne : 24 * sd + r ≠ 24 * sd + n := by omega
      rw [ud_n _ _ e, ud_n _ _ ne, ud_n _ _ ne, ud_n _ _ ne, ud_n _ _ ne]
      exact P1.2.2 r (by omega)
  have z22 : giM (siM (siM (siM (siM M1 1013 (24 * sd + n) (nI B)) 1014 (24 * sd + n) (nI y)) 1015 (24 * sd + n) (sI d)) 1016 (24 * sd + n) (nI 1)) 1017 sd = nI n := by rw [giM_un (by omega), giM_un (by omega), giM_un (by omega), giM_un (by omega)]; exact P1.1
  have z13 : giM (siM (siM (siM (siM (siM M1 1013 (24 * sd + n) (nI B)) 1014 (24 * sd + n) (nI y)) 1015 (24 * sd + n) (sI d)) 1016 (24 * sd + n) (nI 1)) 1017 sd (nI (n + 1))) 1013 (24 * sd + n) = nI B := by rw [giM_un (by omega), giM_un (by omega), giM_un (by omega), giM_un (by omega), giM_ud, ud_s]
  have z17 : giM (siM (siM (siM (siM (siM M1 1013 (24 * sd + n) (nI B)) 1014 (24 * sd + n) (nI y)) 1015 (24 * sd + n) (sI d)) 1016 (24 * sd + n) (nI 1)) 1017 sd (nI (n + 1))) 1003 17 = nI (hwF y p S) := by rw [giM_un (by omega), giM_un (by omega), giM_un (by omega), giM_un (by omega), giM_un (by omega)]; exact h17
  have z11 : giM (siM (siM (siM (siM (siM M1 1013 (24 * sd + n) (nI B)) 1014 (24 * sd + n) (nI y)) 1015 (24 * sd + n) (sI d)) 1016 (24 * sd + n) (nI 1)) 1017 sd (nI (n + 1))) 1011 = giM M1 1011 := by rw [giM_un (by omega), giM_un (by omega), giM_un (by omega), giM_un (by omega), giM_un (by omega)]
  have z23 : giM (siM (siM M1 1013 (24 * sd + n) (nI B)) 1014 (24 * sd + n) (nI y)) 1003 23 = nI d := by rw [giM_un (by omega), giM_un (by omega)]; exact P1.2.1
  have e59 : ∀ w2 : Int32, w2 = sI d → BM_stepGet_59 1003 (nI y) (nI sd) (hI r) (nI (24 * sd + n)) 1015 (nI (24 * sd + n)) w2 (siM (siM M1 1013 (24 * sd + n) (nI B)) 1014 (24 * sd + n) (nI y)) = if hI r = 0 then some (siM (siM (siM (siM (siM M1 1013 (24 * sd + n) (nI B)) 1014 (24 * sd + n) (nI y)) 1015 (24 * sd + n) (sI d)) 1016 (24 * sd + n) (nI 1)) 1017 sd (nI (n + 1))) else (fM_note 1003 (nI B) (nI y) (siM (siM (siM (siM (siM M1 1013 (24 * sd + n) (nI B)) 1014 (24 * sd + n) (nI y)) 1015 (24 * sd + n) (sI d)) 1016 (24 * sd + n) (nI 1)) 1017 sd (nI (n + 1)))).bind fun q10 => some q10 := fun w2 hw => by
    have H3 : MS (siM (siM M1 1013 (24 * sd + n) (nI B)) 1014 (24 * sd + n) (nI y)) := MS_2 rfl H1
    have z22' : giM (siM (siM (siM (siM M1 1013 (24 * sd + n) (nI B)) 1014 (24 * sd + n) (nI y)) 1015 (24 * sd + n) (sI d)) 1016 (24 * sd + n) 1) 1017 sd = nI n := z22
    have z13' : giM (siM (siM (siM (siM (siM M1 1013 (24 * sd + n) (nI B)) 1014 (24 * sd + n) (nI y)) 1015 (24 * sd + n) (sI d)) 1016 (24 * sd + n) 1) 1017 sd (nI (n + 1))) 1013 (24 * sd + n) = nI B := z13
    unfold BM_stepGet_59 BM_stepGet_95
    rw [hw, ar_wr (ms_a20 H3) (show 24 * sd + n < 48 by omega), gd1n, ms_ob H3, gd1n, ms_g21 H3, d_nz (by omega), gd1n, ms_b H3 (show 24 * sd + n < 48 by omega), gd1n, ms_g22 H3, d_nz (by omega), gd1n, ar_rd (ms_a22 H3) (show sd < 2 by omega), gd1n, ar_wr (ms_a22 H3) (show sd < 2 by omega), gd1n, n_cl (a := 24 * sd + n) (by omega), n_cl (a := sd) (by omega), z22', show nI n + 1 = nI (n + 1) from by rw [l_1, n_add], ms_g18 H3, d_nz (by omega), gd1n, ar_rd (ms_a18 H3) (show 24 * sd + n < 48 by omega), gd1n, z13']
    rfl
  generalize siM (siM (siM (siM (siM M1 1013 (24 * sd + n) (nI B)) 1014 (24 * sd + n) (nI y)) 1015 (24 * sd + n) (sI d)) 1016 (24 * sd + n) (nI 1)) 1017 sd (nI (n + 1)) = M5 at R5 P5 z13 z17 z11 e59
  have C5 : RC M5 ρ (aGet ρ y c p S) := RC_RQ C1 R5 z11
  have V5 := inv_get hR V.1 hy hc hp
  have fin : ∃ M', (if hI r = 0 then some M5 else (fM_note 1003 (nI B) (nI y) M5).bind fun q10 => some q10) = some M' ∧ RQ sd M M' ∧ PGm M' sd (n + 1) d (ud g n (B, y, d, true)) ∧ RC M' ρ (nt r (B, y, hwF y p S) (aGet ρ y c p S)) := by
    cases r with
    | false => exact ⟨M5, if_pos rfl, RQ_tr (RQ_RF F1) R5, P5, C5⟩
    | true =>
      obtain ⟨M6, j6, F6, C6⟩ := mNote (e := (B, y, hwF y p S)) C5 V5 z17
      refine ⟨M6, ?_, RQ_tr (RQ_RF F1) (RQ_tr R5 (RQ_RF F6)), PGm_RF P5 F6, C6⟩
      have j6 : fM_note 1003 (nI B) (nI y) M5 = some M6 := j6
      rw [if_neg (show ¬ hI true = 0 by decide), j6, bs1n]
  obtain ⟨M', f1, f2, f3, f4⟩ := fin
  refine ⟨M', ?_, f2, f3, f4⟩
  have r17 : rdI M 1017 (nI sd) = true := ar_rd (ms_a22 H) (show sd < 2 by omega)
  unfold fM_stepGet
  rw [ms_ob H, gd1n, ms_g22 H, d_nz (by omega), gd1n, r17, gd1n, ms_g18 H, d_nz (by omega), gd1n, n_cl (a := sd) (by omega), P.1, ei, kc, bs1n, ms_ob H, gd1n, j1, bs1n, ar_wr (ms_a18 H1) (show 24 * sd + n < 48 by omega), gd1n, ms_ob H1, gd1n, ms_g19 H1, d_nz (by omega), gd1n, ar_wr (ms_a19 H1) (show 24 * sd + n < 48 by omega), gd1n, ms_g20 H1, d_nz (by omega), gd1n, n_cl (a := 24 * sd + n) (by omega), z23]
  by_cases h0 : d = 0
  · rw [if_pos (show nI d ≤ 0 by rw [h0]; decide), e59 _ (by unfold sI; rw [if_pos h0]; rfl)]
    exact f1
  · rw [if_neg (show ¬ nI d ≤ 0 from of_eq_false (n_leF (a := d) (b := 0) (by omega) (by omega))), e59 _ (by unfold sI; rw [if_neg h0])]
    exact f1
end MS2
