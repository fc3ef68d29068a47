/-! WAYS: the reference, one side at a pair of places -/
section WN
variable {z : Int32} {M M1 M2 : Mem} {ρ : Rul} {β n m sd sn ki dd w mo st : Nat} {fe : Option Nat} {Y : HSt} {g k : Nat → GoT} {t : StT}
theorem AcM_cg (a : AcM z M w mo fe) (e : ∀ j, j = 28 ∨ j = 29 ∨ j = 30 ∨ j = 31 → giM M1 1003 j = giM M 1003 j) : AcM z M1 w mo fe := ⟨(e 29 (by omega)).trans a.1, (e 30 (by omega)).trans a.2.1, (e 31 (by omega)).trans a.2.2.1, a.2.2.2.1, a.2.2.2.2.1, (e 28 (by omega)).trans a.2.2.2.2.2⟩
theorem PGm_cg {d : Nat} (P : PGm M sd n d g) (e : ∀ a, 1013 ≤ a → a ≤ 1017 → giM M1 a = giM M a) (e3 : giM M1 1003 23 = giM M 1003 23) : PGm M1 sd n d g := by
  unfold PGm
  rw [e 1017 (by omega) (by omega), e3, e 1013 (by omega) (by omega), e 1014 (by omega) (by omega), e 1015 (by omega) (by omega), e 1016 (by omega) (by omega)]
  exact P
theorem PGm_o {d d' sd' : Nat} (P : PGm M sd' m d k) (F : RQ sd M M1) (hm : m ≤ 24) (hs : sd ≤ 1) (hs' : sd' = 1 - sd) (e3 : giM M1 1003 23 = nI d') : PGm M1 sd' m d' k := by
  refine ⟨by rw [F.2.2.2.2 sd' (by omega)]; exact P.1, e3, fun r hr => ?_⟩
  rw [F.2.2.2.1 1013 _ (by omega) (by omega) (by omega), F.2.2.2.1 1014 _ (by omega) (by omega) (by omega), F.2.2.2.1 1015 _ (by omega) (by omega) (by omega), F.2.2.2.1 1016 _ (by omega) (by omega) (by omega)]
  exact P.2.2 r hr
def sdL (ρ : Rul) (Y : HSt) (n : Nat) (g : Nat → GoT) (t : StT) (c : Nat) (L : RSt → List (Nat × Nat × Nat)) : List (Nat × Nat × Nat) := match stp ρ false t (Y, n, 0, g) with
  | none => [(pgU ρ Y, 0, c)]
  | some x => L x
theorem mSide {self : Nat → Int32 → Int32 → Int32 → Int32 → Mem → Option Mem} {K : Nat → Int32 → Int32 → Int32 → Int32 → Int32 → Int32 → Mem → Option Mem} {va vb vi vj p3 p4 : Int32} {c : Nat} {L : RSt → List (Nat × Nat × Nat)} (hsd : sd ≤ 1) (hp : (sd = 0 ∧ p3 = vi + 1 ∧ p4 = vj) ∨ (sd = 1 ∧ p3 = vi ∧ p4 = vj + 1)) (hsn : sn ≤ 4) (hki : ki < st) (hst : st ≤ 24) (h10 : giM M 1010 sn = nI st) (hdd : dd < 13) (P : PGm M sd n 0 g) (P2 : PGm M (1 - sd) m 0 k) (hm : m ≤ 24) (C : RC M ρ Y) (V : OKS ρ β Y) (G : GOK ρ Y n g) (hβ : β < 2000000000) (hn : n < 24) (tk : TOK t) (t5 : t.1 < 5) (e : STm M (3 * (24 * sn + ki)) t) (a : AcM z M w mo fe) (rec : ∀ M2 x, stp ρ false t (Y, n, 0, g) = some x → RC M2 ρ x.1 → PGm M2 sd x.2.1 0 x.2.2.2 → PGm M2 (1 - sd) m 0 k → AcM z M2 w mo fe → RZ M M2 → ∃ M3, self 1003 va vb p3 p4 M2 = some M3 ∧ RZ M2 M3 ∧ RC M3 ρ x.1 ∧ PGm M3 sd x.2.1 0 x.2.2.2 ∧ PGm M3 (1 - sd) m 0 k ∧ AcM z M3 (w + sW (L x)) (fMo mo (L x)) (fFe fe (L x)) ∧ ∀ d' N, d' ≤ dd → AS M2 d' N → AS M3 d' N) : ∃ M', BM_goWays_74 self K 1003 va vb vi vj (nI dd) (nI sd) (nI sn) (nI ki) M = K 1003 va vb vi vj (nI dd) (nI (sd + 1)) M' ∧ RZ M M' ∧ RC M' ρ Y ∧ PGm M' sd n 0 g ∧ PGm M' (1 - sd) m 0 k ∧ AcM z M' (w + sW (sdL ρ Y n g t c L)) (fMo mo (sdL ρ Y n g t c L)) (fFe fe (sdL ρ Y n g t c L)) ∧ ∀ d' N, d' < dd → AS M d' N → AS M' d' N := by
  have H := C.1
  have hR := C.2.2.1
  have W := Wd_of hR V.1
  have ns : ¬ nI st ≤ nI ki := of_eq_false (n_leF (by omega) (by omega))
  have head : BM_goWays_74 self K 1003 va vb vi vj (nI dd) (nI sd) (nI sn) (nI ki) M = (fM_canStep 1003 (nI sn) (nI ki) (nI sd) M).bind fun q4 => if q4.1 = 0 then (gd (obM q4.2 1003 11 34) <| (fM_endWay 1003 q4.2).bind fun q5 => BM_goWays_220 self K 1003 va vb vi vj (nI dd) (nI sd) q5) else (gd (obM q4.2 1003 11 34) <| (fM_putAside 1003 (nI dd) q4.2).bind fun q7 => gd (obM q7 1003 11 34) <| (fM_stepOf 1003 (nI sn) (nI ki) 0 q7).bind fun q9 => gd (obM q9.2 1003 11 34) <| (fM_doStep 1003 (nI sn) (nI ki) (nI sd) 0 q9.2).bind fun q11 => BM_goWays_158 self K 1003 va vb vi vj (nI dd) (nI sd) (nI sn) (nI ki) q9.1 1003 va vb p3 p4 q11) := by
    unfold BM_goWays_74 BM_goWays_144
    rw [ms_ob H, gd1n, ms_g12 H, d_nz (by omega), gd1n, ms_r12 H (show sn < 5 by omega), gd1n, n_cl (by omega), h10, if_neg ns]
    rcases hp with ⟨rfl, rfl, rfl⟩ | ⟨rfl, rfl, rfl⟩
    · simp only [if_pos (show nI 0 = 0 from rfl)]
    · simp only [if_neg (show ¬ nI 1 = 0 by decide)]
  have k220 : ∀ M, BM_goWays_220 self K 1003 va vb vi vj (nI dd) (nI sd) M = K 1003 va vb vi vj (nI dd) (nI (sd + 1)) M := fun M => by
    unfold BM_goWays_220
    rw [l_1, n_add]
  rw [head]
  -- the step, tried after what is now was put aside
  have e4 := mPut (d := dd) H hdd
  have a1 := AS_put (M := M) (d := dd)
  have fa : ∀ d' N, d' < dd → AS M d' N → AS (saM M 1019 (mx M 1019 (3712 * dd) 1011 0 3712)) d' N := fun d' N h1 h2 => AS_far h2 h1
  generalize hN : mx M 1019 (3712 * dd) 1011 0 3712 = N at e4 a1 fa
  have X1 : RZ M (saM M 1019 N) := RZ_sa (by omega)
  have C1 : RC (saM M 1019 N) ρ Y := RC_RZ C X1 (by rw [gi_san (by omega)]; exact C.2.2.2)
  have P1 : PGm (saM M 1019 N) sd n 0 g := PGm_cg P (fun a h1 h2 => gi_san (by omega) _) (by rw [gi_san (by omega)])
  have P21 : PGm (saM M 1019 N) (1 - sd) m 0 k := PGm_cg P2 (fun a h1 h2 => gi_san (by omega) _) (by rw [gi_san (by omega)])
  have e1 : STm (saM M 1019 N) (3 * (24 * sn + ki)) t := by
    unfold STm
    rw [gi_san (by omega)]
    exact e
  rcases mStep (r := false) (t := t) hsn (show ki < 24 by omega) hsd P C V G hβ hn (by omega) (fun h => by omega) tk e with ⟨j1, j2⟩ | ⟨M0, x0, j1, -, j2, -⟩
  · -- it can't be
    obtain ⟨M', k1, s1, g1, g2, a2⟩ := mEw C V.1 a
    have X : RZ M M' := ⟨s1, fun b hb => g1 b (by omega), fun j hj => g2 j (by omega) (by omega)⟩
    have eL : sdL ρ Y n g t c L = [(pgU ρ Y, 0, c)] := by
      unfold sdL
      rw [j2]
    rw [eL, j1, bs1n, if_pos (show ((nI 0, M) : Int32 × Mem).1 = 0 from rfl), ms_ob H, gd1n, k1, bs1n]
    refine ⟨M', k220 M', X, RC_RZ C X (by rw [g1 1011 (by omega)]; exact C.2.2.2), PGm_cg P (fun b h1 h2 => g1 b (by omega)) (g2 23 (by omega) (by omega)), PGm_cg P2 (fun b h1 h2 => g1 b (by omega)) (g2 23 (by omega) (by omega)), a2, fun d' N' h1 h2 => AS_cg h2 (g1 1019 (by omega))⟩
  · rw [j1, bs1n, if_neg (show ¬ ((nI 1, M) : Int32 × Mem).1 = 0 from (show ¬ nI 1 = 0 by decide)), ms_ob H, gd1n, e4, bs1n, ms_ob C1.1, gd1n]
    rcases mStep (r := false) (t := t) hsn (show ki < 24 by omega) hsd P1 C1 V G hβ hn (by omega) (fun h => by omega) tk e1 with ⟨-, j3⟩ | ⟨M2, x, -, j4, j3, F2, P3, C3⟩
    · rw [j2] at j3; cases j3
    · have eL : sdL ρ Y n g t c L = L x := by
        unfold sdL
        rw [j3]
      rw [eL]
      have d0 : x.2.2.1 = 0 := by
        obtain ⟨-, -, -, q⟩ := stp_ok hR V G j3 tk.1
        rw [q]
        unfold scp
        rw [if_neg (by omega), if_neg (by omega)]
      rw [d0] at P3
      have so : fM_stepOf 1003 (nI sn) (nI ki) 0 (saM M 1019 N) = some (nI t.1, saM M 1019 N) := (st_of (k := 0) C1.1 hsn (by omega) (by omega)).trans (by rw [Nat.add_zero, e1.1])
      have j4 : fM_doStep 1003 (nI sn) (nI ki) (nI sd) 0 (saM M 1019 N) = some M2 := j4
      rw [so, bs1n, ms_ob C1.1, gd1n, j4, bs1n]
      have P4 := PGm_o P21 F2 hm hsd rfl P3.2.1
      have X2 : RZ M M2 := RZ_tr X1 (RZ_RQ F2)
      have a4 : AcM z M2 w mo fe := AcM_cg a (fun j hj => by rw [F2.2.2.1 j (by omega) (by omega), gi_san (by omega)])
      obtain ⟨M3, r1, X3, C5, P5, P6, a5, as5⟩ := rec M2 x j3 C3 P3 P4 a4 X2
      have as1 : ∀ d' N', AS (saM M 1019 N) d' N' → AS M2 d' N' := fun d' N' h => AS_cg h (F2.2.1 1019 (by omega) (by omega) (by omega))
      have e7 := mBak (d := dd) C5.1 hdd
      have lgx := stp_F j3
      have w7 := AS_back W C.2.2.2 (as5 dd _ (Nat.le_refl dd) (as1 dd _ a1)) (by have := C5.2.2.2.2.2.2.2; rw [lgx] at this; exact this) W.2.2
      generalize hN' : mx M3 1011 0 1019 (3712 * dd) 3712 = N' at e7 w7
      have X4 : RZ M3 (saM M3 1011 N') := RZ_sa (by omega)
      have C6 : RC (saM M3 1011 N') ρ Y := ⟨MS_2 rfl C5.1, RuM_RZ C5.2.1 X4, hR, by rw [gi_sas]; exact w7⟩
      have P7 : PGm (saM M3 1011 N') sd x.2.1 0 x.2.2.2 := PGm_cg P5 (fun b h1 h2 => gi_san (by omega) _) (by rw [gi_san (by omega)])
      have P8 : PGm (saM M3 1011 N') (1 - sd) m 0 k := PGm_cg P6 (fun b h1 h2 => gi_san (by omega) _) (by rw [gi_san (by omega)])
      have a6 : AcM z (saM M3 1011 N') (w + sW (L x)) (fMo mo (L x)) (fFe fe (L x)) := AcM_cg a5 (fun j hj => by rw [gi_san (by omega)])
      have X6 : RZ M (saM M3 1011 N') := RZ_tr X2 (RZ_tr X3 X4)
      have as6 : ∀ d' N1, d' < dd → AS M d' N1 → AS (saM M3 1011 N') d' N1 := fun d' N1 h1 h2 => AS_cg (as5 d' N1 (by omega) (as1 d' N1 (fa d' N1 h1 h2))) (gi_san (by omega) _)
      have H6 := C6.1
      unfold BM_goWays_158 BM_goWays_213
      rw [ms_ob (MS_2 X2.1 H), gd1n, r1, bs1n, ms_ob C5.1, gd1n, e7, bs1n]
      generalize saM M3 1011 N' = M6 at C6 P7 P8 a6 X6 as6 H6
      have e9 : STm M6 (3 * (24 * sn + ki)) t := by
        unfold STm
        rw [X6.2.1 1009 (by omega)]
        exact e
      obtain ⟨tw, ty, tz⟩ := t
      have t5 : tw < 5 := t5
      have k3 : tz ≤ 40 := tk.2.2.1
      by_cases w0 : tw = 0
      · subst w0
        obtain ⟨xn, xg⟩ : x.2.1 = n + 1 ∧ ∀ r, r < n → x.2.2.2 r = g r := by
          unfold stp at j3
          rw [if_pos (show (0, ty, tz).1 = 0 from rfl)] at j3
          unfold sGet at j3
          split at j3
          · split at j3
            · cases j3
            · split at j3
              · cases j3
              · obtain rfl := Option.some.inj j3
                exact ⟨rfl, fun r hr => ud_n _ _ (show r ≠ n by omega)⟩
          · cases j3
        have i7 := P7.1
        rw [xn] at i7
        have R7 : RQ sd M6 (siM M6 1017 sd (nI n)) := RQ_17
        have ev : giM M6 1017 sd - 1 = nI n := by rw [i7, l_1, n_sub (by omega), Nat.add_sub_cancel]
        refine ⟨siM M6 1017 sd (nI n), ?_, RZ_tr X6 (RZ_RQ R7), RC_RQ C6 R7 (giM_un (by omega)), ⟨by rw [giM_ud, ud_s], by rw [giM_un (by omega)]; exact P7.2.1, fun r hr => ?_⟩, PGm_o P8 R7 hm hsd rfl (by rw [giM_un (by omega)]; exact P7.2.1), AcM_cg a6 (fun j hj => by rw [giM_un (by omega)]), fun d' N1 h1 h2 => AS_cg (as6 d' N1 h1 h2) (giM_un (by omega))⟩
        · rw [if_pos (show ((nI 0, saM M 1019 N) : Int32 × Mem).1 = 0 from rfl), ms_ob H6, gd1n, ms_g22 H6, d_nz (by omega), gd1n, ar_rd (ms_a22 H6) (show sd < 2 by omega), gd1n, ar_wr (ms_a22 H6) (show sd < 2 by omega), gd1n, n_cl (by omega), ev]
          exact k220 _
        · rw [giM_un (by omega), giM_un (by omega), giM_un (by omega), giM_un (by omega)]
          have := P7.2.2 r (by omega)
          rw [xg r hr] at this
          exact this
      · rw [if_neg (show ¬ ((nI tw, saM M 1019 N) : Int32 × Mem).1 = 0 from fun h => w0 (n_inj (b := 0) (by omega) (by omega) h))]
        by_cases w1 : tw = 1
        · subst w1
          have k5 : tz ≤ 23 := tk.2.2.2.2 rfl
          obtain ⟨xn, zn, hs, xg⟩ : x.2.1 = n ∧ tz < n ∧ (g tz).2.2.2 = true ∧ x.2.2.2 = ud g tz ((g tz).1, (g tz).2.1, (g tz).2.2.1, false) := by
            unfold stp at j3
            rw [if_neg (show ¬ (1, ty, tz).1 = 0 by show ¬ (1 : Nat) = 0; omega), if_pos (show (1, ty, tz).1 = 1 from rfl)] at j3
            unfold sFree at j3
            split at j3
            · next hy =>
              obtain rfl := Option.some.inj j3
              exact ⟨rfl, hy.2.1, hy.2.2, rfl⟩
            · cases j3
          rw [xn, xg] at P7
          have P9 := PGm_hs (k := tz) (b := true) P7 (by omega) zn
          have eg : ud (ud g tz ((g tz).1, (g tz).2.1, (g tz).2.2.1, false)) tz ((ud g tz ((g tz).1, (g tz).2.1, (g tz).2.2.1, false) tz).1, (ud g tz ((g tz).1, (g tz).2.1, (g tz).2.2.1, false) tz).2.1, (ud g tz ((g tz).1, (g tz).2.1, (g tz).2.2.1, false) tz).2.2.1, true) = g := by
            funext r
            rw [ud_s, ud_at, ud_at]
            by_cases er : r = tz
            · rw [if_pos er, er, ← hs]
            · rw [if_neg er, if_neg er]
          rw [eg] at P9
          have R7 : RQ sd M6 (siM M6 1016 (24 * sd + tz) (hI true)) := RQ_c (by omega) (by omega) (by omega)
          have so2 : fM_stepOf 1003 (nI sn) (nI ki) 2 M6 = some (nI tz, M6) := (st_of (k := 2) H6 hsn (by omega) (by omega)).trans (by rw [e9.2.2]; rfl)
          have ei : 24 * nI sd + nI tz = nI (24 * sd + tz) := by rw [l_24, n_mul, n_add]
          refine ⟨siM M6 1016 (24 * sd + tz) (hI true), ?_, RZ_tr X6 (RZ_RQ R7), RC_RQ C6 R7 (giM_un (by omega)), P9, PGm_o P8 R7 hm hsd rfl (by rw [giM_un (by omega)]; exact P7.2.1), AcM_cg a6 (fun j hj => by rw [giM_un (by omega)]), fun d' N1 h1 h2 => AS_cg (as6 d' N1 h1 h2) (giM_un (by omega))⟩
          rw [if_pos (show ((nI 1, saM M 1019 N) : Int32 × Mem).1 = 1 from rfl), ms_ob H6, gd1n, ms_g21 H6, d_nz (by omega), gd1n, so2, bs1n, ei, ms_b H6 (show 24 * sd + tz < 48 by omega), gd1n, n_cl (by omega)]
          exact k220 _
        · obtain ⟨xn, xg⟩ : x.2.1 = n ∧ x.2.2.2 = g := by
            unfold stp at j3
            rw [if_neg (show ¬ (tw, ty, tz).1 = 0 from w0), if_neg (show ¬ (tw, ty, tz).1 = 1 from w1)] at j3
            split at j3
            · split at j3
              · obtain rfl := Option.some.inj j3
                exact ⟨rfl, rfl⟩
              · cases j3
            · split at j3
              · split at j3
                · obtain rfl := Option.some.inj j3
                  exact ⟨rfl, rfl⟩
                · cases j3
              · split at j3
                · split at j3
                  · obtain rfl := Option.some.inj j3
                    exact ⟨rfl, rfl⟩
                  · cases j3
                · next h2 h3 h4 =>
                  have h2 : ¬ tw = 2 := h2
                  have h3 : ¬ tw = 3 := h3
                  have h4 : ¬ tw = 4 := h4
                  omega
          rw [xn, xg] at P7
          refine ⟨M6, ?_, X6, C6, P7, P8, a6, as6⟩
          rw [if_neg (show ¬ ((nI tw, saM M 1019 N) : Int32 × Mem).1 = 1 from fun h => w1 (n_inj (b := 1) (by omega) (by omega) h))]
          exact k220 _
end WN
