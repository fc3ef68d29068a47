/-! SCRIPTS RUN: a step of the class -/
def SSh (M : Mem) (sc : Nat) : Prop := 0 < sc ∧ obM M sc 8 4 = true ∧ (grM M sc 0 = sc + 1 ∧ grM M sc 1 = sc + 2 ∧ grM M sc 2 = sc + 3) ∧ arS M (sc + 1) 24 ∧ arS M (sc + 2) 24 ∧ arS M (sc + 3) 24
def STc (M : Mem) (sc i : Nat) (t : StT) : Prop := giM M (sc + 1) i = nI t.1 ∧ giM M (sc + 2) i = dB t ∧ giM M (sc + 3) i = dN t
section CS
variable {M M1 M2 : Mem} {ρ : Rul} {β n d h q sc i : Nat} {S : HSt} {g : Nat → GoT} {t : StT}
theorem SS_2 (e : M1.2 = M.2) (P : SSh M sc) : SSh M1 sc := by
  obtain ⟨I, T⟩ := M
  obtain ⟨I', T'⟩ := M1
  obtain rfl : T' = T := e
  exact P
theorem cNoteG {b y : Nat} (PS : PSh M q) (P : PG M q n d g) (hn : n < 24) (d7 : d ≤ 7) (hb : b < 1600) : ∃ M', fG_noteGot q (nI b) (nI y) M = some (nI 1, M') ∧ M'.2 = M.2 ∧ (∀ a, a < q ∨ q + 3 < a → giM M' a = giM M a) ∧ PG M' q (n + 1) d (ud g n (b, y, d, true)) := by
  have nb : ¬ nI b = -1 := of_eq_false (n_eqm (show b < 2147483648 by omega))
  have h24 : nI n < 24 := of_eq_true (n_ltT (a := n) (b := 24) (by omega) (by omega))
  have z1 : giM (siM M (q + 1) n (nI b)) q 3 = nI n := by rw [giM_un (by omega)]; exact P.1
  have z2 : giM (siM (siM M (q + 1) n (nI b)) (q + 2) n (nI y)) q 3 = nI n := by rw [giM_un (by omega)]; exact z1
  have z4 : giM (siM (siM M (q + 1) n (nI b)) (q + 2) n (nI y)) q 4 = nI d := by rw [giM_un (by omega), giM_un (by omega)]; exact P.2.1
  have z3 : giM (siM (siM (siM M (q + 1) n (nI b)) (q + 2) n (nI y)) (q + 3) n (nI d)) q 3 = nI n := by rw [giM_un (by omega)]; exact z2
  refine ⟨siM (siM (siM (siM M (q + 1) n (nI b)) (q + 2) n (nI y)) (q + 3) n (nI d)) q 3 (nI (n + 1)), ?_, rfl, fun a ha => ?_, ?_, ?_, fun r hr => ?_⟩
  · unfold fG_noteGot
    rw [if_neg nb, ps_ob PS, gd1n, P.1, if_pos h24, ps_g0 PS, d_nz (by omega), gd1n, ar_wr (ps_a1 PS) hn, gd1n, ps_g1 PS, d_nz (by omega), gd1n, n_cl (by omega), z1, ar_wr (ps_a2 PS) hn, gd1n, ps_g2 PS, d_nz (by omega), gd1n, n_cl (by omega), z2, ar_wr (ps_a3 PS) hn, gd1n, n_cl (by omega), z4, z3, l_1, n_add]
  · rw [giM_un (by omega), giM_un (by omega), giM_un (by omega), giM_un (by omega)]
  · rw [giM_ud, ud_s]
  · rw [giM_ud, ud_n _ _ (by omega), giM_un (by omega)]; exact z4
  · rw [giM_un (show q + 1 ≠ q by omega), giM_un (show q + 1 ≠ q + 3 by omega), giM_un (show q + 1 ≠ q + 2 by omega), giM_ud, giM_un (show q + 2 ≠ q by omega), giM_un (show q + 2 ≠ q + 3 by omega), giM_ud, giM_un (show q + 2 ≠ q + 1 by omega), giM_un (show q + 3 ≠ q by omega), giM_ud, giM_un (show q + 3 ≠ q + 2 by omega), giM_un (show q + 3 ≠ q + 1 by omega), ud_at, ud_at, ud_at, ud_at]
    by_cases e : r = n
    · rw [if_pos e, if_pos e, if_pos e, if_pos e]
      exact ⟨rfl, rfl, rfl, d7⟩
    · rw [if_neg e, if_neg e, if_neg e, if_neg e]
      exact P.2.2 r (by omega)
theorem y_F {y : Nat} (hy : y ≤ 9) (h : ¬ y < rT ρ) (hR : RuOK ρ) : nI y < nI 0 ∨ nI (rT ρ) ≤ nI y := Or.inr (nI_le (by have := ru_b hR; omega) (by omega))
theorem cStep (hh : 31 < h) (hq : h + 17 < q) (PS : PSh M q) (SS : SSh M sc) (P : PG M q n d g) (C : CC M h ρ β S) (V : OKS ρ β S) (G : GOK ρ S n g) (hβ : β < 2000000000) (hi : i < 24) (hn : n < 24) (d6 : d ≤ 6) (t6 : t.1 = 6 → 0 < d) (tk : TOK t) (e : STc M sc i t) : (fG_doStep q h sc (nI i) M = some (nI 0, M) ∧ stp ρ true t (S, n, d, g) = none) ∨ ∃ M' x, fG_doStep q h sc (nI i) M = some (nI 1, M') ∧ stp ρ true t (S, n, d, g) = some x ∧ Fhq h q M M' ∧ PG M' q x.2.1 x.2.2.1 x.2.2.2 ∧ CC M' h ρ (β + 1) x.1 := by
  obtain ⟨s0, so, ⟨sg0, sg1, sg2⟩, sa1, sa2, sa3⟩ := SS
  obtain ⟨w, y, z⟩ := t
  obtain ⟨k1, k2, k3, k4, k5⟩ := tk
  obtain ⟨e0, e1, e2⟩ := e
  have hR := C.2.2.1
  have hb := ru_b hR
  have H := C.1
  have m1 : β ≤ β + 1 := Nat.le_succ β
  have e0 : giM M (sc + 1) i = nI w := e0
  have d01 : decide ((1 : Int32) = 0 ∨ (1 : Int32) = 1) = true := by decide
  have d00 : decide ((0 : Int32) = 0 ∨ (0 : Int32) = 1) = true := by decide
  have i0 : Int32.toNatClampNeg (nI i) = i := n_cl (by omega)
  unfold fG_doStep
  rw [so, gd1n, sg1, d_nz (by omega), gd1n, ar_rd sa2 hi, gd1n, sg0, d_nz (by omega), gd1n, ar_rd sa1 hi, gd1n, i0, e0]
  have nw : ∀ j, j < 7 → w ≠ j → ¬ nI w = nI j := fun j hj hne e => hne (n_inj (by have : w ≤ 6 := k1; omega) (by omega) e)
  unfold stp
  by_cases w0 : w = 0
  · subst w0
    have e1 : giM M (sc + 2) i = nI y := e1
    have e2 : giM M (sc + 3) i = nI z := e2
    rw [if_pos (show nI 0 = 0 from rfl), if_pos (show (0, y, z).1 = 0 from rfl), sg2, d_nz (by omega), gd1n, ar_rd sa3 hi, gd1n, hs_ob H, gd1n, e1, e2]
    have no : (kcF ρ (nI z) = none ∨ ¬ (y < rT ρ ∧ lv S y = 1) ∨ ∃ c, kcF ρ (nI z) = some c ∧ pgF ρ y c S = none) → sGet ρ true y (nI z) (S, n, d, g) = none → ((fH_takeBlock h (nI y) (nI z) M).bind fun q8 => gd (obM q8.2 q 5 5) <| (fG_noteGot q q8.1 (nI y) q8.2).bind fun q10 => gd (decide (q10.1 = 0 ∨ q10.1 = 1)) <| some (q10.1, q10.2)) = some (nI 0, M) ∧ sGet ρ true y (nI z) (S, n, d, g) = none := fun hno hs => by
      refine ⟨?_, hs⟩
      have k : y ≤ 9 := k2
      rw [cTakeNo C V.1 (by omega) hno, bs1n, ps_ob PS, gd1n]
      unfold fG_noteGot BG_noteGot_14
      rw [if_pos (show ((mI, M) : Int32 × Mem).1 = -1 from rfl), bs1n, d00, gd1n]
      rfl
    show _ ∨ ∃ M' x, _ ∧ sGet ρ true y (nI z) (S, n, d, g) = some x ∧ _
    by_cases hy : y < rT ρ ∧ lv S y = 1
    · cases hk : kcF ρ (nI z) with
      | none => exact Or.inl (no (Or.inl hk) (by unfold sGet; rw [if_pos hy, hk]))
      | some c =>
        cases hp : pgF ρ y c S with
        | none => exact Or.inl (no (Or.inr (Or.inr ⟨c, hk, hp⟩)) (by
            unfold sGet
            rw [if_pos hy, hk]
            show (match pgF ρ y c S with | none => none | some p => _) = none
            rw [hp]))
        | some p =>
          right
          obtain ⟨M1, j1, F1, C1, V1, hb4, hp1⟩ := cTakeYes C V.1 hβ hy.1 hy.2 hk hp
          have PS1 := PS_2 F1.1 PS
          have P1 := PG_h P F1 (by omega)
          obtain ⟨M2, j2, s2, g2, P2⟩ := cNoteG (b := 100 * p + aBlk ρ y c p S) (y := y) PS1 P1 hn (by omega) (by omega)
          refine ⟨M2, (oNote (100 * p + aBlk ρ y c p S, y, hwF y p S) (aGet ρ y c p S), n + 1, d, ud g n (100 * p + aBlk ρ y c p S, y, d, true)), ?_, ?_, Fhq_tr (Fhq_h F1 (by omega) (by omega)) ⟨s2, fun a _ h2 => g2 a h2⟩, P2, ?_⟩
          · rw [j1, bs1n, ps_ob PS1, gd1n, j2, bs1n]
            show gd (decide ((1 : Int32) = 0 ∨ (1 : Int32) = 1)) _ = _
            rw [d01, gd1n]
          · unfold sGet
            rw [if_pos hy, hk]
            show (match pgF ρ y c S with | none => none | some p => _) = _
            rw [hp]
            rfl
          · exact CC_cg C1 s2 (fun a ha => g2 a (by omega))
    · exact Or.inl (no (Or.inr (Or.inl hy)) (if_neg hy))
  · rw [if_neg (show ¬ nI w = 0 from nw 0 (by omega) w0), if_neg (show ¬ (w, y, z).1 = 0 from w0)]
    by_cases w1 : w = 1
    · subst w1
      have e1 : giM M (sc + 2) i = nI y := e1
      have e2 : giM M (sc + 3) i = nI z := e2
      have k3 : z ≤ 40 := k3
      have k2 : y ≤ 9 := k2
      rw [if_pos (show nI 1 = 1 from rfl), if_pos (show (1, y, z).1 = 1 from rfl), sg2, d_nz (by omega), gd1n, ar_rd sa3 hi, gd1n, ps_ob PS, gd1n, e1, e2]
      show _ ∨ ∃ M' x, _ ∧ sFree ρ y z (S, n, d, g) = some x ∧ _
      have no : ¬ ((y < rT ρ ∧ lv S y = 1) ∧ z < n ∧ (g z).2.2.2 = true) → fG_giveNumbered q h (nI y) (nI z) M = some (0, M) → ((fG_giveNumbered q h (nI y) (nI z) M).bind fun q15 => gd (decide (q15.1 = 0 ∨ q15.1 = 1)) <| some (q15.1, q15.2)) = some (nI 0, M) ∧ sFree ρ y z (S, n, d, g) = none := fun hno j => by
        refine ⟨?_, if_neg hno⟩
        rw [j, bs1n, d00, gd1n]
        rfl
      have nz : ¬ nI z < 0 := of_eq_false (n_ltF (a := z) (b := 0) (by omega) (by omega))
      by_cases hz : z < n
      · have nn : ¬ nI n ≤ nI z := of_eq_false (n_leF (by omega) (by omega))
        have pz := (P.2.2 z hz).1
        by_cases hs : (g z).2.2.2 = true
        · have eb : bO (g z) = nI (g z).1 := if_pos hs
          rw [eb] at pz
          have nb : ¬ nI (g z).1 = -1 := of_eq_false (n_eqm (show (g z).1 < 2147483648 by have := (G.1 z hz).2.1; omega))
          have head : fG_giveNumbered q h (nI y) (nI z) M = (fH_isLiving h (nI y) M).bind fun q4 => if q4.1 = 0 then (BG_giveNumbered_30 q4.2) else (gd (obM q4.2 q 5 5) <| gd (decide (grM q4.2 q 0 ≠ 0)) <| gd (rdI q4.2 (grM q4.2 q 0) (nI z)) <| gd (obM q4.2 h 1 9) <| (fH_giveBlock h (nI y) (giM q4.2 (grM q4.2 q 0) (Int32.toNatClampNeg (nI z))) q4.2).bind fun q9 => gd (obM q9.2 q 5 5) <| gd (decide (grM q9.2 q 0 ≠ 0)) <| gd (wrI q9.2 (grM q9.2 q 0) (nI z)) <| some (1, siM q9.2 (grM q9.2 q 0) (Int32.toNatClampNeg (nI z)) (-1))) := by
            unfold fG_giveNumbered
            rw [if_neg nz, ps_ob PS, gd1n, P.1, if_neg nn, ps_g0 PS, d_nz (by omega), gd1n, ar_rd (ps_a1 PS) (show z < 24 by omega), gd1n, n_cl (by omega), pz, if_neg nb, hs_ob H, gd1n]
          by_cases hyT : y < rT ρ
          · have hL := isLiving_ok C V.1 hyT
            have hl := (V.1.2.2.2.2.1 y (by omega)).1
            rcases (show lv S y = 0 ∨ lv S y = 1 by omega) with l0 | l1
            · refine Or.inl (no (fun h => by omega) ?_)
              rw [head, hL, bs1n, l0, if_pos (show ((nI 0, M) : Int32 × Mem).1 = 0 from rfl)]
              rfl
            · right
              have hB := (G.1 z hz).2.2 hs
              obtain ⟨M2, j1, F2, C2⟩ := cGive C V.1 V.2 hyT l1 hB.1 hB.2.1 hB.2.2.2
              rw [show 100 * ((g z).1 / 100) + (g z).1 % 100 = (g z).1 by omega] at j1
              have PS2 := PS_2 F2.1 PS
              have P2 := PG_h P F2 (by omega)
              refine ⟨siM M2 (q + 1) z mI, (aFree ρ y ((g z).1 / 100) ((g z).1 % 100) S, n, d, ud g z ((g z).1, (g z).2.1, (g z).2.2.1, false)), ?_, if_pos ⟨⟨hyT, l1⟩, hz, hs⟩, Fhq_tr (Fhq_h F2 (by omega) (by omega)) (Fhq_q (by omega) (by omega)), ⟨?_, ?_, fun r hr => ?_⟩, CC_mono m1 (CC_q C2 (by omega) (by omega))⟩
              · rw [head, hL, bs1n, l1, if_neg (show ¬ ((nI 1, M) : Int32 × Mem).1 = 0 from (show ¬ nI 1 = 0 by decide)), ps_ob PS, gd1n, ps_g0 PS, d_nz (by omega), gd1n, ar_rd (ps_a1 PS) (show z < 24 by omega), gd1n, hs_ob H, gd1n, n_cl (by omega), pz, j1, bs1n, ps_ob PS2, gd1n, ps_g0 PS2, d_nz (by omega), gd1n, ar_wr (ps_a1 PS2) (show z < 24 by omega), gd1n, bs1n, d01, gd1n]
                rfl
              · rw [giM_un (by omega)]; exact P2.1
              · rw [giM_un (by omega)]; exact P2.2.1
              · have hr : r < n := hr
                have p2 := P2.2.2 r hr
                show giM (siM M2 (q + 1) z mI) (q + 1) r = bO (ud g z ((g z).1, (g z).2.1, (g z).2.2.1, false) r) ∧ giM (siM M2 (q + 1) z mI) (q + 2) r = nI (ud g z ((g z).1, (g z).2.1, (g z).2.2.1, false) r).2.1 ∧ giM (siM M2 (q + 1) z mI) (q + 3) r = nI (ud g z ((g z).1, (g z).2.1, (g z).2.2.1, false) r).2.2.1 ∧ (ud g z ((g z).1, (g z).2.1, (g z).2.2.1, false) r).2.2.1 ≤ 7
                rw [giM_ud, giM_un (show q + 2 ≠ q + 1 by omega), giM_un (show q + 3 ≠ q + 1 by omega), ud_at, ud_at]
                by_cases er : r = z
                · rw [if_pos er, if_pos er]
                  rw [er] at p2 ⊢
                  exact ⟨rfl, p2.2.1, p2.2.2.1, p2.2.2.2⟩
                · rw [if_neg er, if_neg er]
                  exact p2
          · refine Or.inl (no (fun h => hyT h.1.1) ?_)
            rw [head, isLiving_F C (y_F k2 hyT hR), bs1n, if_pos (show ((nI 0, M) : Int32 × Mem).1 = 0 from rfl)]
            rfl
        · have eb : bO (g z) = mI := if_neg hs
          rw [eb] at pz
          refine Or.inl (no (fun h => hs h.2.2) ?_)
          unfold fG_giveNumbered BG_giveNumbered_30
          rw [if_neg nz, ps_ob PS, gd1n, P.1, if_neg nn, ps_g0 PS, d_nz (by omega), gd1n, ar_rd (ps_a1 PS) (show z < 24 by omega), gd1n, n_cl (by omega), pz, if_pos (show mI = -1 from rfl)]
      · refine Or.inl (no (fun h => hz h.2.1) ?_)
        unfold fG_giveNumbered BG_giveNumbered_30
        rw [if_neg nz, ps_ob PS, gd1n, P.1, if_pos (show nI n ≤ nI z from of_eq_true (n_leT (by omega) (by omega)))]
    · rw [if_neg (show ¬ nI w = 1 from nw 1 (by omega) w1), if_neg (show ¬ (w, y, z).1 = 1 from w1)]
      by_cases w2 : w = 2
      · subst w2
        have e1 : giM M (sc + 2) i = nI y := e1
        have k2 : y ≤ 9 := k2
        rw [if_pos (show nI 2 = 2 from rfl), if_pos (show (2, y, z).1 = 2 from rfl), hs_ob H, gd1n, e1]
        show _ ∨ ∃ M' x, _ ∧ (if y < rT ρ then some (aTurn ρ y S, n, d, g) else none) = some x ∧ _
        by_cases hyT : y < rT ρ
        · right
          obtain ⟨M2, j1, F2, C2⟩ := cTurn C V.1 hyT
          refine ⟨M2, (aTurn ρ y S, n, d, g), ?_, if_pos hyT, Fhq_h F2 (by omega) (by omega), PG_h P F2 (by omega), CC_mono m1 C2⟩
          rw [isThread_T C hyT, bs1n, if_neg (show ¬ ((nI 1, M) : Int32 × Mem).1 = 0 from (show ¬ nI 1 = 0 by decide)), hs_ob H, gd1n, j1, bs1n]
          rfl
        · left
          refine ⟨?_, if_neg hyT⟩
          rw [isThread_F C (y_F k2 hyT hR), bs1n, if_pos (show ((nI 0, M) : Int32 × Mem).1 = 0 from rfl)]
          rfl
      · rw [if_neg (show ¬ nI w = 2 from nw 2 (by omega) w2), if_neg (show ¬ (w, y, z).1 = 2 from w2)]
        have tos : ∀ v3 : Int32, w < 5 → ¬ (y < rT ρ ∧ lv S y = 1) → ((fG_tickOrSend q h (giM M (sc + 2) i) v3 M).bind fun q22 => gd (decide (q22.1 = 0 ∨ q22.1 = 1)) <| some (q22.1, q22.2)) = some (nI 0, M) := fun v3 w5 hno => by
          have e1 : giM M (sc + 2) i = nI y := e1.trans (if_pos w5)
          have k2 : y ≤ 9 := k2
          have j : fG_tickOrSend q h (nI y) v3 M = some (0, M) := by
            unfold fG_tickOrSend
            by_cases hyT : y < rT ρ
            · have hl := (V.1.2.2.2.2.1 y (by omega)).1
              rw [hs_ob H, gd1n, isLiving_ok C V.1 hyT, bs1n, show lv S y = 0 by omega, if_pos (show ((nI 0, M) : Int32 × Mem).1 = 0 from rfl)]
            · rw [hs_ob H, gd1n, isLiving_F C (y_F k2 hyT hR), bs1n, if_pos (show ((nI 0, M) : Int32 × Mem).1 = 0 from rfl)]
          rw [e1, j, bs1n, d00, gd1n]
          rfl
        by_cases w3 : w = 3
        · subst w3
          have e1 : giM M (sc + 2) i = nI y := e1
          rw [if_pos (show nI 3 = 3 from rfl), if_pos (show (3, y, z).1 = 3 from rfl), ps_ob PS, gd1n]
          show _ ∨ ∃ M' x, _ ∧ (if y < rT ρ ∧ lv S y = 1 then some (aTick ρ y S, n, d, g) else none) = some x ∧ _
          by_cases hy : y < rT ρ ∧ lv S y = 1
          · right
            obtain ⟨M2, j1, F2, C2, -⟩ := cBeat C V.1 hy.1
            refine ⟨M2, (aTick ρ y S, n, d, g), ?_, if_pos hy, Fhq_h F2 (by omega) (by omega), PG_h P F2 (by omega), CC_mono m1 C2⟩
            unfold fG_tickOrSend BG_tickOrSend_29
            rw [e1, hs_ob H, gd1n, isLiving_ok C V.1 hy.1, bs1n, hy.2, if_neg (show ¬ ((nI 1, M) : Int32 × Mem).1 = 0 from (show ¬ nI 1 = 0 by decide)), if_pos (show nI 3 = 3 from rfl), hs_ob H, gd1n, j1, bs1n, bs1n, d01, gd1n]
            rfl
          · exact Or.inl ⟨tos _ (by omega) hy, if_neg hy⟩
        · rw [if_neg (show ¬ nI w = 3 from nw 3 (by omega) w3), if_neg (show ¬ (w, y, z).1 = 3 from w3)]
          by_cases w4 : w = 4
          · subst w4
            have e1 : giM M (sc + 2) i = nI y := e1
            rw [if_pos (show nI 4 = 4 from rfl), if_pos (show (4, y, z).1 = 4 from rfl), ps_ob PS, gd1n]
            show _ ∨ ∃ M' x, _ ∧ (if y < rT ρ ∧ lv S y = 1 then some (aHomes ρ y S, n, d, g) else none) = some x ∧ _
            by_cases hy : y < rT ρ ∧ lv S y = 1
            · right
              obtain ⟨M2, j1, F2, C2, -⟩ := cSend C V.1 hy.1
              refine ⟨M2, (aHomes ρ y S, n, d, g), ?_, if_pos hy, Fhq_h F2 (by omega) (by omega), PG_h P F2 (by omega), CC_mono m1 C2⟩
              unfold fG_tickOrSend BG_tickOrSend_29
              rw [e1, hs_ob H, gd1n, isLiving_ok C V.1 hy.1, bs1n, hy.2, if_neg (show ¬ ((nI 1, M) : Int32 × Mem).1 = 0 from (show ¬ nI 1 = 0 by decide)), if_neg (show ¬ nI 4 = 3 by decide), hs_ob H, gd1n, j1, bs1n, bs1n, d01, gd1n]
              rfl
            · exact Or.inl ⟨tos _ (by omega) hy, if_neg hy⟩
          · rw [if_neg (show ¬ nI w = 4 from nw 4 (by omega) w4), if_neg (show ¬ (w, y, z).1 = 4 from w4)]
            by_cases w5 : w = 5
            · subst w5
              rw [if_pos (show nI 5 = 5 from rfl), if_pos (show (5, y, z).1 = 5 from rfl), ps_ob PS, gd1n]
              right
              refine ⟨siM M q 4 (nI (d + 1)), (S, n, d + 1, g), ?_, rfl, Fhq_q (by omega) (by omega), ⟨?_, ?_, fun r hr => ?_⟩, CC_mono m1 (CC_q C (by omega) (by omega))⟩
              · rw [P.2.1, show nI d + 1 = nI (d + 1) from by rw [l_1, n_add]]
                rfl
              · rw [giM_ud, ud_n _ _ (by omega)]; exact P.1
              · rw [giM_ud, ud_s]
              · rw [giM_un (by omega), giM_un (by omega), giM_un (by omega)]; exact P.2.2 r hr
            · have w6 : w = 6 := by have : w ≤ 6 := k1; omega
              subst w6
              rw [if_neg (show ¬ nI 6 = 5 by decide), if_neg (show ¬ (6, y, z).1 = 5 from w5), if_pos (show nI 6 = 6 from rfl), ps_ob PS, gd1n]
              right
              obtain ⟨M2, j1, F2, P2, C2⟩ := cEnd hh hq (by omega) (t6 rfl) (by omega) PS P C V G
              refine ⟨M2, _, ?_, rfl, F2, P2, CC_mono m1 C2⟩
              rw [j1, bs1n]
              rfl
end CS
