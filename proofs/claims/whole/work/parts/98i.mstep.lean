/-! SCRIPTS RUN: a step of the reference -/
section MS4
variable {M M1 M2 : Mem} {ρ : Rul} {β n d sd sn i : Nat} {S : HSt} {g : Nat → GoT} {t : StT} {r : Bool}
theorem mStep (hsn : sn ≤ 4) (hi : i < 24) (hsd : sd ≤ 1) (P : PGm M sd n d g) (C : RC M ρ S) (V : OKS ρ β S) (G : GOK ρ S n g) (hβ : β < 2000000000) (hn : n < 24) (d6 : d ≤ 6) (t6 : t.1 = 6 → 0 < d ∧ sd = 0) (tk : TOK t) (e : STm M (3 * (24 * sn + i)) t) : (fM_canStep 1003 (nI sn) (nI i) (nI sd) M = some (nI 0, M) ∧ stp ρ r t (S, n, d, g) = none) ∨ ∃ M' x, fM_canStep 1003 (nI sn) (nI i) (nI sd) M = some (nI 1, M) ∧ fM_doStep 1003 (nI sn) (nI i) (nI sd) (hI r) M = some M' ∧ stp ρ r t (S, n, d, g) = some x ∧ RQ sd M M' ∧ PGm M' sd x.2.1 x.2.2.1 x.2.2.2 ∧ RC M' ρ x.1 := by
  obtain ⟨w, y, z⟩ := t
  obtain ⟨k1, k2, k3, k4, k5⟩ := tk
  have k1 : w ≤ 6 := k1
  have k2 : y ≤ 9 := k2
  have k3 : z ≤ 40 := k3
  have k4 : w = 0 → 1 ≤ z := k4
  have k5 : w = 1 → z ≤ 23 := k5
  have t6 : w = 6 → 0 < d ∧ sd = 0 := t6
  obtain ⟨e0, e1, e2⟩ := e
  have H := C.1
  have hR := C.2.2.1
  have hb := ru_b hR
  have s : ST3 M sn i w (dB (w, y, z)) (dN (w, y, z)) := ⟨(st_of (k := 1) H hsn hi (by omega)).trans (by rw [e1]), (st_of (k := 2) H hsn hi (by omega)).trans (by rw [e2]), (st_of (k := 0) H hsn hi (by omega)).trans (by rw [Nat.add_zero, e0])⟩
  have lv1 := mLv C V.1 k2
  have dh := do_h (vd := nI sd) (v4 := hI r) H s
  have n10 : ¬ nI 1 = 0 := by decide
  rw [dh]
  clear dh
  unfold stp
  rcases (show w = 0 ∨ w = 1 ∨ w = 2 ∨ w = 3 ∨ w = 4 ∨ w = 5 ∨ w = 6 by omega) with rfl | rfl | rfl | rfl | rfl | rfl | rfl
  · have z1 := k4 rfl
    have cf := mClassFor C (v := nI z) (by rw [n_ltF z1 (by omega)]; exact id)
    have cn := can_0 (vd := nI sd) H s
    have ey : dB (0, y, z) = nI y := rfl
    have ez : dN (0, y, z) = nI z := rfl
    rw [ey, ez, lv1, bs1n] at cn
    rw [ey, ez, if_pos (show nI 0 = 0 from rfl)]
    show (_ ∧ sGet ρ r y (nI z) (S, n, d, g) = none) ∨ ∃ M' x, _ ∧ _ ∧ sGet ρ r y (nI z) (S, n, d, g) = some x ∧ _
    by_cases hy : y < rT ρ ∧ lv S y = 1
    · rw [if_pos hy, if_neg (show ¬ ((nI 1, M) : Int32 × Mem).1 = 0 from n10), ms_ob H, gd1n, cf, bs1n] at cn
      cases hk : kcF ρ (nI z) with
      | none =>
        left
        rw [hk, if_pos (show ((oN none, M) : Int32 × Mem).1 = -1 from rfl)] at cn
        refine ⟨cn, ?_⟩
        unfold sGet
        rw [if_pos hy, hk]
      | some c =>
        have hc := kcF_lt hk
        rw [hk, if_neg (show ¬ ((oN (some c), M) : Int32 × Mem).1 = -1 from of_eq_false (n_eqm (show c < 2147483648 by omega))), ms_ob H, gd1n, cf, hk, bs1n, ms_ob H, gd1n] at cn
        have cg := mCanGet C V.1 hy.1 hc
        have cn : fM_canStep 1003 (nI sn) (nI i) (nI sd) M = (fM_canGet 1003 (nI y) (nI c) M).bind fun q13 => if q13.1 = 0 then (BM_canStep_98 q13.2) else (BM_canStep_99 1 q13.2) := cn
        rw [cg, bs1n] at cn
        cases hp : pgF ρ y c S with
        | none =>
          left
          rw [hp, if_neg (show ¬ (none : Option Nat).isSome = true by decide), if_pos (show ((nI 0, M) : Int32 × Mem).1 = 0 from rfl)] at cn
          refine ⟨cn, ?_⟩
          unfold sGet
          rw [if_pos hy, hk]
          show (match pgF ρ y c S with | none => none | some p => _) = none
          rw [hp]
        | some p =>
          right
          rw [hp, if_pos (show (some p).isSome = true from rfl), if_neg (show ¬ ((nI 1, M) : Int32 × Mem).1 = 0 from n10)] at cn
          obtain ⟨M', j1, R1, P1, C1⟩ := mGetS (r := r) P C V hβ hn hsd (by omega) hy.1 z1 k3 hk hp
          refine ⟨M', (nt r (100 * p + aBlk ρ y c p S, y, hwF y p S) (aGet ρ y c p S), n + 1, d, ud g n (100 * p + aBlk ρ y c p S, y, d, true)), cn, ?_, ?_, R1, P1, C1⟩
          · rw [j1, bs1n]
          · unfold sGet
            rw [if_pos hy, hk]
            show (match pgF ρ y c S with | none => none | some p => _) = _
            rw [hp]
    · left
      rw [if_neg hy, if_pos (show ((nI 0, M) : Int32 × Mem).1 = 0 from rfl)] at cn
      exact ⟨cn, if_neg hy⟩
  · have z23 := k5 rfl
    have cn := can_1 (vd := nI sd) H s
    have ey : dB (1, y, z) = nI y := rfl
    have ez : dN (1, y, z) = nI z := rfl
    have ei : 24 * nI sd + nI z = nI (24 * sd + z) := by rw [l_24, n_mul, n_add]
    rw [ey, ez, lv1, bs1n] at cn
    rw [ey, ez, if_neg n10, if_pos (show nI 1 = 1 from rfl)]
    show (_ ∧ sFree ρ y z (S, n, d, g) = none) ∨ ∃ M' x, _ ∧ _ ∧ sFree ρ y z (S, n, d, g) = some x ∧ _
    by_cases hy : y < rT ρ ∧ lv S y = 1
    · rw [if_pos hy, if_neg (show ¬ ((nI 1, M) : Int32 × Mem).1 = 0 from n10), ms_ob H, gd1n, ms_g22 H, d_nz (by omega), gd1n, ar_rd (ms_a22 H) (show sd < 2 by omega), gd1n, n_cl (a := sd) (by omega), P.1] at cn
      by_cases hz : z < n
      · rw [if_neg (show ¬ nI n ≤ nI z from of_eq_false (n_leF (by omega) (by omega))), ms_g21 H, d_nz (by omega), gd1n, ei, ms_b H (show 24 * sd + z < 48 by omega), gd1n, n_cl (a := 24 * sd + z) (by omega), (P.2.2 z hz).2.2.2.1] at cn
        cases hs : (g z).2.2.2 with
        | false =>
          left
          rw [hs, if_pos (show hI false = 0 from rfl)] at cn
          exact ⟨cn, if_neg (fun h => by
            have h2 : (g z).2.2.2 = true := h.2.2
            rw [hs] at h2
            cases h2)⟩
        | true =>
          right
          rw [hs, if_neg (show ¬ hI true = 0 by decide)] at cn
          have hB := (G.1 z hz).2.2 hs
          obtain ⟨M2, j1, F2, C2⟩ := mFree C V.1 V.2 hy.1 (show (g z).1 / 100 < 16 by have := hB.1; omega) hB.2.1 hB.2.2.2
          rw [show 100 * ((g z).1 / 100) + (g z).1 % 100 = (g z).1 by omega] at j1
          have H2 := C2.1
          have P2 := PGm_RF P F2
          have P3 := PGm_hs (k := z) (b := false) P2 (by omega) hz
          have R3 : RQ sd M2 (siM M2 1016 (24 * sd + z) (hI false)) := RQ_c (by omega) (by omega) (by omega)
          refine ⟨siM M2 1016 (24 * sd + z) (hI false), (aFree ρ y ((g z).1 / 100) ((g z).1 % 100) S, n, d, ud g z ((g z).1, (g z).2.1, (g z).2.2.1, false)), cn, ?_, if_pos ⟨hy, hz, hs⟩, RQ_tr (RQ_RF F2) R3, P3, RC_RQ C2 R3 (giM_un (by omega))⟩
          rw [ms_g18 H, d_nz (by omega), gd1n, ei, ar_rd (ms_a18 H) (show 24 * sd + z < 48 by omega), gd1n, n_cl (a := 24 * sd + z) (by omega), (P.2.2 z hz).1, j1, bs1n, ms_ob H2, gd1n, ms_g21 H2, d_nz (by omega), gd1n, ms_b H2 (show 24 * sd + z < 48 by omega), gd1n]
          rfl
      · left
        rw [if_pos (show nI n ≤ nI z from of_eq_true (n_leT (by omega) (by omega)))] at cn
        exact ⟨cn, if_neg (fun h => hz h.2.1)⟩
    · left
      rw [if_neg hy, if_pos (show ((nI 0, M) : Int32 × Mem).1 = 0 from rfl)] at cn
      exact ⟨cn, if_neg (fun h => hy h.1)⟩
  · have cn := can_2 (vd := nI sd) H s
    have ey : dB (2, y, z) = nI y := rfl
    rw [ey] at cn
    rw [ey, if_neg (show ¬ nI 2 = 0 by decide), if_neg (show ¬ nI 2 = 1 by decide), if_pos (show nI 2 = 2 from rfl)]
    show (_ ∧ (if y < rT ρ then some (aTurn ρ y S, n, d, g) else none) = none) ∨ ∃ M' x, _ ∧ _ ∧ (if y < rT ρ then some (aTurn ρ y S, n, d, g) else none) = some x ∧ _
    by_cases hy : y < rT ρ
    · right
      obtain ⟨M2, j1, F2, C2⟩ := mTurn C V.1 hy
      rw [mThread_T C hy, bs1n] at cn
      have cn : fM_canStep 1003 (nI sn) (nI i) (nI sd) M = gd (decide ((1 : Int32) = 0 ∨ (1 : Int32) = 1)) (some (nI 1, M)) := cn
      rw [bd01, gd1n] at cn
      exact ⟨M2, (aTurn ρ y S, n, d, g), cn, by rw [j1, bs1n], if_pos hy, RQ_RF F2, PGm_RF P F2, C2⟩
    · left
      rw [mThread_F C (y_F k2 hy hR), bs1n] at cn
      have cn : fM_canStep 1003 (nI sn) (nI i) (nI sd) M = gd (decide ((0 : Int32) = 0 ∨ (0 : Int32) = 1)) (some (nI 0, M)) := cn
      rw [bd00, gd1n] at cn
      exact ⟨cn, if_neg hy⟩
  · have cn := can_34 (vd := nI sd) H (Or.inl rfl) s
    have ey : dB (3, y, z) = nI y := rfl
    rw [ey, lv1, bs1n] at cn
    rw [ey, if_neg (show ¬ nI 3 = 0 by decide), if_neg (show ¬ nI 3 = 1 by decide), if_neg (show ¬ nI 3 = 2 by decide), if_pos (show nI 3 = 3 from rfl)]
    show (_ ∧ (if y < rT ρ ∧ lv S y = 1 then some (aTick ρ y S, n, d, g) else none) = none) ∨ ∃ M' x, _ ∧ _ ∧ (if y < rT ρ ∧ lv S y = 1 then some (aTick ρ y S, n, d, g) else none) = some x ∧ _
    by_cases hy : y < rT ρ ∧ lv S y = 1
    · right
      obtain ⟨M2, j1, F2, C2⟩ := mTick C V.1 hy.1
      rw [if_pos hy] at cn
      have cn : fM_canStep 1003 (nI sn) (nI i) (nI sd) M = gd (decide ((1 : Int32) = 0 ∨ (1 : Int32) = 1)) (some (nI 1, M)) := cn
      rw [bd01, gd1n] at cn
      exact ⟨M2, (aTick ρ y S, n, d, g), cn, by rw [j1, bs1n], if_pos hy, RQ_RF F2, PGm_RF P F2, C2⟩
    · left
      rw [if_neg hy] at cn
      have cn : fM_canStep 1003 (nI sn) (nI i) (nI sd) M = gd (decide ((0 : Int32) = 0 ∨ (0 : Int32) = 1)) (some (nI 0, M)) := cn
      rw [bd00, gd1n] at cn
      exact ⟨cn, if_neg hy⟩
  · have cn := can_34 (vd := nI sd) H (Or.inr rfl) s
    have ey : dB (4, y, z) = nI y := rfl
    rw [ey, lv1, bs1n] at cn
    rw [ey, if_neg (show ¬ nI 4 = 0 by decide), if_neg (show ¬ nI 4 = 1 by decide), if_neg (show ¬ nI 4 = 2 by decide), if_neg (show ¬ nI 4 = 3 by decide), if_pos (show nI 4 = 4 from rfl)]
    show (_ ∧ (if y < rT ρ ∧ lv S y = 1 then some (aHomes ρ y S, n, d, g) else none) = none) ∨ ∃ M' x, _ ∧ _ ∧ (if y < rT ρ ∧ lv S y = 1 then some (aHomes ρ y S, n, d, g) else none) = some x ∧ _
    by_cases hy : y < rT ρ ∧ lv S y = 1
    · right
      obtain ⟨M2, j1, F2, C2, -⟩ := mSend C V.1 hy.1
      rw [if_pos hy] at cn
      have cn : fM_canStep 1003 (nI sn) (nI i) (nI sd) M = gd (decide ((1 : Int32) = 0 ∨ (1 : Int32) = 1)) (some (nI 1, M)) := cn
      rw [bd01, gd1n] at cn
      exact ⟨M2, (aHomes ρ y S, n, d, g), cn, by rw [j1, bs1n], if_pos hy, RQ_RF F2, PGm_RF P F2, C2⟩
    · left
      rw [if_neg hy] at cn
      have cn : fM_canStep 1003 (nI sn) (nI i) (nI sd) M = gd (decide ((0 : Int32) = 0 ∨ (0 : Int32) = 1)) (some (nI 0, M)) := cn
      rw [bd00, gd1n] at cn
      exact ⟨cn, if_neg hy⟩
  · have cn := can_56 (vd := nI sd) H (Or.inl rfl) s
    rw [if_neg (show ¬ nI 5 = 0 by decide), if_neg (show ¬ nI 5 = 1 by decide), if_neg (show ¬ nI 5 = 2 by decide), if_neg (show ¬ nI 5 = 3 by decide), if_neg (show ¬ nI 5 = 4 by decide), if_pos (show nI 5 = 5 from rfl)]
    right
    refine ⟨siM M 1003 23 (nI (d + 1)), (S, n, d + 1, g), cn, ?_, rfl, RQ_23, ⟨by rw [giM_un (by omega)]; exact P.1, by rw [giM_ud, ud_s], fun r' hr => ?_⟩, RC_RQ C (RQ_23 (sd := sd)) (giM_un (by omega))⟩
    · rw [P.2.1, show nI d + 1 = nI (d + 1) from by rw [l_1, n_add]]
    · rw [giM_un (by omega), giM_un (by omega), giM_un (by omega), giM_un (by omega)]
      exact P.2.2 r' hr
  · have cn := can_56 (vd := nI sd) H (Or.inr rfl) s
    rw [if_neg (show ¬ nI 6 = 0 by decide), if_neg (show ¬ nI 6 = 1 by decide), if_neg (show ¬ nI 6 = 2 by decide), if_neg (show ¬ nI 6 = 3 by decide), if_neg (show ¬ nI 6 = 4 by decide), if_neg (show ¬ nI 6 = 5 by decide)]
    right
    obtain ⟨d0, rfl⟩ := t6 rfl
    obtain ⟨M2, j1, F2, P2, C2⟩ := mEnd (by omega) d0 (by omega) P C V G
    exact ⟨M2, _, cn, by rw [j1, bs1n], rfl, F2, P2, C2⟩
end MS4
