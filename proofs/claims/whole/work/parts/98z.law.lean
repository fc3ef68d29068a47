/-! THE LAW: every call -/
def RDX (M : Mem) (L i : Nat) : Prop := tgM M 5006 = (100, L) ∧ i + 6 ≤ L ∧ L ≤ 3072
def WS (f : Mem → Option Mem) (M : Mem) (β : Nat) : Prop := ∃ M', f M = some M' ∧ GR M' (β + 40) ∧ XS M M'
section LW
variable {M M1 M2 : Mem} {β L i j : Nat}
theorem RDX_XS (R : RDX M L i) (x : XS M M1) : RDX M1 L i := ⟨x.2.trans R.1, R.2⟩
theorem rd6 (h : tgM M 5006 = (100, L)) (hj : j < L) (hL : L ≤ 3072) : rdI M 5006 (nI j) = true := by
  unfold rdI
  rw [h]
  have e : extM 5006 = true := by decide
  show ((ownM M 5006 || extM 5006) && decide ((100 : Nat) = 100) && inM (Int32.ofNat j) L) = true
  rw [e, Bool.or_true, inM_nat (by omega), decide_eq_true hj]
  rfl
theorem cmp_self (x : Int64) : lg_cmp x x = 0 := by
  unfold lg_cmp
  rw [if_neg (show ¬ x > x from Int64.lt_irrefl), if_pos rfl]
theorem rx (R : RDX M L i) (hj : j < 6) : rdI M 5006 (nI (i + j)) = true := rd6 R.1 (by have := R.2; omega) R.2.2
theorem qp_1 : nI i + 1 = nI (i + 1) := by rw [l_1, n_add]
theorem qp_2 : nI i + 2 = nI (i + 2) := by rw [l_2, n_add]
theorem qp_3 : nI i + 3 = nI (i + 3) := by rw [l_3, n_add]
theorem qp_4 : nI i + 4 = nI (i + 4) := by rw [l_4, n_add]
theorem qp_5 : nI i + 5 = nI (i + 5) := by rw [l_5, n_add]
theorem qp_6 : nI i + 6 = nI (i + 6) := by rw [l_6, n_add]
theorem w_6 (G : GR M β) (hβ : β < 1900000000) (R : RDX M L i) : WS (fW_6 (nI i)) M β := by
  obtain ⟨u, M1, v, N, e1, e2, e3, e4, G2, A1, x1, x2⟩ := a_page G (giM M 5006 (i + 1)) (giM M 5006 (i + 2))
  have R1 := RDX_XS R x1
  have g1 := x1.1
  have hw : wrT 102 N 1021 0 = true := pg_w G2.1
  have th : fM_thrown 1003 N = some (u, N) := by
    unfold fM_thrown
    rw [ms_ob (MS_of G2.1), gd1n, e3]
  refine ⟨N, ?_, GR_mono (by omega) G2, x2⟩
  show fW_6 (nI i) M = some N
  unfold fW_6
  rw [qp_1, qp_2, rx R (show 1 < 6 by omega), gd1n, rx R (show 2 < 6 by omega), gd1n, n_cl (a := i + 1) (by have := R.2; omega), n_cl (a := i + 2) (by have := R.2; omega), e1, bs1n, rx R1 (show 1 < 6 by omega), gd1n, rx R1 (show 2 < 6 by omega), gd1n, ms_ob (MS_of A1), gd1n, g1, e2, bs1n, ms_ob (MS_of G2.1), gd1n, th, bs1n, if_pos rfl]
  by_cases hu : u = 0
  · have c0 : Int32.toNatClampNeg 0 = 0 := by decide
    rw [if_pos hu, hw, gd1n, c0, e4 hu, if_pos (cmp_self _)]
  · rw [if_neg hu]
theorem w_0 (G : GR M β) (hβ : β < 1900000000) (R : RDX M L i) : WS (fW_0 (nI i)) M β := by
  obtain ⟨v, M1, M2, e1, e2, G2, A1, x1, x2⟩ := a_feed G (giM M 5006 (i + 1)) (giM M 5006 (i + 2)) (giM M 5006 (i + 3)) (giM M 5006 (i + 4)) (giM M 5006 (i + 5))
  have R1 := RDX_XS R x1
  have g1 := x1.1
  refine ⟨M2, ?_, GR_mono (by omega) G2, x2⟩
  show fW_0 (nI i) M = some M2
  unfold fW_0
  rw [qp_1, qp_2, qp_3, qp_4, qp_5, rx R (show 1 < 6 by omega), gd1n, rx R (show 2 < 6 by omega), gd1n, rx R (show 3 < 6 by omega), gd1n, rx R (show 4 < 6 by omega), gd1n, rx R (show 5 < 6 by omega), gd1n, as_o1 G.1, gd1n, n_cl (a := i + 1) (by have := R.2; omega), n_cl (a := i + 2) (by have := R.2; omega), n_cl (a := i + 3) (by have := R.2; omega), n_cl (a := i + 4) (by have := R.2; omega), n_cl (a := i + 5) (by have := R.2; omega), e1, bs1n, rx R1 (show 1 < 6 by omega), gd1n, rx R1 (show 2 < 6 by omega), gd1n, rx R1 (show 3 < 6 by omega), gd1n, rx R1 (show 4 < 6 by omega), gd1n, rx R1 (show 5 < 6 by omega), gd1n, ms_ob (MS_of A1), gd1n, g1, e2, bs1n, if_pos rfl]
theorem w_1 (G : GR M β) (hβ : β < 1900000000) (R : RDX M L i) : WS (fW_1 (nI i)) M β := by
  obtain ⟨v, M1, M2, e1, e2, G2, A1, x1, x2⟩ := a_end G (giM M 5006 (i + 1))
  have R1 := RDX_XS R x1
  have g1 := x1.1
  refine ⟨M2, ?_, GR_mono (by omega) G2, x2⟩
  show fW_1 (nI i) M = some M2
  unfold fW_1
  rw [qp_1, rx R (show 1 < 6 by omega), gd1n, as_o1 G.1, gd1n, n_cl (a := i + 1) (by have := R.2; omega), e1, bs1n, rx R1 (show 1 < 6 by omega), gd1n, ms_ob (MS_of A1), gd1n, g1, e2, bs1n, if_pos rfl]
theorem w_2 (G : GR M β) (hβ : β < 1900000000) (R : RDX M L i) : WS (fW_2 (nI i)) M β := by
  obtain ⟨v, M1, M2, e1, e2, G2, A1, x1, x2⟩ := a_fault G (giM M 5006 (i + 1))
  have R1 := RDX_XS R x1
  have g1 := x1.1
  refine ⟨M2, ?_, GR_mono (by omega) G2, x2⟩
  show fW_2 (nI i) M = some M2
  unfold fW_2
  rw [qp_1, rx R (show 1 < 6 by omega), gd1n, as_o1 G.1, gd1n, n_cl (a := i + 1) (by have := R.2; omega), e1, bs1n, rx R1 (show 1 < 6 by omega), gd1n, ms_ob (MS_of A1), gd1n, g1, e2, bs1n, if_pos rfl]
theorem w_3 (G : GR M β) (hβ : β < 1900000000) (R : RDX M L i) : WS (fW_3 (nI i)) M β := by
  obtain ⟨v, M1, M2, e1, e2, G2, A1, x1, x2⟩ := a_text G (giM M 5006 (i + 1))
  have R1 := RDX_XS R x1
  have g1 := x1.1
  refine ⟨M2, ?_, GR_mono (by omega) G2, x2⟩
  show fW_3 (nI i) M = some M2
  unfold fW_3
  rw [qp_1, rx R (show 1 < 6 by omega), gd1n, as_o1 G.1, gd1n, n_cl (a := i + 1) (by have := R.2; omega), e1, bs1n, rx R1 (show 1 < 6 by omega), gd1n, ms_ob (MS_of A1), gd1n, g1, e2, bs1n, if_pos rfl]
theorem w_4 (G : GR M β) (hβ : β < 1900000000) (R : RDX M L i) : WS (fW_4 (nI i)) M β := by
  obtain ⟨v, M1, M2, e1, e2, G2, A1, x1, x2⟩ := ST2_SA (x := fA_rule 1 (giM M 5006 (i + 1))) (y := fM_rule 1003 (giM M 5006 (i + 1))) G (q_rule G (giM M 5006 (i + 1)))
  have R1 := RDX_XS R x1
  have g1 := x1.1
  refine ⟨M2, ?_, GR_mono (by omega) G2, x2⟩
  show fW_4 (nI i) M = some M2
  unfold fW_4
  rw [qp_1, rx R (show 1 < 6 by omega), gd1n, as_o1 G.1, gd1n, n_cl (a := i + 1) (by have := R.2; omega), e1, bs1n, rx R1 (show 1 < 6 by omega), gd1n, ms_ob (MS_of A1), gd1n, g1, e2, bs1n, if_pos rfl]
theorem w_5 (G : GR M β) (hβ : β < 1900000000) (R : RDX M L i) : WS (fW_5 (nI i)) M β := by
  obtain ⟨v, M1, M2, e1, e2, G2, A1, x1, x2⟩ := ST2_SA (x := fA_size 1 (giM M 5006 (i + 1))) (y := fM_size 1003 (giM M 5006 (i + 1))) G (q_size G (giM M 5006 (i + 1)))
  have R1 := RDX_XS R x1
  have g1 := x1.1
  refine ⟨M2, ?_, GR_mono (by omega) G2, x2⟩
  show fW_5 (nI i) M = some M2
  unfold fW_5
  rw [qp_1, rx R (show 1 < 6 by omega), gd1n, as_o1 G.1, gd1n, n_cl (a := i + 1) (by have := R.2; omega), e1, bs1n, rx R1 (show 1 < 6 by omega), gd1n, ms_ob (MS_of A1), gd1n, g1, e2, bs1n, if_pos rfl]
theorem w_7 (G : GR M β) (hβ : β < 1900000000) (R : RDX M L i) : WS (fW_7 (nI i)) M β := by
  obtain ⟨v, M1, M2, e1, e2, G2, A1, x1, x2⟩ := ST2_SA (x := fA_list 1 (giM M 5006 (i + 1)) (giM M 5006 (i + 2)) (giM M 5006 (i + 3))) (y := fM_list 1003 (giM M 5006 (i + 1)) (giM M 5006 (i + 2)) (giM M 5006 (i + 3))) G (q_list G (giM M 5006 (i + 1)) (giM M 5006 (i + 2)) (giM M 5006 (i + 3)))
  have R1 := RDX_XS R x1
  have g1 := x1.1
  refine ⟨M2, ?_, GR_mono (by omega) G2, x2⟩
  show fW_7 (nI i) M = some M2
  unfold fW_7
  rw [qp_1, qp_2, qp_3, rx R (show 1 < 6 by omega), gd1n, rx R (show 2 < 6 by omega), gd1n, rx R (show 3 < 6 by omega), gd1n, as_o1 G.1, gd1n, n_cl (a := i + 1) (by have := R.2; omega), n_cl (a := i + 2) (by have := R.2; omega), n_cl (a := i + 3) (by have := R.2; omega), e1, bs1n, rx R1 (show 1 < 6 by omega), gd1n, rx R1 (show 2 < 6 by omega), gd1n, rx R1 (show 3 < 6 by omega), gd1n, ms_ob (MS_of A1), gd1n, g1, e2, bs1n, if_pos rfl]
theorem w_8 (G : GR M β) (hβ : β < 1900000000) (R : RDX M L i) : WS (fW_8 (nI i)) M β := by
  obtain ⟨v, M1, M2, e1, e2, G2, A1, x1, x2⟩ := ST2_SA (x := fA_thread 1 (giM M 5006 (i + 1)) (giM M 5006 (i + 2))) (y := fM_thread 1003 (giM M 5006 (i + 1)) (giM M 5006 (i + 2))) G (q_thread G (giM M 5006 (i + 1)) (giM M 5006 (i + 2)))
  have R1 := RDX_XS R x1
  have g1 := x1.1
  refine ⟨M2, ?_, GR_mono (by omega) G2, x2⟩
  show fW_8 (nI i) M = some M2
  unfold fW_8
  rw [qp_1, qp_2, rx R (show 1 < 6 by omega), gd1n, rx R (show 2 < 6 by omega), gd1n, as_o1 G.1, gd1n, n_cl (a := i + 1) (by have := R.2; omega), n_cl (a := i + 2) (by have := R.2; omega), e1, bs1n, rx R1 (show 1 < 6 by omega), gd1n, rx R1 (show 2 < 6 by omega), gd1n, ms_ob (MS_of A1), gd1n, g1, e2, bs1n, if_pos rfl]
theorem w_9 (G : GR M β) (hβ : β < 1900000000) (R : RDX M L i) : WS (fW_9 (nI i)) M β := by
  obtain ⟨v, M1, M2, e1, e2, G2, A1, x1, x2⟩ := ST2_SA (x := fA_queue 1 (giM M 5006 (i + 1)) (giM M 5006 (i + 2)) (giM M 5006 (i + 3))) (y := fM_queue 1003 (giM M 5006 (i + 1)) (giM M 5006 (i + 2)) (giM M 5006 (i + 3))) G (q_queue G (giM M 5006 (i + 1)) (giM M 5006 (i + 2)) (giM M 5006 (i + 3)))
  have R1 := RDX_XS R x1
  have g1 := x1.1
  refine ⟨M2, ?_, GR_mono (by omega) G2, x2⟩
  show fW_9 (nI i) M = some M2
  unfold fW_9
  rw [qp_1, qp_2, qp_3, rx R (show 1 < 6 by omega), gd1n, rx R (show 2 < 6 by omega), gd1n, rx R (show 3 < 6 by omega), gd1n, as_o1 G.1, gd1n, n_cl (a := i + 1) (by have := R.2; omega), n_cl (a := i + 2) (by have := R.2; omega), n_cl (a := i + 3) (by have := R.2; omega), e1, bs1n, rx R1 (show 1 < 6 by omega), gd1n, rx R1 (show 2 < 6 by omega), gd1n, rx R1 (show 3 < 6 by omega), gd1n, ms_ob (MS_of A1), gd1n, g1, e2, bs1n, if_pos rfl]
theorem w_10 (G : GR M β) (hβ : β < 1900000000) (R : RDX M L i) : WS (fW_10 (nI i)) M β := by
  obtain ⟨v, M1, M2, e1, e2, G2, A1, x1, x2⟩ := ST2_SA (x := fA_outbox 1 (giM M 5006 (i + 1)) (giM M 5006 (i + 2)) (giM M 5006 (i + 3))) (y := fM_outbox 1003 (giM M 5006 (i + 1)) (giM M 5006 (i + 2)) (giM M 5006 (i + 3))) G (q_outbox G (giM M 5006 (i + 1)) (giM M 5006 (i + 2)) (giM M 5006 (i + 3)))
  have R1 := RDX_XS R x1
  have g1 := x1.1
  refine ⟨M2, ?_, GR_mono (by omega) G2, x2⟩
  show fW_10 (nI i) M = some M2
  unfold fW_10
  rw [qp_1, qp_2, qp_3, rx R (show 1 < 6 by omega), gd1n, rx R (show 2 < 6 by omega), gd1n, rx R (show 3 < 6 by omega), gd1n, as_o1 G.1, gd1n, n_cl (a := i + 1) (by have := R.2; omega), n_cl (a := i + 2) (by have := R.2; omega), n_cl (a := i + 3) (by have := R.2; omega), e1, bs1n, rx R1 (show 1 < 6 by omega), gd1n, rx R1 (show 2 < 6 by omega), gd1n, rx R1 (show 3 < 6 by omega), gd1n, ms_ob (MS_of A1), gd1n, g1, e2, bs1n, if_pos rfl]
theorem w_11 (G : GR M β) (hβ : β < 1900000000) (R : RDX M L i) : WS (fW_11 (nI i)) M β := by
  obtain ⟨v, M1, M2, e1, e2, G2, A1, x1, x2⟩ := ST2_SA (x := fA_held 1 (giM M 5006 (i + 1))) (y := fM_held 1003 (giM M 5006 (i + 1))) G (q_held G (giM M 5006 (i + 1)))
  have R1 := RDX_XS R x1
  have g1 := x1.1
  refine ⟨M2, ?_, GR_mono (by omega) G2, x2⟩
  show fW_11 (nI i) M = some M2
  unfold fW_11
  rw [qp_1, rx R (show 1 < 6 by omega), gd1n, as_o1 G.1, gd1n, n_cl (a := i + 1) (by have := R.2; omega), e1, bs1n, rx R1 (show 1 < 6 by omega), gd1n, ms_ob (MS_of A1), gd1n, g1, e2, bs1n, if_pos rfl]
theorem w_12 (G : GR M β) (hβ : β < 1900000000) (R : RDX M L i) : WS (fW_12 (nI i)) M β := by
  have key : ∀ β', β' ≤ β + 40 → ST2 (fA_get 1 (giM M 5006 (i + 1)) (giM M 5006 (i + 2))) (fM_get 1003 (giM M 5006 (i + 1)) (giM M 5006 (i + 2))) M β' → WS (fW_12 (nI i)) M β := fun β' hb h => by
    obtain ⟨v, M1, M2, e1, e2, G2, A1, x1, x2⟩ := h
    have R1 := RDX_XS R x1
    have g1 := x1.1
    refine ⟨M2, ?_, GR_mono (by omega) G2, x2⟩
    show fW_12 (nI i) M = some M2
    unfold fW_12
    rw [qp_1, qp_2, rx R (show 1 < 6 by omega), gd1n, rx R (show 2 < 6 by omega), gd1n, as_o1 G.1, gd1n, n_cl (a := i + 1) (by have := R.2; omega), n_cl (a := i + 2) (by have := R.2; omega), e1, bs1n, rx R1 (show 1 < 6 by omega), gd1n, rx R1 (show 2 < 6 by omega), gd1n, ms_ob (MS_of A1), gd1n, g1, e2, bs1n, if_pos rfl]
  rcases a_get G (by omega) (giM M 5006 (i + 1)) (giM M 5006 (i + 2)) with h | h
  · exact key _ (by omega) h
  · exact key _ (by omega) h
theorem w_13 (G : GR M β) (hβ : β < 1900000000) (R : RDX M L i) : WS (fW_13 (nI i)) M β := by
  obtain ⟨v, M1, M2, e1, e2, G2, A1, x1, x2⟩ := a_free G (giM M 5006 (i + 1)) (giM M 5006 (i + 2))
  have R1 := RDX_XS R x1
  have g1 := x1.1
  refine ⟨M2, ?_, GR_mono (by omega) G2, x2⟩
  show fW_13 (nI i) M = some M2
  unfold fW_13
  rw [qp_1, qp_2, rx R (show 1 < 6 by omega), gd1n, rx R (show 2 < 6 by omega), gd1n, as_o1 G.1, gd1n, n_cl (a := i + 1) (by have := R.2; omega), n_cl (a := i + 2) (by have := R.2; omega), e1, bs1n, rx R1 (show 1 < 6 by omega), gd1n, rx R1 (show 2 < 6 by omega), gd1n, ms_ob (MS_of A1), gd1n, g1, e2, bs1n, if_pos rfl]
theorem w_14 (G : GR M β) (hβ : β < 1900000000) (R : RDX M L i) : WS (fW_14 (nI i)) M β := by
  obtain ⟨v, M1, M2, e1, e2, G2, A1, x1, x2⟩ := a_tick G (giM M 5006 (i + 1))
  have R1 := RDX_XS R x1
  have g1 := x1.1
  refine ⟨M2, ?_, GR_mono (by omega) G2, x2⟩
  show fW_14 (nI i) M = some M2
  unfold fW_14
  rw [qp_1, rx R (show 1 < 6 by omega), gd1n, as_o1 G.1, gd1n, n_cl (a := i + 1) (by have := R.2; omega), e1, bs1n, rx R1 (show 1 < 6 by omega), gd1n, ms_ob (MS_of A1), gd1n, g1, e2, bs1n, if_pos rfl]
theorem w_15 (G : GR M β) (hβ : β < 1900000000) (R : RDX M L i) : WS (fW_15 (nI i)) M β := by
  obtain ⟨v, M1, M2, e1, e2, G2, A1, x1, x2⟩ := a_send G (giM M 5006 (i + 1))
  have R1 := RDX_XS R x1
  have g1 := x1.1
  refine ⟨M2, ?_, GR_mono (by omega) G2, x2⟩
  show fW_15 (nI i) M = some M2
  unfold fW_15
  rw [qp_1, rx R (show 1 < 6 by omega), gd1n, as_o1 G.1, gd1n, n_cl (a := i + 1) (by have := R.2; omega), e1, bs1n, rx R1 (show 1 < 6 by omega), gd1n, ms_ob (MS_of A1), gd1n, g1, e2, bs1n, if_pos rfl]
theorem w_16 (G : GR M β) (hβ : β < 1900000000) (R : RDX M L i) : WS (fW_16 (nI i)) M β := by
  obtain ⟨v, M1, M2, e1, e2, G2, A1, x1, x2⟩ := a_turn G (giM M 5006 (i + 1))
  have R1 := RDX_XS R x1
  have g1 := x1.1
  refine ⟨M2, ?_, GR_mono (by omega) G2, x2⟩
  show fW_16 (nI i) M = some M2
  unfold fW_16
  rw [qp_1, rx R (show 1 < 6 by omega), gd1n, as_o1 G.1, gd1n, n_cl (a := i + 1) (by have := R.2; omega), e1, bs1n, rx R1 (show 1 < 6 by omega), gd1n, ms_ob (MS_of A1), gd1n, g1, e2, bs1n, if_pos rfl]
theorem w_17 (G : GR M β) (hβ : β < 1900000000) (R : RDX M L i) : WS (fW_17 (nI i)) M β := by
  obtain ⟨v, M1, M2, e1, e2, G2, A1, x1, x2⟩ := a_perform G (by omega) (giM M 5006 (i + 1))
  have R1 := RDX_XS R x1
  have g1 := x1.1
  refine ⟨M2, ?_, GR_mono (by omega) G2, x2⟩
  show fW_17 (nI i) M = some M2
  unfold fW_17
  rw [qp_1, rx R (show 1 < 6 by omega), gd1n, as_o1 G.1, gd1n, n_cl (a := i + 1) (by have := R.2; omega), e1, bs1n, rx R1 (show 1 < 6 by omega), gd1n, ms_ob (MS_of A1), gd1n, g1, e2, bs1n, if_pos rfl]
theorem w_18 (G : GR M β) (hβ : β < 1900000000) (R : RDX M L i) : WS (fW_18 (nI i)) M β := by
  obtain ⟨v, M1, M2, e1, e2, G2, A1, x1, x2⟩ := a_years G (by omega) (giM M 5006 (i + 1)) (((Int32.toInt64 (giM M 5006 (i + 2))) <<< (Int32.toInt64 32 &&& 63)) ||| ((Int32.toInt64 (giM M 5006 (i + 3))) &&& 4294967295))
  have R1 := RDX_XS R x1
  have g1 := x1.1
  refine ⟨M2, ?_, GR_mono (by omega) G2, x2⟩
  show fW_18 (nI i) M = some M2
  unfold fW_18
  rw [qp_1, qp_2, qp_3, rx R (show 1 < 6 by omega), gd1n, rx R (show 2 < 6 by omega), gd1n, rx R (show 3 < 6 by omega), gd1n, as_o1 G.1, gd1n, n_cl (a := i + 1) (by have := R.2; omega), n_cl (a := i + 2) (by have := R.2; omega), n_cl (a := i + 3) (by have := R.2; omega), e1, bs1n, rx R1 (show 1 < 6 by omega), gd1n, rx R1 (show 2 < 6 by omega), gd1n, rx R1 (show 3 < 6 by omega), gd1n, ms_ob (MS_of A1), gd1n, g1, e2, bs1n, if_pos rfl]
theorem w_19 (G : GR M β) (hβ : β < 1900000000) (R : RDX M L i) : WS (fW_19 (nI i)) M β := by
  obtain ⟨v, M1, M2, e1, e2, G2, A1, x1, x2⟩ := ST2_SA (x := fA_status 1 (giM M 5006 (i + 1))) (y := fM_status 1003 (giM M 5006 (i + 1))) G (q_status G (giM M 5006 (i + 1)))
  have R1 := RDX_XS R x1
  have g1 := x1.1
  refine ⟨M2, ?_, GR_mono (by omega) G2, x2⟩
  show fW_19 (nI i) M = some M2
  unfold fW_19
  rw [qp_1, rx R (show 1 < 6 by omega), gd1n, as_o1 G.1, gd1n, n_cl (a := i + 1) (by have := R.2; omega), e1, bs1n, rx R1 (show 1 < 6 by omega), gd1n, ms_ob (MS_of A1), gd1n, g1, e2, bs1n, if_pos rfl]
theorem w_20 (G : GR M β) (hβ : β < 1900000000) (R : RDX M L i) : WS (fW_20 (nI i)) M β := by
  obtain ⟨v, M1, M2, e1, e2, G2, A1, x1, x2⟩ := a_undo G 
  have R1 := RDX_XS R x1
  have g1 := x1.1
  refine ⟨M2, ?_, GR_mono (by omega) G2, x2⟩
  show fW_20 (nI i) M = some M2
  unfold fW_20
  rw [as_o1 G.1, gd1n, e1, bs1n, ms_ob (MS_of A1), gd1n, e2, bs1n, if_pos rfl]
theorem w_21 (G : GR M β) (hβ : β < 1900000000) (R : RDX M L i) : WS (fW_21 (nI i)) M β := by
  obtain ⟨v, M1, M2, e1, e2, G2, A1, x1, x2⟩ := ST2_SA (x := fA_log 1 (giM M 5006 (i + 1)) (giM M 5006 (i + 2))) (y := fM_log 1003 (giM M 5006 (i + 1)) (giM M 5006 (i + 2))) G (q_log G (by omega) (giM M 5006 (i + 1)) (giM M 5006 (i + 2)))
  have R1 := RDX_XS R x1
  have g1 := x1.1
  refine ⟨M2, ?_, GR_mono (by omega) G2, x2⟩
  show fW_21 (nI i) M = some M2
  unfold fW_21
  rw [qp_1, qp_2, rx R (show 1 < 6 by omega), gd1n, rx R (show 2 < 6 by omega), gd1n, as_o1 G.1, gd1n, n_cl (a := i + 1) (by have := R.2; omega), n_cl (a := i + 2) (by have := R.2; omega), e1, bs1n, rx R1 (show 1 < 6 by omega), gd1n, rx R1 (show 2 < 6 by omega), gd1n, ms_ob (MS_of A1), gd1n, g1, e2, bs1n, if_pos rfl]
theorem w_22 (G : GR M β) (hβ : β < 1900000000) (R : RDX M L i) : WS (fW_22 (nI i)) M β := by
  obtain ⟨v, M1, M2, e1, e2, G2, A1, x1, x2⟩ := ST2_SA (x := fA_step 1 (giM M 5006 (i + 1)) (giM M 5006 (i + 2)) (giM M 5006 (i + 3))) (y := fM_step 1003 (giM M 5006 (i + 1)) (giM M 5006 (i + 2)) (giM M 5006 (i + 3))) G (q_step G (giM M 5006 (i + 1)) (giM M 5006 (i + 2)) (giM M 5006 (i + 3)))
  have R1 := RDX_XS R x1
  have g1 := x1.1
  refine ⟨M2, ?_, GR_mono (by omega) G2, x2⟩
  show fW_22 (nI i) M = some M2
  unfold fW_22
  rw [qp_1, qp_2, qp_3, rx R (show 1 < 6 by omega), gd1n, rx R (show 2 < 6 by omega), gd1n, rx R (show 3 < 6 by omega), gd1n, as_o1 G.1, gd1n, n_cl (a := i + 1) (by have := R.2; omega), n_cl (a := i + 2) (by have := R.2; omega), n_cl (a := i + 3) (by have := R.2; omega), e1, bs1n, rx R1 (show 1 < 6 by omega), gd1n, rx R1 (show 2 < 6 by omega), gd1n, rx R1 (show 3 < 6 by omega), gd1n, ms_ob (MS_of A1), gd1n, g1, e2, bs1n, if_pos rfl]
theorem w_23 (G : GR M β) (hβ : β < 1900000000) (R : RDX M L i) : WS (fW_23 (nI i)) M β := by
  obtain ⟨v, M1, M2, e1, e2, G2, A1, x1, x2⟩ := ST2_SA (x := fA_waste 1 (giM M 5006 (i + 1))) (y := fM_waste 1003 (giM M 5006 (i + 1))) G (q_waste G (giM M 5006 (i + 1)))
  have R1 := RDX_XS R x1
  have g1 := x1.1
  refine ⟨M2, ?_, GR_mono (by omega) G2, x2⟩
  show fW_23 (nI i) M = some M2
  unfold fW_23
  rw [qp_1, rx R (show 1 < 6 by omega), gd1n, as_o1 G.1, gd1n, n_cl (a := i + 1) (by have := R.2; omega), e1, bs1n, rx R1 (show 1 < 6 by omega), gd1n, ms_ob (MS_of A1), gd1n, g1, e2, bs1n, if_pos rfl]
theorem w_24 (G : GR M β) (hβ : β < 1900000000) (R : RDX M L i) : WS (fW_24 (nI i)) M β := by
  obtain ⟨v, M1, M2, e1, e2, G2, A1, x1, x2⟩ := ST2_SA (x := fA_classes 1 (giM M 5006 (i + 1)) (giM M 5006 (i + 2))) (y := fM_classes 1003 (giM M 5006 (i + 1)) (giM M 5006 (i + 2))) G (q_classes G (giM M 5006 (i + 1)) (giM M 5006 (i + 2)))
  have R1 := RDX_XS R x1
  have g1 := x1.1
  refine ⟨M2, ?_, GR_mono (by omega) G2, x2⟩
  show fW_24 (nI i) M = some M2
  unfold fW_24
  rw [qp_1, qp_2, rx R (show 1 < 6 by omega), gd1n, rx R (show 2 < 6 by omega), gd1n, as_o1 G.1, gd1n, n_cl (a := i + 1) (by have := R.2; omega), n_cl (a := i + 2) (by have := R.2; omega), e1, bs1n, rx R1 (show 1 < 6 by omega), gd1n, rx R1 (show 2 < 6 by omega), gd1n, ms_ob (MS_of A1), gd1n, g1, e2, bs1n, if_pos rfl]
theorem w_25 (G : GR M β) (hβ : β < 1900000000) (R : RDX M L i) : WS (fW_25 (nI i)) M β := by
  obtain ⟨v, M1, M2, e1, e2, G2, A1, x1, x2⟩ := a_would G (by omega) (giM M 5006 (i + 1)) (giM M 5006 (i + 2))
  have R1 := RDX_XS R x1
  have g1 := x1.1
  refine ⟨M2, ?_, GR_mono (by omega) G2, x2⟩
  show fW_25 (nI i) M = some M2
  unfold fW_25
  rw [qp_1, qp_2, rx R (show 1 < 6 by omega), gd1n, rx R (show 2 < 6 by omega), gd1n, as_o1 G.1, gd1n, n_cl (a := i + 1) (by have := R.2; omega), n_cl (a := i + 2) (by have := R.2; omega), e1, bs1n, rx R1 (show 1 < 6 by omega), gd1n, rx R1 (show 2 < 6 by omega), gd1n, ms_ob (MS_of A1), gd1n, g1, e2, bs1n, if_pos rfl]
theorem w_26 (G : GR M β) (hβ : β < 1900000000) (R : RDX M L i) : WS (fW_26 (nI i)) M β := by
  obtain ⟨v, M1, M2, e1, e2, G2, A1, x1, x2⟩ := ST2_SA (x := fA_where 1 (giM M 5006 (i + 1)) (giM M 5006 (i + 2))) (y := fM_where 1003 (giM M 5006 (i + 1)) (giM M 5006 (i + 2))) G (q_where G (giM M 5006 (i + 1)) (giM M 5006 (i + 2)))
  have R1 := RDX_XS R x1
  have g1 := x1.1
  refine ⟨M2, ?_, GR_mono (by omega) G2, x2⟩
  show fW_26 (nI i) M = some M2
  unfold fW_26
  rw [qp_1, qp_2, rx R (show 1 < 6 by omega), gd1n, rx R (show 2 < 6 by omega), gd1n, as_o1 G.1, gd1n, n_cl (a := i + 1) (by have := R.2; omega), n_cl (a := i + 2) (by have := R.2; omega), e1, bs1n, rx R1 (show 1 < 6 by omega), gd1n, rx R1 (show 2 < 6 by omega), gd1n, ms_ob (MS_of A1), gd1n, g1, e2, bs1n, if_pos rfl]
theorem w_27 (G : GR M β) (hβ : β < 1900000000) (R : RDX M L i) : WS (fW_27 (nI i)) M β := by
  obtain ⟨v, M1, M2, e1, e2, G2, A1, x1, x2⟩ := a_series G (by omega) (giM M 5006 (i + 1)) (giM M 5006 (i + 2)) (giM M 5006 (i + 3))
  have R1 := RDX_XS R x1
  have g1 := x1.1
  refine ⟨M2, ?_, GR_mono (by omega) G2, x2⟩
  show fW_27 (nI i) M = some M2
  unfold fW_27
  rw [qp_1, qp_2, qp_3, rx R (show 1 < 6 by omega), gd1n, rx R (show 2 < 6 by omega), gd1n, rx R (show 3 < 6 by omega), gd1n, as_o1 G.1, gd1n, n_cl (a := i + 1) (by have := R.2; omega), n_cl (a := i + 2) (by have := R.2; omega), n_cl (a := i + 3) (by have := R.2; omega), e1, bs1n, rx R1 (show 1 < 6 by omega), gd1n, rx R1 (show 2 < 6 by omega), gd1n, rx R1 (show 3 < 6 by omega), gd1n, ms_ob (MS_of A1), gd1n, g1, e2, bs1n, if_pos rfl]
theorem w_28 (G : GR M β) (hβ : β < 1900000000) (R : RDX M L i) : WS (fW_28 (nI i)) M β := by
  obtain ⟨v, M1, M2, e1, e2, G2, A1, x1, x2⟩ := ST2_SA (x := fA_cheapest 1 (giM M 5006 (i + 1))) (y := fM_cheapest 1003 (giM M 5006 (i + 1))) G (q_cheapest G (giM M 5006 (i + 1)))
  have R1 := RDX_XS R x1
  have g1 := x1.1
  refine ⟨M2, ?_, GR_mono (by omega) G2, x2⟩
  show fW_28 (nI i) M = some M2
  unfold fW_28
  rw [qp_1, rx R (show 1 < 6 by omega), gd1n, as_o1 G.1, gd1n, n_cl (a := i + 1) (by have := R.2; omega), e1, bs1n, rx R1 (show 1 < 6 by omega), gd1n, ms_ob (MS_of A1), gd1n, g1, e2, bs1n, if_pos rfl]
theorem w_29 (G : GR M β) (hβ : β < 1900000000) (R : RDX M L i) : WS (fW_29 (nI i)) M β := by
  obtain ⟨v, M1, M2, e1, e2, G2, A1, x1, x2⟩ := a_run G (by omega) (giM M 5006 (i + 1)) (giM M 5006 (i + 2))
  have R1 := RDX_XS R x1
  have g1 := x1.1
  refine ⟨M2, ?_, GR_mono (by omega) G2, x2⟩
  show fW_29 (nI i) M = some M2
  unfold fW_29
  rw [qp_1, qp_2, rx R (show 1 < 6 by omega), gd1n, rx R (show 2 < 6 by omega), gd1n, as_o1 G.1, gd1n, n_cl (a := i + 1) (by have := R.2; omega), n_cl (a := i + 2) (by have := R.2; omega), e1, bs1n, rx R1 (show 1 < 6 by omega), gd1n, rx R1 (show 2 < 6 by omega), gd1n, ms_ob (MS_of A1), gd1n, g1, e2, bs1n, if_pos rfl]
theorem w_30 (G : GR M β) (hβ : β < 1900000000) (R : RDX M L i) : WS (fW_30 (nI i)) M β := by
  obtain ⟨v, M1, M2, e1, e2, G2, A1, x1, x2⟩ := a_ways G (by omega) (giM M 5006 (i + 1)) (giM M 5006 (i + 2)) (giM M 5006 (i + 3))
  have R1 := RDX_XS R x1
  have g1 := x1.1
  refine ⟨M2, ?_, GR_mono (by omega) G2, x2⟩
  show fW_30 (nI i) M = some M2
  unfold fW_30
  rw [qp_1, qp_2, qp_3, rx R (show 1 < 6 by omega), gd1n, rx R (show 2 < 6 by omega), gd1n, rx R (show 3 < 6 by omega), gd1n, as_o1 G.1, gd1n, n_cl (a := i + 1) (by have := R.2; omega), n_cl (a := i + 2) (by have := R.2; omega), n_cl (a := i + 3) (by have := R.2; omega), e1, bs1n, rx R1 (show 1 < 6 by omega), gd1n, rx R1 (show 2 < 6 by omega), gd1n, rx R1 (show 3 < 6 by omega), gd1n, ms_ob (MS_of A1), gd1n, g1, e2, bs1n, if_pos rfl]
theorem w_31 (G : GR M β) (hβ : β < 1900000000) (R : RDX M L i) : WS (fW_31 (nI i)) M β := by
  obtain ⟨v, M1, M2, e1, e2, G2, A1, x1, x2⟩ := ST2_SA (x := fA_shares 1 (giM M 5006 (i + 1)) (giM M 5006 (i + 2))) (y := fM_shares 1003 (giM M 5006 (i + 1)) (giM M 5006 (i + 2))) G (q_shares G (giM M 5006 (i + 1)) (giM M 5006 (i + 2)))
  have R1 := RDX_XS R x1
  have g1 := x1.1
  refine ⟨M2, ?_, GR_mono (by omega) G2, x2⟩
  show fW_31 (nI i) M = some M2
  unfold fW_31
  rw [qp_1, qp_2, rx R (show 1 < 6 by omega), gd1n, rx R (show 2 < 6 by omega), gd1n, as_o1 G.1, gd1n, n_cl (a := i + 1) (by have := R.2; omega), n_cl (a := i + 2) (by have := R.2; omega), e1, bs1n, rx R1 (show 1 < 6 by omega), gd1n, rx R1 (show 2 < 6 by omega), gd1n, ms_ob (MS_of A1), gd1n, g1, e2, bs1n, if_pos rfl]
theorem w_32 (G : GR M β) (hβ : β < 1900000000) (R : RDX M L i) : WS (fW_32 (nI i)) M β := by
  obtain ⟨v, M1, M2, e1, e2, G2, A1, x1, x2⟩ := ST2_SA (x := fA_most 1 (giM M 5006 (i + 1))) (y := fM_most 1003 (giM M 5006 (i + 1))) G (q_most G (giM M 5006 (i + 1)))
  have R1 := RDX_XS R x1
  have g1 := x1.1
  refine ⟨M2, ?_, GR_mono (by omega) G2, x2⟩
  show fW_32 (nI i) M = some M2
  unfold fW_32
  rw [qp_1, rx R (show 1 < 6 by omega), gd1n, as_o1 G.1, gd1n, n_cl (a := i + 1) (by have := R.2; omega), e1, bs1n, rx R1 (show 1 < 6 by omega), gd1n, ms_ob (MS_of A1), gd1n, g1, e2, bs1n, if_pos rfl]
theorem w_33 (G : GR M β) (hβ : β < 1900000000) (R : RDX M L i) : WS (fW_33 (nI i)) M β := by
  obtain ⟨v, M1, M2, e1, e2, G2, A1, x1, x2⟩ := a_image G 
  have R1 := RDX_XS R x1
  have g1 := x1.1
  refine ⟨M2, ?_, GR_mono (by omega) G2, x2⟩
  show fW_33 (nI i) M = some M2
  unfold fW_33
  rw [as_o1 G.1, gd1n, e1, bs1n, ms_ob (MS_of A1), gd1n, e2, bs1n, if_pos rfl]
theorem w_34 (G : GR M β) (hβ : β < 1900000000) (R : RDX M L i) : WS (fW_34 (nI i)) M β := by
  obtain ⟨v, M1, M2, e1, e2, G2, A1, x1, x2⟩ := a_back G 
  have R1 := RDX_XS R x1
  have g1 := x1.1
  refine ⟨M2, ?_, GR_mono (by omega) G2, x2⟩
  show fW_34 (nI i) M = some M2
  unfold fW_34
  rw [as_o1 G.1, gd1n, e1, bs1n, ms_ob (MS_of A1), gd1n, e2, bs1n, if_pos rfl]
theorem w_35 (G : GR M β) (hβ : β < 1900000000) (R : RDX M L i) : WS (fW_35 (nI i)) M β := by
  obtain ⟨v, M1, M2, e1, e2, G2, A1, x1, x2⟩ := ST2_SA (x := fA_count 1 (giM M 5006 (i + 1))) (y := fM_count 1003 (giM M 5006 (i + 1))) G (q_count G (by omega) (giM M 5006 (i + 1)))
  have R1 := RDX_XS R x1
  have g1 := x1.1
  refine ⟨M2, ?_, GR_mono (by omega) G2, x2⟩
  show fW_35 (nI i) M = some M2
  unfold fW_35
  rw [qp_1, rx R (show 1 < 6 by omega), gd1n, as_o1 G.1, gd1n, n_cl (a := i + 1) (by have := R.2; omega), e1, bs1n, rx R1 (show 1 < 6 by omega), gd1n, ms_ob (MS_of A1), gd1n, g1, e2, bs1n, if_pos rfl]
theorem w_step (G : GR M β) (hβ : β < 1900000000) (R : RDX M L i) (v : Int32) : WS (fW_step v (nI i)) M β := by
  show ∃ M', fW_step v (nI i) M = some M' ∧ GR M' (β + 40) ∧ XS M M'
  unfold fW_step
  by_cases h0 : v = 0
  · rw [if_pos h0]
    exact w_0 G hβ R
  rw [if_neg h0]
  by_cases h1 : v = 1
  · rw [if_pos h1]
    exact w_1 G hβ R
  rw [if_neg h1]
  by_cases h2 : v = 2
  · rw [if_pos h2]
    exact w_2 G hβ R
  rw [if_neg h2]
  by_cases h3 : v = 3
  · rw [if_pos h3]
    exact w_3 G hβ R
  rw [if_neg h3]
  by_cases h4 : v = 4
  · rw [if_pos h4]
    exact w_4 G hβ R
  rw [if_neg h4]
  by_cases h5 : v = 5
  · rw [if_pos h5]
    exact w_5 G hβ R
  rw [if_neg h5]
  by_cases h6 : v = 6
  · rw [if_pos h6]
    exact w_6 G hβ R
  rw [if_neg h6]
  by_cases h7 : v = 7
  · rw [if_pos h7]
    exact w_7 G hβ R
  rw [if_neg h7]
  by_cases h8 : v = 8
  · rw [if_pos h8]
    exact w_8 G hβ R
  rw [if_neg h8]
  by_cases h9 : v = 9
  · rw [if_pos h9]
    exact w_9 G hβ R
  rw [if_neg h9]
  by_cases h10 : v = 10
  · rw [if_pos h10]
    exact w_10 G hβ R
  rw [if_neg h10]
  by_cases h11 : v = 11
  · rw [if_pos h11]
    exact w_11 G hβ R
  rw [if_neg h11]
  by_cases h12 : v = 12
  · rw [if_pos h12]
    exact w_12 G hβ R
  rw [if_neg h12]
  by_cases h13 : v = 13
  · rw [if_pos h13]
    exact w_13 G hβ R
  rw [if_neg h13]
  by_cases h14 : v = 14
  · rw [if_pos h14]
    exact w_14 G hβ R
  rw [if_neg h14]
  by_cases h15 : v = 15
  · rw [if_pos h15]
    exact w_15 G hβ R
  rw [if_neg h15]
  by_cases h16 : v = 16
  · rw [if_pos h16]
    exact w_16 G hβ R
  rw [if_neg h16]
  by_cases h17 : v = 17
  · rw [if_pos h17]
    exact w_17 G hβ R
  rw [if_neg h17]
  by_cases h18 : v = 18
  · rw [if_pos h18]
    exact w_18 G hβ R
  rw [if_neg h18]
  by_cases h19 : v = 19
  · rw [if_pos h19]
    exact w_19 G hβ R
  rw [if_neg h19]
  by_cases h20 : v = 20
  · rw [if_pos h20]
    exact w_20 G hβ R
  rw [if_neg h20]
  by_cases h21 : v = 21
  · rw [if_pos h21]
    exact w_21 G hβ R
  rw [if_neg h21]
  by_cases h22 : v = 22
  · rw [if_pos h22]
    exact w_22 G hβ R
  rw [if_neg h22]
  by_cases h23 : v = 23
  · rw [if_pos h23]
    exact w_23 G hβ R
  rw [if_neg h23]
  by_cases h24 : v = 24
  · rw [if_pos h24]
    exact w_24 G hβ R
  rw [if_neg h24]
  by_cases h25 : v = 25
  · rw [if_pos h25]
    exact w_25 G hβ R
  rw [if_neg h25]
  by_cases h26 : v = 26
  · rw [if_pos h26]
    exact w_26 G hβ R
  rw [if_neg h26]
  by_cases h27 : v = 27
  · rw [if_pos h27]
    exact w_27 G hβ R
  rw [if_neg h27]
  by_cases h28 : v = 28
  · rw [if_pos h28]
    exact w_28 G hβ R
  rw [if_neg h28]
  by_cases h29 : v = 29
  · rw [if_pos h29]
    exact w_29 G hβ R
  rw [if_neg h29]
  by_cases h30 : v = 30
  · rw [if_pos h30]
    exact w_30 G hβ R
  rw [if_neg h30]
  by_cases h31 : v = 31
  · rw [if_pos h31]
    exact w_31 G hβ R
  rw [if_neg h31]
  by_cases h32 : v = 32
  · rw [if_pos h32]
    exact w_32 G hβ R
  rw [if_neg h32]
  by_cases h33 : v = 33
  · rw [if_pos h33]
    exact w_33 G hβ R
  rw [if_neg h33]
  by_cases h34 : v = 34
  · rw [if_pos h34]
    exact w_34 G hβ R
  rw [if_neg h34]
  by_cases h35 : v = 35
  · rw [if_pos h35]
    exact w_35 G hβ R
  rw [if_neg h35]
  exact ⟨M, rfl, GR_mono (by omega) G, rfl, rfl⟩
end LW
