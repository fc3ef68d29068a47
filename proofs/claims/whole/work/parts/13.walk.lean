theorem ddA_free_0 : decode cA_free 0 = .ok (.aload_n 0, 1) := by decide +kernel
theorem ddA_free_1 : decode cA_free 1 = .ok (.getfield 55, 3) := by decide +kernel
theorem ddA_free_4 : decode cA_free 4 = .ok (.iload_n 1, 1) := by decide +kernel
theorem ddA_free_5 : decode cA_free 5 = .ok (.invokevirtual 187, 3) := by decide +kernel
theorem ddA_free_8 : decode cA_free 8 = .ok (.ifCond .eq 14, 3) := by decide +kernel
theorem ddA_free_11 : decode cA_free 11 = .ok (.aload_n 0, 1) := by decide +kernel
theorem ddA_free_12 : decode cA_free 12 = .ok (.getfield 55, 3) := by decide +kernel
theorem ddA_free_15 : decode cA_free 15 = .ok (.iload_n 2, 1) := by decide +kernel
theorem ddA_free_16 : decode cA_free 16 = .ok (.invokevirtual 211, 3) := by decide +kernel
theorem ddA_free_19 : decode cA_free 19 = .ok (.ifCond .ne 9, 3) := by decide +kernel
theorem ddA_free_22 : decode cA_free 22 = .ok (.aload_n 0, 1) := by decide +kernel
theorem ddA_free_23 : decode cA_free 23 = .ok (.iconst 0, 1) := by decide +kernel
theorem ddA_free_24 : decode cA_free 24 = .ok (.invokevirtual 217, 3) := by decide +kernel
theorem ddA_free_27 : decode cA_free 27 = .ok (.ireturn, 1) := by decide +kernel
theorem ddA_free_28 : decode cA_free 28 = .ok (.aload_n 0, 1) := by decide +kernel
theorem ddA_free_29 : decode cA_free 29 = .ok (.getfield 55, 3) := by decide +kernel
theorem ddA_free_32 : decode cA_free 32 = .ok (.iload_n 1, 1) := by decide +kernel
theorem ddA_free_33 : decode cA_free 33 = .ok (.invokevirtual 190, 3) := by decide +kernel
theorem ddA_free_36 : decode cA_free 36 = .ok (.ifCond .eq 14, 3) := by decide +kernel
theorem ddA_free_39 : decode cA_free 39 = .ok (.aload_n 0, 1) := by decide +kernel
theorem ddA_free_40 : decode cA_free 40 = .ok (.getfield 55, 3) := by decide +kernel
theorem ddA_free_43 : decode cA_free 43 = .ok (.iload_n 2, 1) := by decide +kernel
theorem ddA_free_44 : decode cA_free 44 = .ok (.invokevirtual 214, 3) := by decide +kernel
theorem ddA_free_47 : decode cA_free 47 = .ok (.ifCond .ne 9, 3) := by decide +kernel
theorem ddA_free_50 : decode cA_free 50 = .ok (.aload_n 0, 1) := by decide +kernel
theorem ddA_free_51 : decode cA_free 51 = .ok (.iconst 2, 1) := by decide +kernel
theorem ddA_free_52 : decode cA_free 52 = .ok (.invokevirtual 217, 3) := by decide +kernel
theorem ddA_free_55 : decode cA_free 55 = .ok (.ireturn, 1) := by decide +kernel
theorem ddA_free_56 : decode cA_free 56 = .ok (.aload_n 0, 1) := by decide +kernel
theorem ddA_free_57 : decode cA_free 57 = .ok (.getfield 62, 3) := by decide +kernel
theorem ddA_free_60 : decode cA_free 60 = .ok (.aload_n 0, 1) := by decide +kernel
theorem ddA_free_61 : decode cA_free 61 = .ok (.getfield 55, 3) := by decide +kernel
theorem ddA_free_64 : decode cA_free 64 = .ok (.invokevirtual 226, 3) := by decide +kernel
theorem ddA_free_67 : decode cA_free 67 = .ok (.aload_n 0, 1) := by decide +kernel
theorem ddA_free_68 : decode cA_free 68 = .ok (.getfield 55, 3) := by decide +kernel
theorem ddA_free_71 : decode cA_free 71 = .ok (.iload_n 1, 1) := by decide +kernel
theorem ddA_free_72 : decode cA_free 72 = .ok (.iload_n 2, 1) := by decide +kernel
theorem ddA_free_73 : decode cA_free 73 = .ok (.invokevirtual 233, 3) := by decide +kernel
theorem ddA_free_76 : decode cA_free 76 = .ok (.ireturn, 1) := by decide +kernel
set_option maxHeartbeats 2000000 in
theorem zBA_free_50 {G : GXM} {X : CxM} (hG : GokM G) (C : CoM G X cA_free "HomeFreed") (N : mLM X = 3) {d : Nat} (hD : dpM X = d) (hd : 4 ≤ d)  {q : Int32 × Mem} (E : EnM G X (some .int) (some (.int q.1)) q.2 0 0) {v0 : Nat} {M : Mem} (h : BA_free_50 v0 M = some q) : ZM G X 50 [(0, .ref v0)] [] M 0 0 := by
  unfold BA_free_50 at h
  refine zz_aload_n C 0 ddA_free_50 rfl rfl ?_
  refine zz_iconst (v := 2) C ddA_free_51 (by decide) ?_
  obtain ⟨h2, h⟩ := gdN h
  obtain ⟨q1, hq1, h⟩ := bindN h
  refine zz_callV0 (As := [.int 2]) C ddA_free_52 wd_657 my_A_refuse mv_A_refuse ⟨_, rfl, rfl⟩ (xA_refuse hG (d - 1) (by omega) hq1) (by omega) h2 rfl rfl (Nat.le_of_ble_eq_true rfl) ?_
  obtain rfl := Option.some.inj h
  exact zz_iret C E ddA_free_55
set_option maxHeartbeats 2000000 in
theorem zBA_free_22 {G : GXM} {X : CxM} (hG : GokM G) (C : CoM G X cA_free "HomeFreed") (N : mLM X = 3) {d : Nat} (hD : dpM X = d) (hd : 4 ≤ d)  {q : Int32 × Mem} (E : EnM G X (some .int) (some (.int q.1)) q.2 0 0) {v0 : Nat} {M : Mem} (h : BA_free_22 v0 M = some q) : ZM G X 22 [(0, .ref v0)] [] M 0 0 := by
  unfold BA_free_22 at h
  refine zz_aload_n C 0 ddA_free_22 rfl rfl ?_
  refine zz_iconst (v := 0) C ddA_free_23 (by decide) ?_
  obtain ⟨h2, h⟩ := gdN h
  obtain ⟨q1, hq1, h⟩ := bindN h
  refine zz_callV0 (As := [.int 0]) C ddA_free_24 wd_657 my_A_refuse mv_A_refuse ⟨_, rfl, rfl⟩ (xA_refuse hG (d - 1) (by omega) hq1) (by omega) h2 rfl rfl (Nat.le_of_ble_eq_true rfl) ?_
  obtain rfl := Option.some.inj h
  exact zz_iret C E ddA_free_27
set_option maxHeartbeats 2000000 in
theorem xA_free {G : GXM} {l : Launch} (hG : GokM G) (d : Nat) (hd : 4 ≤ d) {v0 : Nat} {v1 : Int32} {v2 : Int32} {M : Mem} {q : Int32 × Mem} (h : fA_free v0 v1 v2 M = some q) : ExM G l d 0 0 yA_free cA_free 3 (some .int) [.ref v0, .int v1, .int v2] M (some (.int q.1)) q.2 := by
  refine ex_of hG (by decide +kernel) (Nat.le_of_ble_eq_true rfl) ?_
  intro X hl C E N hD hn
  show ZM G X 0 [(0, .ref v0), (1, .int v1), (2, .int v2)] [] M 0 0
  unfold fA_free at h
  refine zz_aload_n C 0 ddA_free_0 rfl rfl ?_
  obtain ⟨h1, h⟩ := gdN h
  obtain ⟨h2, h⟩ := gdN h
  refine zz_getr C ddA_free_1 fl_A_55 rfl h1 (of_decide_eq_true h2) ?_
  refine zz_iload_n C 1 ddA_free_4 rfl rfl ?_
  obtain ⟨h4, h⟩ := gdN h
  obtain ⟨q3, hq3, h⟩ := bindN h
  refine zz_callV0 (As := [.int v1]) C ddA_free_5 wd_602 my_H_isThread mv_H_isThread ⟨_, rfl, rfl⟩ (xH_isThread hG (d - 1) (by omega) hq3) (by omega) h4 rfl rfl (Nat.le_of_ble_eq_true rfl) ?_
  refine zz_if_eq (tgt := 22) C ddA_free_8 rfl (fun hc => ?_) (fun hc => ?_)
  · replace h := iteT h hc
    refine zz_loc (L1 := [(0, .ref v0)]) [0] rfl ?_
    exact zBA_free_22 hG C N hD hd E h
  · replace h := iteF h hc
    refine zz_aload_n C 0 ddA_free_11 rfl rfl ?_
    obtain ⟨h5, h⟩ := gdN h
    obtain ⟨h6, h⟩ := gdN h
    refine zz_getr C ddA_free_12 fl_A_55 rfl h5 (of_decide_eq_true h6) ?_
    refine zz_iload_n C 2 ddA_free_15 rfl rfl ?_
    obtain ⟨h8, h⟩ := gdN h
    obtain ⟨q7, hq7, h⟩ := bindN h
    refine zz_callV0 (As := [.int v2]) C ddA_free_16 wd_640 my_H_isBlock mv_H_isBlock ⟨_, rfl, rfl⟩ (xH_isBlock hG (d - 1) (by omega) hq7) (by omega) h8 rfl rfl (Nat.le_of_ble_eq_true rfl) ?_
    refine zz_if_ne (tgt := 28) C ddA_free_19 rfl (fun hc => ?_) (fun hc => ?_)
    · replace h := iteF h hc
      refine zz_aload_n C 0 ddA_free_28 rfl rfl ?_
      obtain ⟨h9, h⟩ := gdN h
      obtain ⟨h10, h⟩ := gdN h
      refine zz_getr C ddA_free_29 fl_A_55 rfl h9 (of_decide_eq_true h10) ?_
      refine zz_iload_n C 1 ddA_free_32 rfl rfl ?_
      obtain ⟨h12, h⟩ := gdN h
      obtain ⟨q11, hq11, h⟩ := bindN h
      refine zz_callV0 (As := [.int v1]) C ddA_free_33 wd_606 my_H_isLiving mv_H_isLiving ⟨_, rfl, rfl⟩ (xH_isLiving hG (d - 1) (by omega) hq11) (by omega) h12 rfl rfl (Nat.le_of_ble_eq_true rfl) ?_
      refine zz_if_eq (tgt := 50) C ddA_free_36 rfl (fun hc => ?_) (fun hc => ?_)
      · replace h := iteT h hc
        refine zz_loc (L1 := [(0, .ref v0)]) [0] rfl ?_
        exact zBA_free_50 hG C N hD hd E h
      · replace h := iteF h hc
        refine zz_aload_n C 0 ddA_free_39 rfl rfl ?_
        obtain ⟨h13, h⟩ := gdN h
        obtain ⟨h14, h⟩ := gdN h
        refine zz_getr C ddA_free_40 fl_A_55 rfl h13 (of_decide_eq_true h14) ?_
        refine zz_iload_n C 2 ddA_free_43 rfl rfl ?_
        obtain ⟨h16, h⟩ := gdN h
        obtain ⟨q15, hq15, h⟩ := bindN h
        refine zz_callV0 (As := [.int v2]) C ddA_free_44 wd_644 my_H_isHeld mv_H_isHeld ⟨_, rfl, rfl⟩ (xH_isHeld hG (d - 1) (by omega) hq15) (by omega) h16 rfl rfl (Nat.le_of_ble_eq_true rfl) ?_
        refine zz_if_ne (tgt := 56) C ddA_free_47 rfl (fun hc => ?_) (fun hc => ?_)
        · replace h := iteF h hc
          refine zz_aload_n C 0 ddA_free_56 rfl rfl ?_
          obtain ⟨h17, h⟩ := gdN h
          obtain ⟨h18, h⟩ := gdN h
          refine zz_getr C ddA_free_57 fl_A_62 rfl h17 (of_decide_eq_true h18) ?_
          refine zz_aload_n C 0 ddA_free_60 rfl rfl ?_
          obtain ⟨h19, h⟩ := gdN h
          refine zz_getr C ddA_free_61 fl_A_55 rfl h17 (of_decide_eq_true h19) ?_
          obtain ⟨h21, h⟩ := gdN h
          obtain ⟨q20, hq20, h⟩ := bindN h
          refine zz_callV0 (As := [.ref (grM q15.2 v0 7)]) C ddA_free_64 wd_674 my_P_keep mv_P_keep ⟨_, rfl, rfl⟩ (xP_keep hG (d - 1) (by omega) hq20) (by omega) h21 rfl rfl (Nat.le_of_ble_eq_true rfl) ?_
          refine zz_aload_n C 0 ddA_free_67 rfl rfl ?_
          obtain ⟨h22, h⟩ := gdN h
          obtain ⟨h23, h⟩ := gdN h
          refine zz_getr C ddA_free_68 fl_A_55 rfl h22 (of_decide_eq_true h23) ?_
          refine zz_iload_n C 1 ddA_free_71 rfl rfl ?_
          refine zz_iload_n C 2 ddA_free_72 rfl rfl ?_
          obtain ⟨h25, h⟩ := gdN h
          obtain ⟨q24, hq24, h⟩ := bindN h
          refine zz_callV0 (As := [.int v1, .int v2]) C ddA_free_73 wd_778 my_H_giveBlock mv_H_giveBlock ⟨_, rfl, rfl⟩ (xH_giveBlock hG (d - 1) (by omega) hq24) (by omega) h25 rfl rfl (Nat.le_of_ble_eq_true rfl) ?_
          obtain rfl := Option.some.inj h
          exact zz_iret C E ddA_free_76
        · replace h := iteT h hc
          refine zz_loc (L1 := [(0, .ref v0)]) [0] rfl ?_
          exact zBA_free_50 hG C N hD hd E h
    · replace h := iteT h hc
      refine zz_loc (L1 := [(0, .ref v0)]) [0] rfl ?_
      exact zBA_free_22 hG C N hD hd E h
theorem ddA_isIdle_0 : decode cA_isIdle 0 = .ok (.aload_n 0, 1) := by decide +kernel
theorem ddA_isIdle_1 : decode cA_isIdle 1 = .ok (.getfield 55, 3) := by decide +kernel
theorem ddA_isIdle_4 : decode cA_isIdle 4 = .ok (.iload_n 1, 1) := by decide +kernel
theorem ddA_isIdle_5 : decode cA_isIdle 5 = .ok (.invokevirtual 187, 3) := by decide +kernel
theorem ddA_isIdle_8 : decode cA_isIdle 8 = .ok (.ifCond .ne 11, 3) := by decide +kernel
theorem ddA_isIdle_11 : decode cA_isIdle 11 = .ok (.aload_n 0, 1) := by decide +kernel
theorem ddA_isIdle_12 : decode cA_isIdle 12 = .ok (.iconst 0, 1) := by decide +kernel
theorem ddA_isIdle_13 : decode cA_isIdle 13 = .ok (.invokevirtual 217, 3) := by decide +kernel
theorem ddA_isIdle_16 : decode cA_isIdle 16 = .ok (.pop, 1) := by decide +kernel
theorem ddA_isIdle_17 : decode cA_isIdle 17 = .ok (.iconst 1, 1) := by decide +kernel
theorem ddA_isIdle_18 : decode cA_isIdle 18 = .ok (.ireturn, 1) := by decide +kernel
theorem ddA_isIdle_19 : decode cA_isIdle 19 = .ok (.aload_n 0, 1) := by decide +kernel
theorem ddA_isIdle_20 : decode cA_isIdle 20 = .ok (.getfield 55, 3) := by decide +kernel
theorem ddA_isIdle_23 : decode cA_isIdle 23 = .ok (.iload_n 1, 1) := by decide +kernel
theorem ddA_isIdle_24 : decode cA_isIdle 24 = .ok (.invokevirtual 190, 3) := by decide +kernel
theorem ddA_isIdle_27 : decode cA_isIdle 27 = .ok (.ifCond .ne 11, 3) := by decide +kernel
theorem ddA_isIdle_30 : decode cA_isIdle 30 = .ok (.aload_n 0, 1) := by decide +kernel
theorem ddA_isIdle_31 : decode cA_isIdle 31 = .ok (.iconst 2, 1) := by decide +kernel
theorem ddA_isIdle_32 : decode cA_isIdle 32 = .ok (.invokevirtual 217, 3) := by decide +kernel
theorem ddA_isIdle_35 : decode cA_isIdle 35 = .ok (.pop, 1) := by decide +kernel
theorem ddA_isIdle_36 : decode cA_isIdle 36 = .ok (.iconst 1, 1) := by decide +kernel
theorem ddA_isIdle_37 : decode cA_isIdle 37 = .ok (.ireturn, 1) := by decide +kernel
theorem ddA_isIdle_38 : decode cA_isIdle 38 = .ok (.iconst 0, 1) := by decide +kernel
theorem ddA_isIdle_39 : decode cA_isIdle 39 = .ok (.ireturn, 1) := by decide +kernel
set_option maxHeartbeats 2000000 in
theorem xA_isIdle {G : GXM} {l : Launch} (hG : GokM G) (d : Nat) (hd : 2 ≤ d) {v0 : Nat} {v1 : Int32} {M : Mem} {q : Int32 × Mem} (h : fA_isIdle v0 v1 M = some q) : ExM G l d 0 0 yA_isIdle cA_isIdle 2 (some .boolean) [.ref v0, .int v1] M (some (.int q.1)) q.2 := by
  refine ex_of hG (by decide +kernel) (Nat.le_of_ble_eq_true rfl) ?_
  intro X hl C E N hD hn
  show ZM G X 0 [(0, .ref v0), (1, .int v1)] [] M 0 0
  unfold fA_isIdle at h
  refine zz_aload_n C 0 ddA_isIdle_0 rfl rfl ?_
  obtain ⟨h1, h⟩ := gdN h
  obtain ⟨h2, h⟩ := gdN h
  refine zz_getr C ddA_isIdle_1 fl_A_55 rfl h1 (of_decide_eq_true h2) ?_
  refine zz_iload_n C 1 ddA_isIdle_4 rfl rfl ?_
  obtain ⟨h4, h⟩ := gdN h
  obtain ⟨q3, hq3, h⟩ := bindN h
  refine zz_callV0 (As := [.int v1]) C ddA_isIdle_5 wd_602 my_H_isThread mv_H_isThread ⟨_, rfl, rfl⟩ (xH_isThread hG (d - 1) (by omega) hq3) (by omega) h4 rfl rfl (Nat.le_of_ble_eq_true rfl) ?_
  refine zz_if_ne (tgt := 19) C ddA_isIdle_8 rfl (fun hc => ?_) (fun hc => ?_)
  · replace h := iteF h hc
    refine zz_aload_n C 0 ddA_isIdle_19 rfl rfl ?_
    obtain ⟨h5, h⟩ := gdN h
    obtain ⟨h6, h⟩ := gdN h
    refine zz_getr C ddA_isIdle_20 fl_A_55 rfl h5 (of_decide_eq_true h6) ?_
    refine zz_iload_n C 1 ddA_isIdle_23 rfl rfl ?_
    obtain ⟨h8, h⟩ := gdN h
    obtain ⟨q7, hq7, h⟩ := bindN h
    refine zz_callV0 (As := [.int v1]) C ddA_isIdle_24 wd_606 my_H_isLiving mv_H_isLiving ⟨_, rfl, rfl⟩ (xH_isLiving hG (d - 1) (by omega) hq7) (by omega) h8 rfl rfl (Nat.le_of_ble_eq_true rfl) ?_
    refine zz_if_ne (tgt := 38) C ddA_isIdle_27 rfl (fun hc => ?_) (fun hc => ?_)
    · replace h := iteF h hc
      refine zz_iconst (v := 0) C ddA_isIdle_38 (by decide) ?_
      obtain rfl := Option.some.inj h
      exact zz_zret C (by decide) E ddA_isIdle_39
    · replace h := iteT h hc
      refine zz_aload_n C 0 ddA_isIdle_30 rfl rfl ?_
      refine zz_iconst (v := 2) C ddA_isIdle_31 (by decide) ?_
      obtain ⟨h10, h⟩ := gdN h
      obtain ⟨q9, hq9, h⟩ := bindN h
      refine zz_callV0 (As := [.int 2]) C ddA_isIdle_32 wd_657 my_A_refuse mv_A_refuse ⟨_, rfl, rfl⟩ (xA_refuse hG (d - 1) (by omega) hq9) (by omega) h10 rfl rfl (Nat.le_of_ble_eq_true rfl) ?_
      refine zz_pop C ddA_isIdle_35 rfl ?_
      refine zz_iconst (v := 1) C ddA_isIdle_36 (by decide) ?_
      obtain rfl := Option.some.inj h
      exact zz_zret C (by decide) E ddA_isIdle_37
  · replace h := iteT h hc
    refine zz_aload_n C 0 ddA_isIdle_11 rfl rfl ?_
    refine zz_iconst (v := 0) C ddA_isIdle_12 (by decide) ?_
    obtain ⟨h12, h⟩ := gdN h
    obtain ⟨q11, hq11, h⟩ := bindN h
    refine zz_callV0 (As := [.int 0]) C ddA_isIdle_13 wd_657 my_A_refuse mv_A_refuse ⟨_, rfl, rfl⟩ (xA_refuse hG (d - 1) (by omega) hq11) (by omega) h12 rfl rfl (Nat.le_of_ble_eq_true rfl) ?_
    refine zz_pop C ddA_isIdle_16 rfl ?_
    refine zz_iconst (v := 1) C ddA_isIdle_17 (by decide) ?_
    obtain rfl := Option.some.inj h
    exact zz_zret C (by decide) E ddA_isIdle_18
theorem ddA_tick_0 : decode cA_tick 0 = .ok (.aload_n 0, 1) := by decide +kernel
theorem ddA_tick_1 : decode cA_tick 1 = .ok (.iload_n 1, 1) := by decide +kernel
theorem ddA_tick_2 : decode cA_tick 2 = .ok (.invokevirtual 236, 3) := by decide +kernel
theorem ddA_tick_5 : decode cA_tick 5 = .ok (.ifCond .eq 5, 3) := by decide +kernel
theorem ddA_tick_8 : decode cA_tick 8 = .ok (.iconst (-1), 1) := by decide +kernel
theorem ddA_tick_9 : decode cA_tick 9 = .ok (.ireturn, 1) := by decide +kernel
theorem ddA_tick_10 : decode cA_tick 10 = .ok (.aload_n 0, 1) := by decide +kernel
theorem ddA_tick_11 : decode cA_tick 11 = .ok (.getfield 62, 3) := by decide +kernel
theorem ddA_tick_14 : decode cA_tick 14 = .ok (.aload_n 0, 1) := by decide +kernel
theorem ddA_tick_15 : decode cA_tick 15 = .ok (.getfield 55, 3) := by decide +kernel
theorem ddA_tick_18 : decode cA_tick 18 = .ok (.invokevirtual 226, 3) := by decide +kernel
theorem ddA_tick_21 : decode cA_tick 21 = .ok (.aload_n 0, 1) := by decide +kernel
theorem ddA_tick_22 : decode cA_tick 22 = .ok (.getfield 55, 3) := by decide +kernel
theorem ddA_tick_25 : decode cA_tick 25 = .ok (.iload_n 1, 1) := by decide +kernel
theorem ddA_tick_26 : decode cA_tick 26 = .ok (.invokevirtual 239, 3) := by decide +kernel
theorem ddA_tick_29 : decode cA_tick 29 = .ok (.aload_n 0, 1) := by decide +kernel
theorem ddA_tick_30 : decode cA_tick 30 = .ok (.getfield 55, 3) := by decide +kernel
theorem ddA_tick_33 : decode cA_tick 33 = .ok (.iload_n 1, 1) := by decide +kernel
theorem ddA_tick_34 : decode cA_tick 34 = .ok (.invokevirtual 193, 3) := by decide +kernel
theorem ddA_tick_37 : decode cA_tick 37 = .ok (.ireturn, 1) := by decide +kernel
set_option maxHeartbeats 2000000 in
theorem xA_tick {G : GXM} {l : Launch} (hG : GokM G) (d : Nat) (hd : 4 ≤ d) {v0 : Nat} {v1 : Int32} {M : Mem} {q : Int32 × Mem} (h : fA_tick v0 v1 M = some q) : ExM G l d 0 0 yA_tick cA_tick 2 (some .int) [.ref v0, .int v1] M (some (.int q.1)) q.2 := by
  refine ex_of hG (by decide +kernel) (Nat.le_of_ble_eq_true rfl) ?_
  intro X hl C E N hD hn
  show ZM G X 0 [(0, .ref v0), (1, .int v1)] [] M 0 0
  unfold fA_tick at h
  refine zz_aload_n C 0 ddA_tick_0 rfl rfl ?_
  refine zz_iload_n C 1 ddA_tick_1 rfl rfl ?_
  obtain ⟨h2, h⟩ := gdN h
  obtain ⟨q1, hq1, h⟩ := bindN h
  refine zz_callV0 (As := [.int v1]) C ddA_tick_2 wd_787 my_A_isIdle mv_A_isIdle ⟨_, rfl, rfl⟩ (xA_isIdle hG (d - 1) (by omega) hq1) (by omega) h2 rfl rfl (Nat.le_of_ble_eq_true rfl) ?_
  refine zz_if_eq (tgt := 10) C ddA_tick_5 rfl (fun hc => ?_) (fun hc => ?_)
  · replace h := iteT h hc
    refine zz_aload_n C 0 ddA_tick_10 rfl rfl ?_
    obtain ⟨h3, h⟩ := gdN h
    obtain ⟨h4, h⟩ := gdN h
    refine zz_getr C ddA_tick_11 fl_A_62 rfl h3 (of_decide_eq_true h4) ?_
    refine zz_aload_n C 0 ddA_tick_14 rfl rfl ?_
    obtain ⟨h5, h⟩ := gdN h
    refine zz_getr C ddA_tick_15 fl_A_55 rfl h3 (of_decide_eq_true h5) ?_
    obtain ⟨h7, h⟩ := gdN h
    obtain ⟨q6, hq6, h⟩ := bindN h
    refine zz_callV0 (As := [.ref (grM q1.2 v0 7)]) C ddA_tick_18 wd_674 my_P_keep mv_P_keep ⟨_, rfl, rfl⟩ (xP_keep hG (d - 1) (by omega) hq6) (by omega) h7 rfl rfl (Nat.le_of_ble_eq_true rfl) ?_
    refine zz_aload_n C 0 ddA_tick_21 rfl rfl ?_
    obtain ⟨h8, h⟩ := gdN h
    obtain ⟨h9, h⟩ := gdN h
    refine zz_getr C ddA_tick_22 fl_A_55 rfl h8 (of_decide_eq_true h9) ?_
    refine zz_iload_n C 1 ddA_tick_25 rfl rfl ?_
    obtain ⟨h11, h⟩ := gdN h
    obtain ⟨q10, hq10, h⟩ := bindN h
    refine zz_callV0 (As := [.int v1]) C ddA_tick_26 wd_791 my_H_beat mv_H_beat ⟨_, rfl, rfl⟩ (xH_beat hG (d - 1) (by omega) hq10) (by omega) h11 rfl rfl (Nat.le_of_ble_eq_true rfl) ?_
    refine zz_aload_n C 0 ddA_tick_29 rfl rfl ?_
    obtain ⟨h12, h⟩ := gdN h
    obtain ⟨h13, h⟩ := gdN h
    refine zz_getr C ddA_tick_30 fl_A_55 rfl h12 (of_decide_eq_true h13) ?_
    refine zz_iload_n C 1 ddA_tick_33 rfl rfl ?_
    obtain ⟨h15, h⟩ := gdN h
    obtain ⟨q14, hq14, h⟩ := bindN h
    refine zz_callV0 (As := [.int v1]) C ddA_tick_34 wd_611 my_H_pagesOf mv_H_pagesOf ⟨_, rfl, rfl⟩ (xH_pagesOf hG (d - 1) (by omega) hq14) (by omega) h15 rfl rfl (Nat.le_of_ble_eq_true rfl) ?_
    obtain rfl := Option.some.inj h
    exact zz_iret C E ddA_tick_37
  · replace h := iteF h hc
    refine zz_iconst (v := (-1)) C ddA_tick_8 (by decide) ?_
    obtain rfl := Option.some.inj h
    exact zz_iret C E ddA_tick_9
theorem ddH_sendAll_0 : decode cH_sendAll 0 = .ok (.iconst 0, 1) := by decide +kernel
theorem ddH_sendAll_1 : decode cH_sendAll 1 = .ok (.istore_n 2, 1) := by decide +kernel
theorem ddH_sendAll_2 : decode cH_sendAll 2 = .ok (.iconst 0, 1) := by decide +kernel
theorem ddH_sendAll_3 : decode cH_sendAll 3 = .ok (.istore_n 3, 1) := by decide +kernel
theorem ddH_sendAll_4 : decode cH_sendAll 4 = .ok (.iload_n 3, 1) := by decide +kernel
theorem ddH_sendAll_5 : decode cH_sendAll 5 = .ok (.aload_n 0, 1) := by decide +kernel
theorem ddH_sendAll_6 : decode cH_sendAll 6 = .ok (.getfield 46, 3) := by decide +kernel
theorem ddH_sendAll_9 : decode cH_sendAll 9 = .ok (.getfield 76, 3) := by decide +kernel
theorem ddH_sendAll_12 : decode cH_sendAll 12 = .ok (.iconst 1, 1) := by decide +kernel
theorem ddH_sendAll_13 : decode cH_sendAll 13 = .ok (.iaload, 1) := by decide +kernel
theorem ddH_sendAll_14 : decode cH_sendAll 14 = .ok (.if_icmp .ge 18, 3) := by decide +kernel
theorem ddH_sendAll_17 : decode cH_sendAll 17 = .ok (.iload_n 2, 1) := by decide +kernel
theorem ddH_sendAll_18 : decode cH_sendAll 18 = .ok (.aload_n 0, 1) := by decide +kernel
theorem ddH_sendAll_19 : decode cH_sendAll 19 = .ok (.iload_n 1, 1) := by decide +kernel
theorem ddH_sendAll_20 : decode cH_sendAll 20 = .ok (.iload_n 3, 1) := by decide +kernel
theorem ddH_sendAll_21 : decode cH_sendAll 21 = .ok (.invokevirtual 193, 3) := by decide +kernel
theorem ddH_sendAll_24 : decode cH_sendAll 24 = .ok (.iadd, 1) := by decide +kernel
theorem ddH_sendAll_25 : decode cH_sendAll 25 = .ok (.istore_n 2, 1) := by decide +kernel
theorem ddH_sendAll_26 : decode cH_sendAll 26 = .ok (.iinc 3 1, 3) := by decide +kernel
theorem ddH_sendAll_29 : decode cH_sendAll 29 = .ok (.goto (-25), 3) := by decide +kernel
theorem ddH_sendAll_32 : decode cH_sendAll 32 = .ok (.iload_n 2, 1) := by decide +kernel
theorem ddH_sendAll_33 : decode cH_sendAll 33 = .ok (.ireturn, 1) := by decide +kernel
set_option maxHeartbeats 2000000 in
theorem zBH_sendAll_4 {G : GXM} {X : CxM} (hG : GokM G) (C : CoM G X cH_sendAll "HomeFreed$Heap") (N : mLM X = 4) {d : Nat} (hD : dpM X = d) (hd : 2 ≤ d) {v0 : Nat} {v1 : Int32} {K : Nat → Int32 → Int32 → Int32 → Mem → Option ((Int32 × Mem))} {q : (Int32 × Mem)} (hK : ∀ (v2 : Int32) (v3 : Int32) (M : Mem), K v0 v1 v2 v3 M = some q → ZM G X 4 [(0, .ref v0), (1, .int v1), (2, .int v2), (3, .int v3)] [] M 0 0) (hr : ∀ r : Int32 × Mem, q =  r → EnM G X (some .int) (some (.int r.1)) r.2 0 0) {v2 : Int32} {v3 : Int32} {M : Mem} (h : BH_sendAll_4 K v0 v1 v2 v3 M = some q) : ZM G X 4 [(0, .ref v0), (1, .int v1), (2, .int v2), (3, .int v3)] [] M 0 0 := by
  unfold BH_sendAll_4 at h
  refine zz_iload_n C 3 ddH_sendAll_4 rfl rfl ?_
  refine zz_aload_n C 0 ddH_sendAll_5 rfl rfl ?_
  obtain ⟨h1, h⟩ := gdN h
  obtain ⟨h2, h⟩ := gdN h
  refine zz_getr C ddH_sendAll_6 fl_H_46 rfl h1 (of_decide_eq_true h2) ?_
  obtain ⟨h3, h⟩ := gdN h
  obtain ⟨h4, h⟩ := gdN h
  refine zz_getr C ddH_sendAll_9 fl_H_76 rfl h3 (of_decide_eq_true h4) ?_
  refine zz_iconst (v := 1) C ddH_sendAll_12 (by decide) ?_
  obtain ⟨h5, h⟩ := gdN h
  refine zz_iaload C ddH_sendAll_13 h5 ?_
  refine zz_icmp_ge (tgt := 32) C ddH_sendAll_14 rfl (fun hc => ?_) (fun hc => ?_)
  · replace h := iteT h hc
    refine zz_iload_n C 2 ddH_sendAll_32 rfl rfl ?_
    exact zz_iret C (hr _ (Option.some.inj h).symm) ddH_sendAll_33
  · replace h := iteF h hc
    refine zz_iload_n C 2 ddH_sendAll_17 rfl rfl ?_
    refine zz_aload_n C 0 ddH_sendAll_18 rfl rfl ?_
    refine zz_iload_n C 1 ddH_sendAll_19 rfl rfl ?_
    refine zz_iload_n C 3 ddH_sendAll_20 rfl rfl ?_
    obtain ⟨q6, hq6, h⟩ := bindN h
    refine zz_callV0 (As := [.int v1, .int v3]) C ddH_sendAll_21 wd_754 my_H_goHome mv_H_goHome ⟨_, rfl, rfl⟩ (xH_goHome hG (d - 1) (by omega) hq6) (by omega) h1 rfl rfl (Nat.le_of_ble_eq_true rfl) ?_
    refine zz_iadd C ddH_sendAll_24 ?_
    refine zz_istore_n (L1 := [(2, .int (v2 + q6.1)), (0, .ref v0), (1, .int v1), (3, .int v3)]) C ddH_sendAll_25 rfl N (by decide) rfl ?_
    refine zz_iinc (v := v3 + 1) (L1 := [(3, .int (v3 + 1)), (2, .int (v2 + q6.1)), (0, .ref v0), (1, .int v1)]) C 3 ddH_sendAll_26 rfl rfl N (by decide) rfl ?_
    refine zz_goto (tgt := 4) C ddH_sendAll_29 rfl ?_
    refine zz_loc (L1 := [(0, .ref v0), (1, .int v1), (2, .int (v2 + q6.1)), (3, .int (v3 + 1))]) [2, 3, 1, 0] rfl ?_
    exact hK _ _ _ h
set_option maxHeartbeats 2000000 in
theorem zLH_sendAll_4 {G : GXM} {X : CxM} (hG : GokM G) (C : CoM G X cH_sendAll "HomeFreed$Heap") (N : mLM X = 4) {d : Nat} (hD : dpM X = d) (hd : 2 ≤ d) {v0 : Nat} {v1 : Int32} {q : (Int32 × Mem)} : ∀ (f : Nat) (v2 : Int32) (v3 : Int32) (M : Mem), LH_sendAll_4 f v0 v1 v2 v3 M = some q → (hr : ∀ r : Int32 × Mem, q =  r → EnM G X (some .int) (some (.int r.1)) r.2 0 0) → ZM G X 4 [(0, .ref v0), (1, .int v1), (2, .int v2), (3, .int v3)] [] M 0 0 := by
  intro f
  induction f with
  | zero => intro v2 v3 M h; cases h
  | succ f ih =>
    intro v2 v3 M h hr
    exact zBH_sendAll_4 hG C N hD hd (K := LH_sendAll_4 f) (q := q) (fun v2 v3 M h => ih v2 v3 M h hr) hr h
set_option maxHeartbeats 2000000 in
theorem xH_sendAll {G : GXM} {l : Launch} (hG : GokM G) (d : Nat) (hd : 2 ≤ d) {v0 : Nat} {v1 : Int32} {M : Mem} {q : Int32 × Mem} (h : fH_sendAll v0 v1 M = some q) : ExM G l d 0 0 yH_sendAll cH_sendAll 4 (some .int) [.ref v0, .int v1] M (some (.int q.1)) q.2 := by
  refine ex_of hG (by decide +kernel) (Nat.le_of_ble_eq_true rfl) ?_
  intro X hl C E N hD hn
  show ZM G X 0 [(0, .ref v0), (1, .int v1)] [] M 0 0
  unfold fH_sendAll at h
  refine zz_iconst (v := 0) C ddH_sendAll_0 (by decide) ?_
  refine zz_istore_n (L1 := [(2, .int 0), (0, .ref v0), (1, .int v1)]) C ddH_sendAll_1 rfl N (by decide) rfl ?_
  refine zz_iconst (v := 0) C ddH_sendAll_2 (by decide) ?_
  refine zz_istore_n (L1 := [(3, .int 0), (2, .int 0), (0, .ref v0), (1, .int v1)]) C ddH_sendAll_3 rfl N (by decide) rfl ?_
  refine zz_loc (L1 := [(0, .ref v0), (1, .int v1), (2, .int 0), (3, .int 0)]) [2, 3, 1, 0] rfl ?_
  obtain ⟨q1, hq1, h⟩ := bindN h
  refine zLH_sendAll_4 hG C N hD hd 1000000 _ _ _ hq1 ?_
  · intro r2 eq1; replace eq1 := eq1.symm; subst eq1
    obtain rfl := Option.some.inj h
    exact E
theorem ddA_send_0 : decode cA_send 0 = .ok (.aload_n 0, 1) := by decide +kernel
theorem ddA_send_1 : decode cA_send 1 = .ok (.iload_n 1, 1) := by decide +kernel
theorem ddA_send_2 : decode cA_send 2 = .ok (.invokevirtual 236, 3) := by decide +kernel
theorem ddA_send_5 : decode cA_send 5 = .ok (.ifCond .eq 5, 3) := by decide +kernel
theorem ddA_send_8 : decode cA_send 8 = .ok (.iconst (-1), 1) := by decide +kernel
theorem ddA_send_9 : decode cA_send 9 = .ok (.ireturn, 1) := by decide +kernel
theorem ddA_send_10 : decode cA_send 10 = .ok (.aload_n 0, 1) := by decide +kernel
theorem ddA_send_11 : decode cA_send 11 = .ok (.getfield 62, 3) := by decide +kernel
theorem ddA_send_14 : decode cA_send 14 = .ok (.aload_n 0, 1) := by decide +kernel
theorem ddA_send_15 : decode cA_send 15 = .ok (.getfield 55, 3) := by decide +kernel
theorem ddA_send_18 : decode cA_send 18 = .ok (.invokevirtual 226, 3) := by decide +kernel
theorem ddA_send_21 : decode cA_send 21 = .ok (.aload_n 0, 1) := by decide +kernel
theorem ddA_send_22 : decode cA_send 22 = .ok (.getfield 55, 3) := by decide +kernel
theorem ddA_send_25 : decode cA_send 25 = .ok (.iload_n 1, 1) := by decide +kernel
theorem ddA_send_26 : decode cA_send 26 = .ok (.invokevirtual 242, 3) := by decide +kernel
theorem ddA_send_29 : decode cA_send 29 = .ok (.ireturn, 1) := by decide +kernel
set_option maxHeartbeats 2000000 in
theorem xA_send {G : GXM} {l : Launch} (hG : GokM G) (d : Nat) (hd : 4 ≤ d) {v0 : Nat} {v1 : Int32} {M : Mem} {q : Int32 × Mem} (h : fA_send v0 v1 M = some q) : ExM G l d 0 0 yA_send cA_send 2 (some .int) [.ref v0, .int v1] M (some (.int q.1)) q.2 := by
  refine ex_of hG (by decide +kernel) (Nat.le_of_ble_eq_true rfl) ?_
  intro X hl C E N hD hn
  show ZM G X 0 [(0, .ref v0), (1, .int v1)] [] M 0 0
  unfold fA_send at h
  refine zz_aload_n C 0 ddA_send_0 rfl rfl ?_
  refine zz_iload_n C 1 ddA_send_1 rfl rfl ?_
  obtain ⟨h2, h⟩ := gdN h
  obtain ⟨q1, hq1, h⟩ := bindN h
  refine zz_callV0 (As := [.int v1]) C ddA_send_2 wd_787 my_A_isIdle mv_A_isIdle ⟨_, rfl, rfl⟩ (xA_isIdle hG (d - 1) (by omega) hq1) (by omega) h2 rfl rfl (Nat.le_of_ble_eq_true rfl) ?_
  refine zz_if_eq (tgt := 10) C ddA_send_5 rfl (fun hc => ?_) (fun hc => ?_)
  · replace h := iteT h hc
    refine zz_aload_n C 0 ddA_send_10 rfl rfl ?_
    obtain ⟨h3, h⟩ := gdN h
    obtain ⟨h4, h⟩ := gdN h
    refine zz_getr C ddA_send_11 fl_A_62 rfl h3 (of_decide_eq_true h4) ?_
    refine zz_aload_n C 0 ddA_send_14 rfl rfl ?_
    obtain ⟨h5, h⟩ := gdN h
    refine zz_getr C ddA_send_15 fl_A_55 rfl h3 (of_decide_eq_true h5) ?_
    obtain ⟨h7, h⟩ := gdN h
    obtain ⟨q6, hq6, h⟩ := bindN h
    refine zz_callV0 (As := [.ref (grM q1.2 v0 7)]) C ddA_send_18 wd_674 my_P_keep mv_P_keep ⟨_, rfl, rfl⟩ (xP_keep hG (d - 1) (by omega) hq6) (by omega) h7 rfl rfl (Nat.le_of_ble_eq_true rfl) ?_
    refine zz_aload_n C 0 ddA_send_21 rfl rfl ?_
    obtain ⟨h8, h⟩ := gdN h
    obtain ⟨h9, h⟩ := gdN h
    refine zz_getr C ddA_send_22 fl_A_55 rfl h8 (of_decide_eq_true h9) ?_
    refine zz_iload_n C 1 ddA_send_25 rfl rfl ?_
    obtain ⟨h11, h⟩ := gdN h
    obtain ⟨q10, hq10, h⟩ := bindN h
    refine zz_callV0 (As := [.int v1]) C ddA_send_26 wd_796 my_H_sendAll mv_H_sendAll ⟨_, rfl, rfl⟩ (xH_sendAll hG (d - 1) (by omega) hq10) (by omega) h11 rfl rfl (Nat.le_of_ble_eq_true rfl) ?_
    obtain rfl := Option.some.inj h
    exact zz_iret C E ddA_send_29
  · replace h := iteF h hc
    refine zz_iconst (v := (-1)) C ddA_send_8 (by decide) ?_
    obtain rfl := Option.some.inj h
    exact zz_iret C E ddA_send_9
theorem ddH_turnOver_0 : decode cH_turnOver 0 = .ok (.aload_n 0, 1) := by decide +kernel
theorem ddH_turnOver_1 : decode cH_turnOver 1 = .ok (.iload_n 1, 1) := by decide +kernel
theorem ddH_turnOver_2 : decode cH_turnOver 2 = .ok (.invokevirtual 147, 3) := by decide +kernel
theorem ddH_turnOver_5 : decode cH_turnOver 5 = .ok (.ifCond .ne 11, 3) := by decide +kernel
theorem ddH_turnOver_8 : decode cH_turnOver 8 = .ok (.aload_n 0, 1) := by decide +kernel
theorem ddH_turnOver_9 : decode cH_turnOver 9 = .ok (.getfield 33, 3) := by decide +kernel
theorem ddH_turnOver_12 : decode cH_turnOver 12 = .ok (.iload_n 1, 1) := by decide +kernel
theorem ddH_turnOver_13 : decode cH_turnOver 13 = .ok (.iconst 1, 1) := by decide +kernel
theorem ddH_turnOver_14 : decode cH_turnOver 14 = .ok (.iastore, 1) := by decide +kernel
theorem ddH_turnOver_15 : decode cH_turnOver 15 = .ok (.return_, 1) := by decide +kernel
theorem ddH_turnOver_16 : decode cH_turnOver 16 = .ok (.aload_n 0, 1) := by decide +kernel
theorem ddH_turnOver_17 : decode cH_turnOver 17 = .ok (.iload_n 1, 1) := by decide +kernel
theorem ddH_turnOver_18 : decode cH_turnOver 18 = .ok (.invokevirtual 208, 3) := by decide +kernel
theorem ddH_turnOver_21 : decode cH_turnOver 21 = .ok (.pop, 1) := by decide +kernel
theorem ddH_turnOver_22 : decode cH_turnOver 22 = .ok (.iconst 0, 1) := by decide +kernel
theorem ddH_turnOver_23 : decode cH_turnOver 23 = .ok (.istore_n 2, 1) := by decide +kernel
theorem ddH_turnOver_24 : decode cH_turnOver 24 = .ok (.iload_n 2, 1) := by decide +kernel
theorem ddH_turnOver_25 : decode cH_turnOver 25 = .ok (.aload_n 0, 1) := by decide +kernel
theorem ddH_turnOver_26 : decode cH_turnOver 26 = .ok (.getfield 46, 3) := by decide +kernel
theorem ddH_turnOver_29 : decode cH_turnOver 29 = .ok (.getfield 76, 3) := by decide +kernel
theorem ddH_turnOver_32 : decode cH_turnOver 32 = .ok (.iconst 1, 1) := by decide +kernel
theorem ddH_turnOver_33 : decode cH_turnOver 33 = .ok (.iaload, 1) := by decide +kernel
theorem ddH_turnOver_34 : decode cH_turnOver 34 = .ok (.if_icmp .ge 60, 3) := by decide +kernel
theorem ddH_turnOver_37 : decode cH_turnOver 37 = .ok (.aload_n 0, 1) := by decide +kernel
theorem ddH_turnOver_38 : decode cH_turnOver 38 = .ok (.getfield 15, 3) := by decide +kernel
theorem ddH_turnOver_41 : decode cH_turnOver 41 = .ok (.iload_n 2, 1) := by decide +kernel
theorem ddH_turnOver_42 : decode cH_turnOver 42 = .ok (.iaload, 1) := by decide +kernel
theorem ddH_turnOver_43 : decode cH_turnOver 43 = .ok (.iload_n 1, 1) := by decide +kernel
theorem ddH_turnOver_44 : decode cH_turnOver 44 = .ok (.if_icmp .ne 19, 3) := by decide +kernel
theorem ddH_turnOver_47 : decode cH_turnOver 47 = .ok (.aload_n 0, 1) := by decide +kernel
theorem ddH_turnOver_48 : decode cH_turnOver 48 = .ok (.iload_n 2, 1) := by decide +kernel
theorem ddH_turnOver_49 : decode cH_turnOver 49 = .ok (.invokevirtual 102, 3) := by decide +kernel
theorem ddH_turnOver_52 : decode cH_turnOver 52 = .ok (.ifCond .ne 11, 3) := by decide +kernel
theorem ddH_turnOver_55 : decode cH_turnOver 55 = .ok (.aload_n 0, 1) := by decide +kernel
theorem ddH_turnOver_56 : decode cH_turnOver 56 = .ok (.iload_n 2, 1) := by decide +kernel
theorem ddH_turnOver_57 : decode cH_turnOver 57 = .ok (.invokevirtual 196, 3) := by decide +kernel
theorem ddH_turnOver_60 : decode cH_turnOver 60 = .ok (.goto 28, 3) := by decide +kernel
theorem ddH_turnOver_63 : decode cH_turnOver 63 = .ok (.aload_n 0, 1) := by decide +kernel
theorem ddH_turnOver_64 : decode cH_turnOver 64 = .ok (.getfield 15, 3) := by decide +kernel
theorem ddH_turnOver_67 : decode cH_turnOver 67 = .ok (.iload_n 2, 1) := by decide +kernel
theorem ddH_turnOver_68 : decode cH_turnOver 68 = .ok (.iaload, 1) := by decide +kernel
theorem ddH_turnOver_69 : decode cH_turnOver 69 = .ok (.iload_n 1, 1) := by decide +kernel
theorem ddH_turnOver_70 : decode cH_turnOver 70 = .ok (.if_icmp .ne 18, 3) := by decide +kernel
theorem ddH_turnOver_73 : decode cH_turnOver 73 = .ok (.aload_n 0, 1) := by decide +kernel
theorem ddH_turnOver_74 : decode cH_turnOver 74 = .ok (.getfield 26, 3) := by decide +kernel
theorem ddH_turnOver_77 : decode cH_turnOver 77 = .ok (.iload_n 2, 1) := by decide +kernel
theorem ddH_turnOver_78 : decode cH_turnOver 78 = .ok (.invokevirtual 202, 3) := by decide +kernel
theorem ddH_turnOver_81 : decode cH_turnOver 81 = .ok (.aload_n 0, 1) := by decide +kernel
theorem ddH_turnOver_82 : decode cH_turnOver 82 = .ok (.getfield 15, 3) := by decide +kernel
theorem ddH_turnOver_85 : decode cH_turnOver 85 = .ok (.iload_n 2, 1) := by decide +kernel
theorem ddH_turnOver_86 : decode cH_turnOver 86 = .ok (.iconst (-1), 1) := by decide +kernel
theorem ddH_turnOver_87 : decode cH_turnOver 87 = .ok (.iastore, 1) := by decide +kernel
theorem ddH_turnOver_88 : decode cH_turnOver 88 = .ok (.iinc 2 1, 3) := by decide +kernel
theorem ddH_turnOver_91 : decode cH_turnOver 91 = .ok (.goto (-67), 3) := by decide +kernel
theorem ddH_turnOver_94 : decode cH_turnOver 94 = .ok (.aload_n 0, 1) := by decide +kernel
theorem ddH_turnOver_95 : decode cH_turnOver 95 = .ok (.getfield 33, 3) := by decide +kernel
theorem ddH_turnOver_98 : decode cH_turnOver 98 = .ok (.iload_n 1, 1) := by decide +kernel
theorem ddH_turnOver_99 : decode cH_turnOver 99 = .ok (.iconst 0, 1) := by decide +kernel
theorem ddH_turnOver_100 : decode cH_turnOver 100 = .ok (.iastore, 1) := by decide +kernel
theorem ddH_turnOver_101 : decode cH_turnOver 101 = .ok (.return_, 1) := by decide +kernel
set_option maxHeartbeats 2000000 in
theorem zBH_turnOver_88 {G : GXM} {X : CxM} (hG : GokM G) (C : CoM G X cH_turnOver "HomeFreed$Heap") (N : mLM X = 3) {d : Nat} (hD : dpM X = d) (hd : 3 ≤ d) {v0 : Nat} {v1 : Int32} {K : Nat → Int32 → Int32 → Mem → Option ((Mem))} {q : (Mem)} (hK : ∀ (v2 : Int32) (M : Mem), K v0 v1 v2 M = some q → ZM G X 24 [(0, .ref v0), (1, .int v1), (2, .int v2)] [] M 0 0) (hr : ∀ r : Mem, q =  r → EnM G X none none r 0 0) {v2 : Int32} {M : Mem} (h : BH_turnOver_88 K v0 v1 v2 M = some q) : ZM G X 88 [(0, .ref v0), (1, .int v1), (2, .int v2)] [] M 0 0 := by
  unfold BH_turnOver_88 at h
  refine zz_iinc (v := v2 + 1) (L1 := [(2, .int (v2 + 1)), (0, .ref v0), (1, .int v1)]) C 2 ddH_turnOver_88 rfl rfl N (by decide) rfl ?_
  refine zz_goto (tgt := 24) C ddH_turnOver_91 rfl ?_
  refine zz_loc (L1 := [(0, .ref v0), (1, .int v1), (2, .int (v2 + 1))]) [1, 2, 0] rfl ?_
  exact hK _ _ h
set_option maxHeartbeats 2000000 in
theorem zBH_turnOver_63 {G : GXM} {X : CxM} (hG : GokM G) (C : CoM G X cH_turnOver "HomeFreed$Heap") (N : mLM X = 3) {d : Nat} (hD : dpM X = d) (hd : 3 ≤ d) {v0 : Nat} {v1 : Int32} {K : Nat → Int32 → Int32 → Mem → Option ((Mem))} {q : (Mem)} (hK : ∀ (v2 : Int32) (M : Mem), K v0 v1 v2 M = some q → ZM G X 24 [(0, .ref v0), (1, .int v1), (2, .int v2)] [] M 0 0) (hr : ∀ r : Mem, q =  r → EnM G X none none r 0 0) {v2 : Int32} {M : Mem} (h : BH_turnOver_63 K v0 v1 v2 M = some q) : ZM G X 63 [(0, .ref v0), (1, .int v1), (2, .int v2)] [] M 0 0 := by
  unfold BH_turnOver_63 at h
  refine zz_aload_n C 0 ddH_turnOver_63 rfl rfl ?_
  obtain ⟨h1, h⟩ := gdN h
  obtain ⟨h2, h⟩ := gdN h
  refine zz_getr C ddH_turnOver_64 fl_H_15 rfl h1 (of_decide_eq_true h2) ?_
  refine zz_iload_n C 2 ddH_turnOver_67 rfl rfl ?_
  obtain ⟨h3, h⟩ := gdN h
  refine zz_iaload C ddH_turnOver_68 h3 ?_
  refine zz_iload_n C 1 ddH_turnOver_69 rfl rfl ?_
  refine zz_icmp_ne (tgt := 88) C ddH_turnOver_70 rfl (fun hc => ?_) (fun hc => ?_)
  · replace h := iteF h hc
    exact zBH_turnOver_88 hG C N hD hd hK hr h
  · replace h := iteT h hc
    refine zz_aload_n C 0 ddH_turnOver_73 rfl rfl ?_
    obtain ⟨h4, h⟩ := gdN h
    refine zz_getr C ddH_turnOver_74 fl_H_26 rfl h1 (of_decide_eq_true h4) ?_
    refine zz_iload_n C 2 ddH_turnOver_77 rfl rfl ?_
    obtain ⟨h6, h⟩ := gdN h
    obtain ⟨q5, hq5, h⟩ := bindN h
    refine zz_callV0 (As := [.int v2]) C ddH_turnOver_78 wd_770 my_C_drop mv_C_drop ⟨_, rfl, rfl⟩ (xC_drop hG (d - 1) (by omega) hq5) (by omega) h6 rfl rfl (Nat.le_of_ble_eq_true rfl) ?_
    refine zz_aload_n C 0 ddH_turnOver_81 rfl rfl ?_
    obtain ⟨h7, h⟩ := gdN h
    obtain ⟨h8, h⟩ := gdN h
    refine zz_getr C ddH_turnOver_82 fl_H_15 rfl h7 (of_decide_eq_true h8) ?_
    refine zz_iload_n C 2 ddH_turnOver_85 rfl rfl ?_
    refine zz_iconst (v := (-1)) C ddH_turnOver_86 (by decide) ?_
    obtain ⟨h9, h⟩ := gdN h
    refine zz_iastore C ddH_turnOver_87 h9 ?_
    exact zBH_turnOver_88 hG C N hD hd hK hr h
set_option maxHeartbeats 2000000 in
theorem zBH_turnOver_24 {G : GXM} {X : CxM} (hG : GokM G) (C : CoM G X cH_turnOver "HomeFreed$Heap") (N : mLM X = 3) {d : Nat} (hD : dpM X = d) (hd : 3 ≤ d) {v0 : Nat} {v1 : Int32} {K : Nat → Int32 → Int32 → Mem → Option ((Mem))} {q : (Mem)} (hK : ∀ (v2 : Int32) (M : Mem), K v0 v1 v2 M = some q → ZM G X 24 [(0, .ref v0), (1, .int v1), (2, .int v2)] [] M 0 0) (hr : ∀ r : Mem, q =  r → EnM G X none none r 0 0) {v2 : Int32} {M : Mem} (h : BH_turnOver_24 K v0 v1 v2 M = some q) : ZM G X 24 [(0, .ref v0), (1, .int v1), (2, .int v2)] [] M 0 0 := by
  unfold BH_turnOver_24 at h
  refine zz_iload_n C 2 ddH_turnOver_24 rfl rfl ?_
  refine zz_aload_n C 0 ddH_turnOver_25 rfl rfl ?_
  obtain ⟨h1, h⟩ := gdN h
  obtain ⟨h2, h⟩ := gdN h
  refine zz_getr C ddH_turnOver_26 fl_H_46 rfl h1 (of_decide_eq_true h2) ?_
  obtain ⟨h3, h⟩ := gdN h
  obtain ⟨h4, h⟩ := gdN h
  refine zz_getr C ddH_turnOver_29 fl_H_76 rfl h3 (of_decide_eq_true h4) ?_
  refine zz_iconst (v := 1) C ddH_turnOver_32 (by decide) ?_
  obtain ⟨h5, h⟩ := gdN h
  refine zz_iaload C ddH_turnOver_33 h5 ?_
  refine zz_icmp_ge (tgt := 94) C ddH_turnOver_34 rfl (fun hc => ?_) (fun hc => ?_)
  · replace h := iteT h hc
    refine zz_aload_n C 0 ddH_turnOver_94 rfl rfl ?_
    obtain ⟨h6, h⟩ := gdN h
    refine zz_getr C ddH_turnOver_95 fl_H_33 rfl h1 (of_decide_eq_true h6) ?_
    refine zz_iload_n C 1 ddH_turnOver_98 rfl rfl ?_
    refine zz_iconst (v := 0) C ddH_turnOver_99 (by decide) ?_
    obtain ⟨h7, h⟩ := gdN h
    refine zz_iastore C ddH_turnOver_100 h7 ?_
    exact zz_vret C (hr _ (Option.some.inj h).symm) ddH_turnOver_101
  · replace h := iteF h hc
    refine zz_aload_n C 0 ddH_turnOver_37 rfl rfl ?_
    obtain ⟨h8, h⟩ := gdN h
    refine zz_getr C ddH_turnOver_38 fl_H_15 rfl h1 (of_decide_eq_true h8) ?_
    refine zz_iload_n C 2 ddH_turnOver_41 rfl rfl ?_
    obtain ⟨h9, h⟩ := gdN h
    refine zz_iaload C ddH_turnOver_42 h9 ?_
    refine zz_iload_n C 1 ddH_turnOver_43 rfl rfl ?_
    refine zz_icmp_ne (tgt := 63) C ddH_turnOver_44 rfl (fun hc => ?_) (fun hc => ?_)
    · replace h := iteF h hc
      exact zBH_turnOver_63 hG C N hD hd hK hr h
    · replace h := iteT h hc
      refine zz_aload_n C 0 ddH_turnOver_47 rfl rfl ?_
      refine zz_iload_n C 2 ddH_turnOver_48 rfl rfl ?_
      obtain ⟨q10, hq10, h⟩ := bindN h
      refine zz_callV0 (As := [.int v2]) C ddH_turnOver_49 wd_670 my_H_usedOf mv_H_usedOf ⟨_, rfl, rfl⟩ (xH_usedOf hG (d - 1) (by omega) hq10) (by omega) h1 rfl rfl (Nat.le_of_ble_eq_true rfl) ?_
      refine zz_if_ne (tgt := 63) C ddH_turnOver_52 rfl (fun hc => ?_) (fun hc => ?_)
      · replace h := iteF h hc
        exact zBH_turnOver_63 hG C N hD hd hK hr h
      · replace h := iteT h hc
        refine zz_aload_n C 0 ddH_turnOver_55 rfl rfl ?_
        refine zz_iload_n C 2 ddH_turnOver_56 rfl rfl ?_
        obtain ⟨h12, h⟩ := gdN h
        obtain ⟨q11, hq11, h⟩ := bindN h
        refine zz_callV0 (As := [.int v2]) C ddH_turnOver_57 wd_766 my_H_makeEmpty mv_H_makeEmpty ⟨_, rfl, rfl⟩ (xH_makeEmpty hG (d - 1) (by omega) hq11) (by omega) h12 rfl rfl (Nat.le_of_ble_eq_true rfl) ?_
        refine zz_goto (tgt := 88) C ddH_turnOver_60 rfl ?_
        exact zBH_turnOver_88 hG C N hD hd hK hr h
set_option maxHeartbeats 2000000 in
theorem zLH_turnOver_24 {G : GXM} {X : CxM} (hG : GokM G) (C : CoM G X cH_turnOver "HomeFreed$Heap") (N : mLM X = 3) {d : Nat} (hD : dpM X = d) (hd : 3 ≤ d) {v0 : Nat} {v1 : Int32} {q : (Mem)} : ∀ (f : Nat) (v2 : Int32) (M : Mem), LH_turnOver_24 f v0 v1 v2 M = some q → (hr : ∀ r : Mem, q =  r → EnM G X none none r 0 0) → ZM G X 24 [(0, .ref v0), (1, .int v1), (2, .int v2)] [] M 0 0 := by
  intro f
  induction f with
  | zero => intro v2 M h; cases h
  | succ f ih =>
    intro v2 M h hr
    exact zBH_turnOver_24 hG C N hD hd (K := LH_turnOver_24 f) (q := q) (fun v2 M h => ih v2 M h hr) hr h
set_option maxHeartbeats 2000000 in
theorem xH_turnOver {G : GXM} {l : Launch} (hG : GokM G) (d : Nat) (hd : 3 ≤ d) {v0 : Nat} {v1 : Int32} {M : Mem} {q : Mem} (h : fH_turnOver v0 v1 M = some q) : ExM G l d 0 0 yH_turnOver cH_turnOver 3 none [.ref v0, .int v1] M none q := by
  refine ex_of hG (by decide +kernel) (Nat.le_of_ble_eq_true rfl) ?_
  intro X hl C E N hD hn
  show ZM G X 0 [(0, .ref v0), (1, .int v1)] [] M 0 0
  unfold fH_turnOver at h
  refine zz_aload_n C 0 ddH_turnOver_0 rfl rfl ?_
  refine zz_iload_n C 1 ddH_turnOver_1 rfl rfl ?_
  obtain ⟨h2, h⟩ := gdN h
  obtain ⟨q1, hq1, h⟩ := bindN h
  refine zz_callV0 (As := [.int v1]) C ddH_turnOver_2 wd_698 my_H_isLiving mv_H_isLiving ⟨_, rfl, rfl⟩ (xH_isLiving hG (d - 1) (by omega) hq1) (by omega) h2 rfl rfl (Nat.le_of_ble_eq_true rfl) ?_
  refine zz_if_ne (tgt := 16) C ddH_turnOver_5 rfl (fun hc => ?_) (fun hc => ?_)
  · replace h := iteF h hc
    refine zz_aload_n C 0 ddH_turnOver_16 rfl rfl ?_
    refine zz_iload_n C 1 ddH_turnOver_17 rfl rfl ?_
    obtain ⟨h4, h⟩ := gdN h
    obtain ⟨q3, hq3, h⟩ := bindN h
    refine zz_callV0 (As := [.int v1]) C ddH_turnOver_18 wd_808 my_H_sendAll mv_H_sendAll ⟨_, rfl, rfl⟩ (xH_sendAll hG (d - 1) (by omega) hq3) (by omega) h4 rfl rfl (Nat.le_of_ble_eq_true rfl) ?_
    refine zz_pop C ddH_turnOver_21 rfl ?_
    refine zz_iconst (v := 0) C ddH_turnOver_22 (by decide) ?_
    refine zz_istore_n (L1 := [(2, .int 0), (0, .ref v0), (1, .int v1)]) C ddH_turnOver_23 rfl N (by decide) rfl ?_
    refine zz_loc (L1 := [(0, .ref v0), (1, .int v1), (2, .int 0)]) [1, 2, 0] rfl ?_
    obtain ⟨q5, hq5, h⟩ := bindN h
    refine zLH_turnOver_24 hG C N hD hd 1000000 _ _ hq5 ?_
    · intro r6 eq5; replace eq5 := eq5.symm; subst eq5
      obtain rfl := Option.some.inj h
      exact E
  · replace h := iteT h hc
    refine zz_aload_n C 0 ddH_turnOver_8 rfl rfl ?_
    obtain ⟨h7, h⟩ := gdN h
    obtain ⟨h8, h⟩ := gdN h
    refine zz_getr C ddH_turnOver_9 fl_H_33 rfl h7 (of_decide_eq_true h8) ?_
    refine zz_iload_n C 1 ddH_turnOver_12 rfl rfl ?_
    refine zz_iconst (v := 1) C ddH_turnOver_13 (by decide) ?_
    obtain ⟨h9, h⟩ := gdN h
    refine zz_iastore C ddH_turnOver_14 h9 ?_
    obtain rfl := Option.some.inj h
    exact zz_vret C E ddH_turnOver_15
theorem ddA_turn_0 : decode cA_turn 0 = .ok (.aload_n 0, 1) := by decide +kernel
theorem ddA_turn_1 : decode cA_turn 1 = .ok (.getfield 55, 3) := by decide +kernel
theorem ddA_turn_4 : decode cA_turn 4 = .ok (.iload_n 1, 1) := by decide +kernel
theorem ddA_turn_5 : decode cA_turn 5 = .ok (.invokevirtual 187, 3) := by decide +kernel
theorem ddA_turn_8 : decode cA_turn 8 = .ok (.ifCond .ne 9, 3) := by decide +kernel
theorem ddA_turn_11 : decode cA_turn 11 = .ok (.aload_n 0, 1) := by decide +kernel
theorem ddA_turn_12 : decode cA_turn 12 = .ok (.iconst 0, 1) := by decide +kernel
theorem ddA_turn_13 : decode cA_turn 13 = .ok (.invokevirtual 217, 3) := by decide +kernel
theorem ddA_turn_16 : decode cA_turn 16 = .ok (.ireturn, 1) := by decide +kernel
theorem ddA_turn_17 : decode cA_turn 17 = .ok (.aload_n 0, 1) := by decide +kernel
theorem ddA_turn_18 : decode cA_turn 18 = .ok (.getfield 62, 3) := by decide +kernel
theorem ddA_turn_21 : decode cA_turn 21 = .ok (.aload_n 0, 1) := by decide +kernel
theorem ddA_turn_22 : decode cA_turn 22 = .ok (.getfield 55, 3) := by decide +kernel
theorem ddA_turn_25 : decode cA_turn 25 = .ok (.invokevirtual 226, 3) := by decide +kernel
theorem ddA_turn_28 : decode cA_turn 28 = .ok (.aload_n 0, 1) := by decide +kernel
theorem ddA_turn_29 : decode cA_turn 29 = .ok (.getfield 55, 3) := by decide +kernel
theorem ddA_turn_32 : decode cA_turn 32 = .ok (.iload_n 1, 1) := by decide +kernel
theorem ddA_turn_33 : decode cA_turn 33 = .ok (.invokevirtual 245, 3) := by decide +kernel
theorem ddA_turn_36 : decode cA_turn 36 = .ok (.aload_n 0, 1) := by decide +kernel
theorem ddA_turn_37 : decode cA_turn 37 = .ok (.getfield 55, 3) := by decide +kernel
theorem ddA_turn_40 : decode cA_turn 40 = .ok (.iload_n 1, 1) := by decide +kernel
theorem ddA_turn_41 : decode cA_turn 41 = .ok (.invokevirtual 190, 3) := by decide +kernel
theorem ddA_turn_44 : decode cA_turn 44 = .ok (.ifCond .eq 7, 3) := by decide +kernel
theorem ddA_turn_47 : decode cA_turn 47 = .ok (.iconst 1, 1) := by decide +kernel
theorem ddA_turn_48 : decode cA_turn 48 = .ok (.goto 4, 3) := by decide +kernel
theorem ddA_turn_51 : decode cA_turn 51 = .ok (.iconst 0, 1) := by decide +kernel
theorem ddA_turn_52 : decode cA_turn 52 = .ok (.ireturn, 1) := by decide +kernel
set_option maxHeartbeats 2000000 in
theorem zBA_turn_52 {G : GXM} {X : CxM} (hG : GokM G) (C : CoM G X cA_turn "HomeFreed") (N : mLM X = 2) {d : Nat} (hD : dpM X = d) (hd : 4 ≤ d)  {q : Int32 × Mem} (E : EnM G X (some .int) (some (.int q.1)) q.2 0 0) {w0 : Int32} {M : Mem} (h : BA_turn_52 w0 M = some q) : ZM G X 52 [] [.int w0] M 0 0 := by
  unfold BA_turn_52 at h
  obtain rfl := Option.some.inj h
  exact zz_iret C E ddA_turn_52
set_option maxHeartbeats 2000000 in
theorem xA_turn {G : GXM} {l : Launch} (hG : GokM G) (d : Nat) (hd : 4 ≤ d) {v0 : Nat} {v1 : Int32} {M : Mem} {q : Int32 × Mem} (h : fA_turn v0 v1 M = some q) : ExM G l d 0 0 yA_turn cA_turn 2 (some .int) [.ref v0, .int v1] M (some (.int q.1)) q.2 := by
  refine ex_of hG (by decide +kernel) (Nat.le_of_ble_eq_true rfl) ?_
  intro X hl C E N hD hn
  show ZM G X 0 [(0, .ref v0), (1, .int v1)] [] M 0 0
  unfold fA_turn at h
  refine zz_aload_n C 0 ddA_turn_0 rfl rfl ?_
  obtain ⟨h1, h⟩ := gdN h
  obtain ⟨h2, h⟩ := gdN h
  refine zz_getr C ddA_turn_1 fl_A_55 rfl h1 (of_decide_eq_true h2) ?_
  refine zz_iload_n C 1 ddA_turn_4 rfl rfl ?_
  obtain ⟨h4, h⟩ := gdN h
  obtain ⟨q3, hq3, h⟩ := bindN h
  refine zz_callV0 (As := [.int v1]) C ddA_turn_5 wd_602 my_H_isThread mv_H_isThread ⟨_, rfl, rfl⟩ (xH_isThread hG (d - 1) (by omega) hq3) (by omega) h4 rfl rfl (Nat.le_of_ble_eq_true rfl) ?_
  refine zz_if_ne (tgt := 17) C ddA_turn_8 rfl (fun hc => ?_) (fun hc => ?_)
  · replace h := iteF h hc
    refine zz_aload_n C 0 ddA_turn_17 rfl rfl ?_
    obtain ⟨h5, h⟩ := gdN h
    obtain ⟨h6, h⟩ := gdN h
    refine zz_getr C ddA_turn_18 fl_A_62 rfl h5 (of_decide_eq_true h6) ?_
    refine zz_aload_n C 0 ddA_turn_21 rfl rfl ?_
    obtain ⟨h7, h⟩ := gdN h
    refine zz_getr C ddA_turn_22 fl_A_55 rfl h5 (of_decide_eq_true h7) ?_
    obtain ⟨h9, h⟩ := gdN h
    obtain ⟨q8, hq8, h⟩ := bindN h
    refine zz_callV0 (As := [.ref (grM q3.2 v0 7)]) C ddA_turn_25 wd_674 my_P_keep mv_P_keep ⟨_, rfl, rfl⟩ (xP_keep hG (d - 1) (by omega) hq8) (by omega) h9 rfl rfl (Nat.le_of_ble_eq_true rfl) ?_
    refine zz_aload_n C 0 ddA_turn_28 rfl rfl ?_
    obtain ⟨h10, h⟩ := gdN h
    obtain ⟨h11, h⟩ := gdN h
    refine zz_getr C ddA_turn_29 fl_A_55 rfl h10 (of_decide_eq_true h11) ?_
    refine zz_iload_n C 1 ddA_turn_32 rfl rfl ?_
    obtain ⟨h13, h⟩ := gdN h
    obtain ⟨q12, hq12, h⟩ := bindN h
    refine zz_callV0 (As := [.int v1]) C ddA_turn_33 wd_804 my_H_turnOver mv_H_turnOver ⟨_, rfl, rfl⟩ (xH_turnOver hG (d - 1) (by omega) hq12) (by omega) h13 rfl rfl (Nat.le_of_ble_eq_true rfl) ?_
    refine zz_aload_n C 0 ddA_turn_36 rfl rfl ?_
    obtain ⟨h14, h⟩ := gdN h
    obtain ⟨h15, h⟩ := gdN h
    refine zz_getr C ddA_turn_37 fl_A_55 rfl h14 (of_decide_eq_true h15) ?_
    refine zz_iload_n C 1 ddA_turn_40 rfl rfl ?_
    obtain ⟨h17, h⟩ := gdN h
    obtain ⟨q16, hq16, h⟩ := bindN h
    refine zz_callV0 (As := [.int v1]) C ddA_turn_41 wd_606 my_H_isLiving mv_H_isLiving ⟨_, rfl, rfl⟩ (xH_isLiving hG (d - 1) (by omega) hq16) (by omega) h17 rfl rfl (Nat.le_of_ble_eq_true rfl) ?_
    refine zz_if_eq (tgt := 51) C ddA_turn_44 rfl (fun hc => ?_) (fun hc => ?_)
    · replace h := iteT h hc
      refine zz_iconst (v := 0) C ddA_turn_51 (by decide) ?_
      refine zz_loc (L1 := []) [] rfl ?_
      exact zBA_turn_52 hG C N hD hd E h
    · replace h := iteF h hc
      refine zz_iconst (v := 1) C ddA_turn_47 (by decide) ?_
      refine zz_goto (tgt := 52) C ddA_turn_48 rfl ?_
      refine zz_loc (L1 := []) [] rfl ?_
      exact zBA_turn_52 hG C N hD hd E h
  · replace h := iteT h hc
    refine zz_aload_n C 0 ddA_turn_11 rfl rfl ?_
    refine zz_iconst (v := 0) C ddA_turn_12 (by decide) ?_
    obtain ⟨h19, h⟩ := gdN h
    obtain ⟨q18, hq18, h⟩ := bindN h
    refine zz_callV0 (As := [.int 0]) C ddA_turn_13 wd_657 my_A_refuse mv_A_refuse ⟨_, rfl, rfl⟩ (xA_refuse hG (d - 1) (by omega) hq18) (by omega) h19 rfl rfl (Nat.le_of_ble_eq_true rfl) ?_
    obtain rfl := Option.some.inj h
    exact zz_iret C E ddA_turn_16
theorem ddA_isScript_0 : decode cA_isScript 0 = .ok (.iload_n 1, 1) := by decide +kernel
theorem ddA_isScript_1 : decode cA_isScript 1 = .ok (.ifCond .lt 15, 3) := by decide +kernel
theorem ddA_isScript_4 : decode cA_isScript 4 = .ok (.iload_n 1, 1) := by decide +kernel
theorem ddA_isScript_5 : decode cA_isScript 5 = .ok (.aload_n 0, 1) := by decide +kernel
theorem ddA_isScript_6 : decode cA_isScript 6 = .ok (.getfield 42, 3) := by decide +kernel
theorem ddA_isScript_9 : decode cA_isScript 9 = .ok (.if_icmp .ge 7, 3) := by decide +kernel
theorem ddA_isScript_12 : decode cA_isScript 12 = .ok (.iconst 1, 1) := by decide +kernel
theorem ddA_isScript_13 : decode cA_isScript 13 = .ok (.goto 4, 3) := by decide +kernel
theorem ddA_isScript_16 : decode cA_isScript 16 = .ok (.iconst 0, 1) := by decide +kernel
theorem ddA_isScript_17 : decode cA_isScript 17 = .ok (.ireturn, 1) := by decide +kernel
set_option maxHeartbeats 2000000 in
theorem zBA_isScript_17 {G : GXM} {X : CxM} (hG : GokM G) (C : CoM G X cA_isScript "HomeFreed") (N : mLM X = 2) {d : Nat} (hD : dpM X = d) (hd : 0 ≤ d)  {q : Int32 × Mem} (E : EnM G X (some .boolean) (some (.int q.1)) q.2 0 0) {w0 : Int32} {M : Mem} (h : BA_isScript_17 w0 M = some q) : ZM G X 17 [] [.int w0] M 0 0 := by
  unfold BA_isScript_17 at h
  obtain ⟨h1, h⟩ := gdN h
  obtain rfl := Option.some.inj h
  exact zz_zret C (of_decide_eq_true h1) E ddA_isScript_17
set_option maxHeartbeats 2000000 in
theorem zBA_isScript_16 {G : GXM} {X : CxM} (hG : GokM G) (C : CoM G X cA_isScript "HomeFreed") (N : mLM X = 2) {d : Nat} (hD : dpM X = d) (hd : 0 ≤ d)  {q : Int32 × Mem} (E : EnM G X (some .boolean) (some (.int q.1)) q.2 0 0) {M : Mem} (h : BA_isScript_16 M = some q) : ZM G X 16 [] [] M 0 0 := by
  unfold BA_isScript_16 at h
  refine zz_iconst (v := 0) C ddA_isScript_16 (by decide) ?_
  exact zBA_isScript_17 hG C N hD hd E h
set_option maxHeartbeats 2000000 in
theorem xA_isScript {G : GXM} {l : Launch} (hG : GokM G) (d : Nat) (hd : 0 ≤ d) {v0 : Nat} {v1 : Int32} {M : Mem} {q : Int32 × Mem} (h : fA_isScript v0 v1 M = some q) : ExM G l d 0 0 yA_isScript cA_isScript 2 (some .boolean) [.ref v0, .int v1] M (some (.int q.1)) q.2 := by
  refine ex_of hG (by decide +kernel) (Nat.le_of_ble_eq_true rfl) ?_
  intro X hl C E N hD hn
  show ZM G X 0 [(0, .ref v0), (1, .int v1)] [] M 0 0
  unfold fA_isScript at h
  refine zz_iload_n C 1 ddA_isScript_0 rfl rfl ?_
  refine zz_if_lt (tgt := 16) C ddA_isScript_1 rfl (fun hc => ?_) (fun hc => ?_)
  · replace h := iteT h hc
    refine zz_loc (L1 := []) [] rfl ?_
    exact zBA_isScript_16 hG C N hD hd E h
  · replace h := iteF h hc
    refine zz_iload_n C 1 ddA_isScript_4 rfl rfl ?_
    refine zz_aload_n C 0 ddA_isScript_5 rfl rfl ?_
    obtain ⟨h1, h⟩ := gdN h
    refine zz_geti C ddA_isScript_6 fl_A_42 rfl h1 ?_
    refine zz_icmp_ge (tgt := 16) C ddA_isScript_9 rfl (fun hc => ?_) (fun hc => ?_)
    · replace h := iteT h hc
      refine zz_loc (L1 := []) [] rfl ?_
      exact zBA_isScript_16 hG C N hD hd E h
    · replace h := iteF h hc
      refine zz_iconst (v := 1) C ddA_isScript_12 (by decide) ?_
      refine zz_goto (tgt := 17) C ddA_isScript_13 rfl ?_
      refine zz_loc (L1 := []) [] rfl ?_
      exact zBA_isScript_17 hG C N hD hd E h
theorem ddG_restart_0 : decode cG_restart 0 = .ok (.aload_n 0, 1) := by decide +kernel
theorem ddG_restart_1 : decode cG_restart 1 = .ok (.iconst 0, 1) := by decide +kernel
theorem ddG_restart_2 : decode cG_restart 2 = .ok (.putfield 21, 3) := by decide +kernel
theorem ddG_restart_5 : decode cG_restart 5 = .ok (.aload_n 0, 1) := by decide +kernel
theorem ddG_restart_6 : decode cG_restart 6 = .ok (.iconst 0, 1) := by decide +kernel
theorem ddG_restart_7 : decode cG_restart 7 = .ok (.putfield 25, 3) := by decide +kernel
theorem ddG_restart_10 : decode cG_restart 10 = .ok (.return_, 1) := by decide +kernel
set_option maxHeartbeats 2000000 in
theorem xG_restart {G : GXM} {l : Launch} (hG : GokM G) (d : Nat) (hd : 0 ≤ d) {v0 : Nat} {M : Mem} {q : Mem} (h : fG_restart v0 M = some q) : ExM G l d 0 0 yG_restart cG_restart 1 none [.ref v0] M none q := by
  refine ex_of hG (by decide +kernel) (Nat.le_of_ble_eq_true rfl) ?_
  intro X hl C E N hD hn
  show ZM G X 0 [(0, .ref v0)] [] M 0 0
  unfold fG_restart at h
  refine zz_aload_n C 0 ddG_restart_0 rfl rfl ?_
  refine zz_iconst (v := 0) C ddG_restart_1 (by decide) ?_
  obtain ⟨h1, h⟩ := gdN h
  refine zz_puti C ddG_restart_2 fl_G_21 rfl rfl rfl h1 ?_
  refine zz_aload_n C 0 ddG_restart_5 rfl rfl ?_
  refine zz_iconst (v := 0) C ddG_restart_6 (by decide) ?_
  refine zz_puti C ddG_restart_7 fl_G_25 rfl rfl rfl h1 ?_
  obtain rfl := Option.some.inj h
  exact zz_vret C E ddG_restart_10
theorem ddH_lowestLiving_0 : decode cH_lowestLiving 0 = .ok (.iconst 0, 1) := by decide +kernel
theorem ddH_lowestLiving_1 : decode cH_lowestLiving 1 = .ok (.istore_n 1, 1) := by decide +kernel
theorem ddH_lowestLiving_2 : decode cH_lowestLiving 2 = .ok (.iload_n 1, 1) := by decide +kernel
theorem ddH_lowestLiving_3 : decode cH_lowestLiving 3 = .ok (.aload_n 0, 1) := by decide +kernel
theorem ddH_lowestLiving_4 : decode cH_lowestLiving 4 = .ok (.getfield 46, 3) := by decide +kernel
theorem ddH_lowestLiving_7 : decode cH_lowestLiving 7 = .ok (.getfield 76, 3) := by decide +kernel
theorem ddH_lowestLiving_10 : decode cH_lowestLiving 10 = .ok (.iconst 0, 1) := by decide +kernel
theorem ddH_lowestLiving_11 : decode cH_lowestLiving 11 = .ok (.iaload, 1) := by decide +kernel
theorem ddH_lowestLiving_12 : decode cH_lowestLiving 12 = .ok (.if_icmp .ge 21, 3) := by decide +kernel
theorem ddH_lowestLiving_15 : decode cH_lowestLiving 15 = .ok (.aload_n 0, 1) := by decide +kernel
theorem ddH_lowestLiving_16 : decode cH_lowestLiving 16 = .ok (.getfield 33, 3) := by decide +kernel
theorem ddH_lowestLiving_19 : decode cH_lowestLiving 19 = .ok (.iload_n 1, 1) := by decide +kernel
theorem ddH_lowestLiving_20 : decode cH_lowestLiving 20 = .ok (.iaload, 1) := by decide +kernel
theorem ddH_lowestLiving_21 : decode cH_lowestLiving 21 = .ok (.iconst 1, 1) := by decide +kernel
theorem ddH_lowestLiving_22 : decode cH_lowestLiving 22 = .ok (.if_icmp .ne 5, 3) := by decide +kernel
theorem ddH_lowestLiving_25 : decode cH_lowestLiving 25 = .ok (.iload_n 1, 1) := by decide +kernel
theorem ddH_lowestLiving_26 : decode cH_lowestLiving 26 = .ok (.ireturn, 1) := by decide +kernel
theorem ddH_lowestLiving_27 : decode cH_lowestLiving 27 = .ok (.iinc 1 1, 3) := by decide +kernel
theorem ddH_lowestLiving_30 : decode cH_lowestLiving 30 = .ok (.goto (-28), 3) := by decide +kernel
theorem ddH_lowestLiving_33 : decode cH_lowestLiving 33 = .ok (.iconst (-1), 1) := by decide +kernel
theorem ddH_lowestLiving_34 : decode cH_lowestLiving 34 = .ok (.ireturn, 1) := by decide +kernel
set_option maxHeartbeats 2000000 in
theorem zBH_lowestLiving_2 {G : GXM} {X : CxM} (hG : GokM G) (C : CoM G X cH_lowestLiving "HomeFreed$Heap") (N : mLM X = 2) {d : Nat} (hD : dpM X = d) (hd : 0 ≤ d) {v0 : Nat} {K : Nat → Int32 → Mem → Option ((Int32 × Mem))} {q : (Int32 × Mem)} (hK : ∀ (v1 : Int32) (M : Mem), K v0 v1 M = some q → ZM G X 2 [(0, .ref v0), (1, .int v1)] [] M 0 0) (hr : ∀ r : Int32 × Mem, q =  r → EnM G X (some .int) (some (.int r.1)) r.2 0 0) {v1 : Int32} {M : Mem} (h : BH_lowestLiving_2 K v0 v1 M = some q) : ZM G X 2 [(0, .ref v0), (1, .int v1)] [] M 0 0 := by
  unfold BH_lowestLiving_2 at h
  refine zz_iload_n C 1 ddH_lowestLiving_2 rfl rfl ?_
  refine zz_aload_n C 0 ddH_lowestLiving_3 rfl rfl ?_
  obtain ⟨h1, h⟩ := gdN h
  obtain ⟨h2, h⟩ := gdN h
  refine zz_getr C ddH_lowestLiving_4 fl_H_46 rfl h1 (of_decide_eq_true h2) ?_
  obtain ⟨h3, h⟩ := gdN h
  obtain ⟨h4, h⟩ := gdN h
  refine zz_getr C ddH_lowestLiving_7 fl_H_76 rfl h3 (of_decide_eq_true h4) ?_
  refine zz_iconst (v := 0) C ddH_lowestLiving_10 (by decide) ?_
  obtain ⟨h5, h⟩ := gdN h
  refine zz_iaload C ddH_lowestLiving_11 h5 ?_
  refine zz_icmp_ge (tgt := 33) C ddH_lowestLiving_12 rfl (fun hc => ?_) (fun hc => ?_)
  · replace h := iteT h hc
    refine zz_iconst (v := (-1)) C ddH_lowestLiving_33 (by decide) ?_
    exact zz_iret C (hr _ (Option.some.inj h).symm) ddH_lowestLiving_34
  · replace h := iteF h hc
    refine zz_aload_n C 0 ddH_lowestLiving_15 rfl rfl ?_
    obtain ⟨h6, h⟩ := gdN h
    refine zz_getr C ddH_lowestLiving_16 fl_H_33 rfl h1 (of_decide_eq_true h6) ?_
    refine zz_iload_n C 1 ddH_lowestLiving_19 rfl rfl ?_
    obtain ⟨h7, h⟩ := gdN h
    refine zz_iaload C ddH_lowestLiving_20 h7 ?_
    refine zz_iconst (v := 1) C ddH_lowestLiving_21 (by decide) ?_
    refine zz_icmp_ne (tgt := 27) C ddH_lowestLiving_22 rfl (fun hc => ?_) (fun hc => ?_)
    · replace h := iteF h hc
      refine zz_iinc (v := v1 + 1) (L1 := [(1, .int (v1 + 1)), (0, .ref v0)]) C 1 ddH_lowestLiving_27 rfl rfl N (by decide) rfl ?_
      refine zz_goto (tgt := 2) C ddH_lowestLiving_30 rfl ?_
      refine zz_loc (L1 := [(0, .ref v0), (1, .int (v1 + 1))]) [1, 0] rfl ?_
      exact hK _ _ h
    · replace h := iteT h hc
      refine zz_iload_n C 1 ddH_lowestLiving_25 rfl rfl ?_
      exact zz_iret C (hr _ (Option.some.inj h).symm) ddH_lowestLiving_26
set_option maxHeartbeats 2000000 in
theorem zLH_lowestLiving_2 {G : GXM} {X : CxM} (hG : GokM G) (C : CoM G X cH_lowestLiving "HomeFreed$Heap") (N : mLM X = 2) {d : Nat} (hD : dpM X = d) (hd : 0 ≤ d) {v0 : Nat} {q : (Int32 × Mem)} : ∀ (f : Nat) (v1 : Int32) (M : Mem), LH_lowestLiving_2 f v0 v1 M = some q → (hr : ∀ r : Int32 × Mem, q =  r → EnM G X (some .int) (some (.int r.1)) r.2 0 0) → ZM G X 2 [(0, .ref v0), (1, .int v1)] [] M 0 0 := by
  intro f
  induction f with
  | zero => intro v1 M h; cases h
  | succ f ih =>
    intro v1 M h hr
    exact zBH_lowestLiving_2 hG C N hD hd (K := LH_lowestLiving_2 f) (q := q) (fun v1 M h => ih v1 M h hr) hr h
set_option maxHeartbeats 2000000 in
theorem xH_lowestLiving {G : GXM} {l : Launch} (hG : GokM G) (d : Nat) (hd : 0 ≤ d) {v0 : Nat} {M : Mem} {q : Int32 × Mem} (h : fH_lowestLiving v0 M = some q) : ExM G l d 0 0 yH_lowestLiving cH_lowestLiving 2 (some .int) [.ref v0] M (some (.int q.1)) q.2 := by
  refine ex_of hG (by decide +kernel) (Nat.le_of_ble_eq_true rfl) ?_
  intro X hl C E N hD hn
  show ZM G X 0 [(0, .ref v0)] [] M 0 0
  unfold fH_lowestLiving at h
  refine zz_iconst (v := 0) C ddH_lowestLiving_0 (by decide) ?_
  refine zz_istore_n (L1 := [(1, .int 0), (0, .ref v0)]) C ddH_lowestLiving_1 rfl N (by decide) rfl ?_
  refine zz_loc (L1 := [(0, .ref v0), (1, .int 0)]) [1, 0] rfl ?_
  obtain ⟨q1, hq1, h⟩ := bindN h
  refine zLH_lowestLiving_2 hG C N hD hd 1000000 _ _ hq1 ?_
  · intro r2 eq1; replace eq1 := eq1.symm; subst eq1
    obtain rfl := Option.some.inj h
    exact E
theorem ddG_endScope_0 : decode cG_endScope 0 = .ok (.aload_n 0, 1) := by decide +kernel
theorem ddG_endScope_1 : decode cG_endScope 1 = .ok (.getfield 21, 3) := by decide +kernel
theorem ddG_endScope_4 : decode cG_endScope 4 = .ok (.iconst 1, 1) := by decide +kernel
theorem ddG_endScope_5 : decode cG_endScope 5 = .ok (.isub, 1) := by decide +kernel
theorem ddG_endScope_6 : decode cG_endScope 6 = .ok (.istore_n 2, 1) := by decide +kernel
theorem ddG_endScope_7 : decode cG_endScope 7 = .ok (.iload_n 2, 1) := by decide +kernel
theorem ddG_endScope_8 : decode cG_endScope 8 = .ok (.ifCond .lt 100, 3) := by decide +kernel
theorem ddG_endScope_11 : decode cG_endScope 11 = .ok (.aload_n 0, 1) := by decide +kernel
theorem ddG_endScope_12 : decode cG_endScope 12 = .ok (.getfield 25, 3) := by decide +kernel
theorem ddG_endScope_15 : decode cG_endScope 15 = .ok (.ifCond .le 93, 3) := by decide +kernel
theorem ddG_endScope_18 : decode cG_endScope 18 = .ok (.aload_n 0, 1) := by decide +kernel
theorem ddG_endScope_19 : decode cG_endScope 19 = .ok (.getfield 18, 3) := by decide +kernel
theorem ddG_endScope_22 : decode cG_endScope 22 = .ok (.iload_n 2, 1) := by decide +kernel
theorem ddG_endScope_23 : decode cG_endScope 23 = .ok (.iaload, 1) := by decide +kernel
theorem ddG_endScope_24 : decode cG_endScope 24 = .ok (.aload_n 0, 1) := by decide +kernel
theorem ddG_endScope_25 : decode cG_endScope 25 = .ok (.getfield 25, 3) := by decide +kernel
theorem ddG_endScope_28 : decode cG_endScope 28 = .ok (.if_icmp .eq 6, 3) := by decide +kernel
theorem ddG_endScope_31 : decode cG_endScope 31 = .ok (.goto 71, 3) := by decide +kernel
theorem ddG_endScope_34 : decode cG_endScope 34 = .ok (.aload_n 0, 1) := by decide +kernel
theorem ddG_endScope_35 : decode cG_endScope 35 = .ok (.getfield 18, 3) := by decide +kernel
theorem ddG_endScope_38 : decode cG_endScope 38 = .ok (.iload_n 2, 1) := by decide +kernel
theorem ddG_endScope_39 : decode cG_endScope 39 = .ok (.iconst 0, 1) := by decide +kernel
theorem ddG_endScope_40 : decode cG_endScope 40 = .ok (.iastore, 1) := by decide +kernel
theorem ddG_endScope_41 : decode cG_endScope 41 = .ok (.aload_n 1, 1) := by decide +kernel
theorem ddG_endScope_42 : decode cG_endScope 42 = .ok (.aload_n 0, 1) := by decide +kernel
theorem ddG_endScope_43 : decode cG_endScope 43 = .ok (.getfield 15, 3) := by decide +kernel
theorem ddG_endScope_46 : decode cG_endScope 46 = .ok (.iload_n 2, 1) := by decide +kernel
theorem ddG_endScope_47 : decode cG_endScope 47 = .ok (.iaload, 1) := by decide +kernel
theorem ddG_endScope_48 : decode cG_endScope 48 = .ok (.invokevirtual 82, 3) := by decide +kernel
theorem ddG_endScope_51 : decode cG_endScope 51 = .ok (.ifCond .eq 12, 3) := by decide +kernel
theorem ddG_endScope_54 : decode cG_endScope 54 = .ok (.aload_n 0, 1) := by decide +kernel
theorem ddG_endScope_55 : decode cG_endScope 55 = .ok (.getfield 15, 3) := by decide +kernel
theorem ddG_endScope_58 : decode cG_endScope 58 = .ok (.iload_n 2, 1) := by decide +kernel
theorem ddG_endScope_59 : decode cG_endScope 59 = .ok (.iaload, 1) := by decide +kernel
theorem ddG_endScope_60 : decode cG_endScope 60 = .ok (.goto 7, 3) := by decide +kernel
theorem ddG_endScope_63 : decode cG_endScope 63 = .ok (.aload_n 1, 1) := by decide +kernel
theorem ddG_endScope_64 : decode cG_endScope 64 = .ok (.invokevirtual 95, 3) := by decide +kernel
theorem ddG_endScope_67 : decode cG_endScope 67 = .ok (.istore_n 3, 1) := by decide +kernel
theorem ddG_endScope_68 : decode cG_endScope 68 = .ok (.iload_n 3, 1) := by decide +kernel
theorem ddG_endScope_69 : decode cG_endScope 69 = .ok (.iconst (-1), 1) := by decide +kernel
theorem ddG_endScope_70 : decode cG_endScope 70 = .ok (.if_icmp .eq 32, 3) := by decide +kernel
theorem ddG_endScope_73 : decode cG_endScope 73 = .ok (.aload_n 0, 1) := by decide +kernel
theorem ddG_endScope_74 : decode cG_endScope 74 = .ok (.getfield 9, 3) := by decide +kernel
theorem ddG_endScope_77 : decode cG_endScope 77 = .ok (.iload_n 2, 1) := by decide +kernel
theorem ddG_endScope_78 : decode cG_endScope 78 = .ok (.iaload, 1) := by decide +kernel
theorem ddG_endScope_79 : decode cG_endScope 79 = .ok (.iconst (-1), 1) := by decide +kernel
theorem ddG_endScope_80 : decode cG_endScope 80 = .ok (.if_icmp .eq 22, 3) := by decide +kernel
theorem ddG_endScope_83 : decode cG_endScope 83 = .ok (.aload_n 1, 1) := by decide +kernel
theorem ddG_endScope_84 : decode cG_endScope 84 = .ok (.iload_n 3, 1) := by decide +kernel
theorem ddG_endScope_85 : decode cG_endScope 85 = .ok (.aload_n 0, 1) := by decide +kernel
theorem ddG_endScope_86 : decode cG_endScope 86 = .ok (.getfield 9, 3) := by decide +kernel
theorem ddG_endScope_89 : decode cG_endScope 89 = .ok (.iload_n 2, 1) := by decide +kernel
theorem ddG_endScope_90 : decode cG_endScope 90 = .ok (.iaload, 1) := by decide +kernel
theorem ddG_endScope_91 : decode cG_endScope 91 = .ok (.invokevirtual 92, 3) := by decide +kernel
theorem ddG_endScope_94 : decode cG_endScope 94 = .ok (.pop, 1) := by decide +kernel
theorem ddG_endScope_95 : decode cG_endScope 95 = .ok (.aload_n 0, 1) := by decide +kernel
theorem ddG_endScope_96 : decode cG_endScope 96 = .ok (.getfield 9, 3) := by decide +kernel
theorem ddG_endScope_99 : decode cG_endScope 99 = .ok (.iload_n 2, 1) := by decide +kernel
theorem ddG_endScope_100 : decode cG_endScope 100 = .ok (.iconst (-1), 1) := by decide +kernel
theorem ddG_endScope_101 : decode cG_endScope 101 = .ok (.iastore, 1) := by decide +kernel
theorem ddG_endScope_102 : decode cG_endScope 102 = .ok (.iinc 2 (-1), 3) := by decide +kernel
theorem ddG_endScope_105 : decode cG_endScope 105 = .ok (.goto (-98), 3) := by decide +kernel
theorem ddG_endScope_108 : decode cG_endScope 108 = .ok (.aload_n 0, 1) := by decide +kernel
theorem ddG_endScope_109 : decode cG_endScope 109 = .ok (.dup, 1) := by decide +kernel
theorem ddG_endScope_110 : decode cG_endScope 110 = .ok (.getfield 25, 3) := by decide +kernel
theorem ddG_endScope_113 : decode cG_endScope 113 = .ok (.iconst 1, 1) := by decide +kernel
theorem ddG_endScope_114 : decode cG_endScope 114 = .ok (.isub, 1) := by decide +kernel
theorem ddG_endScope_115 : decode cG_endScope 115 = .ok (.putfield 25, 3) := by decide +kernel
theorem ddG_endScope_118 : decode cG_endScope 118 = .ok (.return_, 1) := by decide +kernel
set_option maxHeartbeats 2000000 in
theorem zBG_endScope_108 {G : GXM} {X : CxM} (hG : GokM G) (C : CoM G X cG_endScope "HomeFreed$Progress") (N : mLM X = 4) {d : Nat} (hD : dpM X = d) (hd : 3 ≤ d)  {q : Mem} (E : EnM G X none none q 0 0) {v0 : Nat} {M : Mem} (h : BG_endScope_108 v0 M = some q) : ZM G X 108 [(0, .ref v0)] [] M 0 0 := by
  unfold BG_endScope_108 at h
  refine zz_aload_n C 0 ddG_endScope_108 rfl rfl ?_
  refine zz_dup C ddG_endScope_109 rfl ?_
  obtain ⟨h1, h⟩ := gdN h
  refine zz_geti C ddG_endScope_110 fl_G_25 rfl h1 ?_
  refine zz_iconst (v := 1) C ddG_endScope_113 (by decide) ?_
  refine zz_isub C ddG_endScope_114 ?_
  refine zz_puti C ddG_endScope_115 fl_G_25 rfl rfl rfl h1 ?_
  obtain rfl := Option.some.inj h
  exact zz_vret C E ddG_endScope_118
set_option maxHeartbeats 2000000 in
theorem zBG_endScope_102 {G : GXM} {X : CxM} (hG : GokM G) (C : CoM G X cG_endScope "HomeFreed$Progress") (N : mLM X = 4) {d : Nat} (hD : dpM X = d) (hd : 3 ≤ d) {v0 : Nat} {v1 : Nat} {K : Nat → Nat → Int32 → Mem → Option ((Mem))} {q : (Mem)} (hK : ∀ (v2 : Int32) (M : Mem), K v0 v1 v2 M = some q → ZM G X 7 [(0, .ref v0), (1, .ref v1), (2, .int v2)] [] M 0 0) (hx0 : ∀ y : Mem, q = y → ZM G X 108 [(0, .ref v0)] [] y 0 0) {v2 : Int32} {M : Mem} (h : BG_endScope_102 K v0 v1 v2 M = some q) : ZM G X 102 [(0, .ref v0), (1, .ref v1), (2, .int v2)] [] M 0 0 := by
  unfold BG_endScope_102 at h
  refine zz_iinc (v := v2 + (-1)) (L1 := [(2, .int (v2 + (-1))), (0, .ref v0), (1, .ref v1)]) C 2 ddG_endScope_102 rfl rfl N (by decide) rfl ?_
  refine zz_goto (tgt := 7) C ddG_endScope_105 rfl ?_
  refine zz_loc (L1 := [(0, .ref v0), (1, .ref v1), (2, .int (v2 + (-1)))]) [1, 2, 0] rfl ?_
  exact hK _ _ h
set_option maxHeartbeats 2000000 in
theorem zBG_endScope_67 {G : GXM} {X : CxM} (hG : GokM G) (C : CoM G X cG_endScope "HomeFreed$Progress") (N : mLM X = 4) {d : Nat} (hD : dpM X = d) (hd : 3 ≤ d) {v0 : Nat} {v1 : Nat} {K : Nat → Nat → Int32 → Mem → Option ((Mem))} {q : (Mem)} (hK : ∀ (v2 : Int32) (M : Mem), K v0 v1 v2 M = some q → ZM G X 7 [(0, .ref v0), (1, .ref v1), (2, .int v2)] [] M 0 0) (hx0 : ∀ y : Mem, q = y → ZM G X 108 [(0, .ref v0)] [] y 0 0) {v2 : Int32} {w0 : Int32} {M : Mem} (h : BG_endScope_67 K v0 v1 v2 w0 M = some q) : ZM G X 67 [(0, .ref v0), (1, .ref v1), (2, .int v2)] [.int w0] M 0 0 := by
  unfold BG_endScope_67 at h
  refine zz_istore_n (L1 := [(3, .int w0), (0, .ref v0), (1, .ref v1), (2, .int v2)]) C ddG_endScope_67 rfl N (by decide) rfl ?_
  refine zz_iload_n C 0 ddG_endScope_68 rfl rfl ?_
  refine zz_iconst (v := (-1)) C ddG_endScope_69 (by decide) ?_
  refine zz_icmp_eq (tgt := 102) C ddG_endScope_70 rfl (fun hc => ?_) (fun hc => ?_)
  · replace h := iteT h hc
    refine zz_loc (L1 := [(0, .ref v0), (1, .ref v1), (2, .int v2)]) [1, 2, 3] rfl ?_
    exact zBG_endScope_102 hG C N hD hd hK hx0 h
  · replace h := iteF h hc
    refine zz_aload_n C 1 ddG_endScope_73 rfl rfl ?_
    obtain ⟨h1, h⟩ := gdN h
    obtain ⟨h2, h⟩ := gdN h
    refine zz_getr C ddG_endScope_74 fl_G_9 rfl h1 (of_decide_eq_true h2) ?_
    refine zz_iload_n C 3 ddG_endScope_77 rfl rfl ?_
    obtain ⟨h3, h⟩ := gdN h
    refine zz_iaload C ddG_endScope_78 h3 ?_
    refine zz_iconst (v := (-1)) C ddG_endScope_79 (by decide) ?_
    refine zz_icmp_eq (tgt := 102) C ddG_endScope_80 rfl (fun hc => ?_) (fun hc => ?_)
    · replace h := iteT h hc
      refine zz_loc (L1 := [(0, .ref v0), (1, .ref v1), (2, .int v2)]) [1, 2, 3] rfl ?_
      exact zBG_endScope_102 hG C N hD hd hK hx0 h
    · replace h := iteF h hc
      refine zz_aload_n C 2 ddG_endScope_83 rfl rfl ?_
      refine zz_iload_n C 0 ddG_endScope_84 rfl rfl ?_
      refine zz_aload_n C 1 ddG_endScope_85 rfl rfl ?_
      refine zz_getr C ddG_endScope_86 fl_G_9 rfl h1 (of_decide_eq_true h2) ?_
      refine zz_iload_n C 3 ddG_endScope_89 rfl rfl ?_
      refine zz_iaload C ddG_endScope_90 h3 ?_
      obtain ⟨h5, h⟩ := gdN h
      obtain ⟨q4, hq4, h⟩ := bindN h
      refine zz_callV0 (As := [.int w0, .int (giM M (grM M v0 0) (Int32.toNatClampNeg v2))]) C ddG_endScope_91 wd_838 my_H_giveBlock mv_H_giveBlock ⟨_, rfl, rfl⟩ (xH_giveBlock hG (d - 1) (by omega) hq4) (by omega) h5 rfl rfl (Nat.le_of_ble_eq_true rfl) ?_
      refine zz_pop C ddG_endScope_94 rfl ?_
      refine zz_aload_n C 1 ddG_endScope_95 rfl rfl ?_
      obtain ⟨h6, h⟩ := gdN h
      obtain ⟨h7, h⟩ := gdN h
      refine zz_getr C ddG_endScope_96 fl_G_9 rfl h6 (of_decide_eq_true h7) ?_
      refine zz_iload_n C 3 ddG_endScope_99 rfl rfl ?_
      refine zz_iconst (v := (-1)) C ddG_endScope_100 (by decide) ?_
      obtain ⟨h8, h⟩ := gdN h
      refine zz_iastore C ddG_endScope_101 h8 ?_
      refine zz_loc (L1 := [(0, .ref v0), (1, .ref v1), (2, .int v2)]) [1, 2, 3] rfl ?_
      exact zBG_endScope_102 hG C N hD hd hK hx0 h
set_option maxHeartbeats 2000000 in
theorem zBG_endScope_7 {G : GXM} {X : CxM} (hG : GokM G) (C : CoM G X cG_endScope "HomeFreed$Progress") (N : mLM X = 4) {d : Nat} (hD : dpM X = d) (hd : 3 ≤ d) {v0 : Nat} {v1 : Nat} {K : Nat → Nat → Int32 → Mem → Option ((Mem))} {q : (Mem)} (hK : ∀ (v2 : Int32) (M : Mem), K v0 v1 v2 M = some q → ZM G X 7 [(0, .ref v0), (1, .ref v1), (2, .int v2)] [] M 0 0) (hx0 : ∀ y : Mem, q = y → ZM G X 108 [(0, .ref v0)] [] y 0 0) {v2 : Int32} {M : Mem} (h : BG_endScope_7 K v0 v1 v2 M = some q) : ZM G X 7 [(0, .ref v0), (1, .ref v1), (2, .int v2)] [] M 0 0 := by
  unfold BG_endScope_7 at h
  refine zz_iload_n C 2 ddG_endScope_7 rfl rfl ?_
  refine zz_if_lt (tgt := 108) C ddG_endScope_8 rfl (fun hc => ?_) (fun hc => ?_)
  · replace h := iteT h hc
    refine zz_loc (L1 := [(0, .ref v0)]) [0] rfl ?_
    exact hx0 _ (Option.some.inj h).symm
  · replace h := iteF h hc
    refine zz_aload_n C 0 ddG_endScope_11 rfl rfl ?_
    obtain ⟨h1, h⟩ := gdN h
    refine zz_geti C ddG_endScope_12 fl_G_25 rfl h1 ?_
    refine zz_if_le (tgt := 108) C ddG_endScope_15 rfl (fun hc => ?_) (fun hc => ?_)
    · replace h := iteT h hc
      refine zz_loc (L1 := [(0, .ref v0)]) [0] rfl ?_
      exact hx0 _ (Option.some.inj h).symm
    · replace h := iteF h hc
      refine zz_aload_n C 0 ddG_endScope_18 rfl rfl ?_
      obtain ⟨h2, h⟩ := gdN h
      refine zz_getr C ddG_endScope_19 fl_G_18 rfl h1 (of_decide_eq_true h2) ?_
      refine zz_iload_n C 2 ddG_endScope_22 rfl rfl ?_
      obtain ⟨h3, h⟩ := gdN h
      refine zz_iaload C ddG_endScope_23 h3 ?_
      refine zz_aload_n C 0 ddG_endScope_24 rfl rfl ?_
      refine zz_geti C ddG_endScope_25 fl_G_25 rfl h1 ?_
      refine zz_icmp_eq (tgt := 34) C ddG_endScope_28 rfl (fun hc => ?_) (fun hc => ?_)
      · replace h := iteT h hc
        refine zz_aload_n C 0 ddG_endScope_34 rfl rfl ?_
        refine zz_getr C ddG_endScope_35 fl_G_18 rfl h1 (of_decide_eq_true h2) ?_
        refine zz_iload_n C 2 ddG_endScope_38 rfl rfl ?_
        refine zz_iconst (v := 0) C ddG_endScope_39 (by decide) ?_
        obtain ⟨h4, h⟩ := gdN h
        refine zz_iastore C ddG_endScope_40 h4 ?_
        refine zz_aload_n C 1 ddG_endScope_41 rfl rfl ?_
        refine zz_aload_n C 0 ddG_endScope_42 rfl rfl ?_
        obtain ⟨h5, h⟩ := gdN h
        refine zz_getr C ddG_endScope_43 fl_G_15 rfl h1 (of_decide_eq_true h5) ?_
        refine zz_iload_n C 2 ddG_endScope_46 rfl rfl ?_
        obtain ⟨h6, h⟩ := gdN h
        refine zz_iaload C ddG_endScope_47 h6 ?_
        obtain ⟨h8, h⟩ := gdN h
        obtain ⟨q7, hq7, h⟩ := bindN h
        refine zz_callV0 (As := [.int (giM (siM M (grM M v0 2) (Int32.toNatClampNeg v2) 0) (grM M v0 1) (Int32.toNatClampNeg v2))]) C ddG_endScope_48 wd_833 my_H_isLiving mv_H_isLiving ⟨_, rfl, rfl⟩ (xH_isLiving hG (d - 1) (by omega) hq7) (by omega) h8 rfl rfl (Nat.le_of_ble_eq_true rfl) ?_
        refine zz_if_eq (tgt := 63) C ddG_endScope_51 rfl (fun hc => ?_) (fun hc => ?_)
        · replace h := iteT h hc
          refine zz_aload_n C 1 ddG_endScope_63 rfl rfl ?_
          obtain ⟨h10, h⟩ := gdN h
          obtain ⟨q9, hq9, h⟩ := bindN h
          refine zz_callV0 (As := []) C ddG_endScope_64 wd_834 my_H_lowestLiving mv_H_lowestLiving ⟨_, rfl, rfl⟩ (xH_lowestLiving hG (d - 1) (by omega) hq9) (by omega) h10 rfl rfl (Nat.le_of_ble_eq_true rfl) ?_
          exact zBG_endScope_67 hG C N hD hd hK hx0 h
        · replace h := iteF h hc
          refine zz_aload_n C 0 ddG_endScope_54 rfl rfl ?_
          obtain ⟨h11, h⟩ := gdN h
          obtain ⟨h12, h⟩ := gdN h
          refine zz_getr C ddG_endScope_55 fl_G_15 rfl h11 (of_decide_eq_true h12) ?_
          refine zz_iload_n C 2 ddG_endScope_58 rfl rfl ?_
          obtain ⟨h13, h⟩ := gdN h
          refine zz_iaload C ddG_endScope_59 h13 ?_
          refine zz_goto (tgt := 67) C ddG_endScope_60 rfl ?_
          exact zBG_endScope_67 hG C N hD hd hK hx0 h
      · replace h := iteF h hc
        refine zz_goto (tgt := 102) C ddG_endScope_31 rfl ?_
        exact zBG_endScope_102 hG C N hD hd hK hx0 h
set_option maxHeartbeats 2000000 in
theorem zLG_endScope_7 {G : GXM} {X : CxM} (hG : GokM G) (C : CoM G X cG_endScope "HomeFreed$Progress") (N : mLM X = 4) {d : Nat} (hD : dpM X = d) (hd : 3 ≤ d) {v0 : Nat} {v1 : Nat} {q : (Mem)} : ∀ (f : Nat) (v2 : Int32) (M : Mem), LG_endScope_7 f v0 v1 v2 M = some q → (hx0 : ∀ y : Mem, q = y → ZM G X 108 [(0, .ref v0)] [] y 0 0) → ZM G X 7 [(0, .ref v0), (1, .ref v1), (2, .int v2)] [] M 0 0 := by
  intro f
  induction f with
  | zero => intro v2 M h; cases h
  | succ f ih =>
    intro v2 M h hx0
    exact zBG_endScope_7 hG C N hD hd (K := LG_endScope_7 f) (q := q) (fun v2 M h => ih v2 M h hx0) hx0 h
set_option maxHeartbeats 2000000 in
theorem xG_endScope {G : GXM} {l : Launch} (hG : GokM G) (d : Nat) (hd : 3 ≤ d) {v0 : Nat} {v1 : Nat} {M : Mem} {q : Mem} (h : fG_endScope v0 v1 M = some q) : ExM G l d 0 0 yG_endScope cG_endScope 4 none [.ref v0, .ref v1] M none q := by
  refine ex_of hG (by decide +kernel) (Nat.le_of_ble_eq_true rfl) ?_
  intro X hl C E N hD hn
  show ZM G X 0 [(0, .ref v0), (1, .ref v1)] [] M 0 0
  unfold fG_endScope at h
  refine zz_aload_n C 0 ddG_endScope_0 rfl rfl ?_
  obtain ⟨h1, h⟩ := gdN h
  refine zz_geti C ddG_endScope_1 fl_G_21 rfl h1 ?_
  refine zz_iconst (v := 1) C ddG_endScope_4 (by decide) ?_
  refine zz_isub C ddG_endScope_5 ?_
  refine zz_istore_n (L1 := [(2, .int ((giM M v0 3) - 1)), (0, .ref v0), (1, .ref v1)]) C ddG_endScope_6 rfl N (by decide) rfl ?_
  refine zz_loc (L1 := [(0, .ref v0), (1, .ref v1), (2, .int ((giM M v0 3) - 1))]) [1, 2, 0] rfl ?_
  obtain ⟨q2, hq2, h⟩ := bindN h
  refine zLG_endScope_7 hG C N hD hd 1000000 _ _ hq2 ?_
  · intro y3 eq2; replace eq2 := eq2.symm; subst eq2
    exact zBG_endScope_108 hG C N hD hd E h
theorem ddG_noteGot_0 : decode cG_noteGot 0 = .ok (.iload_n 1, 1) := by decide +kernel
theorem ddG_noteGot_1 : decode cG_noteGot 1 = .ok (.iconst (-1), 1) := by decide +kernel
theorem ddG_noteGot_2 : decode cG_noteGot 2 = .ok (.if_icmp .eq 12, 3) := by decide +kernel
theorem ddG_noteGot_5 : decode cG_noteGot 5 = .ok (.aload_n 0, 1) := by decide +kernel
theorem ddG_noteGot_6 : decode cG_noteGot 6 = .ok (.getfield 21, 3) := by decide +kernel
theorem ddG_noteGot_9 : decode cG_noteGot 9 = .ok (.bipush 24, 2) := by decide +kernel
theorem ddG_noteGot_11 : decode cG_noteGot 11 = .ok (.if_icmp .lt 5, 3) := by decide +kernel
theorem ddG_noteGot_14 : decode cG_noteGot 14 = .ok (.iconst 0, 1) := by decide +kernel
theorem ddG_noteGot_15 : decode cG_noteGot 15 = .ok (.ireturn, 1) := by decide +kernel
theorem ddG_noteGot_16 : decode cG_noteGot 16 = .ok (.aload_n 0, 1) := by decide +kernel
theorem ddG_noteGot_17 : decode cG_noteGot 17 = .ok (.getfield 9, 3) := by decide +kernel
theorem ddG_noteGot_20 : decode cG_noteGot 20 = .ok (.aload_n 0, 1) := by decide +kernel
theorem ddG_noteGot_21 : decode cG_noteGot 21 = .ok (.getfield 21, 3) := by decide +kernel
theorem ddG_noteGot_24 : decode cG_noteGot 24 = .ok (.iload_n 1, 1) := by decide +kernel
theorem ddG_noteGot_25 : decode cG_noteGot 25 = .ok (.iastore, 1) := by decide +kernel
theorem ddG_noteGot_26 : decode cG_noteGot 26 = .ok (.aload_n 0, 1) := by decide +kernel
theorem ddG_noteGot_27 : decode cG_noteGot 27 = .ok (.getfield 15, 3) := by decide +kernel
theorem ddG_noteGot_30 : decode cG_noteGot 30 = .ok (.aload_n 0, 1) := by decide +kernel
theorem ddG_noteGot_31 : decode cG_noteGot 31 = .ok (.getfield 21, 3) := by decide +kernel
theorem ddG_noteGot_34 : decode cG_noteGot 34 = .ok (.iload_n 2, 1) := by decide +kernel
theorem ddG_noteGot_35 : decode cG_noteGot 35 = .ok (.iastore, 1) := by decide +kernel
theorem ddG_noteGot_36 : decode cG_noteGot 36 = .ok (.aload_n 0, 1) := by decide +kernel
theorem ddG_noteGot_37 : decode cG_noteGot 37 = .ok (.getfield 18, 3) := by decide +kernel
theorem ddG_noteGot_40 : decode cG_noteGot 40 = .ok (.aload_n 0, 1) := by decide +kernel
theorem ddG_noteGot_41 : decode cG_noteGot 41 = .ok (.getfield 21, 3) := by decide +kernel
theorem ddG_noteGot_44 : decode cG_noteGot 44 = .ok (.aload_n 0, 1) := by decide +kernel
theorem ddG_noteGot_45 : decode cG_noteGot 45 = .ok (.getfield 25, 3) := by decide +kernel
theorem ddG_noteGot_48 : decode cG_noteGot 48 = .ok (.iastore, 1) := by decide +kernel
theorem ddG_noteGot_49 : decode cG_noteGot 49 = .ok (.aload_n 0, 1) := by decide +kernel
theorem ddG_noteGot_50 : decode cG_noteGot 50 = .ok (.dup, 1) := by decide +kernel
theorem ddG_noteGot_51 : decode cG_noteGot 51 = .ok (.getfield 21, 3) := by decide +kernel
theorem ddG_noteGot_54 : decode cG_noteGot 54 = .ok (.iconst 1, 1) := by decide +kernel
theorem ddG_noteGot_55 : decode cG_noteGot 55 = .ok (.iadd, 1) := by decide +kernel
theorem ddG_noteGot_56 : decode cG_noteGot 56 = .ok (.putfield 21, 3) := by decide +kernel
theorem ddG_noteGot_59 : decode cG_noteGot 59 = .ok (.iconst 1, 1) := by decide +kernel
theorem ddG_noteGot_60 : decode cG_noteGot 60 = .ok (.ireturn, 1) := by decide +kernel
set_option maxHeartbeats 2000000 in
theorem zBG_noteGot_14 {G : GXM} {X : CxM} (hG : GokM G) (C : CoM G X cG_noteGot "HomeFreed$Progress") (N : mLM X = 3) {d : Nat} (hD : dpM X = d) (hd : 0 ≤ d)  {q : Int32 × Mem} (E : EnM G X (some .boolean) (some (.int q.1)) q.2 0 0) {M : Mem} (h : BG_noteGot_14 M = some q) : ZM G X 14 [] [] M 0 0 := by
  unfold BG_noteGot_14 at h
  refine zz_iconst (v := 0) C ddG_noteGot_14 (by decide) ?_
  obtain rfl := Option.some.inj h
  exact zz_zret C (by decide) E ddG_noteGot_15
set_option maxHeartbeats 2000000 in
theorem xG_noteGot {G : GXM} {l : Launch} (hG : GokM G) (d : Nat) (hd : 0 ≤ d) {v0 : Nat} {v1 : Int32} {v2 : Int32} {M : Mem} {q : Int32 × Mem} (h : fG_noteGot v0 v1 v2 M = some q) : ExM G l d 0 0 yG_noteGot cG_noteGot 3 (some .boolean) [.ref v0, .int v1, .int v2] M (some (.int q.1)) q.2 := by
  refine ex_of hG (by decide +kernel) (Nat.le_of_ble_eq_true rfl) ?_
  intro X hl C E N hD hn
  show ZM G X 0 [(0, .ref v0), (1, .int v1), (2, .int v2)] [] M 0 0
  unfold fG_noteGot at h
  refine zz_iload_n C 1 ddG_noteGot_0 rfl rfl ?_
  refine zz_iconst (v := (-1)) C ddG_noteGot_1 (by decide) ?_
  refine zz_icmp_eq (tgt := 14) C ddG_noteGot_2 rfl (fun hc => ?_) (fun hc => ?_)
  · replace h := iteT h hc
    refine zz_loc (L1 := []) [] rfl ?_
    exact zBG_noteGot_14 hG C N hD hd E h
  · replace h := iteF h hc
    refine zz_aload_n C 0 ddG_noteGot_5 rfl rfl ?_
    obtain ⟨h1, h⟩ := gdN h
    refine zz_geti C ddG_noteGot_6 fl_G_21 rfl h1 ?_
    refine zz_bipush (v := 24) C ddG_noteGot_9 (by decide) ?_
    refine zz_icmp_lt (tgt := 16) C ddG_noteGot_11 rfl (fun hc => ?_) (fun hc => ?_)
    · replace h := iteT h hc
      refine zz_aload_n C 0 ddG_noteGot_16 rfl rfl ?_
      obtain ⟨h2, h⟩ := gdN h
      refine zz_getr C ddG_noteGot_17 fl_G_9 rfl h1 (of_decide_eq_true h2) ?_
      refine zz_aload_n C 0 ddG_noteGot_20 rfl rfl ?_
      refine zz_geti C ddG_noteGot_21 fl_G_21 rfl h1 ?_
      refine zz_iload_n C 1 ddG_noteGot_24 rfl rfl ?_
      obtain ⟨h3, h⟩ := gdN h
      refine zz_iastore C ddG_noteGot_25 h3 ?_
      refine zz_aload_n C 0 ddG_noteGot_26 rfl rfl ?_
      obtain ⟨h4, h⟩ := gdN h
      refine zz_getr C ddG_noteGot_27 fl_G_15 rfl h1 (of_decide_eq_true h4) ?_
      refine zz_aload_n C 0 ddG_noteGot_30 rfl rfl ?_
      refine zz_geti C ddG_noteGot_31 fl_G_21 rfl h1 ?_
      refine zz_iload_n C 2 ddG_noteGot_34 rfl rfl ?_
      obtain ⟨h5, h⟩ := gdN h
      refine zz_iastore C ddG_noteGot_35 h5 ?_
      refine zz_aload_n C 0 ddG_noteGot_36 rfl rfl ?_
      obtain ⟨h6, h⟩ := gdN h
      refine zz_getr C ddG_noteGot_37 fl_G_18 rfl h1 (of_decide_eq_true h6) ?_
      refine zz_aload_n C 0 ddG_noteGot_40 rfl rfl ?_
      refine zz_geti C ddG_noteGot_41 fl_G_21 rfl h1 ?_
      refine zz_aload_n C 0 ddG_noteGot_44 rfl rfl ?_
      refine zz_geti C ddG_noteGot_45 fl_G_25 rfl h1 ?_
      obtain ⟨h7, h⟩ := gdN h
      refine zz_iastore C ddG_noteGot_48 h7 ?_
      refine zz_aload_n C 0 ddG_noteGot_49 rfl rfl ?_
      refine zz_dup C ddG_noteGot_50 rfl ?_
      refine zz_geti C ddG_noteGot_51 fl_G_21 rfl h1 ?_
      refine zz_iconst (v := 1) C ddG_noteGot_54 (by decide) ?_
      refine zz_iadd C ddG_noteGot_55 ?_
      refine zz_puti C ddG_noteGot_56 fl_G_21 rfl rfl rfl h1 ?_
      refine zz_iconst (v := 1) C ddG_noteGot_59 (by decide) ?_
      obtain rfl := Option.some.inj h
      exact zz_zret C (by decide) E ddG_noteGot_60
    · replace h := iteF h hc
      refine zz_loc (L1 := []) [] rfl ?_
      exact zBG_noteGot_14 hG C N hD hd E h
theorem ddG_giveNumbered_0 : decode cG_giveNumbered 0 = .ok (.iload_n 3, 1) := by decide +kernel
theorem ddG_giveNumbered_1 : decode cG_giveNumbered 1 = .ok (.ifCond .lt 29, 3) := by decide +kernel
theorem ddG_giveNumbered_4 : decode cG_giveNumbered 4 = .ok (.iload_n 3, 1) := by decide +kernel
theorem ddG_giveNumbered_5 : decode cG_giveNumbered 5 = .ok (.aload_n 0, 1) := by decide +kernel
theorem ddG_giveNumbered_6 : decode cG_giveNumbered 6 = .ok (.getfield 21, 3) := by decide +kernel
theorem ddG_giveNumbered_9 : decode cG_giveNumbered 9 = .ok (.if_icmp .ge 21, 3) := by decide +kernel
theorem ddG_giveNumbered_12 : decode cG_giveNumbered 12 = .ok (.aload_n 0, 1) := by decide +kernel
theorem ddG_giveNumbered_13 : decode cG_giveNumbered 13 = .ok (.getfield 9, 3) := by decide +kernel
theorem ddG_giveNumbered_16 : decode cG_giveNumbered 16 = .ok (.iload_n 3, 1) := by decide +kernel
theorem ddG_giveNumbered_17 : decode cG_giveNumbered 17 = .ok (.iaload, 1) := by decide +kernel
theorem ddG_giveNumbered_18 : decode cG_giveNumbered 18 = .ok (.iconst (-1), 1) := by decide +kernel
theorem ddG_giveNumbered_19 : decode cG_giveNumbered 19 = .ok (.if_icmp .eq 11, 3) := by decide +kernel
theorem ddG_giveNumbered_22 : decode cG_giveNumbered 22 = .ok (.aload_n 1, 1) := by decide +kernel
theorem ddG_giveNumbered_23 : decode cG_giveNumbered 23 = .ok (.iload_n 2, 1) := by decide +kernel
theorem ddG_giveNumbered_24 : decode cG_giveNumbered 24 = .ok (.invokevirtual 82, 3) := by decide +kernel
theorem ddG_giveNumbered_27 : decode cG_giveNumbered 27 = .ok (.ifCond .ne 5, 3) := by decide +kernel
theorem ddG_giveNumbered_30 : decode cG_giveNumbered 30 = .ok (.iconst 0, 1) := by decide +kernel
theorem ddG_giveNumbered_31 : decode cG_giveNumbered 31 = .ok (.ireturn, 1) := by decide +kernel
theorem ddG_giveNumbered_32 : decode cG_giveNumbered 32 = .ok (.aload_n 1, 1) := by decide +kernel
theorem ddG_giveNumbered_33 : decode cG_giveNumbered 33 = .ok (.iload_n 2, 1) := by decide +kernel
theorem ddG_giveNumbered_34 : decode cG_giveNumbered 34 = .ok (.aload_n 0, 1) := by decide +kernel
theorem ddG_giveNumbered_35 : decode cG_giveNumbered 35 = .ok (.getfield 9, 3) := by decide +kernel
theorem ddG_giveNumbered_38 : decode cG_giveNumbered 38 = .ok (.iload_n 3, 1) := by decide +kernel
theorem ddG_giveNumbered_39 : decode cG_giveNumbered 39 = .ok (.iaload, 1) := by decide +kernel
theorem ddG_giveNumbered_40 : decode cG_giveNumbered 40 = .ok (.invokevirtual 92, 3) := by decide +kernel
theorem ddG_giveNumbered_43 : decode cG_giveNumbered 43 = .ok (.pop, 1) := by decide +kernel
theorem ddG_giveNumbered_44 : decode cG_giveNumbered 44 = .ok (.aload_n 0, 1) := by decide +kernel
theorem ddG_giveNumbered_45 : decode cG_giveNumbered 45 = .ok (.getfield 9, 3) := by decide +kernel
theorem ddG_giveNumbered_48 : decode cG_giveNumbered 48 = .ok (.iload_n 3, 1) := by decide +kernel
theorem ddG_giveNumbered_49 : decode cG_giveNumbered 49 = .ok (.iconst (-1), 1) := by decide +kernel
theorem ddG_giveNumbered_50 : decode cG_giveNumbered 50 = .ok (.iastore, 1) := by decide +kernel
theorem ddG_giveNumbered_51 : decode cG_giveNumbered 51 = .ok (.iconst 1, 1) := by decide +kernel
theorem ddG_giveNumbered_52 : decode cG_giveNumbered 52 = .ok (.ireturn, 1) := by decide +kernel
set_option maxHeartbeats 2000000 in
theorem zBG_giveNumbered_30 {G : GXM} {X : CxM} (hG : GokM G) (C : CoM G X cG_giveNumbered "HomeFreed$Progress") (N : mLM X = 4) {d : Nat} (hD : dpM X = d) (hd : 3 ≤ d)  {q : Int32 × Mem} (E : EnM G X (some .boolean) (some (.int q.1)) q.2 0 0) {M : Mem} (h : BG_giveNumbered_30 M = some q) : ZM G X 30 [] [] M 0 0 := by
  unfold BG_giveNumbered_30 at h
  refine zz_iconst (v := 0) C ddG_giveNumbered_30 (by decide) ?_
  obtain rfl := Option.some.inj h
  exact zz_zret C (by decide) E ddG_giveNumbered_31
set_option maxHeartbeats 2000000 in
theorem xG_giveNumbered {G : GXM} {l : Launch} (hG : GokM G) (d : Nat) (hd : 3 ≤ d) {v0 : Nat} {v1 : Nat} {v2 : Int32} {v3 : Int32} {M : Mem} {q : Int32 × Mem} (h : fG_giveNumbered v0 v1 v2 v3 M = some q) : ExM G l d 0 0 yG_giveNumbered cG_giveNumbered 4 (some .boolean) [.ref v0, .ref v1, .int v2, .int v3] M (some (.int q.1)) q.2 := by
  refine ex_of hG (by decide +kernel) (Nat.le_of_ble_eq_true rfl) ?_
  intro X hl C E N hD hn
  show ZM G X 0 [(0, .ref v0), (1, .ref v1), (2, .int v2), (3, .int v3)] [] M 0 0
  unfold fG_giveNumbered at h
  refine zz_iload_n C 3 ddG_giveNumbered_0 rfl rfl ?_
  refine zz_if_lt (tgt := 30) C ddG_giveNumbered_1 rfl (fun hc => ?_) (fun hc => ?_)
  · replace h := iteT h hc
    refine zz_loc (L1 := []) [] rfl ?_
    exact zBG_giveNumbered_30 hG C N hD hd E h
  · replace h := iteF h hc
    refine zz_iload_n C 3 ddG_giveNumbered_4 rfl rfl ?_
    refine zz_aload_n C 0 ddG_giveNumbered_5 rfl rfl ?_
    obtain ⟨h1, h⟩ := gdN h
    refine zz_geti C ddG_giveNumbered_6 fl_G_21 rfl h1 ?_
    refine zz_icmp_ge (tgt := 30) C ddG_giveNumbered_9 rfl (fun hc => ?_) (fun hc => ?_)
    · replace h := iteT h hc
      refine zz_loc (L1 := []) [] rfl ?_
      exact zBG_giveNumbered_30 hG C N hD hd E h
    · replace h := iteF h hc
      refine zz_aload_n C 0 ddG_giveNumbered_12 rfl rfl ?_
      obtain ⟨h2, h⟩ := gdN h
      refine zz_getr C ddG_giveNumbered_13 fl_G_9 rfl h1 (of_decide_eq_true h2) ?_
      refine zz_iload_n C 3 ddG_giveNumbered_16 rfl rfl ?_
      obtain ⟨h3, h⟩ := gdN h
      refine zz_iaload C ddG_giveNumbered_17 h3 ?_
      refine zz_iconst (v := (-1)) C ddG_giveNumbered_18 (by decide) ?_
      refine zz_icmp_eq (tgt := 30) C ddG_giveNumbered_19 rfl (fun hc => ?_) (fun hc => ?_)
      · replace h := iteT h hc
        refine zz_loc (L1 := []) [] rfl ?_
        exact zBG_giveNumbered_30 hG C N hD hd E h
      · replace h := iteF h hc
        refine zz_aload_n C 1 ddG_giveNumbered_22 rfl rfl ?_
        refine zz_iload_n C 2 ddG_giveNumbered_23 rfl rfl ?_
        obtain ⟨h5, h⟩ := gdN h
        obtain ⟨q4, hq4, h⟩ := bindN h
        refine zz_callV0 (As := [.int v2]) C ddG_giveNumbered_24 wd_833 my_H_isLiving mv_H_isLiving ⟨_, rfl, rfl⟩ (xH_isLiving hG (d - 1) (by omega) hq4) (by omega) h5 rfl rfl (Nat.le_of_ble_eq_true rfl) ?_
        refine zz_if_ne (tgt := 32) C ddG_giveNumbered_27 rfl (fun hc => ?_) (fun hc => ?_)
        · replace h := iteF h hc
          refine zz_aload_n C 1 ddG_giveNumbered_32 rfl rfl ?_
          refine zz_iload_n C 2 ddG_giveNumbered_33 rfl rfl ?_
          refine zz_aload_n C 0 ddG_giveNumbered_34 rfl rfl ?_
          obtain ⟨h6, h⟩ := gdN h
          obtain ⟨h7, h⟩ := gdN h
          refine zz_getr C ddG_giveNumbered_35 fl_G_9 rfl h6 (of_decide_eq_true h7) ?_
          refine zz_iload_n C 3 ddG_giveNumbered_38 rfl rfl ?_
          obtain ⟨h8, h⟩ := gdN h
          refine zz_iaload C ddG_giveNumbered_39 h8 ?_
          obtain ⟨h10, h⟩ := gdN h
          obtain ⟨q9, hq9, h⟩ := bindN h
          refine zz_callV0 (As := [.int v2, .int (giM q4.2 (grM q4.2 v0 0) (Int32.toNatClampNeg v3))]) C ddG_giveNumbered_40 wd_838 my_H_giveBlock mv_H_giveBlock ⟨_, rfl, rfl⟩ (xH_giveBlock hG (d - 1) (by omega) hq9) (by omega) h10 rfl rfl (Nat.le_of_ble_eq_true rfl) ?_
          refine zz_pop C ddG_giveNumbered_43 rfl ?_
          refine zz_aload_n C 0 ddG_giveNumbered_44 rfl rfl ?_
          obtain ⟨h11, h⟩ := gdN h
          obtain ⟨h12, h⟩ := gdN h
          refine zz_getr C ddG_giveNumbered_45 fl_G_9 rfl h11 (of_decide_eq_true h12) ?_
          refine zz_iload_n C 3 ddG_giveNumbered_48 rfl rfl ?_
          refine zz_iconst (v := (-1)) C ddG_giveNumbered_49 (by decide) ?_
          obtain ⟨h13, h⟩ := gdN h
          refine zz_iastore C ddG_giveNumbered_50 h13 ?_
          refine zz_iconst (v := 1) C ddG_giveNumbered_51 (by decide) ?_
          obtain rfl := Option.some.inj h
          exact zz_zret C (by decide) E ddG_giveNumbered_52
        · replace h := iteT h hc
          refine zz_loc (L1 := []) [] rfl ?_
          exact zBG_giveNumbered_30 hG C N hD hd E h
theorem ddG_tickOrSend_0 : decode cG_tickOrSend 0 = .ok (.aload_n 1, 1) := by decide +kernel
theorem ddG_tickOrSend_1 : decode cG_tickOrSend 1 = .ok (.iload_n 2, 1) := by decide +kernel
theorem ddG_tickOrSend_2 : decode cG_tickOrSend 2 = .ok (.invokevirtual 82, 3) := by decide +kernel
theorem ddG_tickOrSend_5 : decode cG_tickOrSend 5 = .ok (.ifCond .ne 5, 3) := by decide +kernel
theorem ddG_tickOrSend_8 : decode cG_tickOrSend 8 = .ok (.iconst 0, 1) := by decide +kernel
theorem ddG_tickOrSend_9 : decode cG_tickOrSend 9 = .ok (.ireturn, 1) := by decide +kernel
theorem ddG_tickOrSend_10 : decode cG_tickOrSend 10 = .ok (.iload_n 3, 1) := by decide +kernel
theorem ddG_tickOrSend_11 : decode cG_tickOrSend 11 = .ok (.iconst 3, 1) := by decide +kernel
theorem ddG_tickOrSend_12 : decode cG_tickOrSend 12 = .ok (.if_icmp .ne 11, 3) := by decide +kernel
theorem ddG_tickOrSend_15 : decode cG_tickOrSend 15 = .ok (.aload_n 1, 1) := by decide +kernel
theorem ddG_tickOrSend_16 : decode cG_tickOrSend 16 = .ok (.iload_n 2, 1) := by decide +kernel
theorem ddG_tickOrSend_17 : decode cG_tickOrSend 17 = .ok (.invokevirtual 85, 3) := by decide +kernel
theorem ddG_tickOrSend_20 : decode cG_tickOrSend 20 = .ok (.goto 9, 3) := by decide +kernel
theorem ddG_tickOrSend_23 : decode cG_tickOrSend 23 = .ok (.aload_n 1, 1) := by decide +kernel
theorem ddG_tickOrSend_24 : decode cG_tickOrSend 24 = .ok (.iload_n 2, 1) := by decide +kernel
theorem ddG_tickOrSend_25 : decode cG_tickOrSend 25 = .ok (.invokevirtual 88, 3) := by decide +kernel
theorem ddG_tickOrSend_28 : decode cG_tickOrSend 28 = .ok (.pop, 1) := by decide +kernel
theorem ddG_tickOrSend_29 : decode cG_tickOrSend 29 = .ok (.iconst 1, 1) := by decide +kernel
theorem ddG_tickOrSend_30 : decode cG_tickOrSend 30 = .ok (.ireturn, 1) := by decide +kernel
set_option maxHeartbeats 2000000 in
theorem zBG_tickOrSend_29 {G : GXM} {X : CxM} (hG : GokM G) (C : CoM G X cG_tickOrSend "HomeFreed$Progress") (N : mLM X = 4) {d : Nat} (hD : dpM X = d) (hd : 3 ≤ d)  {q : Int32 × Mem} (E : EnM G X (some .boolean) (some (.int q.1)) q.2 0 0) {M : Mem} (h : BG_tickOrSend_29 M = some q) : ZM G X 29 [] [] M 0 0 := by
  unfold BG_tickOrSend_29 at h
  refine zz_iconst (v := 1) C ddG_tickOrSend_29 (by decide) ?_
  obtain rfl := Option.some.inj h
  exact zz_zret C (by decide) E ddG_tickOrSend_30
set_option maxHeartbeats 2000000 in
theorem xG_tickOrSend {G : GXM} {l : Launch} (hG : GokM G) (d : Nat) (hd : 3 ≤ d) {v0 : Nat} {v1 : Nat} {v2 : Int32} {v3 : Int32} {M : Mem} {q : Int32 × Mem} (h : fG_tickOrSend v0 v1 v2 v3 M = some q) : ExM G l d 0 0 yG_tickOrSend cG_tickOrSend 4 (some .boolean) [.ref v0, .ref v1, .int v2, .int v3] M (some (.int q.1)) q.2 := by
  refine ex_of hG (by decide +kernel) (Nat.le_of_ble_eq_true rfl) ?_
  intro X hl C E N hD hn
  show ZM G X 0 [(0, .ref v0), (1, .ref v1), (2, .int v2), (3, .int v3)] [] M 0 0
  unfold fG_tickOrSend at h
  refine zz_aload_n C 1 ddG_tickOrSend_0 rfl rfl ?_
  refine zz_iload_n C 2 ddG_tickOrSend_1 rfl rfl ?_
  obtain ⟨h2, h⟩ := gdN h
  obtain ⟨q1, hq1, h⟩ := bindN h
  refine zz_callV0 (As := [.int v2]) C ddG_tickOrSend_2 wd_833 my_H_isLiving mv_H_isLiving ⟨_, rfl, rfl⟩ (xH_isLiving hG (d - 1) (by omega) hq1) (by omega) h2 rfl rfl (Nat.le_of_ble_eq_true rfl) ?_
  refine zz_if_ne (tgt := 10) C ddG_tickOrSend_5 rfl (fun hc => ?_) (fun hc => ?_)
  · replace h := iteF h hc
    refine zz_iload_n C 3 ddG_tickOrSend_10 rfl rfl ?_
    refine zz_iconst (v := 3) C ddG_tickOrSend_11 (by decide) ?_
    refine zz_icmp_ne (tgt := 23) C ddG_tickOrSend_12 rfl (fun hc => ?_) (fun hc => ?_)
    · replace h := iteF h hc
      refine zz_aload_n C 1 ddG_tickOrSend_23 rfl rfl ?_
      refine zz_iload_n C 2 ddG_tickOrSend_24 rfl rfl ?_
      obtain ⟨h4, h⟩ := gdN h
      obtain ⟨q3, hq3, h⟩ := bindN h
      refine zz_callV0 (As := [.int v2]) C ddG_tickOrSend_25 wd_855 my_H_sendAll mv_H_sendAll ⟨_, rfl, rfl⟩ (xH_sendAll hG (d - 1) (by omega) hq3) (by omega) h4 rfl rfl (Nat.le_of_ble_eq_true rfl) ?_
      refine zz_pop C ddG_tickOrSend_28 rfl ?_
      refine zz_loc (L1 := []) [] rfl ?_
      exact zBG_tickOrSend_29 hG C N hD hd E h
    · replace h := iteT h hc
      refine zz_aload_n C 1 ddG_tickOrSend_15 rfl rfl ?_
      refine zz_iload_n C 2 ddG_tickOrSend_16 rfl rfl ?_
      obtain ⟨h6, h⟩ := gdN h
      obtain ⟨q5, hq5, h⟩ := bindN h
      refine zz_callV0 (As := [.int v2]) C ddG_tickOrSend_17 wd_854 my_H_beat mv_H_beat ⟨_, rfl, rfl⟩ (xH_beat hG (d - 1) (by omega) hq5) (by omega) h6 rfl rfl (Nat.le_of_ble_eq_true rfl) ?_
      refine zz_goto (tgt := 29) C ddG_tickOrSend_20 rfl ?_
      refine zz_loc (L1 := []) [] rfl ?_
      exact zBG_tickOrSend_29 hG C N hD hd E h
  · replace h := iteT h hc
    refine zz_iconst (v := 0) C ddG_tickOrSend_8 (by decide) ?_
    obtain rfl := Option.some.inj h
    exact zz_zret C (by decide) E ddG_tickOrSend_9
theorem ddG_doStep_0 : decode cG_doStep 0 = .ok (.aload_n 2, 1) := by decide +kernel
theorem ddG_doStep_1 : decode cG_doStep 1 = .ok (.getfield 50, 3) := by decide +kernel
theorem ddG_doStep_4 : decode cG_doStep 4 = .ok (.iload_n 3, 1) := by decide +kernel
theorem ddG_doStep_5 : decode cG_doStep 5 = .ok (.iaload, 1) := by decide +kernel
theorem ddG_doStep_6 : decode cG_doStep 6 = .ok (.istore 4, 2) := by decide +kernel
theorem ddG_doStep_8 : decode cG_doStep 8 = .ok (.aload_n 2, 1) := by decide +kernel
theorem ddG_doStep_9 : decode cG_doStep 9 = .ok (.getfield 51, 3) := by decide +kernel
theorem ddG_doStep_12 : decode cG_doStep 12 = .ok (.iload_n 3, 1) := by decide +kernel
theorem ddG_doStep_13 : decode cG_doStep 13 = .ok (.iaload, 1) := by decide +kernel
theorem ddG_doStep_14 : decode cG_doStep 14 = .ok (.tableswitch 113 0 6 #[80, 99, 61, 113, 113, 42, 54], 42) := by decide +kernel
theorem ddG_doStep_56 : decode cG_doStep 56 = .ok (.aload_n 0, 1) := by decide +kernel
theorem ddG_doStep_57 : decode cG_doStep 57 = .ok (.dup, 1) := by decide +kernel
theorem ddG_doStep_58 : decode cG_doStep 58 = .ok (.getfield 25, 3) := by decide +kernel
theorem ddG_doStep_61 : decode cG_doStep 61 = .ok (.iconst 1, 1) := by decide +kernel
theorem ddG_doStep_62 : decode cG_doStep 62 = .ok (.iadd, 1) := by decide +kernel
theorem ddG_doStep_63 : decode cG_doStep 63 = .ok (.putfield 25, 3) := by decide +kernel
theorem ddG_doStep_66 : decode cG_doStep 66 = .ok (.iconst 1, 1) := by decide +kernel
theorem ddG_doStep_67 : decode cG_doStep 67 = .ok (.ireturn, 1) := by decide +kernel
theorem ddG_doStep_68 : decode cG_doStep 68 = .ok (.aload_n 0, 1) := by decide +kernel
theorem ddG_doStep_69 : decode cG_doStep 69 = .ok (.aload_n 1, 1) := by decide +kernel
theorem ddG_doStep_70 : decode cG_doStep 70 = .ok (.invokevirtual 46, 3) := by decide +kernel
theorem ddG_doStep_73 : decode cG_doStep 73 = .ok (.iconst 1, 1) := by decide +kernel
theorem ddG_doStep_74 : decode cG_doStep 74 = .ok (.ireturn, 1) := by decide +kernel
theorem ddG_doStep_75 : decode cG_doStep 75 = .ok (.aload_n 1, 1) := by decide +kernel
theorem ddG_doStep_76 : decode cG_doStep 76 = .ok (.iload 4, 2) := by decide +kernel
theorem ddG_doStep_78 : decode cG_doStep 78 = .ok (.invokevirtual 54, 3) := by decide +kernel
theorem ddG_doStep_81 : decode cG_doStep 81 = .ok (.ifCond .ne 5, 3) := by decide +kernel
theorem ddG_doStep_84 : decode cG_doStep 84 = .ok (.iconst 0, 1) := by decide +kernel
theorem ddG_doStep_85 : decode cG_doStep 85 = .ok (.ireturn, 1) := by decide +kernel
theorem ddG_doStep_86 : decode cG_doStep 86 = .ok (.aload_n 1, 1) := by decide +kernel
theorem ddG_doStep_87 : decode cG_doStep 87 = .ok (.iload 4, 2) := by decide +kernel
theorem ddG_doStep_89 : decode cG_doStep 89 = .ok (.invokevirtual 60, 3) := by decide +kernel
theorem ddG_doStep_92 : decode cG_doStep 92 = .ok (.iconst 1, 1) := by decide +kernel
theorem ddG_doStep_93 : decode cG_doStep 93 = .ok (.ireturn, 1) := by decide +kernel
theorem ddG_doStep_94 : decode cG_doStep 94 = .ok (.aload_n 0, 1) := by decide +kernel
theorem ddG_doStep_95 : decode cG_doStep 95 = .ok (.aload_n 1, 1) := by decide +kernel
theorem ddG_doStep_96 : decode cG_doStep 96 = .ok (.iload 4, 2) := by decide +kernel
theorem ddG_doStep_98 : decode cG_doStep 98 = .ok (.aload_n 2, 1) := by decide +kernel
theorem ddG_doStep_99 : decode cG_doStep 99 = .ok (.getfield 64, 3) := by decide +kernel
theorem ddG_doStep_102 : decode cG_doStep 102 = .ok (.iload_n 3, 1) := by decide +kernel
theorem ddG_doStep_103 : decode cG_doStep 103 = .ok (.iaload, 1) := by decide +kernel
theorem ddG_doStep_104 : decode cG_doStep 104 = .ok (.invokevirtual 67, 3) := by decide +kernel
theorem ddG_doStep_107 : decode cG_doStep 107 = .ok (.iload 4, 2) := by decide +kernel
theorem ddG_doStep_109 : decode cG_doStep 109 = .ok (.invokevirtual 71, 3) := by decide +kernel
theorem ddG_doStep_112 : decode cG_doStep 112 = .ok (.ireturn, 1) := by decide +kernel
theorem ddG_doStep_113 : decode cG_doStep 113 = .ok (.aload_n 0, 1) := by decide +kernel
theorem ddG_doStep_114 : decode cG_doStep 114 = .ok (.aload_n 1, 1) := by decide +kernel
theorem ddG_doStep_115 : decode cG_doStep 115 = .ok (.iload 4, 2) := by decide +kernel
theorem ddG_doStep_117 : decode cG_doStep 117 = .ok (.aload_n 2, 1) := by decide +kernel
theorem ddG_doStep_118 : decode cG_doStep 118 = .ok (.getfield 64, 3) := by decide +kernel
theorem ddG_doStep_121 : decode cG_doStep 121 = .ok (.iload_n 3, 1) := by decide +kernel
theorem ddG_doStep_122 : decode cG_doStep 122 = .ok (.iaload, 1) := by decide +kernel
theorem ddG_doStep_123 : decode cG_doStep 123 = .ok (.invokevirtual 75, 3) := by decide +kernel
theorem ddG_doStep_126 : decode cG_doStep 126 = .ok (.ireturn, 1) := by decide +kernel
theorem ddG_doStep_127 : decode cG_doStep 127 = .ok (.aload_n 0, 1) := by decide +kernel
theorem ddG_doStep_128 : decode cG_doStep 128 = .ok (.aload_n 1, 1) := by decide +kernel
theorem ddG_doStep_129 : decode cG_doStep 129 = .ok (.iload 4, 2) := by decide +kernel
theorem ddG_doStep_131 : decode cG_doStep 131 = .ok (.aload_n 2, 1) := by decide +kernel
theorem ddG_doStep_132 : decode cG_doStep 132 = .ok (.getfield 51, 3) := by decide +kernel
theorem ddG_doStep_135 : decode cG_doStep 135 = .ok (.iload_n 3, 1) := by decide +kernel
theorem ddG_doStep_136 : decode cG_doStep 136 = .ok (.iaload, 1) := by decide +kernel
theorem ddG_doStep_137 : decode cG_doStep 137 = .ok (.invokevirtual 79, 3) := by decide +kernel
theorem ddG_doStep_140 : decode cG_doStep 140 = .ok (.ireturn, 1) := by decide +kernel
set_option maxHeartbeats 2000000 in
theorem xG_doStep {G : GXM} {l : Launch} (hG : GokM G) (d : Nat) (hd : 4 ≤ d) {v0 : Nat} {v1 : Nat} {v2 : Nat} {v3 : Int32} {M : Mem} {q : Int32 × Mem} (h : fG_doStep v0 v1 v2 v3 M = some q) : ExM G l d 0 0 yG_doStep cG_doStep 5 (some .boolean) [.ref v0, .ref v1, .ref v2, .int v3] M (some (.int q.1)) q.2 := by
  refine ex_of hG (by decide +kernel) (Nat.le_of_ble_eq_true rfl) ?_
  intro X hl C E N hD hn
  show ZM G X 0 [(0, .ref v0), (1, .ref v1), (2, .ref v2), (3, .int v3)] [] M 0 0
  unfold fG_doStep at h
  refine zz_aload_n C 2 ddG_doStep_0 rfl rfl ?_
  obtain ⟨h1, h⟩ := gdN h
  obtain ⟨h2, h⟩ := gdN h
  refine zz_getr C ddG_doStep_1 fl_G_50 rfl h1 (of_decide_eq_true h2) ?_
  refine zz_iload_n C 3 ddG_doStep_4 rfl rfl ?_
  obtain ⟨h3, h⟩ := gdN h
  refine zz_iaload C ddG_doStep_5 h3 ?_
  refine zz_istore (L1 := [(4, .int (giM M (grM M v2 1) (Int32.toNatClampNeg v3))), (0, .ref v0), (1, .ref v1), (2, .ref v2), (3, .int v3)]) C ddG_doStep_6 N (by decide) rfl ?_
  refine zz_aload_n C 3 ddG_doStep_8 rfl rfl ?_
  obtain ⟨h4, h⟩ := gdN h
  refine zz_getr C ddG_doStep_9 fl_G_51 rfl h1 (of_decide_eq_true h4) ?_
  refine zz_iload_n C 4 ddG_doStep_12 rfl rfl ?_
  obtain ⟨h5, h⟩ := gdN h
  refine zz_iaload C ddG_doStep_13 h5 ?_
  by_cases hs14_0 : (giM M (grM M v2 0) (Int32.toNatClampNeg v3)) = 0
  · replace h := iteT h hs14_0
    rw [hs14_0]
    refine zz_tableIn (tgt := 94) C ddG_doStep_14 (by decide) (by decide) rfl rfl ?_
    refine zz_aload_n C 1 ddG_doStep_94 rfl rfl ?_
    refine zz_aload_n C 2 ddG_doStep_95 rfl rfl ?_
    refine zz_iload C 0 ddG_doStep_96 rfl ?_
    refine zz_aload_n C 3 ddG_doStep_98 rfl rfl ?_
    obtain ⟨h6, h⟩ := gdN h
    refine zz_getr C ddG_doStep_99 fl_G_64 rfl h1 (of_decide_eq_true h6) ?_
    refine zz_iload_n C 4 ddG_doStep_102 rfl rfl ?_
    obtain ⟨h7, h⟩ := gdN h
    refine zz_iaload C ddG_doStep_103 h7 ?_
    obtain ⟨h9, h⟩ := gdN h
    obtain ⟨q8, hq8, h⟩ := bindN h
    refine zz_callV0 (As := [.int (giM M (grM M v2 1) (Int32.toNatClampNeg v3)), .int (giM M (grM M v2 2) (Int32.toNatClampNeg v3))]) C ddG_doStep_104 wd_841 my_H_takeBlock mv_H_takeBlock ⟨_, rfl, rfl⟩ (xH_takeBlock hG (d - 1) (by omega) hq8) (by omega) h9 rfl rfl (Nat.le_of_ble_eq_true rfl) ?_
    refine zz_iload C 0 ddG_doStep_107 rfl ?_
    obtain ⟨h11, h⟩ := gdN h
    obtain ⟨q10, hq10, h⟩ := bindN h
    refine zz_callV0 (As := [.int q8.1, .int (giM M (grM M v2 1) (Int32.toNatClampNeg v3))]) C ddG_doStep_109 wd_842 my_G_noteGot mv_G_noteGot ⟨_, rfl, rfl⟩ (xG_noteGot hG (d - 1) (by omega) hq10) (by omega) h11 rfl rfl (Nat.le_of_ble_eq_true rfl) ?_
    obtain ⟨h12, h⟩ := gdN h
    obtain rfl := Option.some.inj h
    exact zz_zret C (of_decide_eq_true h12) E ddG_doStep_112
  replace h := iteF h hs14_0
  by_cases hs14_1 : (giM M (grM M v2 0) (Int32.toNatClampNeg v3)) = 1
  · replace h := iteT h hs14_1
    rw [hs14_1]
    refine zz_tableIn (tgt := 113) C ddG_doStep_14 (by decide) (by decide) rfl rfl ?_
    refine zz_aload_n C 1 ddG_doStep_113 rfl rfl ?_
    refine zz_aload_n C 2 ddG_doStep_114 rfl rfl ?_
    refine zz_iload C 0 ddG_doStep_115 rfl ?_
    refine zz_aload_n C 3 ddG_doStep_117 rfl rfl ?_
    obtain ⟨h13, h⟩ := gdN h
    refine zz_getr C ddG_doStep_118 fl_G_64 rfl h1 (of_decide_eq_true h13) ?_
    refine zz_iload_n C 4 ddG_doStep_121 rfl rfl ?_
    obtain ⟨h14, h⟩ := gdN h
    refine zz_iaload C ddG_doStep_122 h14 ?_
    obtain ⟨h16, h⟩ := gdN h
    obtain ⟨q15, hq15, h⟩ := bindN h
    refine zz_callV0 (As := [.ref v1, .int (giM M (grM M v2 1) (Int32.toNatClampNeg v3)), .int (giM M (grM M v2 2) (Int32.toNatClampNeg v3))]) C ddG_doStep_123 wd_846 my_G_giveNumbered mv_G_giveNumbered ⟨_, rfl, rfl⟩ (xG_giveNumbered hG (d - 1) (by omega) hq15) (by omega) h16 rfl rfl (Nat.le_of_ble_eq_true rfl) ?_
    obtain ⟨h17, h⟩ := gdN h
    obtain rfl := Option.some.inj h
    exact zz_zret C (of_decide_eq_true h17) E ddG_doStep_126
  replace h := iteF h hs14_1
  by_cases hs14_2 : (giM M (grM M v2 0) (Int32.toNatClampNeg v3)) = 2
  · replace h := iteT h hs14_2
    rw [hs14_2]
    refine zz_tableIn (tgt := 75) C ddG_doStep_14 (by decide) (by decide) rfl rfl ?_
    refine zz_aload_n C 2 ddG_doStep_75 rfl rfl ?_
    refine zz_iload C 0 ddG_doStep_76 rfl ?_
    obtain ⟨h19, h⟩ := gdN h
    obtain ⟨q18, hq18, h⟩ := bindN h
    refine zz_callV0 (As := [.int (giM M (grM M v2 1) (Int32.toNatClampNeg v3))]) C ddG_doStep_78 wd_839 my_H_isThread mv_H_isThread ⟨_, rfl, rfl⟩ (xH_isThread hG (d - 1) (by omega) hq18) (by omega) h19 rfl rfl (Nat.le_of_ble_eq_true rfl) ?_
    refine zz_if_ne (tgt := 86) C ddG_doStep_81 rfl (fun hc => ?_) (fun hc => ?_)
    · replace h := iteF h hc
      refine zz_aload_n C 2 ddG_doStep_86 rfl rfl ?_
      refine zz_iload C 0 ddG_doStep_87 rfl ?_
      obtain ⟨h21, h⟩ := gdN h
      obtain ⟨q20, hq20, h⟩ := bindN h
      refine zz_callV0 (As := [.int (giM M (grM M v2 1) (Int32.toNatClampNeg v3))]) C ddG_doStep_89 wd_840 my_H_turnOver mv_H_turnOver ⟨_, rfl, rfl⟩ (xH_turnOver hG (d - 1) (by omega) hq20) (by omega) h21 rfl rfl (Nat.le_of_ble_eq_true rfl) ?_
      refine zz_iconst (v := 1) C ddG_doStep_92 (by decide) ?_
      obtain rfl := Option.some.inj h
      exact zz_zret C (by decide) E ddG_doStep_93
    · replace h := iteT h hc
      refine zz_iconst (v := 0) C ddG_doStep_84 (by decide) ?_
      obtain rfl := Option.some.inj h
      exact zz_zret C (by decide) E ddG_doStep_85
  replace h := iteF h hs14_2
  by_cases hs14_3 : (giM M (grM M v2 0) (Int32.toNatClampNeg v3)) = 3
  · replace h := iteT h hs14_3
    rw [hs14_3]
    refine zz_tableIn (tgt := 127) C ddG_doStep_14 (by decide) (by decide) rfl rfl ?_
    refine zz_aload_n C 1 ddG_doStep_127 rfl rfl ?_
    refine zz_aload_n C 2 ddG_doStep_128 rfl rfl ?_
    refine zz_iload C 0 ddG_doStep_129 rfl ?_
    refine zz_aload_n C 3 ddG_doStep_131 rfl rfl ?_
    refine zz_getr C ddG_doStep_132 fl_G_51 rfl h1 (of_decide_eq_true h4) ?_
    refine zz_iload_n C 4 ddG_doStep_135 rfl rfl ?_
    refine zz_iaload C ddG_doStep_136 h5 ?_
    obtain ⟨h23, h⟩ := gdN h
    obtain ⟨q22, hq22, h⟩ := bindN h
    refine zz_callV0 (As := [.ref v1, .int (giM M (grM M v2 1) (Int32.toNatClampNeg v3)), .int (giM M (grM M v2 0) (Int32.toNatClampNeg v3))]) C ddG_doStep_137 wd_850 my_G_tickOrSend mv_G_tickOrSend ⟨_, rfl, rfl⟩ (xG_tickOrSend hG (d - 1) (by omega) hq22) (by omega) h23 rfl rfl (Nat.le_of_ble_eq_true rfl) ?_
    obtain ⟨h24, h⟩ := gdN h
    obtain rfl := Option.some.inj h
    exact zz_zret C (of_decide_eq_true h24) E ddG_doStep_140
  replace h := iteF h hs14_3
  by_cases hs14_4 : (giM M (grM M v2 0) (Int32.toNatClampNeg v3)) = 4
  · replace h := iteT h hs14_4
    rw [hs14_4]
    refine zz_tableIn (tgt := 127) C ddG_doStep_14 (by decide) (by decide) rfl rfl ?_
    refine zz_aload_n C 1 ddG_doStep_127 rfl rfl ?_
    refine zz_aload_n C 2 ddG_doStep_128 rfl rfl ?_
    refine zz_iload C 0 ddG_doStep_129 rfl ?_
    refine zz_aload_n C 3 ddG_doStep_131 rfl rfl ?_
    refine zz_getr C ddG_doStep_132 fl_G_51 rfl h1 (of_decide_eq_true h4) ?_
    refine zz_iload_n C 4 ddG_doStep_135 rfl rfl ?_
    refine zz_iaload C ddG_doStep_136 h5 ?_
    obtain ⟨h26, h⟩ := gdN h
    obtain ⟨q25, hq25, h⟩ := bindN h
    refine zz_callV0 (As := [.ref v1, .int (giM M (grM M v2 1) (Int32.toNatClampNeg v3)), .int (giM M (grM M v2 0) (Int32.toNatClampNeg v3))]) C ddG_doStep_137 wd_850 my_G_tickOrSend mv_G_tickOrSend ⟨_, rfl, rfl⟩ (xG_tickOrSend hG (d - 1) (by omega) hq25) (by omega) h26 rfl rfl (Nat.le_of_ble_eq_true rfl) ?_
    obtain ⟨h27, h⟩ := gdN h
    obtain rfl := Option.some.inj h
    exact zz_zret C (of_decide_eq_true h27) E ddG_doStep_140
  replace h := iteF h hs14_4
  by_cases hs14_5 : (giM M (grM M v2 0) (Int32.toNatClampNeg v3)) = 5
  · replace h := iteT h hs14_5
    rw [hs14_5]
    refine zz_tableIn (tgt := 56) C ddG_doStep_14 (by decide) (by decide) rfl rfl ?_
    refine zz_aload_n C 1 ddG_doStep_56 rfl rfl ?_
    refine zz_dup C ddG_doStep_57 rfl ?_
    obtain ⟨h28, h⟩ := gdN h
    refine zz_geti C ddG_doStep_58 fl_G_25 rfl h28 ?_
    refine zz_iconst (v := 1) C ddG_doStep_61 (by decide) ?_
    refine zz_iadd C ddG_doStep_62 ?_
    refine zz_puti C ddG_doStep_63 fl_G_25 rfl rfl rfl h28 ?_
    refine zz_iconst (v := 1) C ddG_doStep_66 (by decide) ?_
    obtain rfl := Option.some.inj h
    exact zz_zret C (by decide) E ddG_doStep_67
  replace h := iteF h hs14_5
  by_cases hs14_6 : (giM M (grM M v2 0) (Int32.toNatClampNeg v3)) = 6
  · replace h := iteT h hs14_6
    rw [hs14_6]
    refine zz_tableIn (tgt := 68) C ddG_doStep_14 (by decide) (by decide) rfl rfl ?_
    refine zz_aload_n C 1 ddG_doStep_68 rfl rfl ?_
    refine zz_aload_n C 2 ddG_doStep_69 rfl rfl ?_
    obtain ⟨h30, h⟩ := gdN h
    obtain ⟨q29, hq29, h⟩ := bindN h
    refine zz_callV0 (As := [.ref v1]) C ddG_doStep_70 wd_829 my_G_endScope mv_G_endScope ⟨_, rfl, rfl⟩ (xG_endScope hG (d - 1) (by omega) hq29) (by omega) h30 rfl rfl (Nat.le_of_ble_eq_true rfl) ?_
    refine zz_iconst (v := 1) C ddG_doStep_73 (by decide) ?_
    obtain rfl := Option.some.inj h
    exact zz_zret C (by decide) E ddG_doStep_74
  replace h := iteF h hs14_6
  have ths14_0 := lv_neT (a := 0) hs14_0 (by decide)
  have ths14_1 := lv_neT (a := 1) hs14_1 (by decide)
  have ths14_2 := lv_neT (a := 2) hs14_2 (by decide)
  have ths14_3 := lv_neT (a := 3) hs14_3 (by decide)
  have ths14_4 := lv_neT (a := 4) hs14_4 (by decide)
  have ths14_5 := lv_neT (a := 5) hs14_5 (by decide)
  have ths14_6 := lv_neT (a := 6) hs14_6 (by decide)
  refine zz_tableOut (tgt := 127) C ddG_doStep_14 (by omega) rfl ?_
  refine zz_aload_n C 1 ddG_doStep_127 rfl rfl ?_
  refine zz_aload_n C 2 ddG_doStep_128 rfl rfl ?_
  refine zz_iload C 0 ddG_doStep_129 rfl ?_
  refine zz_aload_n C 3 ddG_doStep_131 rfl rfl ?_
  refine zz_getr C ddG_doStep_132 fl_G_51 rfl h1 (of_decide_eq_true h4) ?_
  refine zz_iload_n C 4 ddG_doStep_135 rfl rfl ?_
  refine zz_iaload C ddG_doStep_136 h5 ?_
  obtain ⟨h32, h⟩ := gdN h
  obtain ⟨q31, hq31, h⟩ := bindN h
  refine zz_callV0 (As := [.ref v1, .int (giM M (grM M v2 1) (Int32.toNatClampNeg v3)), .int (giM M (grM M v2 0) (Int32.toNatClampNeg v3))]) C ddG_doStep_137 wd_850 my_G_tickOrSend mv_G_tickOrSend ⟨_, rfl, rfl⟩ (xG_tickOrSend hG (d - 1) (by omega) hq31) (by omega) h32 rfl rfl (Nat.le_of_ble_eq_true rfl) ?_
  obtain ⟨h33, h⟩ := gdN h
  obtain rfl := Option.some.inj h
  exact zz_zret C (of_decide_eq_true h33) E ddG_doStep_140
theorem ddG_runWhole_0 : decode cG_runWhole 0 = .ok (.aload_n 0, 1) := by decide +kernel
theorem ddG_runWhole_1 : decode cG_runWhole 1 = .ok (.invokevirtual 34, 3) := by decide +kernel
theorem ddG_runWhole_4 : decode cG_runWhole 4 = .ok (.iconst 0, 1) := by decide +kernel
theorem ddG_runWhole_5 : decode cG_runWhole 5 = .ok (.istore_n 3, 1) := by decide +kernel
theorem ddG_runWhole_6 : decode cG_runWhole 6 = .ok (.iload_n 3, 1) := by decide +kernel
theorem ddG_runWhole_7 : decode cG_runWhole 7 = .ok (.aload_n 2, 1) := by decide +kernel
theorem ddG_runWhole_8 : decode cG_runWhole 8 = .ok (.getfield 37, 3) := by decide +kernel
theorem ddG_runWhole_11 : decode cG_runWhole 11 = .ok (.if_icmp .ge 19, 3) := by decide +kernel
theorem ddG_runWhole_14 : decode cG_runWhole 14 = .ok (.aload_n 0, 1) := by decide +kernel
theorem ddG_runWhole_15 : decode cG_runWhole 15 = .ok (.aload_n 1, 1) := by decide +kernel
theorem ddG_runWhole_16 : decode cG_runWhole 16 = .ok (.aload_n 2, 1) := by decide +kernel
theorem ddG_runWhole_17 : decode cG_runWhole 17 = .ok (.iload_n 3, 1) := by decide +kernel
theorem ddG_runWhole_18 : decode cG_runWhole 18 = .ok (.invokevirtual 42, 3) := by decide +kernel
theorem ddG_runWhole_21 : decode cG_runWhole 21 = .ok (.ifCond .eq 9, 3) := by decide +kernel
theorem ddG_runWhole_24 : decode cG_runWhole 24 = .ok (.iinc 3 1, 3) := by decide +kernel
theorem ddG_runWhole_27 : decode cG_runWhole 27 = .ok (.goto (-21), 3) := by decide +kernel
theorem ddG_runWhole_30 : decode cG_runWhole 30 = .ok (.aload_n 0, 1) := by decide +kernel
theorem ddG_runWhole_31 : decode cG_runWhole 31 = .ok (.getfield 25, 3) := by decide +kernel
theorem ddG_runWhole_34 : decode cG_runWhole 34 = .ok (.istore 4, 2) := by decide +kernel
theorem ddG_runWhole_36 : decode cG_runWhole 36 = .ok (.iload 4, 2) := by decide +kernel
theorem ddG_runWhole_38 : decode cG_runWhole 38 = .ok (.ifCond .le 14, 3) := by decide +kernel
theorem ddG_runWhole_41 : decode cG_runWhole 41 = .ok (.aload_n 0, 1) := by decide +kernel
theorem ddG_runWhole_42 : decode cG_runWhole 42 = .ok (.aload_n 1, 1) := by decide +kernel
theorem ddG_runWhole_43 : decode cG_runWhole 43 = .ok (.invokevirtual 46, 3) := by decide +kernel
theorem ddG_runWhole_46 : decode cG_runWhole 46 = .ok (.iinc 4 (-1), 3) := by decide +kernel
theorem ddG_runWhole_49 : decode cG_runWhole 49 = .ok (.goto (-13), 3) := by decide +kernel
theorem ddG_runWhole_52 : decode cG_runWhole 52 = .ok (.iload_n 3, 1) := by decide +kernel
theorem ddG_runWhole_53 : decode cG_runWhole 53 = .ok (.ireturn, 1) := by decide +kernel
set_option maxHeartbeats 2000000 in
theorem zBG_runWhole_36 {G : GXM} {X : CxM} (hG : GokM G) (C : CoM G X cG_runWhole "HomeFreed$Progress") (N : mLM X = 5) {d : Nat} (hD : dpM X = d) (hd : 5 ≤ d) {v0 : Nat} {v1 : Nat} {v3 : Int32} {K : Nat → Nat → Int32 → Int32 → Mem → Option ((Int32 × Mem))} {q : (Int32 × Mem)} (hK : ∀ (v4 : Int32) (M : Mem), K v0 v1 v3 v4 M = some q → ZM G X 36 [(0, .ref v0), (1, .ref v1), (3, .int v3), (4, .int v4)] [] M 0 0) (hr : ∀ r : Int32 × Mem, q =  r → EnM G X (some .int) (some (.int r.1)) r.2 0 0) {v4 : Int32} {M : Mem} (h : BG_runWhole_36 K v0 v1 v3 v4 M = some q) : ZM G X 36 [(0, .ref v0), (1, .ref v1), (3, .int v3), (4, .int v4)] [] M 0 0 := by
  unfold BG_runWhole_36 at h
  refine zz_iload C 3 ddG_runWhole_36 rfl ?_
  refine zz_if_le (tgt := 52) C ddG_runWhole_38 rfl (fun hc => ?_) (fun hc => ?_)
  · replace h := iteT h hc
    refine zz_iload_n C 2 ddG_runWhole_52 rfl rfl ?_
    exact zz_iret C (hr _ (Option.some.inj h).symm) ddG_runWhole_53
  · replace h := iteF h hc
    refine zz_aload_n C 0 ddG_runWhole_41 rfl rfl ?_
    refine zz_aload_n C 1 ddG_runWhole_42 rfl rfl ?_
    obtain ⟨h2, h⟩ := gdN h
    obtain ⟨q1, hq1, h⟩ := bindN h
    refine zz_callV0 (As := [.ref v1]) C ddG_runWhole_43 wd_829 my_G_endScope mv_G_endScope ⟨_, rfl, rfl⟩ (xG_endScope hG (d - 1) (by omega) hq1) (by omega) h2 rfl rfl (Nat.le_of_ble_eq_true rfl) ?_
    refine zz_iinc (v := v4 + (-1)) (L1 := [(4, .int (v4 + (-1))), (0, .ref v0), (1, .ref v1), (3, .int v3)]) C 3 ddG_runWhole_46 rfl rfl N (by decide) rfl ?_
    refine zz_goto (tgt := 36) C ddG_runWhole_49 rfl ?_
    refine zz_loc (L1 := [(0, .ref v0), (1, .ref v1), (3, .int v3), (4, .int (v4 + (-1)))]) [1, 2, 3, 0] rfl ?_
    exact hK _ _ h
set_option maxHeartbeats 2000000 in
theorem zLG_runWhole_36 {G : GXM} {X : CxM} (hG : GokM G) (C : CoM G X cG_runWhole "HomeFreed$Progress") (N : mLM X = 5) {d : Nat} (hD : dpM X = d) (hd : 5 ≤ d) {v0 : Nat} {v1 : Nat} {v3 : Int32} {q : (Int32 × Mem)} : ∀ (f : Nat) (v4 : Int32) (M : Mem), LG_runWhole_36 f v0 v1 v3 v4 M = some q → (hr : ∀ r : Int32 × Mem, q =  r → EnM G X (some .int) (some (.int r.1)) r.2 0 0) → ZM G X 36 [(0, .ref v0), (1, .ref v1), (3, .int v3), (4, .int v4)] [] M 0 0 := by
  intro f
  induction f with
  | zero => intro v4 M h; cases h
  | succ f ih =>
    intro v4 M h hr
    exact zBG_runWhole_36 hG C N hD hd (K := LG_runWhole_36 f) (q := q) (fun v4 M h => ih v4 M h hr) hr h
set_option maxHeartbeats 2000000 in
theorem zBG_runWhole_30 {G : GXM} {X : CxM} (hG : GokM G) (C : CoM G X cG_runWhole "HomeFreed$Progress") (N : mLM X = 5) {d : Nat} (hD : dpM X = d) (hd : 5 ≤ d)  {q : Int32 × Mem} (E : EnM G X (some .int) (some (.int q.1)) q.2 0 0) {v0 : Nat} {v1 : Nat} {v3 : Int32} {M : Mem} (h : BG_runWhole_30 v0 v1 v3 M = some q) : ZM G X 30 [(0, .ref v0), (1, .ref v1), (3, .int v3)] [] M 0 0 := by
  unfold BG_runWhole_30 at h
  refine zz_aload_n C 0 ddG_runWhole_30 rfl rfl ?_
  obtain ⟨h1, h⟩ := gdN h
  refine zz_geti C ddG_runWhole_31 fl_G_25 rfl h1 ?_
  refine zz_istore (L1 := [(4, .int (giM M v0 4)), (0, .ref v0), (1, .ref v1), (3, .int v3)]) C ddG_runWhole_34 N (by decide) rfl ?_
  refine zz_loc (L1 := [(0, .ref v0), (1, .ref v1), (3, .int v3), (4, .int (giM M v0 4))]) [1, 2, 3, 0] rfl ?_
  obtain ⟨q2, hq2, h⟩ := bindN h
  refine zLG_runWhole_36 hG C N hD hd 1000000 _ _ hq2 ?_
  · intro r3 eq2; replace eq2 := eq2.symm; subst eq2
    obtain rfl := Option.some.inj h
    exact E
set_option maxHeartbeats 2000000 in
theorem zBG_runWhole_6 {G : GXM} {X : CxM} (hG : GokM G) (C : CoM G X cG_runWhole "HomeFreed$Progress") (N : mLM X = 5) {d : Nat} (hD : dpM X = d) (hd : 5 ≤ d) {v0 : Nat} {v1 : Nat} {v2 : Nat} {K : Nat → Nat → Nat → Int32 → Mem → Option ((Int32 × Mem))} {q : (Int32 × Mem)} (hK : ∀ (v3 : Int32) (M : Mem), K v0 v1 v2 v3 M = some q → ZM G X 6 [(0, .ref v0), (1, .ref v1), (2, .ref v2), (3, .int v3)] [] M 0 0) (hx0 : ∀ y : Int32 × Mem, q = y → ZM G X 30 [(0, .ref v0), (1, .ref v1), (3, .int y.1)] [] y.2 0 0) {v3 : Int32} {M : Mem} (h : BG_runWhole_6 K v0 v1 v2 v3 M = some q) : ZM G X 6 [(0, .ref v0), (1, .ref v1), (2, .ref v2), (3, .int v3)] [] M 0 0 := by
  unfold BG_runWhole_6 at h
  refine zz_iload_n C 3 ddG_runWhole_6 rfl rfl ?_
  refine zz_aload_n C 2 ddG_runWhole_7 rfl rfl ?_
  obtain ⟨h1, h⟩ := gdN h
  refine zz_geti C ddG_runWhole_8 fl_G_37 rfl h1 ?_
  refine zz_icmp_ge (tgt := 30) C ddG_runWhole_11 rfl (fun hc => ?_) (fun hc => ?_)
  · replace h := iteT h hc
    refine zz_loc (L1 := [(0, .ref v0), (1, .ref v1), (3, .int v3)]) [0, 1, 3] rfl ?_
    exact hx0 _ (Option.some.inj h).symm
  · replace h := iteF h hc
    refine zz_aload_n C 0 ddG_runWhole_14 rfl rfl ?_
    refine zz_aload_n C 1 ddG_runWhole_15 rfl rfl ?_
    refine zz_aload_n C 2 ddG_runWhole_16 rfl rfl ?_
    refine zz_iload_n C 3 ddG_runWhole_17 rfl rfl ?_
    obtain ⟨h3, h⟩ := gdN h
    obtain ⟨q2, hq2, h⟩ := bindN h
    refine zz_callV0 (As := [.ref v1, .ref v2, .int v3]) C ddG_runWhole_18 wd_825 my_G_doStep mv_G_doStep ⟨_, rfl, rfl⟩ (xG_doStep hG (d - 1) (by omega) hq2) (by omega) h3 rfl rfl (Nat.le_of_ble_eq_true rfl) ?_
    refine zz_if_eq (tgt := 30) C ddG_runWhole_21 rfl (fun hc => ?_) (fun hc => ?_)
    · replace h := iteT h hc
      refine zz_loc (L1 := [(0, .ref v0), (1, .ref v1), (3, .int v3)]) [0, 1, 3] rfl ?_
      exact hx0 _ (Option.some.inj h).symm
    · replace h := iteF h hc
      refine zz_iinc (v := v3 + 1) (L1 := [(3, .int (v3 + 1)), (0, .ref v0), (1, .ref v1), (2, .ref v2)]) C 3 ddG_runWhole_24 rfl rfl N (by decide) rfl ?_
      refine zz_goto (tgt := 6) C ddG_runWhole_27 rfl ?_
      refine zz_loc (L1 := [(0, .ref v0), (1, .ref v1), (2, .ref v2), (3, .int (v3 + 1))]) [1, 2, 3, 0] rfl ?_
      exact hK _ _ h
set_option maxHeartbeats 2000000 in
theorem zLG_runWhole_6 {G : GXM} {X : CxM} (hG : GokM G) (C : CoM G X cG_runWhole "HomeFreed$Progress") (N : mLM X = 5) {d : Nat} (hD : dpM X = d) (hd : 5 ≤ d) {v0 : Nat} {v1 : Nat} {v2 : Nat} {q : (Int32 × Mem)} : ∀ (f : Nat) (v3 : Int32) (M : Mem), LG_runWhole_6 f v0 v1 v2 v3 M = some q → (hx0 : ∀ y : Int32 × Mem, q = y → ZM G X 30 [(0, .ref v0), (1, .ref v1), (3, .int y.1)] [] y.2 0 0) → ZM G X 6 [(0, .ref v0), (1, .ref v1), (2, .ref v2), (3, .int v3)] [] M 0 0 := by
  intro f
  induction f with
  | zero => intro v3 M h; cases h
  | succ f ih =>
    intro v3 M h hx0
    exact zBG_runWhole_6 hG C N hD hd (K := LG_runWhole_6 f) (q := q) (fun v3 M h => ih v3 M h hx0) hx0 h
set_option maxHeartbeats 2000000 in
theorem xG_runWhole {G : GXM} {l : Launch} (hG : GokM G) (d : Nat) (hd : 5 ≤ d) {v0 : Nat} {v1 : Nat} {v2 : Nat} {M : Mem} {q : Int32 × Mem} (h : fG_runWhole v0 v1 v2 M = some q) : ExM G l d 0 0 yG_runWhole cG_runWhole 5 (some .int) [.ref v0, .ref v1, .ref v2] M (some (.int q.1)) q.2 := by
  refine ex_of hG (by decide +kernel) (Nat.le_of_ble_eq_true rfl) ?_
  intro X hl C E N hD hn
  show ZM G X 0 [(0, .ref v0), (1, .ref v1), (2, .ref v2)] [] M 0 0
  unfold fG_runWhole at h
  refine zz_aload_n C 0 ddG_runWhole_0 rfl rfl ?_
  obtain ⟨h2, h⟩ := gdN h
  obtain ⟨q1, hq1, h⟩ := bindN h
  refine zz_callV0 (As := []) C ddG_runWhole_1 wd_821 my_G_restart mv_G_restart ⟨_, rfl, rfl⟩ (xG_restart hG (d - 1) (by omega) hq1) (by omega) h2 rfl rfl (Nat.le_of_ble_eq_true rfl) ?_
  refine zz_iconst (v := 0) C ddG_runWhole_4 (by decide) ?_
  refine zz_istore_n (L1 := [(3, .int 0), (0, .ref v0), (1, .ref v1), (2, .ref v2)]) C ddG_runWhole_5 rfl N (by decide) rfl ?_
  refine zz_loc (L1 := [(0, .ref v0), (1, .ref v1), (2, .ref v2), (3, .int 0)]) [1, 2, 3, 0] rfl ?_
  obtain ⟨q3, hq3, h⟩ := bindN h
  refine zLG_runWhole_6 hG C N hD hd 1000000 _ _ hq3 ?_
  · intro y4 eq3; replace eq3 := eq3.symm; subst eq3
    exact zBG_runWhole_30 hG C N hD hd E h
theorem ddA_perform_0 : decode cA_perform 0 = .ok (.aload_n 0, 1) := by decide +kernel
theorem ddA_perform_1 : decode cA_perform 1 = .ok (.getfield 28, 3) := by decide +kernel
theorem ddA_perform_4 : decode cA_perform 4 = .ok (.invokevirtual 132, 3) := by decide +kernel
theorem ddA_perform_7 : decode cA_perform 7 = .ok (.ifCond .eq 11, 3) := by decide +kernel
theorem ddA_perform_10 : decode cA_perform 10 = .ok (.aload_n 0, 1) := by decide +kernel
theorem ddA_perform_11 : decode cA_perform 11 = .ok (.iload_n 1, 1) := by decide +kernel
theorem ddA_perform_12 : decode cA_perform 12 = .ok (.invokevirtual 248, 3) := by decide +kernel
theorem ddA_perform_15 : decode cA_perform 15 = .ok (.ifCond .ne 9, 3) := by decide +kernel
theorem ddA_perform_18 : decode cA_perform 18 = .ok (.aload_n 0, 1) := by decide +kernel
theorem ddA_perform_19 : decode cA_perform 19 = .ok (.iconst 0, 1) := by decide +kernel
theorem ddA_perform_20 : decode cA_perform 20 = .ok (.invokevirtual 217, 3) := by decide +kernel
theorem ddA_perform_23 : decode cA_perform 23 = .ok (.ireturn, 1) := by decide +kernel
theorem ddA_perform_24 : decode cA_perform 24 = .ok (.aload_n 0, 1) := by decide +kernel
theorem ddA_perform_25 : decode cA_perform 25 = .ok (.getfield 62, 3) := by decide +kernel
theorem ddA_perform_28 : decode cA_perform 28 = .ok (.aload_n 0, 1) := by decide +kernel
theorem ddA_perform_29 : decode cA_perform 29 = .ok (.getfield 55, 3) := by decide +kernel
theorem ddA_perform_32 : decode cA_perform 32 = .ok (.invokevirtual 226, 3) := by decide +kernel
theorem ddA_perform_35 : decode cA_perform 35 = .ok (.aload_n 0, 1) := by decide +kernel
theorem ddA_perform_36 : decode cA_perform 36 = .ok (.getfield 90, 3) := by decide +kernel
theorem ddA_perform_39 : decode cA_perform 39 = .ok (.aload_n 0, 1) := by decide +kernel
theorem ddA_perform_40 : decode cA_perform 40 = .ok (.getfield 55, 3) := by decide +kernel
theorem ddA_perform_43 : decode cA_perform 43 = .ok (.aload_n 0, 1) := by decide +kernel
theorem ddA_perform_44 : decode cA_perform 44 = .ok (.getfield 37, 3) := by decide +kernel
theorem ddA_perform_47 : decode cA_perform 47 = .ok (.iload_n 1, 1) := by decide +kernel
theorem ddA_perform_48 : decode cA_perform 48 = .ok (.aaload, 1) := by decide +kernel
theorem ddA_perform_49 : decode cA_perform 49 = .ok (.invokevirtual 251, 3) := by decide +kernel
theorem ddA_perform_52 : decode cA_perform 52 = .ok (.ireturn, 1) := by decide +kernel
set_option maxHeartbeats 2000000 in
theorem zBA_perform_18 {G : GXM} {X : CxM} (hG : GokM G) (C : CoM G X cA_perform "HomeFreed") (N : mLM X = 2) {d : Nat} (hD : dpM X = d) (hd : 6 ≤ d)  {q : Int32 × Mem} (E : EnM G X (some .int) (some (.int q.1)) q.2 0 0) {v0 : Nat} {M : Mem} (h : BA_perform_18 v0 M = some q) : ZM G X 18 [(0, .ref v0)] [] M 0 0 := by
  unfold BA_perform_18 at h
  refine zz_aload_n C 0 ddA_perform_18 rfl rfl ?_
  refine zz_iconst (v := 0) C ddA_perform_19 (by decide) ?_
  obtain ⟨h2, h⟩ := gdN h
  obtain ⟨q1, hq1, h⟩ := bindN h
  refine zz_callV0 (As := [.int 0]) C ddA_perform_20 wd_657 my_A_refuse mv_A_refuse ⟨_, rfl, rfl⟩ (xA_refuse hG (d - 1) (by omega) hq1) (by omega) h2 rfl rfl (Nat.le_of_ble_eq_true rfl) ?_
  obtain rfl := Option.some.inj h
  exact zz_iret C E ddA_perform_23
set_option maxHeartbeats 2000000 in
theorem xA_perform {G : GXM} {l : Launch} (hG : GokM G) (d : Nat) (hd : 6 ≤ d) {v0 : Nat} {v1 : Int32} {M : Mem} {q : Int32 × Mem} (h : fA_perform v0 v1 M = some q) : ExM G l d 0 0 yA_perform cA_perform 2 (some .int) [.ref v0, .int v1] M (some (.int q.1)) q.2 := by
  refine ex_of hG (by decide +kernel) (Nat.le_of_ble_eq_true rfl) ?_
  intro X hl C E N hD hn
  show ZM G X 0 [(0, .ref v0), (1, .int v1)] [] M 0 0
  unfold fA_perform at h
  refine zz_aload_n C 0 ddA_perform_0 rfl rfl ?_
  obtain ⟨h1, h⟩ := gdN h
  obtain ⟨h2, h⟩ := gdN h
  refine zz_getr C ddA_perform_1 fl_A_28 rfl h1 (of_decide_eq_true h2) ?_
  obtain ⟨h4, h⟩ := gdN h
  obtain ⟨q3, hq3, h⟩ := bindN h
  refine zz_callV0 (As := []) C ddA_perform_4 wd_566 my_U_areTold mv_U_areTold ⟨_, rfl, rfl⟩ (xU_areTold hG (d - 1) (by omega) hq3) (by omega) h4 rfl rfl (Nat.le_of_ble_eq_true rfl) ?_
  refine zz_if_eq (tgt := 18) C ddA_perform_7 rfl (fun hc => ?_) (fun hc => ?_)
  · replace h := iteT h hc
    refine zz_loc (L1 := [(0, .ref v0)]) [0] rfl ?_
    exact zBA_perform_18 hG C N hD hd E h
  · replace h := iteF h hc
    refine zz_aload_n C 0 ddA_perform_10 rfl rfl ?_
    refine zz_iload_n C 1 ddA_perform_11 rfl rfl ?_
    obtain ⟨h6, h⟩ := gdN h
    obtain ⟨q5, hq5, h⟩ := bindN h
    refine zz_callV0 (As := [.int v1]) C ddA_perform_12 wd_813 my_A_isScript mv_A_isScript ⟨_, rfl, rfl⟩ (xA_isScript hG (d - 1) (by omega) hq5) (by omega) h6 rfl rfl (Nat.le_of_ble_eq_true rfl) ?_
    refine zz_if_ne (tgt := 24) C ddA_perform_15 rfl (fun hc => ?_) (fun hc => ?_)
    · replace h := iteF h hc
      refine zz_aload_n C 0 ddA_perform_24 rfl rfl ?_
      obtain ⟨h7, h⟩ := gdN h
      obtain ⟨h8, h⟩ := gdN h
      refine zz_getr C ddA_perform_25 fl_A_62 rfl h7 (of_decide_eq_true h8) ?_
      refine zz_aload_n C 0 ddA_perform_28 rfl rfl ?_
      obtain ⟨h9, h⟩ := gdN h
      refine zz_getr C ddA_perform_29 fl_A_55 rfl h7 (of_decide_eq_true h9) ?_
      obtain ⟨h11, h⟩ := gdN h
      obtain ⟨q10, hq10, h⟩ := bindN h
      refine zz_callV0 (As := [.ref (grM q5.2 v0 7)]) C ddA_perform_32 wd_674 my_P_keep mv_P_keep ⟨_, rfl, rfl⟩ (xP_keep hG (d - 1) (by omega) hq10) (by omega) h11 rfl rfl (Nat.le_of_ble_eq_true rfl) ?_
      refine zz_aload_n C 0 ddA_perform_35 rfl rfl ?_
      obtain ⟨h12, h⟩ := gdN h
      obtain ⟨h13, h⟩ := gdN h
      refine zz_getr C ddA_perform_36 fl_A_90 rfl h12 (of_decide_eq_true h13) ?_
      refine zz_aload_n C 0 ddA_perform_39 rfl rfl ?_
      obtain ⟨h14, h⟩ := gdN h
      refine zz_getr C ddA_perform_40 fl_A_55 rfl h12 (of_decide_eq_true h14) ?_
      refine zz_aload_n C 0 ddA_perform_43 rfl rfl ?_
      obtain ⟨h15, h⟩ := gdN h
      refine zz_getr C ddA_perform_44 fl_A_37 rfl h12 (of_decide_eq_true h15) ?_
      refine zz_iload_n C 1 ddA_perform_47 rfl rfl ?_
      obtain ⟨h16, h⟩ := gdN h
      obtain ⟨h17, h⟩ := gdN h
      refine zz_aaload (t := 104) C ddA_perform_48 (by decide) (fun _ => rfl) h16 (of_decide_eq_true h17) ?_
      obtain ⟨h19, h⟩ := gdN h
      obtain ⟨q18, hq18, h⟩ := bindN h
      refine zz_callV0 (As := [.ref (grM q10 v0 7), .ref (grM q10 (grM q10 v0 4) (Int32.toNatClampNeg v1))]) C ddA_perform_49 wd_817 my_G_runWhole mv_G_runWhole ⟨_, rfl, rfl⟩ (xG_runWhole hG (d - 1) (by omega) hq18) (by omega) h19 rfl rfl (Nat.le_of_ble_eq_true rfl) ?_
      obtain rfl := Option.some.inj h
      exact zz_iret C E ddA_perform_52
    · replace h := iteT h hc
      refine zz_loc (L1 := [(0, .ref v0)]) [0] rfl ?_
      exact zBA_perform_18 hG C N hD hd E h
theorem ddA_stir_0 : decode cA_stir 0 = .ok (.lload_n 0, 1) := by decide +kernel
theorem ddA_stir_1 : decode cA_stir 1 = .ok (.ldc2_w 272, 3) := by decide +kernel
theorem ddA_stir_4 : decode cA_stir 4 = .ok (.lmul, 1) := by decide +kernel
theorem ddA_stir_5 : decode cA_stir 5 = .ok (.ldc2_w 274, 3) := by decide +kernel
theorem ddA_stir_8 : decode cA_stir 8 = .ok (.ladd, 1) := by decide +kernel
theorem ddA_stir_9 : decode cA_stir 9 = .ok (.lreturn, 1) := by decide +kernel
set_option maxHeartbeats 2000000 in
theorem xA_stir {G : GXM} {l : Launch} (hG : GokM G) (d : Nat) (hd : 0 ≤ d) {v0 : Int64} {M : Mem} {q : Int64 × Mem} (h : fA_stir v0 M = some q) : ExM G l d 0 0 yA_stir cA_stir 2 (some .long) [.long v0] M (some (.long q.1)) q.2 := by
  refine ex_of hG (by decide +kernel) (Nat.le_of_ble_eq_true rfl) ?_
  intro X hl C E N hD hn
  show ZM G X 0 [(0, .long v0)] [] M 0 0
  unfold fA_stir at h
  refine zz_lload_n C 0 ddA_stir_0 rfl rfl ?_
  refine zz_ldc2 C ddA_stir_1 wd_867 rfl ?_
  refine zz_lmul C ddA_stir_4 ?_
  refine zz_ldc2 C ddA_stir_5 wd_868 rfl ?_
  refine zz_ladd C ddA_stir_8 ?_
  obtain rfl := Option.some.inj h
  exact zz_lret C E ddA_stir_9
theorem ddA_drawn_0 : decode cA_drawn 0 = .ok (.iload_n 2, 1) := by decide +kernel
theorem ddA_drawn_1 : decode cA_drawn 1 = .ok (.ifCond .le 14, 3) := by decide +kernel
theorem ddA_drawn_4 : decode cA_drawn 4 = .ok (.lload_n 0, 1) := by decide +kernel
theorem ddA_drawn_5 : decode cA_drawn 5 = .ok (.bipush 33, 2) := by decide +kernel
theorem ddA_drawn_7 : decode cA_drawn 7 = .ok (.lushr, 1) := by decide +kernel
theorem ddA_drawn_8 : decode cA_drawn 8 = .ok (.iload_n 2, 1) := by decide +kernel
theorem ddA_drawn_9 : decode cA_drawn 9 = .ok (.i2l, 1) := by decide +kernel
theorem ddA_drawn_10 : decode cA_drawn 10 = .ok (.lrem, 1) := by decide +kernel
theorem ddA_drawn_11 : decode cA_drawn 11 = .ok (.l2i, 1) := by decide +kernel
theorem ddA_drawn_12 : decode cA_drawn 12 = .ok (.goto 4, 3) := by decide +kernel
theorem ddA_drawn_15 : decode cA_drawn 15 = .ok (.iconst 0, 1) := by decide +kernel
theorem ddA_drawn_16 : decode cA_drawn 16 = .ok (.ireturn, 1) := by decide +kernel
set_option maxHeartbeats 2000000 in
theorem zBA_drawn_16 {G : GXM} {X : CxM} (hG : GokM G) (C : CoM G X cA_drawn "HomeFreed") (N : mLM X = 3) {d : Nat} (hD : dpM X = d) (hd : 0 ≤ d)  {q : Int32 × Mem} (E : EnM G X (some .int) (some (.int q.1)) q.2 0 0) {w0 : Int32} {M : Mem} (h : BA_drawn_16 w0 M = some q) : ZM G X 16 [] [.int w0] M 0 0 := by
  unfold BA_drawn_16 at h
  obtain rfl := Option.some.inj h
  exact zz_iret C E ddA_drawn_16
set_option maxHeartbeats 2000000 in
theorem xA_drawn {G : GXM} {l : Launch} (hG : GokM G) (d : Nat) (hd : 0 ≤ d) {v0 : Int64} {v2 : Int32} {M : Mem} {q : Int32 × Mem} (h : fA_drawn v0 v2 M = some q) : ExM G l d 0 0 yA_drawn cA_drawn 3 (some .int) [.long v0, .int v2] M (some (.int q.1)) q.2 := by
  refine ex_of hG (by decide +kernel) (Nat.le_of_ble_eq_true rfl) ?_
  intro X hl C E N hD hn
  show ZM G X 0 [(0, .long v0), (2, .int v2)] [] M 0 0
  unfold fA_drawn at h
  refine zz_iload_n C 1 ddA_drawn_0 rfl rfl ?_
  refine zz_if_le (tgt := 15) C ddA_drawn_1 rfl (fun hc => ?_) (fun hc => ?_)
  · replace h := iteT h hc
    refine zz_iconst (v := 0) C ddA_drawn_15 (by decide) ?_
    refine zz_loc (L1 := []) [] rfl ?_
    exact zBA_drawn_16 hG C N hD hd E h
  · replace h := iteF h hc
    refine zz_lload_n C 0 ddA_drawn_4 rfl rfl ?_
    refine zz_bipush (v := 33) C ddA_drawn_5 (by decide) ?_
    refine zz_lushr C ddA_drawn_7 ?_
    refine zz_iload_n C 1 ddA_drawn_8 rfl rfl ?_
    refine zz_i2l C ddA_drawn_9 ?_
    obtain ⟨h1, h⟩ := gdN h
    refine zz_lrem C ddA_drawn_10 (of_decide_eq_true h1) ?_
    refine zz_l2i C ddA_drawn_11 ?_
    refine zz_goto (tgt := 16) C ddA_drawn_12 rfl ?_
    refine zz_loc (L1 := []) [] rfl ?_
    exact zBA_drawn_16 hG C N hD hd E h
theorem ddH_heldIn_0 : decode cH_heldIn 0 = .ok (.aload_n 0, 1) := by decide +kernel
theorem ddH_heldIn_1 : decode cH_heldIn 1 = .ok (.iload_n 1, 1) := by decide +kernel
theorem ddH_heldIn_2 : decode cH_heldIn 2 = .ok (.invokevirtual 102, 3) := by decide +kernel
theorem ddH_heldIn_5 : decode cH_heldIn 5 = .ok (.istore_n 2, 1) := by decide +kernel
theorem ddH_heldIn_6 : decode cH_heldIn 6 = .ok (.iconst 0, 1) := by decide +kernel
theorem ddH_heldIn_7 : decode cH_heldIn 7 = .ok (.istore_n 3, 1) := by decide +kernel
theorem ddH_heldIn_8 : decode cH_heldIn 8 = .ok (.iload_n 3, 1) := by decide +kernel
theorem ddH_heldIn_9 : decode cH_heldIn 9 = .ok (.aload_n 0, 1) := by decide +kernel
theorem ddH_heldIn_10 : decode cH_heldIn 10 = .ok (.getfield 46, 3) := by decide +kernel
theorem ddH_heldIn_13 : decode cH_heldIn 13 = .ok (.getfield 76, 3) := by decide +kernel
theorem ddH_heldIn_16 : decode cH_heldIn 16 = .ok (.iconst 0, 1) := by decide +kernel
theorem ddH_heldIn_17 : decode cH_heldIn 17 = .ok (.iaload, 1) := by decide +kernel
theorem ddH_heldIn_18 : decode cH_heldIn 18 = .ok (.if_icmp .ge 26, 3) := by decide +kernel
theorem ddH_heldIn_21 : decode cH_heldIn 21 = .ok (.iload_n 2, 1) := by decide +kernel
theorem ddH_heldIn_22 : decode cH_heldIn 22 = .ok (.aload_n 0, 1) := by decide +kernel
theorem ddH_heldIn_23 : decode cH_heldIn 23 = .ok (.getfield 30, 3) := by decide +kernel
theorem ddH_heldIn_26 : decode cH_heldIn 26 = .ok (.getfield 95, 3) := by decide +kernel
theorem ddH_heldIn_29 : decode cH_heldIn 29 = .ok (.aload_n 0, 1) := by decide +kernel
theorem ddH_heldIn_30 : decode cH_heldIn 30 = .ok (.iload_n 3, 1) := by decide +kernel
theorem ddH_heldIn_31 : decode cH_heldIn 31 = .ok (.iload_n 1, 1) := by decide +kernel
theorem ddH_heldIn_32 : decode cH_heldIn 32 = .ok (.invokevirtual 98, 3) := by decide +kernel
theorem ddH_heldIn_35 : decode cH_heldIn 35 = .ok (.iaload, 1) := by decide +kernel
theorem ddH_heldIn_36 : decode cH_heldIn 36 = .ok (.isub, 1) := by decide +kernel
theorem ddH_heldIn_37 : decode cH_heldIn 37 = .ok (.istore_n 2, 1) := by decide +kernel
theorem ddH_heldIn_38 : decode cH_heldIn 38 = .ok (.iinc 3 1, 3) := by decide +kernel
theorem ddH_heldIn_41 : decode cH_heldIn 41 = .ok (.goto (-33), 3) := by decide +kernel
theorem ddH_heldIn_44 : decode cH_heldIn 44 = .ok (.iload_n 2, 1) := by decide +kernel
theorem ddH_heldIn_45 : decode cH_heldIn 45 = .ok (.ireturn, 1) := by decide +kernel
set_option maxHeartbeats 2000000 in
theorem zBH_heldIn_8 {G : GXM} {X : CxM} (hG : GokM G) (C : CoM G X cH_heldIn "HomeFreed$Heap") (N : mLM X = 4) {d : Nat} (hD : dpM X = d) (hd : 1 ≤ d) {v0 : Nat} {v1 : Int32} {K : Nat → Int32 → Int32 → Int32 → Mem → Option ((Int32 × Mem))} {q : (Int32 × Mem)} (hK : ∀ (v2 : Int32) (v3 : Int32) (M : Mem), K v0 v1 v2 v3 M = some q → ZM G X 8 [(0, .ref v0), (1, .int v1), (2, .int v2), (3, .int v3)] [] M 0 0) (hr : ∀ r : Int32 × Mem, q =  r → EnM G X (some .int) (some (.int r.1)) r.2 0 0) {v2 : Int32} {v3 : Int32} {M : Mem} (h : BH_heldIn_8 K v0 v1 v2 v3 M = some q) : ZM G X 8 [(0, .ref v0), (1, .int v1), (2, .int v2), (3, .int v3)] [] M 0 0 := by
  unfold BH_heldIn_8 at h
  refine zz_iload_n C 3 ddH_heldIn_8 rfl rfl ?_
  refine zz_aload_n C 0 ddH_heldIn_9 rfl rfl ?_
  obtain ⟨h1, h⟩ := gdN h
  obtain ⟨h2, h⟩ := gdN h
  refine zz_getr C ddH_heldIn_10 fl_H_46 rfl h1 (of_decide_eq_true h2) ?_
  obtain ⟨h3, h⟩ := gdN h
  obtain ⟨h4, h⟩ := gdN h
  refine zz_getr C ddH_heldIn_13 fl_H_76 rfl h3 (of_decide_eq_true h4) ?_
  refine zz_iconst (v := 0) C ddH_heldIn_16 (by decide) ?_
  obtain ⟨h5, h⟩ := gdN h
  refine zz_iaload C ddH_heldIn_17 h5 ?_
  refine zz_icmp_ge (tgt := 44) C ddH_heldIn_18 rfl (fun hc => ?_) (fun hc => ?_)
  · replace h := iteT h hc
    refine zz_iload_n C 2 ddH_heldIn_44 rfl rfl ?_
    exact zz_iret C (hr _ (Option.some.inj h).symm) ddH_heldIn_45
  · replace h := iteF h hc
    refine zz_iload_n C 2 ddH_heldIn_21 rfl rfl ?_
    refine zz_aload_n C 0 ddH_heldIn_22 rfl rfl ?_
    obtain ⟨h6, h⟩ := gdN h
    refine zz_getr C ddH_heldIn_23 fl_H_30 rfl h1 (of_decide_eq_true h6) ?_
    obtain ⟨h7, h⟩ := gdN h
    obtain ⟨h8, h⟩ := gdN h
    refine zz_getr C ddH_heldIn_26 fl_H_95 rfl h7 (of_decide_eq_true h8) ?_
    refine zz_aload_n C 0 ddH_heldIn_29 rfl rfl ?_
    refine zz_iload_n C 3 ddH_heldIn_30 rfl rfl ?_
    refine zz_iload_n C 1 ddH_heldIn_31 rfl rfl ?_
    obtain ⟨q9, hq9, h⟩ := bindN h
    refine zz_callV0 (As := [.int v3, .int v1]) C ddH_heldIn_32 wd_619 my_H_outboxOf mv_H_outboxOf ⟨_, rfl, rfl⟩ (xH_outboxOf hG (d - 1) (by omega) hq9) (by omega) h1 rfl rfl (Nat.le_of_ble_eq_true rfl) ?_
    obtain ⟨h10, h⟩ := gdN h
    refine zz_iaload C ddH_heldIn_35 h10 ?_
    refine zz_isub C ddH_heldIn_36 ?_
    refine zz_istore_n (L1 := [(2, .int (v2 - (giM q9.2 (grM M (grM M v0 5) 1) (Int32.toNatClampNeg q9.1)))), (0, .ref v0), (1, .int v1), (3, .int v3)]) C ddH_heldIn_37 rfl N (by decide) rfl ?_
    refine zz_iinc (v := v3 + 1) (L1 := [(3, .int (v3 + 1)), (2, .int (v2 - (giM q9.2 (grM M (grM M v0 5) 1) (Int32.toNatClampNeg q9.1)))), (0, .ref v0), (1, .int v1)]) C 3 ddH_heldIn_38 rfl rfl N (by decide) rfl ?_
    refine zz_goto (tgt := 8) C ddH_heldIn_41 rfl ?_
    refine zz_loc (L1 := [(0, .ref v0), (1, .int v1), (2, .int (v2 - (giM q9.2 (grM M (grM M v0 5) 1) (Int32.toNatClampNeg q9.1)))), (3, .int (v3 + 1))]) [2, 3, 1, 0] rfl ?_
    exact hK _ _ _ h
set_option maxHeartbeats 2000000 in
theorem zLH_heldIn_8 {G : GXM} {X : CxM} (hG : GokM G) (C : CoM G X cH_heldIn "HomeFreed$Heap") (N : mLM X = 4) {d : Nat} (hD : dpM X = d) (hd : 1 ≤ d) {v0 : Nat} {v1 : Int32} {q : (Int32 × Mem)} : ∀ (f : Nat) (v2 : Int32) (v3 : Int32) (M : Mem), LH_heldIn_8 f v0 v1 v2 v3 M = some q → (hr : ∀ r : Int32 × Mem, q =  r → EnM G X (some .int) (some (.int r.1)) r.2 0 0) → ZM G X 8 [(0, .ref v0), (1, .int v1), (2, .int v2), (3, .int v3)] [] M 0 0 := by
  intro f
  induction f with
  | zero => intro v2 v3 M h; cases h
  | succ f ih =>
    intro v2 v3 M h hr
    exact zBH_heldIn_8 hG C N hD hd (K := LH_heldIn_8 f) (q := q) (fun v2 v3 M h => ih v2 v3 M h hr) hr h
set_option maxHeartbeats 2000000 in
theorem xH_heldIn {G : GXM} {l : Launch} (hG : GokM G) (d : Nat) (hd : 1 ≤ d) {v0 : Nat} {v1 : Int32} {M : Mem} {q : Int32 × Mem} (h : fH_heldIn v0 v1 M = some q) : ExM G l d 0 0 yH_heldIn cH_heldIn 4 (some .int) [.ref v0, .int v1] M (some (.int q.1)) q.2 := by
  refine ex_of hG (by decide +kernel) (Nat.le_of_ble_eq_true rfl) ?_
  intro X hl C E N hD hn
  show ZM G X 0 [(0, .ref v0), (1, .int v1)] [] M 0 0
  unfold fH_heldIn at h
  refine zz_aload_n C 0 ddH_heldIn_0 rfl rfl ?_
  refine zz_iload_n C 1 ddH_heldIn_1 rfl rfl ?_
  obtain ⟨h2, h⟩ := gdN h
  obtain ⟨q1, hq1, h⟩ := bindN h
  refine zz_callV0 (As := [.int v1]) C ddH_heldIn_2 wd_670 my_H_usedOf mv_H_usedOf ⟨_, rfl, rfl⟩ (xH_usedOf hG (d - 1) (by omega) hq1) (by omega) h2 rfl rfl (Nat.le_of_ble_eq_true rfl) ?_
  refine zz_istore_n (L1 := [(2, .int q1.1), (0, .ref v0), (1, .int v1)]) C ddH_heldIn_5 rfl N (by decide) rfl ?_
  refine zz_iconst (v := 0) C ddH_heldIn_6 (by decide) ?_
  refine zz_istore_n (L1 := [(3, .int 0), (2, .int q1.1), (0, .ref v0), (1, .int v1)]) C ddH_heldIn_7 rfl N (by decide) rfl ?_
  refine zz_loc (L1 := [(0, .ref v0), (1, .int v1), (2, .int q1.1), (3, .int 0)]) [2, 3, 1, 0] rfl ?_
  obtain ⟨q3, hq3, h⟩ := bindN h
  refine zLH_heldIn_8 hG C N hD hd 1000000 _ _ _ hq3 ?_
  · intro r4 eq3; replace eq3 := eq3.symm; subst eq3
    obtain rfl := Option.some.inj h
    exact E
theorem ddH_heldInAll_0 : decode cH_heldInAll 0 = .ok (.iconst 0, 1) := by decide +kernel
theorem ddH_heldInAll_1 : decode cH_heldInAll 1 = .ok (.istore_n 1, 1) := by decide +kernel
theorem ddH_heldInAll_2 : decode cH_heldInAll 2 = .ok (.iconst 0, 1) := by decide +kernel
theorem ddH_heldInAll_3 : decode cH_heldInAll 3 = .ok (.istore_n 2, 1) := by decide +kernel
theorem ddH_heldInAll_4 : decode cH_heldInAll 4 = .ok (.iload_n 2, 1) := by decide +kernel
theorem ddH_heldInAll_5 : decode cH_heldInAll 5 = .ok (.aload_n 0, 1) := by decide +kernel
theorem ddH_heldInAll_6 : decode cH_heldInAll 6 = .ok (.getfield 46, 3) := by decide +kernel
theorem ddH_heldInAll_9 : decode cH_heldInAll 9 = .ok (.getfield 76, 3) := by decide +kernel
theorem ddH_heldInAll_12 : decode cH_heldInAll 12 = .ok (.iconst 1, 1) := by decide +kernel
theorem ddH_heldInAll_13 : decode cH_heldInAll 13 = .ok (.iaload, 1) := by decide +kernel
theorem ddH_heldInAll_14 : decode cH_heldInAll 14 = .ok (.if_icmp .ge 17, 3) := by decide +kernel
theorem ddH_heldInAll_17 : decode cH_heldInAll 17 = .ok (.iload_n 1, 1) := by decide +kernel
theorem ddH_heldInAll_18 : decode cH_heldInAll 18 = .ok (.aload_n 0, 1) := by decide +kernel
theorem ddH_heldInAll_19 : decode cH_heldInAll 19 = .ok (.iload_n 2, 1) := by decide +kernel
theorem ddH_heldInAll_20 : decode cH_heldInAll 20 = .ok (.invokevirtual 105, 3) := by decide +kernel
theorem ddH_heldInAll_23 : decode cH_heldInAll 23 = .ok (.iadd, 1) := by decide +kernel
theorem ddH_heldInAll_24 : decode cH_heldInAll 24 = .ok (.istore_n 1, 1) := by decide +kernel
theorem ddH_heldInAll_25 : decode cH_heldInAll 25 = .ok (.iinc 2 1, 3) := by decide +kernel
theorem ddH_heldInAll_28 : decode cH_heldInAll 28 = .ok (.goto (-24), 3) := by decide +kernel
theorem ddH_heldInAll_31 : decode cH_heldInAll 31 = .ok (.iload_n 1, 1) := by decide +kernel
theorem ddH_heldInAll_32 : decode cH_heldInAll 32 = .ok (.ireturn, 1) := by decide +kernel
set_option maxHeartbeats 2000000 in
theorem zBH_heldInAll_4 {G : GXM} {X : CxM} (hG : GokM G) (C : CoM G X cH_heldInAll "HomeFreed$Heap") (N : mLM X = 3) {d : Nat} (hD : dpM X = d) (hd : 2 ≤ d) {v0 : Nat} {K : Nat → Int32 → Int32 → Mem → Option ((Int32 × Mem))} {q : (Int32 × Mem)} (hK : ∀ (v1 : Int32) (v2 : Int32) (M : Mem), K v0 v1 v2 M = some q → ZM G X 4 [(0, .ref v0), (1, .int v1), (2, .int v2)] [] M 0 0) (hr : ∀ r : Int32 × Mem, q =  r → EnM G X (some .int) (some (.int r.1)) r.2 0 0) {v1 : Int32} {v2 : Int32} {M : Mem} (h : BH_heldInAll_4 K v0 v1 v2 M = some q) : ZM G X 4 [(0, .ref v0), (1, .int v1), (2, .int v2)] [] M 0 0 := by
  unfold BH_heldInAll_4 at h
  refine zz_iload_n C 2 ddH_heldInAll_4 rfl rfl ?_
  refine zz_aload_n C 0 ddH_heldInAll_5 rfl rfl ?_
  obtain ⟨h1, h⟩ := gdN h
  obtain ⟨h2, h⟩ := gdN h
  refine zz_getr C ddH_heldInAll_6 fl_H_46 rfl h1 (of_decide_eq_true h2) ?_
  obtain ⟨h3, h⟩ := gdN h
  obtain ⟨h4, h⟩ := gdN h
  refine zz_getr C ddH_heldInAll_9 fl_H_76 rfl h3 (of_decide_eq_true h4) ?_
  refine zz_iconst (v := 1) C ddH_heldInAll_12 (by decide) ?_
  obtain ⟨h5, h⟩ := gdN h
  refine zz_iaload C ddH_heldInAll_13 h5 ?_
  refine zz_icmp_ge (tgt := 31) C ddH_heldInAll_14 rfl (fun hc => ?_) (fun hc => ?_)
  · replace h := iteT h hc
    refine zz_iload_n C 1 ddH_heldInAll_31 rfl rfl ?_
    exact zz_iret C (hr _ (Option.some.inj h).symm) ddH_heldInAll_32
  · replace h := iteF h hc
    refine zz_iload_n C 1 ddH_heldInAll_17 rfl rfl ?_
    refine zz_aload_n C 0 ddH_heldInAll_18 rfl rfl ?_
    refine zz_iload_n C 2 ddH_heldInAll_19 rfl rfl ?_
    obtain ⟨q6, hq6, h⟩ := bindN h
    refine zz_callV0 (As := [.int v2]) C ddH_heldInAll_20 wd_876 my_H_heldIn mv_H_heldIn ⟨_, rfl, rfl⟩ (xH_heldIn hG (d - 1) (by omega) hq6) (by omega) h1 rfl rfl (Nat.le_of_ble_eq_true rfl) ?_
    refine zz_iadd C ddH_heldInAll_23 ?_
    refine zz_istore_n (L1 := [(1, .int (v1 + q6.1)), (0, .ref v0), (2, .int v2)]) C ddH_heldInAll_24 rfl N (by decide) rfl ?_
    refine zz_iinc (v := v2 + 1) (L1 := [(2, .int (v2 + 1)), (1, .int (v1 + q6.1)), (0, .ref v0)]) C 2 ddH_heldInAll_25 rfl rfl N (by decide) rfl ?_
    refine zz_goto (tgt := 4) C ddH_heldInAll_28 rfl ?_
    refine zz_loc (L1 := [(0, .ref v0), (1, .int (v1 + q6.1)), (2, .int (v2 + 1))]) [2, 1, 0] rfl ?_
    exact hK _ _ _ h
set_option maxHeartbeats 2000000 in
theorem zLH_heldInAll_4 {G : GXM} {X : CxM} (hG : GokM G) (C : CoM G X cH_heldInAll "HomeFreed$Heap") (N : mLM X = 3) {d : Nat} (hD : dpM X = d) (hd : 2 ≤ d) {v0 : Nat} {q : (Int32 × Mem)} : ∀ (f : Nat) (v1 : Int32) (v2 : Int32) (M : Mem), LH_heldInAll_4 f v0 v1 v2 M = some q → (hr : ∀ r : Int32 × Mem, q =  r → EnM G X (some .int) (some (.int r.1)) r.2 0 0) → ZM G X 4 [(0, .ref v0), (1, .int v1), (2, .int v2)] [] M 0 0 := by
  intro f
  induction f with
  | zero => intro v1 v2 M h; cases h
  | succ f ih =>
    intro v1 v2 M h hr
    exact zBH_heldInAll_4 hG C N hD hd (K := LH_heldInAll_4 f) (q := q) (fun v1 v2 M h => ih v1 v2 M h hr) hr h
set_option maxHeartbeats 2000000 in
theorem xH_heldInAll {G : GXM} {l : Launch} (hG : GokM G) (d : Nat) (hd : 2 ≤ d) {v0 : Nat} {M : Mem} {q : Int32 × Mem} (h : fH_heldInAll v0 M = some q) : ExM G l d 0 0 yH_heldInAll cH_heldInAll 3 (some .int) [.ref v0] M (some (.int q.1)) q.2 := by
  refine ex_of hG (by decide +kernel) (Nat.le_of_ble_eq_true rfl) ?_
  intro X hl C E N hD hn
  show ZM G X 0 [(0, .ref v0)] [] M 0 0
  unfold fH_heldInAll at h
  refine zz_iconst (v := 0) C ddH_heldInAll_0 (by decide) ?_
  refine zz_istore_n (L1 := [(1, .int 0), (0, .ref v0)]) C ddH_heldInAll_1 rfl N (by decide) rfl ?_
  refine zz_iconst (v := 0) C ddH_heldInAll_2 (by decide) ?_
  refine zz_istore_n (L1 := [(2, .int 0), (1, .int 0), (0, .ref v0)]) C ddH_heldInAll_3 rfl N (by decide) rfl ?_
  refine zz_loc (L1 := [(0, .ref v0), (1, .int 0), (2, .int 0)]) [2, 1, 0] rfl ?_
  obtain ⟨q1, hq1, h⟩ := bindN h
  refine zLH_heldInAll_4 hG C N hD hd 1000000 _ _ _ hq1 ?_
  · intro r2 eq1; replace eq1 := eq1.symm; subst eq1
    obtain rfl := Option.some.inj h
    exact E
theorem ddH_heldAt_0 : decode cH_heldAt 0 = .ok (.iload_n 1, 1) := by decide +kernel
theorem ddH_heldAt_1 : decode cH_heldAt 1 = .ok (.istore_n 2, 1) := by decide +kernel
theorem ddH_heldAt_2 : decode cH_heldAt 2 = .ok (.iconst 0, 1) := by decide +kernel
theorem ddH_heldAt_3 : decode cH_heldAt 3 = .ok (.istore_n 3, 1) := by decide +kernel
theorem ddH_heldAt_4 : decode cH_heldAt 4 = .ok (.iload_n 3, 1) := by decide +kernel
theorem ddH_heldAt_5 : decode cH_heldAt 5 = .ok (.aload_n 0, 1) := by decide +kernel
theorem ddH_heldAt_6 : decode cH_heldAt 6 = .ok (.getfield 46, 3) := by decide +kernel
theorem ddH_heldAt_9 : decode cH_heldAt 9 = .ok (.getfield 76, 3) := by decide +kernel
theorem ddH_heldAt_12 : decode cH_heldAt 12 = .ok (.iconst 1, 1) := by decide +kernel
theorem ddH_heldAt_13 : decode cH_heldAt 13 = .ok (.iaload, 1) := by decide +kernel
theorem ddH_heldAt_14 : decode cH_heldAt 14 = .ok (.if_icmp .ge 66, 3) := by decide +kernel
theorem ddH_heldAt_17 : decode cH_heldAt 17 = .ok (.iconst 0, 1) := by decide +kernel
theorem ddH_heldAt_18 : decode cH_heldAt 18 = .ok (.istore 4, 2) := by decide +kernel
theorem ddH_heldAt_20 : decode cH_heldAt 20 = .ok (.iload 4, 2) := by decide +kernel
theorem ddH_heldAt_22 : decode cH_heldAt 22 = .ok (.aload_n 0, 1) := by decide +kernel
theorem ddH_heldAt_23 : decode cH_heldAt 23 = .ok (.getfield 18, 3) := by decide +kernel
theorem ddH_heldAt_26 : decode cH_heldAt 26 = .ok (.iload_n 3, 1) := by decide +kernel
theorem ddH_heldAt_27 : decode cH_heldAt 27 = .ok (.iaload, 1) := by decide +kernel
theorem ddH_heldAt_28 : decode cH_heldAt 28 = .ok (.if_icmp .ge 46, 3) := by decide +kernel
theorem ddH_heldAt_31 : decode cH_heldAt 31 = .ok (.aload_n 0, 1) := by decide +kernel
theorem ddH_heldAt_32 : decode cH_heldAt 32 = .ok (.getfield 30, 3) := by decide +kernel
theorem ddH_heldAt_35 : decode cH_heldAt 35 = .ok (.getfield 88, 3) := by decide +kernel
theorem ddH_heldAt_38 : decode cH_heldAt 38 = .ok (.iload_n 3, 1) := by decide +kernel
theorem ddH_heldAt_39 : decode cH_heldAt 39 = .ok (.bipush 40, 2) := by decide +kernel
theorem ddH_heldAt_41 : decode cH_heldAt 41 = .ok (.imul, 1) := by decide +kernel
theorem ddH_heldAt_42 : decode cH_heldAt 42 = .ok (.iload 4, 2) := by decide +kernel
theorem ddH_heldAt_44 : decode cH_heldAt 44 = .ok (.iadd, 1) := by decide +kernel
theorem ddH_heldAt_45 : decode cH_heldAt 45 = .ok (.iaload, 1) := by decide +kernel
theorem ddH_heldAt_46 : decode cH_heldAt 46 = .ok (.iconst (-1), 1) := by decide +kernel
theorem ddH_heldAt_47 : decode cH_heldAt 47 = .ok (.if_icmp .eq 6, 3) := by decide +kernel
theorem ddH_heldAt_50 : decode cH_heldAt 50 = .ok (.goto 18, 3) := by decide +kernel
theorem ddH_heldAt_53 : decode cH_heldAt 53 = .ok (.iload_n 2, 1) := by decide +kernel
theorem ddH_heldAt_54 : decode cH_heldAt 54 = .ok (.ifCond .ne 11, 3) := by decide +kernel
theorem ddH_heldAt_57 : decode cH_heldAt 57 = .ok (.iload_n 3, 1) := by decide +kernel
theorem ddH_heldAt_58 : decode cH_heldAt 58 = .ok (.bipush 100, 2) := by decide +kernel
theorem ddH_heldAt_60 : decode cH_heldAt 60 = .ok (.imul, 1) := by decide +kernel
theorem ddH_heldAt_61 : decode cH_heldAt 61 = .ok (.iload 4, 2) := by decide +kernel
theorem ddH_heldAt_63 : decode cH_heldAt 63 = .ok (.iadd, 1) := by decide +kernel
theorem ddH_heldAt_64 : decode cH_heldAt 64 = .ok (.ireturn, 1) := by decide +kernel
theorem ddH_heldAt_65 : decode cH_heldAt 65 = .ok (.iinc 2 (-1), 3) := by decide +kernel
theorem ddH_heldAt_68 : decode cH_heldAt 68 = .ok (.iinc 4 1, 3) := by decide +kernel
theorem ddH_heldAt_71 : decode cH_heldAt 71 = .ok (.goto (-51), 3) := by decide +kernel
theorem ddH_heldAt_74 : decode cH_heldAt 74 = .ok (.iinc 3 1, 3) := by decide +kernel
theorem ddH_heldAt_77 : decode cH_heldAt 77 = .ok (.goto (-73), 3) := by decide +kernel
theorem ddH_heldAt_80 : decode cH_heldAt 80 = .ok (.iconst (-1), 1) := by decide +kernel
theorem ddH_heldAt_81 : decode cH_heldAt 81 = .ok (.ireturn, 1) := by decide +kernel
set_option maxHeartbeats 2000000 in
theorem zBH_heldAt_68 {G : GXM} {X : CxM} (hG : GokM G) (C : CoM G X cH_heldAt "HomeFreed$Heap") (N : mLM X = 5) {d : Nat} (hD : dpM X = d) (hd : 0 ≤ d) {v0 : Nat} {v3 : Int32} {K : Nat → Int32 → Int32 → Int32 → Mem → Option ((Int32 × Mem) ⊕ (Int32 × Mem))} {q : (Int32 × Mem) ⊕ (Int32 × Mem)} (hK : ∀ (v2 : Int32) (v4 : Int32) (M : Mem), K v0 v2 v3 v4 M = some q → ZM G X 20 [(0, .ref v0), (2, .int v2), (3, .int v3), (4, .int v4)] [] M 0 0) (hr : ∀ r : Int32 × Mem, q = .inl r → EnM G X (some .int) (some (.int r.1)) r.2 0 0) (hx0 : ∀ y : Int32 × Mem, q = (.inr y) → ZM G X 74 [(0, .ref v0), (2, .int y.1), (3, .int v3)] [] y.2 0 0) {v2 : Int32} {v4 : Int32} {M : Mem} (h : BH_heldAt_68 K v0 v2 v3 v4 M = some q) : ZM G X 68 [(0, .ref v0), (2, .int v2), (3, .int v3), (4, .int v4)] [] M 0 0 := by
  unfold BH_heldAt_68 at h
  refine zz_iinc (v := v4 + 1) (L1 := [(4, .int (v4 + 1)), (0, .ref v0), (2, .int v2), (3, .int v3)]) C 3 ddH_heldAt_68 rfl rfl N (by decide) rfl ?_
  refine zz_goto (tgt := 20) C ddH_heldAt_71 rfl ?_
  refine zz_loc (L1 := [(0, .ref v0), (2, .int v2), (3, .int v3), (4, .int (v4 + 1))]) [1, 2, 3, 0] rfl ?_
  exact hK _ _ _ h
set_option maxHeartbeats 2000000 in
theorem zBH_heldAt_20 {G : GXM} {X : CxM} (hG : GokM G) (C : CoM G X cH_heldAt "HomeFreed$Heap") (N : mLM X = 5) {d : Nat} (hD : dpM X = d) (hd : 0 ≤ d) {v0 : Nat} {v3 : Int32} {K : Nat → Int32 → Int32 → Int32 → Mem → Option ((Int32 × Mem) ⊕ (Int32 × Mem))} {q : (Int32 × Mem) ⊕ (Int32 × Mem)} (hK : ∀ (v2 : Int32) (v4 : Int32) (M : Mem), K v0 v2 v3 v4 M = some q → ZM G X 20 [(0, .ref v0), (2, .int v2), (3, .int v3), (4, .int v4)] [] M 0 0) (hr : ∀ r : Int32 × Mem, q = .inl r → EnM G X (some .int) (some (.int r.1)) r.2 0 0) (hx0 : ∀ y : Int32 × Mem, q = (.inr y) → ZM G X 74 [(0, .ref v0), (2, .int y.1), (3, .int v3)] [] y.2 0 0) {v2 : Int32} {v4 : Int32} {M : Mem} (h : BH_heldAt_20 K v0 v2 v3 v4 M = some q) : ZM G X 20 [(0, .ref v0), (2, .int v2), (3, .int v3), (4, .int v4)] [] M 0 0 := by
  unfold BH_heldAt_20 at h
  refine zz_iload C 3 ddH_heldAt_20 rfl ?_
  refine zz_aload_n C 0 ddH_heldAt_22 rfl rfl ?_
  obtain ⟨h1, h⟩ := gdN h
  obtain ⟨h2, h⟩ := gdN h
  refine zz_getr C ddH_heldAt_23 fl_H_18 rfl h1 (of_decide_eq_true h2) ?_
  refine zz_iload_n C 2 ddH_heldAt_26 rfl rfl ?_
  obtain ⟨h3, h⟩ := gdN h
  refine zz_iaload C ddH_heldAt_27 h3 ?_
  refine zz_icmp_ge (tgt := 74) C ddH_heldAt_28 rfl (fun hc => ?_) (fun hc => ?_)
  · replace h := iteT h hc
    refine zz_loc (L1 := [(0, .ref v0), (2, .int v2), (3, .int v3)]) [0, 1, 2] rfl ?_
    exact hx0 _ (Option.some.inj h).symm
  · replace h := iteF h hc
    refine zz_aload_n C 0 ddH_heldAt_31 rfl rfl ?_
    obtain ⟨h4, h⟩ := gdN h
    refine zz_getr C ddH_heldAt_32 fl_H_30 rfl h1 (of_decide_eq_true h4) ?_
    obtain ⟨h5, h⟩ := gdN h
    obtain ⟨h6, h⟩ := gdN h
    refine zz_getr C ddH_heldAt_35 fl_H_88 rfl h5 (of_decide_eq_true h6) ?_
    refine zz_iload_n C 2 ddH_heldAt_38 rfl rfl ?_
    refine zz_bipush (v := 40) C ddH_heldAt_39 (by decide) ?_
    refine zz_imul C ddH_heldAt_41 ?_
    refine zz_iload C 3 ddH_heldAt_42 rfl ?_
    refine zz_iadd C ddH_heldAt_44 ?_
    obtain ⟨h7, h⟩ := gdN h
    refine zz_iaload C ddH_heldAt_45 h7 ?_
    refine zz_iconst (v := (-1)) C ddH_heldAt_46 (by decide) ?_
    refine zz_icmp_eq (tgt := 53) C ddH_heldAt_47 rfl (fun hc => ?_) (fun hc => ?_)
    · replace h := iteT h hc
      refine zz_iload_n C 1 ddH_heldAt_53 rfl rfl ?_
      refine zz_if_ne (tgt := 65) C ddH_heldAt_54 rfl (fun hc => ?_) (fun hc => ?_)
      · replace h := iteF h hc
        refine zz_iinc (v := v2 + (-1)) (L1 := [(2, .int (v2 + (-1))), (0, .ref v0), (3, .int v3), (4, .int v4)]) C 1 ddH_heldAt_65 rfl rfl N (by decide) rfl ?_
        refine zz_loc (L1 := [(0, .ref v0), (2, .int (v2 + (-1))), (3, .int v3), (4, .int v4)]) [1, 0, 2, 3] rfl ?_
        exact zBH_heldAt_68 hG C N hD hd hK hr hx0 h
      · replace h := iteT h hc
        refine zz_iload_n C 2 ddH_heldAt_57 rfl rfl ?_
        refine zz_bipush (v := 100) C ddH_heldAt_58 (by decide) ?_
        refine zz_imul C ddH_heldAt_60 ?_
        refine zz_iload C 3 ddH_heldAt_61 rfl ?_
        refine zz_iadd C ddH_heldAt_63 ?_
        exact zz_iret C (hr _ (Option.some.inj h).symm) ddH_heldAt_64
    · replace h := iteF h hc
      refine zz_goto (tgt := 68) C ddH_heldAt_50 rfl ?_
      exact zBH_heldAt_68 hG C N hD hd hK hr hx0 h
set_option maxHeartbeats 2000000 in
theorem zLH_heldAt_20 {G : GXM} {X : CxM} (hG : GokM G) (C : CoM G X cH_heldAt "HomeFreed$Heap") (N : mLM X = 5) {d : Nat} (hD : dpM X = d) (hd : 0 ≤ d) {v0 : Nat} {v3 : Int32} {q : (Int32 × Mem) ⊕ (Int32 × Mem)} : ∀ (f : Nat) (v2 : Int32) (v4 : Int32) (M : Mem), LH_heldAt_20 f v0 v2 v3 v4 M = some q → (hr : ∀ r : Int32 × Mem, q = .inl r → EnM G X (some .int) (some (.int r.1)) r.2 0 0) → (hx0 : ∀ y : Int32 × Mem, q = (.inr y) → ZM G X 74 [(0, .ref v0), (2, .int y.1), (3, .int v3)] [] y.2 0 0) → ZM G X 20 [(0, .ref v0), (2, .int v2), (3, .int v3), (4, .int v4)] [] M 0 0 := by
  intro f
  induction f with
  | zero => intro v2 v4 M h; cases h
  | succ f ih =>
    intro v2 v4 M h hr hx0
    exact zBH_heldAt_20 hG C N hD hd (K := LH_heldAt_20 f) (q := q) (fun v2 v4 M h => ih v2 v4 M h hr hx0) hr hx0 h
set_option maxHeartbeats 2000000 in
theorem zBH_heldAt_4 {G : GXM} {X : CxM} (hG : GokM G) (C : CoM G X cH_heldAt "HomeFreed$Heap") (N : mLM X = 5) {d : Nat} (hD : dpM X = d) (hd : 0 ≤ d) {v0 : Nat} {K : Nat → Int32 → Int32 → Mem → Option ((Int32 × Mem))} {q : (Int32 × Mem)} (hK : ∀ (v2 : Int32) (v3 : Int32) (M : Mem), K v0 v2 v3 M = some q → ZM G X 4 [(0, .ref v0), (2, .int v2), (3, .int v3)] [] M 0 0) (hr : ∀ r : Int32 × Mem, q =  r → EnM G X (some .int) (some (.int r.1)) r.2 0 0) {v2 : Int32} {v3 : Int32} {M : Mem} (h : BH_heldAt_4 K v0 v2 v3 M = some q) : ZM G X 4 [(0, .ref v0), (2, .int v2), (3, .int v3)] [] M 0 0 := by
  unfold BH_heldAt_4 at h
  refine zz_iload_n C 2 ddH_heldAt_4 rfl rfl ?_
  refine zz_aload_n C 0 ddH_heldAt_5 rfl rfl ?_
  obtain ⟨h1, h⟩ := gdN h
  obtain ⟨h2, h⟩ := gdN h
  refine zz_getr C ddH_heldAt_6 fl_H_46 rfl h1 (of_decide_eq_true h2) ?_
  obtain ⟨h3, h⟩ := gdN h
  obtain ⟨h4, h⟩ := gdN h
  refine zz_getr C ddH_heldAt_9 fl_H_76 rfl h3 (of_decide_eq_true h4) ?_
  refine zz_iconst (v := 1) C ddH_heldAt_12 (by decide) ?_
  obtain ⟨h5, h⟩ := gdN h
  refine zz_iaload C ddH_heldAt_13 h5 ?_
  refine zz_icmp_ge (tgt := 80) C ddH_heldAt_14 rfl (fun hc => ?_) (fun hc => ?_)
  · replace h := iteT h hc
    refine zz_iconst (v := (-1)) C ddH_heldAt_80 (by decide) ?_
    exact zz_iret C (hr _ (Option.some.inj h).symm) ddH_heldAt_81
  · replace h := iteF h hc
    refine zz_iconst (v := 0) C ddH_heldAt_17 (by decide) ?_
    refine zz_istore (L1 := [(4, .int 0), (0, .ref v0), (2, .int v2), (3, .int v3)]) C ddH_heldAt_18 N (by decide) rfl ?_
    refine zz_loc (L1 := [(0, .ref v0), (2, .int v2), (3, .int v3), (4, .int 0)]) [1, 2, 3, 0] rfl ?_
    obtain ⟨q6, hq6, h⟩ := bindN h
    refine zLH_heldAt_20 hG C N hD hd 1000000 _ _ _ hq6 ?_ ?_
    · intro r7 eq6; replace eq6 := eq6.symm; subst eq6
      exact hr _ (Option.some.inj h).symm
    · intro y8 eq6; replace eq6 := eq6.symm; subst eq6
      refine zz_iinc (v := v3 + 1) (L1 := [(3, .int (v3 + 1)), (0, .ref v0), (2, .int y8.1)]) C 2 ddH_heldAt_74 rfl rfl N (by decide) rfl ?_
      refine zz_goto (tgt := 4) C ddH_heldAt_77 rfl ?_
      refine zz_loc (L1 := [(0, .ref v0), (2, .int y8.1), (3, .int (v3 + 1))]) [1, 2, 0] rfl ?_
      exact hK _ _ _ h
set_option maxHeartbeats 2000000 in
theorem zLH_heldAt_4 {G : GXM} {X : CxM} (hG : GokM G) (C : CoM G X cH_heldAt "HomeFreed$Heap") (N : mLM X = 5) {d : Nat} (hD : dpM X = d) (hd : 0 ≤ d) {v0 : Nat} {q : (Int32 × Mem)} : ∀ (f : Nat) (v2 : Int32) (v3 : Int32) (M : Mem), LH_heldAt_4 f v0 v2 v3 M = some q → (hr : ∀ r : Int32 × Mem, q =  r → EnM G X (some .int) (some (.int r.1)) r.2 0 0) → ZM G X 4 [(0, .ref v0), (2, .int v2), (3, .int v3)] [] M 0 0 := by
  intro f
  induction f with
  | zero => intro v2 v3 M h; cases h
  | succ f ih =>
    intro v2 v3 M h hr
    exact zBH_heldAt_4 hG C N hD hd (K := LH_heldAt_4 f) (q := q) (fun v2 v3 M h => ih v2 v3 M h hr) hr h
set_option maxHeartbeats 2000000 in
theorem xH_heldAt {G : GXM} {l : Launch} (hG : GokM G) (d : Nat) (hd : 0 ≤ d) {v0 : Nat} {v1 : Int32} {M : Mem} {q : Int32 × Mem} (h : fH_heldAt v0 v1 M = some q) : ExM G l d 0 0 yH_heldAt cH_heldAt 5 (some .int) [.ref v0, .int v1] M (some (.int q.1)) q.2 := by
  refine ex_of hG (by decide +kernel) (Nat.le_of_ble_eq_true rfl) ?_
  intro X hl C E N hD hn
  show ZM G X 0 [(0, .ref v0), (1, .int v1)] [] M 0 0
  unfold fH_heldAt at h
  refine zz_iload_n C 1 ddH_heldAt_0 rfl rfl ?_
  refine zz_istore_n (L1 := [(2, .int v1), (0, .ref v0), (1, .int v1)]) C ddH_heldAt_1 rfl N (by decide) rfl ?_
  refine zz_iconst (v := 0) C ddH_heldAt_2 (by decide) ?_
  refine zz_istore_n (L1 := [(3, .int 0), (2, .int v1), (0, .ref v0), (1, .int v1)]) C ddH_heldAt_3 rfl N (by decide) rfl ?_
  refine zz_loc (L1 := [(0, .ref v0), (2, .int v1), (3, .int 0)]) [2, 1, 0] rfl ?_
  obtain ⟨q1, hq1, h⟩ := bindN h
  refine zLH_heldAt_4 hG C N hD hd 1000000 _ _ _ hq1 ?_
  · intro r2 eq1; replace eq1 := eq1.symm; subst eq1
    obtain rfl := Option.some.inj h
    exact E
theorem ddA_liveYear_0 : decode cA_liveYear 0 = .ok (.aload_n 0, 1) := by decide +kernel
theorem ddA_liveYear_1 : decode cA_liveYear 1 = .ok (.getfield 62, 3) := by decide +kernel
theorem ddA_liveYear_4 : decode cA_liveYear 4 = .ok (.aload_n 0, 1) := by decide +kernel
theorem ddA_liveYear_5 : decode cA_liveYear 5 = .ok (.getfield 55, 3) := by decide +kernel
theorem ddA_liveYear_8 : decode cA_liveYear 8 = .ok (.invokevirtual 226, 3) := by decide +kernel
theorem ddA_liveYear_11 : decode cA_liveYear 11 = .ok (.lload_n 1, 1) := by decide +kernel
theorem ddA_liveYear_12 : decode cA_liveYear 12 = .ok (.invokestatic 262, 3) := by decide +kernel
theorem ddA_liveYear_15 : decode cA_liveYear 15 = .ok (.lstore_n 3, 1) := by decide +kernel
theorem ddA_liveYear_16 : decode cA_liveYear 16 = .ok (.lload_n 3, 1) := by decide +kernel
theorem ddA_liveYear_17 : decode cA_liveYear 17 = .ok (.aload_n 0, 1) := by decide +kernel
theorem ddA_liveYear_18 : decode cA_liveYear 18 = .ok (.getfield 28, 3) := by decide +kernel
theorem ddA_liveYear_21 : decode cA_liveYear 21 = .ok (.getfield 136, 3) := by decide +kernel
theorem ddA_liveYear_24 : decode cA_liveYear 24 = .ok (.iconst 0, 1) := by decide +kernel
theorem ddA_liveYear_25 : decode cA_liveYear 25 = .ok (.iaload, 1) := by decide +kernel
theorem ddA_liveYear_26 : decode cA_liveYear 26 = .ok (.invokestatic 265, 3) := by decide +kernel
theorem ddA_liveYear_29 : decode cA_liveYear 29 = .ok (.istore 5, 2) := by decide +kernel
theorem ddA_liveYear_31 : decode cA_liveYear 31 = .ok (.lload_n 3, 1) := by decide +kernel
theorem ddA_liveYear_32 : decode cA_liveYear 32 = .ok (.invokestatic 262, 3) := by decide +kernel
theorem ddA_liveYear_35 : decode cA_liveYear 35 = .ok (.lstore_n 3, 1) := by decide +kernel
theorem ddA_liveYear_36 : decode cA_liveYear 36 = .ok (.lload_n 3, 1) := by decide +kernel
theorem ddA_liveYear_37 : decode cA_liveYear 37 = .ok (.iconst 3, 1) := by decide +kernel
theorem ddA_liveYear_38 : decode cA_liveYear 38 = .ok (.invokestatic 265, 3) := by decide +kernel
theorem ddA_liveYear_41 : decode cA_liveYear 41 = .ok (.iconst 2, 1) := by decide +kernel
theorem ddA_liveYear_42 : decode cA_liveYear 42 = .ok (.if_icmp .ge 35, 3) := by decide +kernel
theorem ddA_liveYear_45 : decode cA_liveYear 45 = .ok (.lload_n 3, 1) := by decide +kernel
theorem ddA_liveYear_46 : decode cA_liveYear 46 = .ok (.invokestatic 262, 3) := by decide +kernel
theorem ddA_liveYear_49 : decode cA_liveYear 49 = .ok (.lstore_n 3, 1) := by decide +kernel
theorem ddA_liveYear_50 : decode cA_liveYear 50 = .ok (.aload_n 0, 1) := by decide +kernel
theorem ddA_liveYear_51 : decode cA_liveYear 51 = .ok (.getfield 55, 3) := by decide +kernel
theorem ddA_liveYear_54 : decode cA_liveYear 54 = .ok (.iload 5, 2) := by decide +kernel
theorem ddA_liveYear_56 : decode cA_liveYear 56 = .ok (.lload_n 3, 1) := by decide +kernel
theorem ddA_liveYear_57 : decode cA_liveYear 57 = .ok (.aload_n 0, 1) := by decide +kernel
theorem ddA_liveYear_58 : decode cA_liveYear 58 = .ok (.getfield 28, 3) := by decide +kernel
theorem ddA_liveYear_61 : decode cA_liveYear 61 = .ok (.getfield 136, 3) := by decide +kernel
theorem ddA_liveYear_64 : decode cA_liveYear 64 = .ok (.iconst 2, 1) := by decide +kernel
theorem ddA_liveYear_65 : decode cA_liveYear 65 = .ok (.iaload, 1) := by decide +kernel
theorem ddA_liveYear_66 : decode cA_liveYear 66 = .ok (.invokestatic 265, 3) := by decide +kernel
theorem ddA_liveYear_69 : decode cA_liveYear 69 = .ok (.iconst 1, 1) := by decide +kernel
theorem ddA_liveYear_70 : decode cA_liveYear 70 = .ok (.iadd, 1) := by decide +kernel
theorem ddA_liveYear_71 : decode cA_liveYear 71 = .ok (.invokevirtual 230, 3) := by decide +kernel
theorem ddA_liveYear_74 : decode cA_liveYear 74 = .ok (.pop, 1) := by decide +kernel
theorem ddA_liveYear_75 : decode cA_liveYear 75 = .ok (.lload_n 3, 1) := by decide +kernel
theorem ddA_liveYear_76 : decode cA_liveYear 76 = .ok (.lreturn, 1) := by decide +kernel
theorem ddA_liveYear_77 : decode cA_liveYear 77 = .ok (.aload_n 0, 1) := by decide +kernel
theorem ddA_liveYear_78 : decode cA_liveYear 78 = .ok (.getfield 55, 3) := by decide +kernel
theorem ddA_liveYear_81 : decode cA_liveYear 81 = .ok (.invokevirtual 259, 3) := by decide +kernel
theorem ddA_liveYear_84 : decode cA_liveYear 84 = .ok (.istore 6, 2) := by decide +kernel
theorem ddA_liveYear_86 : decode cA_liveYear 86 = .ok (.iload 6, 2) := by decide +kernel
theorem ddA_liveYear_88 : decode cA_liveYear 88 = .ok (.ifCond .le 31, 3) := by decide +kernel
theorem ddA_liveYear_91 : decode cA_liveYear 91 = .ok (.lload_n 3, 1) := by decide +kernel
theorem ddA_liveYear_92 : decode cA_liveYear 92 = .ok (.invokestatic 262, 3) := by decide +kernel
theorem ddA_liveYear_95 : decode cA_liveYear 95 = .ok (.lstore_n 3, 1) := by decide +kernel
theorem ddA_liveYear_96 : decode cA_liveYear 96 = .ok (.aload_n 0, 1) := by decide +kernel
theorem ddA_liveYear_97 : decode cA_liveYear 97 = .ok (.getfield 55, 3) := by decide +kernel
theorem ddA_liveYear_100 : decode cA_liveYear 100 = .ok (.iload 5, 2) := by decide +kernel
theorem ddA_liveYear_102 : decode cA_liveYear 102 = .ok (.aload_n 0, 1) := by decide +kernel
theorem ddA_liveYear_103 : decode cA_liveYear 103 = .ok (.getfield 55, 3) := by decide +kernel
theorem ddA_liveYear_106 : decode cA_liveYear 106 = .ok (.lload_n 3, 1) := by decide +kernel
theorem ddA_liveYear_107 : decode cA_liveYear 107 = .ok (.iload 6, 2) := by decide +kernel
theorem ddA_liveYear_109 : decode cA_liveYear 109 = .ok (.invokestatic 265, 3) := by decide +kernel
theorem ddA_liveYear_112 : decode cA_liveYear 112 = .ok (.invokevirtual 269, 3) := by decide +kernel
theorem ddA_liveYear_115 : decode cA_liveYear 115 = .ok (.invokevirtual 233, 3) := by decide +kernel
theorem ddA_liveYear_118 : decode cA_liveYear 118 = .ok (.pop, 1) := by decide +kernel
theorem ddA_liveYear_119 : decode cA_liveYear 119 = .ok (.lload_n 3, 1) := by decide +kernel
theorem ddA_liveYear_120 : decode cA_liveYear 120 = .ok (.lreturn, 1) := by decide +kernel
set_option maxHeartbeats 2000000 in
theorem zBA_liveYear_119 {G : GXM} {X : CxM} (hG : GokM G) (C : CoM G X cA_liveYear "HomeFreed") (N : mLM X = 7) {d : Nat} (hD : dpM X = d) (hd : 4 ≤ d)  {q : Int64 × Mem} (E : EnM G X (some .long) (some (.long q.1)) q.2 0 0) {v3 : Int64} {M : Mem} (h : BA_liveYear_119 v3 M = some q) : ZM G X 119 [(3, .long v3)] [] M 0 0 := by
  unfold BA_liveYear_119 at h
  refine zz_lload_n C 0 ddA_liveYear_119 rfl rfl ?_
  obtain rfl := Option.some.inj h
  exact zz_lret C E ddA_liveYear_120
set_option maxHeartbeats 2000000 in
theorem xA_liveYear {G : GXM} {l : Launch} (hG : GokM G) (d : Nat) (hd : 4 ≤ d) {v0 : Nat} {v1 : Int64} {M : Mem} {q : Int64 × Mem} (h : fA_liveYear v0 v1 M = some q) : ExM G l d 0 0 yA_liveYear cA_liveYear 7 (some .long) [.ref v0, .long v1] M (some (.long q.1)) q.2 := by
  refine ex_of hG (by decide +kernel) (Nat.le_of_ble_eq_true rfl) ?_
  intro X hl C E N hD hn
  show ZM G X 0 [(0, .ref v0), (1, .long v1)] [] M 0 0
  unfold fA_liveYear at h
  refine zz_aload_n C 0 ddA_liveYear_0 rfl rfl ?_
  obtain ⟨h1, h⟩ := gdN h
  obtain ⟨h2, h⟩ := gdN h
  refine zz_getr C ddA_liveYear_1 fl_A_62 rfl h1 (of_decide_eq_true h2) ?_
  refine zz_aload_n C 0 ddA_liveYear_4 rfl rfl ?_
  obtain ⟨h3, h⟩ := gdN h
  refine zz_getr C ddA_liveYear_5 fl_A_55 rfl h1 (of_decide_eq_true h3) ?_
  obtain ⟨h5, h⟩ := gdN h
  obtain ⟨q4, hq4, h⟩ := bindN h
  refine zz_callV0 (As := [.ref (grM M v0 7)]) C ddA_liveYear_8 wd_674 my_P_keep mv_P_keep ⟨_, rfl, rfl⟩ (xP_keep hG (d - 1) (by omega) hq4) (by omega) h5 rfl rfl (Nat.le_of_ble_eq_true rfl) ?_
  refine zz_lload_n C 1 ddA_liveYear_11 rfl rfl ?_
  obtain ⟨q6, hq6, h⟩ := bindN h
  refine zz_callS0 (As := [.long v1]) C ddA_liveYear_12 wd_864 my_A_stir mv_A_stir (xA_stir hG (d - 1) (by omega) hq6) (by omega) rfl rfl (Nat.le_of_ble_eq_true rfl) ?_
  refine zz_lstore_n (L1 := [(3, .long q6.1), (0, .ref v0), (1, .long v1)]) C ddA_liveYear_15 rfl N (by decide) rfl ?_
  refine zz_lload_n C 0 ddA_liveYear_16 rfl rfl ?_
  refine zz_aload_n C 1 ddA_liveYear_17 rfl rfl ?_
  obtain ⟨h7, h⟩ := gdN h
  obtain ⟨h8, h⟩ := gdN h
  refine zz_getr C ddA_liveYear_18 fl_A_28 rfl h7 (of_decide_eq_true h8) ?_
  obtain ⟨h9, h⟩ := gdN h
  obtain ⟨h10, h⟩ := gdN h
  refine zz_getr C ddA_liveYear_21 fl_A_136 rfl h9 (of_decide_eq_true h10) ?_
  refine zz_iconst (v := 0) C ddA_liveYear_24 (by decide) ?_
  obtain ⟨h11, h⟩ := gdN h
  refine zz_iaload C ddA_liveYear_25 h11 ?_
  obtain ⟨q12, hq12, h⟩ := bindN h
  refine zz_callS0 (As := [.long q6.1, .int (giM q6.2 (grM q6.2 (grM q6.2 v0 2) 0) (Int32.toNatClampNeg 0))]) C ddA_liveYear_26 wd_869 my_A_drawn mv_A_drawn (xA_drawn hG (d - 1) (by omega) hq12) (by omega) rfl rfl (Nat.le_of_ble_eq_true rfl) ?_
  refine zz_istore (L1 := [(5, .int q12.1), (3, .long q6.1), (0, .ref v0), (1, .long v1)]) C ddA_liveYear_29 N (by decide) rfl ?_
  refine zz_lload_n C 1 ddA_liveYear_31 rfl rfl ?_
  obtain ⟨q13, hq13, h⟩ := bindN h
  refine zz_callS0 (As := [.long q6.1]) C ddA_liveYear_32 wd_864 my_A_stir mv_A_stir (xA_stir hG (d - 1) (by omega) hq13) (by omega) rfl rfl (Nat.le_of_ble_eq_true rfl) ?_
  refine zz_lstore_n (L1 := [(3, .long q13.1), (5, .int q12.1), (0, .ref v0), (1, .long v1)]) C ddA_liveYear_35 rfl N (by decide) rfl ?_
  refine zz_lload_n C 0 ddA_liveYear_36 rfl rfl ?_
  refine zz_iconst (v := 3) C ddA_liveYear_37 (by decide) ?_
  obtain ⟨q14, hq14, h⟩ := bindN h
  refine zz_callS0 (As := [.long q13.1, .int 3]) C ddA_liveYear_38 wd_869 my_A_drawn mv_A_drawn (xA_drawn hG (d - 1) (by omega) hq14) (by omega) rfl rfl (Nat.le_of_ble_eq_true rfl) ?_
  refine zz_iconst (v := 2) C ddA_liveYear_41 (by decide) ?_
  refine zz_icmp_ge (tgt := 77) C ddA_liveYear_42 rfl (fun hc => ?_) (fun hc => ?_)
  · replace h := iteT h hc
    refine zz_aload_n C 2 ddA_liveYear_77 rfl rfl ?_
    obtain ⟨h15, h⟩ := gdN h
    obtain ⟨h16, h⟩ := gdN h
    refine zz_getr C ddA_liveYear_78 fl_A_55 rfl h15 (of_decide_eq_true h16) ?_
    obtain ⟨h18, h⟩ := gdN h
    obtain ⟨q17, hq17, h⟩ := bindN h
    refine zz_callV0 (As := []) C ddA_liveYear_81 wd_872 my_H_heldInAll mv_H_heldInAll ⟨_, rfl, rfl⟩ (xH_heldInAll hG (d - 1) (by omega) hq17) (by omega) h18 rfl rfl (Nat.le_of_ble_eq_true rfl) ?_
    refine zz_istore (L1 := [(6, .int q17.1), (3, .long q13.1), (5, .int q12.1), (0, .ref v0), (1, .long v1)]) C ddA_liveYear_84 N (by decide) rfl ?_
    refine zz_iload C 0 ddA_liveYear_86 rfl ?_
    refine zz_if_le (tgt := 119) C ddA_liveYear_88 rfl (fun hc => ?_) (fun hc => ?_)
    · replace h := iteT h hc
      refine zz_loc (L1 := [(3, .long q13.1)]) [1] rfl ?_
      exact zBA_liveYear_119 hG C N hD hd E h
    · replace h := iteF h hc
      refine zz_lload_n C 1 ddA_liveYear_91 rfl rfl ?_
      obtain ⟨q19, hq19, h⟩ := bindN h
      refine zz_callS0 (As := [.long q13.1]) C ddA_liveYear_92 wd_864 my_A_stir mv_A_stir (xA_stir hG (d - 1) (by omega) hq19) (by omega) rfl rfl (Nat.le_of_ble_eq_true rfl) ?_
      refine zz_lstore_n (L1 := [(3, .long q19.1), (6, .int q17.1), (5, .int q12.1), (0, .ref v0), (1, .long v1)]) C ddA_liveYear_95 rfl N (by decide) rfl ?_
      refine zz_aload_n C 3 ddA_liveYear_96 rfl rfl ?_
      obtain ⟨h20, h⟩ := gdN h
      obtain ⟨h21, h⟩ := gdN h
      refine zz_getr C ddA_liveYear_97 fl_A_55 rfl h20 (of_decide_eq_true h21) ?_
      refine zz_iload C 2 ddA_liveYear_100 rfl ?_
      refine zz_aload_n C 3 ddA_liveYear_102 rfl rfl ?_
      refine zz_getr C ddA_liveYear_103 fl_A_55 rfl h20 (of_decide_eq_true h21) ?_
      refine zz_lload_n C 0 ddA_liveYear_106 rfl rfl ?_
      refine zz_iload C 1 ddA_liveYear_107 rfl ?_
      obtain ⟨q22, hq22, h⟩ := bindN h
      refine zz_callS0 (As := [.long q19.1, .int q17.1]) C ddA_liveYear_109 wd_869 my_A_drawn mv_A_drawn (xA_drawn hG (d - 1) (by omega) hq22) (by omega) rfl rfl (Nat.le_of_ble_eq_true rfl) ?_
      obtain ⟨h24, h⟩ := gdN h
      obtain ⟨q23, hq23, h⟩ := bindN h
      refine zz_callV0 (As := [.int q22.1]) C ddA_liveYear_112 wd_880 my_H_heldAt mv_H_heldAt ⟨_, rfl, rfl⟩ (xH_heldAt hG (d - 1) (by omega) hq23) (by omega) h24 rfl rfl (Nat.le_of_ble_eq_true rfl) ?_
      obtain ⟨h26, h⟩ := gdN h
      obtain ⟨q25, hq25, h⟩ := bindN h
      refine zz_callV0 (As := [.int q12.1, .int q23.1]) C ddA_liveYear_115 wd_778 my_H_giveBlock mv_H_giveBlock ⟨_, rfl, rfl⟩ (xH_giveBlock hG (d - 1) (by omega) hq25) (by omega) h26 rfl rfl (Nat.le_of_ble_eq_true rfl) ?_
      refine zz_pop C ddA_liveYear_118 rfl ?_
      refine zz_loc (L1 := [(3, .long q19.1)]) [0] rfl ?_
      exact zBA_liveYear_119 hG C N hD hd E h
  · replace h := iteF h hc
    refine zz_lload_n C 0 ddA_liveYear_45 rfl rfl ?_
    obtain ⟨q27, hq27, h⟩ := bindN h
    refine zz_callS0 (As := [.long q13.1]) C ddA_liveYear_46 wd_864 my_A_stir mv_A_stir (xA_stir hG (d - 1) (by omega) hq27) (by omega) rfl rfl (Nat.le_of_ble_eq_true rfl) ?_
    refine zz_lstore_n (L1 := [(3, .long q27.1), (5, .int q12.1), (0, .ref v0), (1, .long v1)]) C ddA_liveYear_49 rfl N (by decide) rfl ?_
    refine zz_aload_n C 2 ddA_liveYear_50 rfl rfl ?_
    obtain ⟨h28, h⟩ := gdN h
    obtain ⟨h29, h⟩ := gdN h
    refine zz_getr C ddA_liveYear_51 fl_A_55 rfl h28 (of_decide_eq_true h29) ?_
    refine zz_iload C 1 ddA_liveYear_54 rfl ?_
    refine zz_lload_n C 0 ddA_liveYear_56 rfl rfl ?_
    refine zz_aload_n C 2 ddA_liveYear_57 rfl rfl ?_
    obtain ⟨h30, h⟩ := gdN h
    refine zz_getr C ddA_liveYear_58 fl_A_28 rfl h28 (of_decide_eq_true h30) ?_
    obtain ⟨h31, h⟩ := gdN h
    obtain ⟨h32, h⟩ := gdN h
    refine zz_getr C ddA_liveYear_61 fl_A_136 rfl h31 (of_decide_eq_true h32) ?_
    refine zz_iconst (v := 2) C ddA_liveYear_64 (by decide) ?_
    obtain ⟨h33, h⟩ := gdN h
    refine zz_iaload C ddA_liveYear_65 h33 ?_
    obtain ⟨q34, hq34, h⟩ := bindN h
    refine zz_callS0 (As := [.long q27.1, .int (giM q27.2 (grM q27.2 (grM q27.2 v0 2) 0) (Int32.toNatClampNeg 2))]) C ddA_liveYear_66 wd_869 my_A_drawn mv_A_drawn (xA_drawn hG (d - 1) (by omega) hq34) (by omega) rfl rfl (Nat.le_of_ble_eq_true rfl) ?_
    refine zz_iconst (v := 1) C ddA_liveYear_69 (by decide) ?_
    refine zz_iadd C ddA_liveYear_70 ?_
    obtain ⟨h36, h⟩ := gdN h
    obtain ⟨q35, hq35, h⟩ := bindN h
    refine zz_callV0 (As := [.int q12.1, .int (q34.1 + 1)]) C ddA_liveYear_71 wd_693 my_H_takeBlock mv_H_takeBlock ⟨_, rfl, rfl⟩ (xH_takeBlock hG (d - 1) (by omega) hq35) (by omega) h36 rfl rfl (Nat.le_of_ble_eq_true rfl) ?_
    refine zz_pop C ddA_liveYear_74 rfl ?_
    refine zz_lload_n C 0 ddA_liveYear_75 rfl rfl ?_
    obtain rfl := Option.some.inj h
    exact zz_lret C E ddA_liveYear_76
theorem ddA_years_0 : decode cA_years 0 = .ok (.aload_n 0, 1) := by decide +kernel
theorem ddA_years_1 : decode cA_years 1 = .ok (.getfield 28, 3) := by decide +kernel
theorem ddA_years_4 : decode cA_years 4 = .ok (.invokevirtual 132, 3) := by decide +kernel
theorem ddA_years_7 : decode cA_years 7 = .ok (.ifCond .eq 14, 3) := by decide +kernel
theorem ddA_years_10 : decode cA_years 10 = .ok (.iload_n 1, 1) := by decide +kernel
theorem ddA_years_11 : decode cA_years 11 = .ok (.iconst 1, 1) := by decide +kernel
theorem ddA_years_12 : decode cA_years 12 = .ok (.if_icmp .lt 9, 3) := by decide +kernel
theorem ddA_years_15 : decode cA_years 15 = .ok (.iload_n 1, 1) := by decide +kernel
theorem ddA_years_16 : decode cA_years 16 = .ok (.bipush 40, 2) := by decide +kernel
theorem ddA_years_18 : decode cA_years 18 = .ok (.if_icmp .le 5, 3) := by decide +kernel
theorem ddA_years_21 : decode cA_years 21 = .ok (.iconst (-1), 1) := by decide +kernel
theorem ddA_years_22 : decode cA_years 22 = .ok (.ireturn, 1) := by decide +kernel
theorem ddA_years_23 : decode cA_years 23 = .ok (.lload_n 2, 1) := by decide +kernel
theorem ddA_years_24 : decode cA_years 24 = .ok (.lstore 4, 2) := by decide +kernel
theorem ddA_years_26 : decode cA_years 26 = .ok (.iconst 0, 1) := by decide +kernel
theorem ddA_years_27 : decode cA_years 27 = .ok (.istore 6, 2) := by decide +kernel
theorem ddA_years_29 : decode cA_years 29 = .ok (.iload 6, 2) := by decide +kernel
theorem ddA_years_31 : decode cA_years 31 = .ok (.iload_n 1, 1) := by decide +kernel
theorem ddA_years_32 : decode cA_years 32 = .ok (.if_icmp .ge 17, 3) := by decide +kernel
theorem ddA_years_35 : decode cA_years 35 = .ok (.aload_n 0, 1) := by decide +kernel
theorem ddA_years_36 : decode cA_years 36 = .ok (.lload 4, 2) := by decide +kernel
theorem ddA_years_38 : decode cA_years 38 = .ok (.invokevirtual 255, 3) := by decide +kernel
theorem ddA_years_41 : decode cA_years 41 = .ok (.lstore 4, 2) := by decide +kernel
theorem ddA_years_43 : decode cA_years 43 = .ok (.iinc 6 1, 3) := by decide +kernel
theorem ddA_years_46 : decode cA_years 46 = .ok (.goto (-17), 3) := by decide +kernel
theorem ddA_years_49 : decode cA_years 49 = .ok (.aload_n 0, 1) := by decide +kernel
theorem ddA_years_50 : decode cA_years 50 = .ok (.getfield 55, 3) := by decide +kernel
theorem ddA_years_53 : decode cA_years 53 = .ok (.invokevirtual 259, 3) := by decide +kernel
theorem ddA_years_56 : decode cA_years 56 = .ok (.ireturn, 1) := by decide +kernel
set_option maxHeartbeats 2000000 in
theorem zBA_years_29 {G : GXM} {X : CxM} (hG : GokM G) (C : CoM G X cA_years "HomeFreed") (N : mLM X = 7) {d : Nat} (hD : dpM X = d) (hd : 5 ≤ d) {v0 : Nat} {v1 : Int32} {K : Nat → Int32 → Int64 → Int32 → Mem → Option ((Int32 × Mem))} {q : (Int32 × Mem)} (hK : ∀ (v4 : Int64) (v6 : Int32) (M : Mem), K v0 v1 v4 v6 M = some q → ZM G X 29 [(0, .ref v0), (1, .int v1), (4, .long v4), (6, .int v6)] [] M 0 0) (hr : ∀ r : Int32 × Mem, q =  r → EnM G X (some .int) (some (.int r.1)) r.2 0 0) {v4 : Int64} {v6 : Int32} {M : Mem} (h : BA_years_29 K v0 v1 v4 v6 M = some q) : ZM G X 29 [(0, .ref v0), (1, .int v1), (4, .long v4), (6, .int v6)] [] M 0 0 := by
  unfold BA_years_29 at h
  refine zz_iload C 3 ddA_years_29 rfl ?_
  refine zz_iload_n C 1 ddA_years_31 rfl rfl ?_
  refine zz_icmp_ge (tgt := 49) C ddA_years_32 rfl (fun hc => ?_) (fun hc => ?_)
  · replace h := iteT h hc
    refine zz_aload_n C 0 ddA_years_49 rfl rfl ?_
    obtain ⟨h1, h⟩ := gdN h
    obtain ⟨h2, h⟩ := gdN h
    refine zz_getr C ddA_years_50 fl_A_55 rfl h1 (of_decide_eq_true h2) ?_
    obtain ⟨h4, h⟩ := gdN h
    obtain ⟨q3, hq3, h⟩ := bindN h
    refine zz_callV0 (As := []) C ddA_years_53 wd_872 my_H_heldInAll mv_H_heldInAll ⟨_, rfl, rfl⟩ (xH_heldInAll hG (d - 1) (by omega) hq3) (by omega) h4 rfl rfl (Nat.le_of_ble_eq_true rfl) ?_
    exact zz_iret C (hr _ (Option.some.inj h).symm) ddA_years_56
  · replace h := iteF h hc
    refine zz_aload_n C 0 ddA_years_35 rfl rfl ?_
    refine zz_lload C 2 ddA_years_36 rfl ?_
    obtain ⟨h6, h⟩ := gdN h
    obtain ⟨q5, hq5, h⟩ := bindN h
    refine zz_callV0 (As := [.long v4]) C ddA_years_38 wd_860 my_A_liveYear mv_A_liveYear ⟨_, rfl, rfl⟩ (xA_liveYear hG (d - 1) (by omega) hq5) (by omega) h6 rfl rfl (Nat.le_of_ble_eq_true rfl) ?_
    refine zz_lstore (L1 := [(4, .long q5.1), (0, .ref v0), (1, .int v1), (6, .int v6)]) C ddA_years_41 N (by decide) rfl ?_
    refine zz_iinc (v := v6 + 1) (L1 := [(6, .int (v6 + 1)), (4, .long q5.1), (0, .ref v0), (1, .int v1)]) C 3 ddA_years_43 rfl rfl N (by decide) rfl ?_
    refine zz_goto (tgt := 29) C ddA_years_46 rfl ?_
    refine zz_loc (L1 := [(0, .ref v0), (1, .int v1), (4, .long q5.1), (6, .int (v6 + 1))]) [2, 3, 1, 0] rfl ?_
    exact hK _ _ _ h
set_option maxHeartbeats 2000000 in
theorem zLA_years_29 {G : GXM} {X : CxM} (hG : GokM G) (C : CoM G X cA_years "HomeFreed") (N : mLM X = 7) {d : Nat} (hD : dpM X = d) (hd : 5 ≤ d) {v0 : Nat} {v1 : Int32} {q : (Int32 × Mem)} : ∀ (f : Nat) (v4 : Int64) (v6 : Int32) (M : Mem), LA_years_29 f v0 v1 v4 v6 M = some q → (hr : ∀ r : Int32 × Mem, q =  r → EnM G X (some .int) (some (.int r.1)) r.2 0 0) → ZM G X 29 [(0, .ref v0), (1, .int v1), (4, .long v4), (6, .int v6)] [] M 0 0 := by
  intro f
  induction f with
  | zero => intro v4 v6 M h; cases h
  | succ f ih =>
    intro v4 v6 M h hr
    exact zBA_years_29 hG C N hD hd (K := LA_years_29 f) (q := q) (fun v4 v6 M h => ih v4 v6 M h hr) hr h
set_option maxHeartbeats 2000000 in
theorem zBA_years_21 {G : GXM} {X : CxM} (hG : GokM G) (C : CoM G X cA_years "HomeFreed") (N : mLM X = 7) {d : Nat} (hD : dpM X = d) (hd : 5 ≤ d)  {q : Int32 × Mem} (E : EnM G X (some .int) (some (.int q.1)) q.2 0 0) {M : Mem} (h : BA_years_21 M = some q) : ZM G X 21 [] [] M 0 0 := by
  unfold BA_years_21 at h
  refine zz_iconst (v := (-1)) C ddA_years_21 (by decide) ?_
  obtain rfl := Option.some.inj h
  exact zz_iret C E ddA_years_22
set_option maxHeartbeats 2000000 in
theorem xA_years {G : GXM} {l : Launch} (hG : GokM G) (d : Nat) (hd : 5 ≤ d) {v0 : Nat} {v1 : Int32} {v2 : Int64} {M : Mem} {q : Int32 × Mem} (h : fA_years v0 v1 v2 M = some q) : ExM G l d 0 0 yA_years cA_years 7 (some .int) [.ref v0, .int v1, .long v2] M (some (.int q.1)) q.2 := by
  refine ex_of hG (by decide +kernel) (Nat.le_of_ble_eq_true rfl) ?_
  intro X hl C E N hD hn
  show ZM G X 0 [(0, .ref v0), (1, .int v1), (2, .long v2)] [] M 0 0
  unfold fA_years at h
  refine zz_aload_n C 0 ddA_years_0 rfl rfl ?_
  obtain ⟨h1, h⟩ := gdN h
  obtain ⟨h2, h⟩ := gdN h
  refine zz_getr C ddA_years_1 fl_A_28 rfl h1 (of_decide_eq_true h2) ?_
  obtain ⟨h4, h⟩ := gdN h
  obtain ⟨q3, hq3, h⟩ := bindN h
  refine zz_callV0 (As := []) C ddA_years_4 wd_566 my_U_areTold mv_U_areTold ⟨_, rfl, rfl⟩ (xU_areTold hG (d - 1) (by omega) hq3) (by omega) h4 rfl rfl (Nat.le_of_ble_eq_true rfl) ?_
  refine zz_if_eq (tgt := 21) C ddA_years_7 rfl (fun hc => ?_) (fun hc => ?_)
  · replace h := iteT h hc
    refine zz_loc (L1 := []) [] rfl ?_
    exact zBA_years_21 hG C N hD hd E h
  · replace h := iteF h hc
    refine zz_iload_n C 1 ddA_years_10 rfl rfl ?_
    refine zz_iconst (v := 1) C ddA_years_11 (by decide) ?_
    refine zz_icmp_lt (tgt := 21) C ddA_years_12 rfl (fun hc => ?_) (fun hc => ?_)
    · replace h := iteT h hc
      refine zz_loc (L1 := []) [] rfl ?_
      exact zBA_years_21 hG C N hD hd E h
    · replace h := iteF h hc
      refine zz_iload_n C 1 ddA_years_15 rfl rfl ?_
      refine zz_bipush (v := 40) C ddA_years_16 (by decide) ?_
      refine zz_icmp_le (tgt := 23) C ddA_years_18 rfl (fun hc => ?_) (fun hc => ?_)
      · replace h := iteT h hc
        refine zz_lload_n C 2 ddA_years_23 rfl rfl ?_
        refine zz_lstore (L1 := [(4, .long v2), (0, .ref v0), (1, .int v1), (2, .long v2)]) C ddA_years_24 N (by decide) rfl ?_
        refine zz_iconst (v := 0) C ddA_years_26 (by decide) ?_
        refine zz_istore (L1 := [(6, .int 0), (4, .long v2), (0, .ref v0), (1, .int v1), (2, .long v2)]) C ddA_years_27 N (by decide) rfl ?_
        refine zz_loc (L1 := [(0, .ref v0), (1, .int v1), (4, .long v2), (6, .int 0)]) [2, 3, 1, 0] rfl ?_
        obtain ⟨q5, hq5, h⟩ := bindN h
        refine zLA_years_29 hG C N hD hd 1000000 _ _ _ hq5 ?_
        · intro r6 eq5; replace eq5 := eq5.symm; subst eq5
          obtain rfl := Option.some.inj h
          exact E
      · replace h := iteF h hc
        refine zz_loc (L1 := []) [] rfl ?_
        exact zBA_years_21 hG C N hD hd E h
theorem ddA_status_0 : decode cA_status 0 = .ok (.iload_n 1, 1) := by decide +kernel
theorem ddA_status_1 : decode cA_status 1 = .ok (.ifCond .lt 21, 3) := by decide +kernel
theorem ddA_status_4 : decode cA_status 4 = .ok (.iload_n 1, 1) := by decide +kernel
theorem ddA_status_5 : decode cA_status 5 = .ok (.aload_n 0, 1) := by decide +kernel
theorem ddA_status_6 : decode cA_status 6 = .ok (.getfield 73, 3) := by decide +kernel
theorem ddA_status_9 : decode cA_status 9 = .ok (.arraylength, 1) := by decide +kernel
theorem ddA_status_10 : decode cA_status 10 = .ok (.if_icmp .ge 12, 3) := by decide +kernel
theorem ddA_status_13 : decode cA_status 13 = .ok (.aload_n 0, 1) := by decide +kernel
theorem ddA_status_14 : decode cA_status 14 = .ok (.getfield 73, 3) := by decide +kernel
theorem ddA_status_17 : decode cA_status 17 = .ok (.iload_n 1, 1) := by decide +kernel
theorem ddA_status_18 : decode cA_status 18 = .ok (.iaload, 1) := by decide +kernel
theorem ddA_status_19 : decode cA_status 19 = .ok (.goto 4, 3) := by decide +kernel
theorem ddA_status_22 : decode cA_status 22 = .ok (.iconst (-1), 1) := by decide +kernel
theorem ddA_status_23 : decode cA_status 23 = .ok (.ireturn, 1) := by decide +kernel
set_option maxHeartbeats 2000000 in
theorem zBA_status_23 {G : GXM} {X : CxM} (hG : GokM G) (C : CoM G X cA_status "HomeFreed") (N : mLM X = 2) {d : Nat} (hD : dpM X = d) (hd : 0 ≤ d)  {q : Int32 × Mem} (E : EnM G X (some .int) (some (.int q.1)) q.2 0 0) {w0 : Int32} {M : Mem} (h : BA_status_23 w0 M = some q) : ZM G X 23 [] [.int w0] M 0 0 := by
  unfold BA_status_23 at h
  obtain rfl := Option.some.inj h
  exact zz_iret C E ddA_status_23
set_option maxHeartbeats 2000000 in
theorem zBA_status_22 {G : GXM} {X : CxM} (hG : GokM G) (C : CoM G X cA_status "HomeFreed") (N : mLM X = 2) {d : Nat} (hD : dpM X = d) (hd : 0 ≤ d)  {q : Int32 × Mem} (E : EnM G X (some .int) (some (.int q.1)) q.2 0 0) {M : Mem} (h : BA_status_22 M = some q) : ZM G X 22 [] [] M 0 0 := by
  unfold BA_status_22 at h
  refine zz_iconst (v := (-1)) C ddA_status_22 (by decide) ?_
  exact zBA_status_23 hG C N hD hd E h
set_option maxHeartbeats 2000000 in
theorem xA_status {G : GXM} {l : Launch} (hG : GokM G) (d : Nat) (hd : 0 ≤ d) {v0 : Nat} {v1 : Int32} {M : Mem} {q : Int32 × Mem} (h : fA_status v0 v1 M = some q) : ExM G l d 0 0 yA_status cA_status 2 (some .int) [.ref v0, .int v1] M (some (.int q.1)) q.2 := by
  refine ex_of hG (by decide +kernel) (Nat.le_of_ble_eq_true rfl) ?_
  intro X hl C E N hD hn
  show ZM G X 0 [(0, .ref v0), (1, .int v1)] [] M 0 0
  unfold fA_status at h
  refine zz_iload_n C 1 ddA_status_0 rfl rfl ?_
  refine zz_if_lt (tgt := 22) C ddA_status_1 rfl (fun hc => ?_) (fun hc => ?_)
  · replace h := iteT h hc
    refine zz_loc (L1 := []) [] rfl ?_
    exact zBA_status_22 hG C N hD hd E h
  · replace h := iteF h hc
    refine zz_iload_n C 1 ddA_status_4 rfl rfl ?_
    refine zz_aload_n C 0 ddA_status_5 rfl rfl ?_
    obtain ⟨h1, h⟩ := gdN h
    obtain ⟨h2, h⟩ := gdN h
    refine zz_getr C ddA_status_6 fl_A_73 rfl h1 (of_decide_eq_true h2) ?_
    obtain ⟨h3, h⟩ := gdN h
    refine zz_alenI C ddA_status_9 h3 ?_
    refine zz_icmp_ge (tgt := 22) C ddA_status_10 rfl (fun hc => ?_) (fun hc => ?_)
    · replace h := iteT h hc
      refine zz_loc (L1 := []) [] rfl ?_
      exact zBA_status_22 hG C N hD hd E h
    · replace h := iteF h hc
      refine zz_aload_n C 0 ddA_status_13 rfl rfl ?_
      refine zz_getr C ddA_status_14 fl_A_73 rfl h1 (of_decide_eq_true h2) ?_
      refine zz_iload_n C 1 ddA_status_17 rfl rfl ?_
      obtain ⟨h4, h⟩ := gdN h
      refine zz_iaload C ddA_status_18 h4 ?_
      refine zz_goto (tgt := 23) C ddA_status_19 rfl ?_
      refine zz_loc (L1 := []) [] rfl ?_
      exact zBA_status_23 hG C N hD hd E h
theorem ddP_takeBack_0 : decode cP_takeBack 0 = .ok (.aload_n 0, 1) := by decide +kernel
theorem ddP_takeBack_1 : decode cP_takeBack 1 = .ok (.getfield 24, 3) := by decide +kernel
theorem ddP_takeBack_4 : decode cP_takeBack 4 = .ok (.ifCond .gt 5, 3) := by decide +kernel
theorem ddP_takeBack_7 : decode cP_takeBack 7 = .ok (.iconst (-1), 1) := by decide +kernel
theorem ddP_takeBack_8 : decode cP_takeBack 8 = .ok (.ireturn, 1) := by decide +kernel
theorem ddP_takeBack_9 : decode cP_takeBack 9 = .ok (.aload_n 0, 1) := by decide +kernel
theorem ddP_takeBack_10 : decode cP_takeBack 10 = .ok (.dup, 1) := by decide +kernel
theorem ddP_takeBack_11 : decode cP_takeBack 11 = .ok (.getfield 24, 3) := by decide +kernel
theorem ddP_takeBack_14 : decode cP_takeBack 14 = .ok (.iconst 1, 1) := by decide +kernel
theorem ddP_takeBack_15 : decode cP_takeBack 15 = .ok (.isub, 1) := by decide +kernel
theorem ddP_takeBack_16 : decode cP_takeBack 16 = .ok (.putfield 24, 3) := by decide +kernel
theorem ddP_takeBack_19 : decode cP_takeBack 19 = .ok (.aload_n 1, 1) := by decide +kernel
theorem ddP_takeBack_20 : decode cP_takeBack 20 = .ok (.aload_n 0, 1) := by decide +kernel
theorem ddP_takeBack_21 : decode cP_takeBack 21 = .ok (.getfield 11, 3) := by decide +kernel
theorem ddP_takeBack_24 : decode cP_takeBack 24 = .ok (.aload_n 0, 1) := by decide +kernel
theorem ddP_takeBack_25 : decode cP_takeBack 25 = .ok (.getfield 20, 3) := by decide +kernel
theorem ddP_takeBack_28 : decode cP_takeBack 28 = .ok (.aload_n 0, 1) := by decide +kernel
theorem ddP_takeBack_29 : decode cP_takeBack 29 = .ok (.getfield 24, 3) := by decide +kernel
theorem ddP_takeBack_32 : decode cP_takeBack 32 = .ok (.iadd, 1) := by decide +kernel
theorem ddP_takeBack_33 : decode cP_takeBack 33 = .ok (.bipush 40, 2) := by decide +kernel
theorem ddP_takeBack_35 : decode cP_takeBack 35 = .ok (.irem, 1) := by decide +kernel
theorem ddP_takeBack_36 : decode cP_takeBack 36 = .ok (.aaload, 1) := by decide +kernel
theorem ddP_takeBack_37 : decode cP_takeBack 37 = .ok (.invokevirtual 27, 3) := by decide +kernel
theorem ddP_takeBack_40 : decode cP_takeBack 40 = .ok (.aload_n 0, 1) := by decide +kernel
theorem ddP_takeBack_41 : decode cP_takeBack 41 = .ok (.getfield 24, 3) := by decide +kernel
theorem ddP_takeBack_44 : decode cP_takeBack 44 = .ok (.ireturn, 1) := by decide +kernel
set_option maxHeartbeats 2000000 in
theorem xP_takeBack {G : GXM} {l : Launch} (hG : GokM G) (d : Nat) (hd : 3 ≤ d) {v0 : Nat} {v1 : Nat} {M : Mem} {q : Int32 × Mem} (h : fP_takeBack v0 v1 M = some q) : ExM G l d 0 0 yP_takeBack cP_takeBack 2 (some .int) [.ref v0, .ref v1] M (some (.int q.1)) q.2 := by
  refine ex_of hG (by decide +kernel) (Nat.le_of_ble_eq_true rfl) ?_
  intro X hl C E N hD hn
  show ZM G X 0 [(0, .ref v0), (1, .ref v1)] [] M 0 0
  unfold fP_takeBack at h
  refine zz_aload_n C 0 ddP_takeBack_0 rfl rfl ?_
  obtain ⟨h1, h⟩ := gdN h
  refine zz_geti C ddP_takeBack_1 fl_P_24 rfl h1 ?_
  refine zz_if_gt (tgt := 9) C ddP_takeBack_4 rfl (fun hc => ?_) (fun hc => ?_)
  · replace h := iteT h hc
    refine zz_aload_n C 0 ddP_takeBack_9 rfl rfl ?_
    refine zz_dup C ddP_takeBack_10 rfl ?_
    refine zz_geti C ddP_takeBack_11 fl_P_24 rfl h1 ?_
    refine zz_iconst (v := 1) C ddP_takeBack_14 (by decide) ?_
    refine zz_isub C ddP_takeBack_15 ?_
    refine zz_puti C ddP_takeBack_16 fl_P_24 rfl rfl rfl h1 ?_
    refine zz_aload_n C 1 ddP_takeBack_19 rfl rfl ?_
    refine zz_aload_n C 0 ddP_takeBack_20 rfl rfl ?_
    obtain ⟨h2, h⟩ := gdN h
    refine zz_getr C ddP_takeBack_21 fl_P_11 rfl h1 (of_decide_eq_true h2) ?_
    refine zz_aload_n C 0 ddP_takeBack_24 rfl rfl ?_
    refine zz_geti C ddP_takeBack_25 fl_P_20 rfl h1 ?_
    refine zz_aload_n C 0 ddP_takeBack_28 rfl rfl ?_
    refine zz_geti C ddP_takeBack_29 fl_P_24 rfl h1 ?_
    refine zz_iadd C ddP_takeBack_32 ?_
    refine zz_bipush (v := 40) C ddP_takeBack_33 (by decide) ?_
    refine zz_irem C ddP_takeBack_35 (by decide) ?_
    obtain ⟨h3, h⟩ := gdN h
    obtain ⟨h4, h⟩ := gdN h
    refine zz_aaload (t := 103) C ddP_takeBack_36 (by decide) (fun _ => rfl) h3 (of_decide_eq_true h4) ?_
    obtain ⟨h6, h⟩ := gdN h
    obtain ⟨q5, hq5, h⟩ := bindN h
    refine zz_callV0 (As := [.ref (grM M (grM M v0 0) (Int32.toNatClampNeg (((giM (siM M v0 2 ((giM M v0 2) - 1)) v0 1) + (giM (siM M v0 2 ((giM M v0 2) - 1)) v0 2)) - ((giM (siM M v0 2 ((giM M v0 2) - 1)) v0 1) + (giM (siM M v0 2 ((giM M v0 2) - 1)) v0 2)) / 40 * 40)))]) C ddP_takeBack_37 wd_678 my_H_copyFrom mv_H_copyFrom ⟨_, rfl, rfl⟩ (xH_copyFrom hG (d - 1) (by omega) hq5) (by omega) h6 rfl rfl (Nat.le_of_ble_eq_true rfl) ?_
    refine zz_aload_n C 0 ddP_takeBack_40 rfl rfl ?_
    obtain ⟨h7, h⟩ := gdN h
    refine zz_geti C ddP_takeBack_41 fl_P_24 rfl h7 ?_
    obtain rfl := Option.some.inj h
    exact zz_iret C E ddP_takeBack_44
  · replace h := iteF h hc
    refine zz_iconst (v := (-1)) C ddP_takeBack_7 (by decide) ?_
    obtain rfl := Option.some.inj h
    exact zz_iret C E ddP_takeBack_8
theorem ddA_undo_0 : decode cA_undo 0 = .ok (.aload_n 0, 1) := by decide +kernel
theorem ddA_undo_1 : decode cA_undo 1 = .ok (.getfield 62, 3) := by decide +kernel
theorem ddA_undo_4 : decode cA_undo 4 = .ok (.aload_n 0, 1) := by decide +kernel
theorem ddA_undo_5 : decode cA_undo 5 = .ok (.getfield 55, 3) := by decide +kernel
theorem ddA_undo_8 : decode cA_undo 8 = .ok (.invokevirtual 276, 3) := by decide +kernel
theorem ddA_undo_11 : decode cA_undo 11 = .ok (.ireturn, 1) := by decide +kernel
set_option maxHeartbeats 2000000 in
theorem xA_undo {G : GXM} {l : Launch} (hG : GokM G) (d : Nat) (hd : 4 ≤ d) {v0 : Nat} {M : Mem} {q : Int32 × Mem} (h : fA_undo v0 M = some q) : ExM G l d 0 0 yA_undo cA_undo 1 (some .int) [.ref v0] M (some (.int q.1)) q.2 := by
  refine ex_of hG (by decide +kernel) (Nat.le_of_ble_eq_true rfl) ?_
  intro X hl C E N hD hn
  show ZM G X 0 [(0, .ref v0)] [] M 0 0
  unfold fA_undo at h
  refine zz_aload_n C 0 ddA_undo_0 rfl rfl ?_
  obtain ⟨h1, h⟩ := gdN h
  obtain ⟨h2, h⟩ := gdN h
  refine zz_getr C ddA_undo_1 fl_A_62 rfl h1 (of_decide_eq_true h2) ?_
  refine zz_aload_n C 0 ddA_undo_4 rfl rfl ?_
  obtain ⟨h3, h⟩ := gdN h
  refine zz_getr C ddA_undo_5 fl_A_55 rfl h1 (of_decide_eq_true h3) ?_
  obtain ⟨h5, h⟩ := gdN h
  obtain ⟨q4, hq4, h⟩ := bindN h
  refine zz_callV0 (As := [.ref (grM M v0 7)]) C ddA_undo_8 wd_892 my_P_takeBack mv_P_takeBack ⟨_, rfl, rfl⟩ (xP_takeBack hG (d - 1) (by omega) hq4) (by omega) h5 rfl rfl (Nat.le_of_ble_eq_true rfl) ?_
  obtain rfl := Option.some.inj h
  exact zz_iret C E ddA_undo_11
theorem ddL_length_0 : decode cL_length 0 = .ok (.aload_n 0, 1) := by decide +kernel
theorem ddL_length_1 : decode cL_length 1 = .ok (.getfield 15, 3) := by decide +kernel
theorem ddL_length_4 : decode cL_length 4 = .ok (.bipush 60, 2) := by decide +kernel
theorem ddL_length_6 : decode cL_length 6 = .ok (.invokestatic 31, 3) := by decide +kernel
theorem ddL_length_9 : decode cL_length 9 = .ok (.ireturn, 1) := by decide +kernel
set_option maxHeartbeats 2000000 in
theorem xL_length {G : GXM} {l : Launch} (hG : GokM G) (d : Nat) (hd : 1 ≤ d) {v0 : Nat} {M : Mem} {q : Int32 × Mem} (h : fL_length v0 M = some q) : ExM G l d 0 0 yL_length cL_length 1 (some .int) [.ref v0] M (some (.int q.1)) q.2 := by
  refine ex_of hG (by decide +kernel) (Nat.le_of_ble_eq_true rfl) ?_
  intro X hl C E N hD hn
  show ZM G X 0 [(0, .ref v0)] [] M 0 0
  unfold fL_length at h
  refine zz_aload_n C 0 ddL_length_0 rfl rfl ?_
  obtain ⟨h1, h⟩ := gdN h
  refine zz_geti C ddL_length_1 fl_L_15 rfl h1 ?_
  refine zz_bipush (v := 60) C ddL_length_4 (by decide) ?_
  obtain ⟨q2, hq2, h⟩ := bindN h
  refine zz_callS0 (As := [.int (giM M v0 1), .int 60]) C ddL_length_6 wd_904 my_K_min mv_K_min (xK_min hG (d - 1) (by omega) hq2) (by omega) rfl rfl (Nat.le_of_ble_eq_true rfl) ?_
  obtain rfl := Option.some.inj h
  exact zz_iret C E ddL_length_9
theorem ddL_entryAt_0 : decode cL_entryAt 0 = .ok (.aload_n 0, 1) := by decide +kernel
theorem ddL_entryAt_1 : decode cL_entryAt 1 = .ok (.getfield 9, 3) := by decide +kernel
theorem ddL_entryAt_4 : decode cL_entryAt 4 = .ok (.aload_n 0, 1) := by decide +kernel
theorem ddL_entryAt_5 : decode cL_entryAt 5 = .ok (.getfield 15, 3) := by decide +kernel
theorem ddL_entryAt_8 : decode cL_entryAt 8 = .ok (.iconst 1, 1) := by decide +kernel
theorem ddL_entryAt_9 : decode cL_entryAt 9 = .ok (.isub, 1) := by decide +kernel
theorem ddL_entryAt_10 : decode cL_entryAt 10 = .ok (.iload_n 1, 1) := by decide +kernel
theorem ddL_entryAt_11 : decode cL_entryAt 11 = .ok (.isub, 1) := by decide +kernel
theorem ddL_entryAt_12 : decode cL_entryAt 12 = .ok (.bipush 60, 2) := by decide +kernel
theorem ddL_entryAt_14 : decode cL_entryAt 14 = .ok (.invokestatic 25, 3) := by decide +kernel
theorem ddL_entryAt_17 : decode cL_entryAt 17 = .ok (.iaload, 1) := by decide +kernel
theorem ddL_entryAt_18 : decode cL_entryAt 18 = .ok (.ireturn, 1) := by decide +kernel
set_option maxHeartbeats 2000000 in
theorem xL_entryAt {G : GXM} {l : Launch} (hG : GokM G) (d : Nat) (hd : 1 ≤ d) {v0 : Nat} {v1 : Int32} {M : Mem} {q : Int32 × Mem} (h : fL_entryAt v0 v1 M = some q) : ExM G l d 0 0 yL_entryAt cL_entryAt 2 (some .int) [.ref v0, .int v1] M (some (.int q.1)) q.2 := by
  refine ex_of hG (by decide +kernel) (Nat.le_of_ble_eq_true rfl) ?_
  intro X hl C E N hD hn
  show ZM G X 0 [(0, .ref v0), (1, .int v1)] [] M 0 0
  unfold fL_entryAt at h
  refine zz_aload_n C 0 ddL_entryAt_0 rfl rfl ?_
  obtain ⟨h1, h⟩ := gdN h
  obtain ⟨h2, h⟩ := gdN h
  refine zz_getr C ddL_entryAt_1 fl_L_9 rfl h1 (of_decide_eq_true h2) ?_
  refine zz_aload_n C 0 ddL_entryAt_4 rfl rfl ?_
  refine zz_geti C ddL_entryAt_5 fl_L_15 rfl h1 ?_
  refine zz_iconst (v := 1) C ddL_entryAt_8 (by decide) ?_
  refine zz_isub C ddL_entryAt_9 ?_
  refine zz_iload_n C 1 ddL_entryAt_10 rfl rfl ?_
  refine zz_isub C ddL_entryAt_11 ?_
  refine zz_bipush (v := 60) C ddL_entryAt_12 (by decide) ?_
  obtain ⟨q3, hq3, h⟩ := bindN h
  refine zz_callS0 (As := [.int (((giM M v0 1) - 1) - v1), .int 60]) C ddL_entryAt_14 wd_747 my_K_floorMod mv_K_floorMod (xK_floorMod hG (d - 1) (by omega) hq3) (by omega) rfl rfl (Nat.le_of_ble_eq_true rfl) ?_
  obtain ⟨h4, h⟩ := gdN h
  refine zz_iaload C ddL_entryAt_17 h4 ?_
  obtain rfl := Option.some.inj h
  exact zz_iret C E ddL_entryAt_18
theorem ddL_blockAt_0 : decode cL_blockAt 0 = .ok (.aload_n 0, 1) := by decide +kernel
theorem ddL_blockAt_1 : decode cL_blockAt 1 = .ok (.iload_n 1, 1) := by decide +kernel
theorem ddL_blockAt_2 : decode cL_blockAt 2 = .ok (.invokevirtual 34, 3) := by decide +kernel
theorem ddL_blockAt_5 : decode cL_blockAt 5 = .ok (.bipush 100, 2) := by decide +kernel
theorem ddL_blockAt_7 : decode cL_blockAt 7 = .ok (.idiv, 1) := by decide +kernel
theorem ddL_blockAt_8 : decode cL_blockAt 8 = .ok (.ireturn, 1) := by decide +kernel
set_option maxHeartbeats 2000000 in
theorem xL_blockAt {G : GXM} {l : Launch} (hG : GokM G) (d : Nat) (hd : 2 ≤ d) {v0 : Nat} {v1 : Int32} {M : Mem} {q : Int32 × Mem} (h : fL_blockAt v0 v1 M = some q) : ExM G l d 0 0 yL_blockAt cL_blockAt 2 (some .int) [.ref v0, .int v1] M (some (.int q.1)) q.2 := by
  refine ex_of hG (by decide +kernel) (Nat.le_of_ble_eq_true rfl) ?_
  intro X hl C E N hD hn
  show ZM G X 0 [(0, .ref v0), (1, .int v1)] [] M 0 0
  unfold fL_blockAt at h
  refine zz_aload_n C 0 ddL_blockAt_0 rfl rfl ?_
  refine zz_iload_n C 1 ddL_blockAt_1 rfl rfl ?_
  obtain ⟨h2, h⟩ := gdN h
  obtain ⟨q1, hq1, h⟩ := bindN h
  refine zz_callV0 (As := [.int v1]) C ddL_blockAt_2 wd_909 my_L_entryAt mv_L_entryAt ⟨_, rfl, rfl⟩ (xL_entryAt hG (d - 1) (by omega) hq1) (by omega) h2 rfl rfl (Nat.le_of_ble_eq_true rfl) ?_
  refine zz_bipush (v := 100) C ddL_blockAt_5 (by decide) ?_
  refine zz_idiv C ddL_blockAt_7 (by decide) ?_
  obtain rfl := Option.some.inj h
  exact zz_iret C E ddL_blockAt_8
theorem ddL_threadAt_0 : decode cL_threadAt 0 = .ok (.aload_n 0, 1) := by decide +kernel
theorem ddL_threadAt_1 : decode cL_threadAt 1 = .ok (.iload_n 1, 1) := by decide +kernel
theorem ddL_threadAt_2 : decode cL_threadAt 2 = .ok (.invokevirtual 34, 3) := by decide +kernel
theorem ddL_threadAt_5 : decode cL_threadAt 5 = .ok (.bipush 10, 2) := by decide +kernel
theorem ddL_threadAt_7 : decode cL_threadAt 7 = .ok (.idiv, 1) := by decide +kernel
theorem ddL_threadAt_8 : decode cL_threadAt 8 = .ok (.bipush 10, 2) := by decide +kernel
theorem ddL_threadAt_10 : decode cL_threadAt 10 = .ok (.irem, 1) := by decide +kernel
theorem ddL_threadAt_11 : decode cL_threadAt 11 = .ok (.ireturn, 1) := by decide +kernel
set_option maxHeartbeats 2000000 in
theorem xL_threadAt {G : GXM} {l : Launch} (hG : GokM G) (d : Nat) (hd : 2 ≤ d) {v0 : Nat} {v1 : Int32} {M : Mem} {q : Int32 × Mem} (h : fL_threadAt v0 v1 M = some q) : ExM G l d 0 0 yL_threadAt cL_threadAt 2 (some .int) [.ref v0, .int v1] M (some (.int q.1)) q.2 := by
  refine ex_of hG (by decide +kernel) (Nat.le_of_ble_eq_true rfl) ?_
  intro X hl C E N hD hn
  show ZM G X 0 [(0, .ref v0), (1, .int v1)] [] M 0 0
  unfold fL_threadAt at h
  refine zz_aload_n C 0 ddL_threadAt_0 rfl rfl ?_
  refine zz_iload_n C 1 ddL_threadAt_1 rfl rfl ?_
  obtain ⟨h2, h⟩ := gdN h
  obtain ⟨q1, hq1, h⟩ := bindN h
  refine zz_callV0 (As := [.int v1]) C ddL_threadAt_2 wd_909 my_L_entryAt mv_L_entryAt ⟨_, rfl, rfl⟩ (xL_entryAt hG (d - 1) (by omega) hq1) (by omega) h2 rfl rfl (Nat.le_of_ble_eq_true rfl) ?_
  refine zz_bipush (v := 10) C ddL_threadAt_5 (by decide) ?_
  refine zz_idiv C ddL_threadAt_7 (by decide) ?_
  refine zz_bipush (v := 10) C ddL_threadAt_8 (by decide) ?_
  refine zz_irem C ddL_threadAt_10 (by decide) ?_
  obtain rfl := Option.some.inj h
  exact zz_iret C E ddL_threadAt_11
theorem ddL_howAt_0 : decode cL_howAt 0 = .ok (.aload_n 0, 1) := by decide +kernel
theorem ddL_howAt_1 : decode cL_howAt 1 = .ok (.iload_n 1, 1) := by decide +kernel
theorem ddL_howAt_2 : decode cL_howAt 2 = .ok (.invokevirtual 34, 3) := by decide +kernel
theorem ddL_howAt_5 : decode cL_howAt 5 = .ok (.bipush 10, 2) := by decide +kernel
theorem ddL_howAt_7 : decode cL_howAt 7 = .ok (.irem, 1) := by decide +kernel
theorem ddL_howAt_8 : decode cL_howAt 8 = .ok (.ireturn, 1) := by decide +kernel
set_option maxHeartbeats 2000000 in
theorem xL_howAt {G : GXM} {l : Launch} (hG : GokM G) (d : Nat) (hd : 2 ≤ d) {v0 : Nat} {v1 : Int32} {M : Mem} {q : Int32 × Mem} (h : fL_howAt v0 v1 M = some q) : ExM G l d 0 0 yL_howAt cL_howAt 2 (some .int) [.ref v0, .int v1] M (some (.int q.1)) q.2 := by
  refine ex_of hG (by decide +kernel) (Nat.le_of_ble_eq_true rfl) ?_
  intro X hl C E N hD hn
  show ZM G X 0 [(0, .ref v0), (1, .int v1)] [] M 0 0
  unfold fL_howAt at h
  refine zz_aload_n C 0 ddL_howAt_0 rfl rfl ?_
  refine zz_iload_n C 1 ddL_howAt_1 rfl rfl ?_
  obtain ⟨h2, h⟩ := gdN h
  obtain ⟨q1, hq1, h⟩ := bindN h
  refine zz_callV0 (As := [.int v1]) C ddL_howAt_2 wd_909 my_L_entryAt mv_L_entryAt ⟨_, rfl, rfl⟩ (xL_entryAt hG (d - 1) (by omega) hq1) (by omega) h2 rfl rfl (Nat.le_of_ble_eq_true rfl) ?_
  refine zz_bipush (v := 10) C ddL_howAt_5 (by decide) ?_
  refine zz_irem C ddL_howAt_7 (by decide) ?_
  obtain rfl := Option.some.inj h
  exact zz_iret C E ddL_howAt_8
theorem ddA_log_0 : decode cA_log 0 = .ok (.iload_n 1, 1) := by decide +kernel
theorem ddA_log_1 : decode cA_log 1 = .ok (.ifCond .lt 17, 3) := by decide +kernel
theorem ddA_log_4 : decode cA_log 4 = .ok (.iload_n 1, 1) := by decide +kernel
theorem ddA_log_5 : decode cA_log 5 = .ok (.aload_n 0, 1) := by decide +kernel
theorem ddA_log_6 : decode cA_log 6 = .ok (.getfield 55, 3) := by decide +kernel
theorem ddA_log_9 : decode cA_log 9 = .ok (.getfield 280, 3) := by decide +kernel
theorem ddA_log_12 : decode cA_log 12 = .ok (.invokevirtual 284, 3) := by decide +kernel
theorem ddA_log_15 : decode cA_log 15 = .ok (.if_icmp .lt 5, 3) := by decide +kernel
theorem ddA_log_18 : decode cA_log 18 = .ok (.iconst (-1), 1) := by decide +kernel
theorem ddA_log_19 : decode cA_log 19 = .ok (.ireturn, 1) := by decide +kernel
theorem ddA_log_20 : decode cA_log 20 = .ok (.iload_n 2, 1) := by decide +kernel
theorem ddA_log_21 : decode cA_log 21 = .ok (.tableswitch 63 0 2 #[27, 39, 51], 27) := by decide +kernel
theorem ddA_log_48 : decode cA_log 48 = .ok (.aload_n 0, 1) := by decide +kernel
theorem ddA_log_49 : decode cA_log 49 = .ok (.getfield 55, 3) := by decide +kernel
theorem ddA_log_52 : decode cA_log 52 = .ok (.getfield 280, 3) := by decide +kernel
theorem ddA_log_55 : decode cA_log 55 = .ok (.iload_n 1, 1) := by decide +kernel
theorem ddA_log_56 : decode cA_log 56 = .ok (.invokevirtual 288, 3) := by decide +kernel
theorem ddA_log_59 : decode cA_log 59 = .ok (.ireturn, 1) := by decide +kernel
theorem ddA_log_60 : decode cA_log 60 = .ok (.aload_n 0, 1) := by decide +kernel
theorem ddA_log_61 : decode cA_log 61 = .ok (.getfield 55, 3) := by decide +kernel
theorem ddA_log_64 : decode cA_log 64 = .ok (.getfield 280, 3) := by decide +kernel
theorem ddA_log_67 : decode cA_log 67 = .ok (.iload_n 1, 1) := by decide +kernel
theorem ddA_log_68 : decode cA_log 68 = .ok (.invokevirtual 291, 3) := by decide +kernel
theorem ddA_log_71 : decode cA_log 71 = .ok (.ireturn, 1) := by decide +kernel
theorem ddA_log_72 : decode cA_log 72 = .ok (.aload_n 0, 1) := by decide +kernel
theorem ddA_log_73 : decode cA_log 73 = .ok (.getfield 55, 3) := by decide +kernel
theorem ddA_log_76 : decode cA_log 76 = .ok (.getfield 280, 3) := by decide +kernel
theorem ddA_log_79 : decode cA_log 79 = .ok (.iload_n 1, 1) := by decide +kernel
theorem ddA_log_80 : decode cA_log 80 = .ok (.invokevirtual 294, 3) := by decide +kernel
theorem ddA_log_83 : decode cA_log 83 = .ok (.ireturn, 1) := by decide +kernel
theorem ddA_log_84 : decode cA_log 84 = .ok (.iconst (-1), 1) := by decide +kernel
theorem ddA_log_85 : decode cA_log 85 = .ok (.ireturn, 1) := by decide +kernel
set_option maxHeartbeats 2000000 in
theorem zBA_log_18 {G : GXM} {X : CxM} (hG : GokM G) (C : CoM G X cA_log "HomeFreed") (N : mLM X = 3) {d : Nat} (hD : dpM X = d) (hd : 3 ≤ d)  {q : Int32 × Mem} (E : EnM G X (some .int) (some (.int q.1)) q.2 0 0) {M : Mem} (h : BA_log_18 M = some q) : ZM G X 18 [] [] M 0 0 := by
  unfold BA_log_18 at h
  refine zz_iconst (v := (-1)) C ddA_log_18 (by decide) ?_
  obtain rfl := Option.some.inj h
  exact zz_iret C E ddA_log_19
set_option maxHeartbeats 2000000 in
theorem xA_log {G : GXM} {l : Launch} (hG : GokM G) (d : Nat) (hd : 3 ≤ d) {v0 : Nat} {v1 : Int32} {v2 : Int32} {M : Mem} {q : Int32 × Mem} (h : fA_log v0 v1 v2 M = some q) : ExM G l d 0 0 yA_log cA_log 3 (some .int) [.ref v0, .int v1, .int v2] M (some (.int q.1)) q.2 := by
  refine ex_of hG (by decide +kernel) (Nat.le_of_ble_eq_true rfl) ?_
  intro X hl C E N hD hn
  show ZM G X 0 [(0, .ref v0), (1, .int v1), (2, .int v2)] [] M 0 0
  unfold fA_log at h
  refine zz_iload_n C 1 ddA_log_0 rfl rfl ?_
  refine zz_if_lt (tgt := 18) C ddA_log_1 rfl (fun hc => ?_) (fun hc => ?_)
  · replace h := iteT h hc
    refine zz_loc (L1 := []) [] rfl ?_
    exact zBA_log_18 hG C N hD hd E h
  · replace h := iteF h hc
    refine zz_iload_n C 1 ddA_log_4 rfl rfl ?_
    refine zz_aload_n C 0 ddA_log_5 rfl rfl ?_
    obtain ⟨h1, h⟩ := gdN h
    obtain ⟨h2, h⟩ := gdN h
    refine zz_getr C ddA_log_6 fl_A_55 rfl h1 (of_decide_eq_true h2) ?_
    obtain ⟨h3, h⟩ := gdN h
    obtain ⟨h4, h⟩ := gdN h
    refine zz_getr C ddA_log_9 fl_A_280 rfl h3 (of_decide_eq_true h4) ?_
    obtain ⟨h6, h⟩ := gdN h
    obtain ⟨q5, hq5, h⟩ := bindN h
    refine zz_callV0 (As := []) C ddA_log_12 wd_900 my_L_length mv_L_length ⟨_, rfl, rfl⟩ (xL_length hG (d - 1) (by omega) hq5) (by omega) h6 rfl rfl (Nat.le_of_ble_eq_true rfl) ?_
    refine zz_icmp_lt (tgt := 20) C ddA_log_15 rfl (fun hc => ?_) (fun hc => ?_)
    · replace h := iteT h hc
      refine zz_iload_n C 2 ddA_log_20 rfl rfl ?_
      by_cases hs21_0 : v2 = 0
      · replace h := iteT h hs21_0
        rw [hs21_0]
        refine zz_tableIn (tgt := 48) C ddA_log_21 (by decide) (by decide) rfl rfl ?_
        refine zz_aload_n C 0 ddA_log_48 rfl rfl ?_
        obtain ⟨h7, h⟩ := gdN h
        obtain ⟨h8, h⟩ := gdN h
        refine zz_getr C ddA_log_49 fl_A_55 rfl h7 (of_decide_eq_true h8) ?_
        obtain ⟨h9, h⟩ := gdN h
        obtain ⟨h10, h⟩ := gdN h
        refine zz_getr C ddA_log_52 fl_A_280 rfl h9 (of_decide_eq_true h10) ?_
        refine zz_iload_n C 1 ddA_log_55 rfl rfl ?_
        obtain ⟨h12, h⟩ := gdN h
        obtain ⟨q11, hq11, h⟩ := bindN h
        refine zz_callV0 (As := [.int v1]) C ddA_log_56 wd_905 my_L_blockAt mv_L_blockAt ⟨_, rfl, rfl⟩ (xL_blockAt hG (d - 1) (by omega) hq11) (by omega) h12 rfl rfl (Nat.le_of_ble_eq_true rfl) ?_
        obtain rfl := Option.some.inj h
        exact zz_iret C E ddA_log_59
      replace h := iteF h hs21_0
      by_cases hs21_1 : v2 = 1
      · replace h := iteT h hs21_1
        rw [hs21_1]
        refine zz_tableIn (tgt := 60) C ddA_log_21 (by decide) (by decide) rfl rfl ?_
        refine zz_aload_n C 0 ddA_log_60 rfl rfl ?_
        obtain ⟨h13, h⟩ := gdN h
        obtain ⟨h14, h⟩ := gdN h
        refine zz_getr C ddA_log_61 fl_A_55 rfl h13 (of_decide_eq_true h14) ?_
        obtain ⟨h15, h⟩ := gdN h
        obtain ⟨h16, h⟩ := gdN h
        refine zz_getr C ddA_log_64 fl_A_280 rfl h15 (of_decide_eq_true h16) ?_
        refine zz_iload_n C 1 ddA_log_67 rfl rfl ?_
        obtain ⟨h18, h⟩ := gdN h
        obtain ⟨q17, hq17, h⟩ := bindN h
        refine zz_callV0 (As := [.int v1]) C ddA_log_68 wd_913 my_L_threadAt mv_L_threadAt ⟨_, rfl, rfl⟩ (xL_threadAt hG (d - 1) (by omega) hq17) (by omega) h18 rfl rfl (Nat.le_of_ble_eq_true rfl) ?_
        obtain rfl := Option.some.inj h
        exact zz_iret C E ddA_log_71
      replace h := iteF h hs21_1
      by_cases hs21_2 : v2 = 2
      · replace h := iteT h hs21_2
        rw [hs21_2]
        refine zz_tableIn (tgt := 72) C ddA_log_21 (by decide) (by decide) rfl rfl ?_
        refine zz_aload_n C 0 ddA_log_72 rfl rfl ?_
        obtain ⟨h19, h⟩ := gdN h
        obtain ⟨h20, h⟩ := gdN h
        refine zz_getr C ddA_log_73 fl_A_55 rfl h19 (of_decide_eq_true h20) ?_
        obtain ⟨h21, h⟩ := gdN h
        obtain ⟨h22, h⟩ := gdN h
        refine zz_getr C ddA_log_76 fl_A_280 rfl h21 (of_decide_eq_true h22) ?_
        refine zz_iload_n C 1 ddA_log_79 rfl rfl ?_
        obtain ⟨h24, h⟩ := gdN h
        obtain ⟨q23, hq23, h⟩ := bindN h
        refine zz_callV0 (As := [.int v1]) C ddA_log_80 wd_917 my_L_howAt mv_L_howAt ⟨_, rfl, rfl⟩ (xL_howAt hG (d - 1) (by omega) hq23) (by omega) h24 rfl rfl (Nat.le_of_ble_eq_true rfl) ?_
        obtain rfl := Option.some.inj h
        exact zz_iret C E ddA_log_83
      replace h := iteF h hs21_2
      have ths21_0 := lv_neT (a := 0) hs21_0 (by decide)
      have ths21_1 := lv_neT (a := 1) hs21_1 (by decide)
      have ths21_2 := lv_neT (a := 2) hs21_2 (by decide)
      refine zz_tableOut (tgt := 84) C ddA_log_21 (by omega) rfl ?_
      refine zz_iconst (v := (-1)) C ddA_log_84 (by decide) ?_
      obtain rfl := Option.some.inj h
      exact zz_iret C E ddA_log_85
    · replace h := iteF h hc
      refine zz_loc (L1 := []) [] rfl ?_
      exact zBA_log_18 hG C N hD hd E h
theorem ddA_step_0 : decode cA_step 0 = .ok (.aload_n 0, 1) := by decide +kernel
theorem ddA_step_1 : decode cA_step 1 = .ok (.iload_n 1, 1) := by decide +kernel
theorem ddA_step_2 : decode cA_step 2 = .ok (.invokevirtual 248, 3) := by decide +kernel
theorem ddA_step_5 : decode cA_step 5 = .ok (.ifCond .eq 20, 3) := by decide +kernel
theorem ddA_step_8 : decode cA_step 8 = .ok (.iload_n 2, 1) := by decide +kernel
theorem ddA_step_9 : decode cA_step 9 = .ok (.ifCond .lt 16, 3) := by decide +kernel
theorem ddA_step_12 : decode cA_step 12 = .ok (.iload_n 2, 1) := by decide +kernel
theorem ddA_step_13 : decode cA_step 13 = .ok (.aload_n 0, 1) := by decide +kernel
theorem ddA_step_14 : decode cA_step 14 = .ok (.getfield 37, 3) := by decide +kernel
theorem ddA_step_17 : decode cA_step 17 = .ok (.iload_n 1, 1) := by decide +kernel
theorem ddA_step_18 : decode cA_step 18 = .ok (.aaload, 1) := by decide +kernel
theorem ddA_step_19 : decode cA_step 19 = .ok (.getfield 297, 3) := by decide +kernel
theorem ddA_step_22 : decode cA_step 22 = .ok (.if_icmp .lt 7, 3) := by decide +kernel
theorem ddA_step_25 : decode cA_step 25 = .ok (.ldc_w 300, 3) := by decide +kernel
theorem ddA_step_28 : decode cA_step 28 = .ok (.ireturn, 1) := by decide +kernel
theorem ddA_step_29 : decode cA_step 29 = .ok (.iload_n 3, 1) := by decide +kernel
theorem ddA_step_30 : decode cA_step 30 = .ok (.tableswitch 62 0 2 #[26, 38, 50], 26) := by decide +kernel
theorem ddA_step_56 : decode cA_step 56 = .ok (.aload_n 0, 1) := by decide +kernel
theorem ddA_step_57 : decode cA_step 57 = .ok (.getfield 37, 3) := by decide +kernel
theorem ddA_step_60 : decode cA_step 60 = .ok (.iload_n 1, 1) := by decide +kernel
theorem ddA_step_61 : decode cA_step 61 = .ok (.aaload, 1) := by decide +kernel
theorem ddA_step_62 : decode cA_step 62 = .ok (.getfield 301, 3) := by decide +kernel
theorem ddA_step_65 : decode cA_step 65 = .ok (.iload_n 2, 1) := by decide +kernel
theorem ddA_step_66 : decode cA_step 66 = .ok (.iaload, 1) := by decide +kernel
theorem ddA_step_67 : decode cA_step 67 = .ok (.ireturn, 1) := by decide +kernel
theorem ddA_step_68 : decode cA_step 68 = .ok (.aload_n 0, 1) := by decide +kernel
theorem ddA_step_69 : decode cA_step 69 = .ok (.getfield 37, 3) := by decide +kernel
theorem ddA_step_72 : decode cA_step 72 = .ok (.iload_n 1, 1) := by decide +kernel
theorem ddA_step_73 : decode cA_step 73 = .ok (.aaload, 1) := by decide +kernel
theorem ddA_step_74 : decode cA_step 74 = .ok (.getfield 304, 3) := by decide +kernel
theorem ddA_step_77 : decode cA_step 77 = .ok (.iload_n 2, 1) := by decide +kernel
theorem ddA_step_78 : decode cA_step 78 = .ok (.iaload, 1) := by decide +kernel
theorem ddA_step_79 : decode cA_step 79 = .ok (.ireturn, 1) := by decide +kernel
theorem ddA_step_80 : decode cA_step 80 = .ok (.aload_n 0, 1) := by decide +kernel
theorem ddA_step_81 : decode cA_step 81 = .ok (.getfield 37, 3) := by decide +kernel
theorem ddA_step_84 : decode cA_step 84 = .ok (.iload_n 1, 1) := by decide +kernel
theorem ddA_step_85 : decode cA_step 85 = .ok (.aaload, 1) := by decide +kernel
theorem ddA_step_86 : decode cA_step 86 = .ok (.getfield 307, 3) := by decide +kernel
theorem ddA_step_89 : decode cA_step 89 = .ok (.iload_n 2, 1) := by decide +kernel
theorem ddA_step_90 : decode cA_step 90 = .ok (.iaload, 1) := by decide +kernel
theorem ddA_step_91 : decode cA_step 91 = .ok (.ireturn, 1) := by decide +kernel
theorem ddA_step_92 : decode cA_step 92 = .ok (.ldc_w 300, 3) := by decide +kernel
theorem ddA_step_95 : decode cA_step 95 = .ok (.ireturn, 1) := by decide +kernel
set_option maxHeartbeats 2000000 in
theorem zBA_step_25 {G : GXM} {X : CxM} (hG : GokM G) (C : CoM G X cA_step "HomeFreed") (N : mLM X = 4) {d : Nat} (hD : dpM X = d) (hd : 1 ≤ d)  {q : Int32 × Mem} (E : EnM G X (some .int) (some (.int q.1)) q.2 0 0) {M : Mem} (h : BA_step_25 M = some q) : ZM G X 25 [] [] M 0 0 := by
  unfold BA_step_25 at h
  refine zz_ldcw C ddA_step_25 wd_925 rfl ?_
  obtain rfl := Option.some.inj h
  exact zz_iret C E ddA_step_28
set_option maxHeartbeats 2000000 in
theorem xA_step {G : GXM} {l : Launch} (hG : GokM G) (d : Nat) (hd : 1 ≤ d) {v0 : Nat} {v1 : Int32} {v2 : Int32} {v3 : Int32} {M : Mem} {q : Int32 × Mem} (h : fA_step v0 v1 v2 v3 M = some q) : ExM G l d 0 0 yA_step cA_step 4 (some .int) [.ref v0, .int v1, .int v2, .int v3] M (some (.int q.1)) q.2 := by
  refine ex_of hG (by decide +kernel) (Nat.le_of_ble_eq_true rfl) ?_
  intro X hl C E N hD hn
  show ZM G X 0 [(0, .ref v0), (1, .int v1), (2, .int v2), (3, .int v3)] [] M 0 0
  unfold fA_step at h
  refine zz_aload_n C 0 ddA_step_0 rfl rfl ?_
  refine zz_iload_n C 1 ddA_step_1 rfl rfl ?_
  obtain ⟨h2, h⟩ := gdN h
  obtain ⟨q1, hq1, h⟩ := bindN h
  refine zz_callV0 (As := [.int v1]) C ddA_step_2 wd_813 my_A_isScript mv_A_isScript ⟨_, rfl, rfl⟩ (xA_isScript hG (d - 1) (by omega) hq1) (by omega) h2 rfl rfl (Nat.le_of_ble_eq_true rfl) ?_
  refine zz_if_eq (tgt := 25) C ddA_step_5 rfl (fun hc => ?_) (fun hc => ?_)
  · replace h := iteT h hc
    refine zz_loc (L1 := []) [] rfl ?_
    exact zBA_step_25 hG C N hD hd E h
  · replace h := iteF h hc
    refine zz_iload_n C 2 ddA_step_8 rfl rfl ?_
    refine zz_if_lt (tgt := 25) C ddA_step_9 rfl (fun hc => ?_) (fun hc => ?_)
    · replace h := iteT h hc
      refine zz_loc (L1 := []) [] rfl ?_
      exact zBA_step_25 hG C N hD hd E h
    · replace h := iteF h hc
      refine zz_iload_n C 2 ddA_step_12 rfl rfl ?_
      refine zz_aload_n C 0 ddA_step_13 rfl rfl ?_
      obtain ⟨h3, h⟩ := gdN h
      obtain ⟨h4, h⟩ := gdN h
      refine zz_getr C ddA_step_14 fl_A_37 rfl h3 (of_decide_eq_true h4) ?_
      refine zz_iload_n C 1 ddA_step_17 rfl rfl ?_
      obtain ⟨h5, h⟩ := gdN h
      obtain ⟨h6, h⟩ := gdN h
      refine zz_aaload (t := 104) C ddA_step_18 (by decide) (fun _ => rfl) h5 (of_decide_eq_true h6) ?_
      obtain ⟨h7, h⟩ := gdN h
      refine zz_geti C ddA_step_19 fl_A_297 rfl h7 ?_
      refine zz_icmp_lt (tgt := 29) C ddA_step_22 rfl (fun hc => ?_) (fun hc => ?_)
      · replace h := iteT h hc
        refine zz_iload_n C 3 ddA_step_29 rfl rfl ?_
        by_cases hs30_0 : v3 = 0
        · replace h := iteT h hs30_0
          rw [hs30_0]
          refine zz_tableIn (tgt := 56) C ddA_step_30 (by decide) (by decide) rfl rfl ?_
          refine zz_aload_n C 0 ddA_step_56 rfl rfl ?_
          refine zz_getr C ddA_step_57 fl_A_37 rfl h3 (of_decide_eq_true h4) ?_
          refine zz_iload_n C 1 ddA_step_60 rfl rfl ?_
          refine zz_aaload (t := 104) C ddA_step_61 (by decide) (fun _ => rfl) h5 (of_decide_eq_true h6) ?_
          obtain ⟨h8, h⟩ := gdN h
          refine zz_getr C ddA_step_62 fl_A_301 rfl h7 (of_decide_eq_true h8) ?_
          refine zz_iload_n C 2 ddA_step_65 rfl rfl ?_
          obtain ⟨h9, h⟩ := gdN h
          refine zz_iaload C ddA_step_66 h9 ?_
          obtain rfl := Option.some.inj h
          exact zz_iret C E ddA_step_67
        replace h := iteF h hs30_0
        by_cases hs30_1 : v3 = 1
        · replace h := iteT h hs30_1
          rw [hs30_1]
          refine zz_tableIn (tgt := 68) C ddA_step_30 (by decide) (by decide) rfl rfl ?_
          refine zz_aload_n C 0 ddA_step_68 rfl rfl ?_
          refine zz_getr C ddA_step_69 fl_A_37 rfl h3 (of_decide_eq_true h4) ?_
          refine zz_iload_n C 1 ddA_step_72 rfl rfl ?_
          refine zz_aaload (t := 104) C ddA_step_73 (by decide) (fun _ => rfl) h5 (of_decide_eq_true h6) ?_
          obtain ⟨h10, h⟩ := gdN h
          refine zz_getr C ddA_step_74 fl_A_304 rfl h7 (of_decide_eq_true h10) ?_
          refine zz_iload_n C 2 ddA_step_77 rfl rfl ?_
          obtain ⟨h11, h⟩ := gdN h
          refine zz_iaload C ddA_step_78 h11 ?_
          obtain rfl := Option.some.inj h
          exact zz_iret C E ddA_step_79
        replace h := iteF h hs30_1
        by_cases hs30_2 : v3 = 2
        · replace h := iteT h hs30_2
          rw [hs30_2]
          refine zz_tableIn (tgt := 80) C ddA_step_30 (by decide) (by decide) rfl rfl ?_
          refine zz_aload_n C 0 ddA_step_80 rfl rfl ?_
          refine zz_getr C ddA_step_81 fl_A_37 rfl h3 (of_decide_eq_true h4) ?_
          refine zz_iload_n C 1 ddA_step_84 rfl rfl ?_
          refine zz_aaload (t := 104) C ddA_step_85 (by decide) (fun _ => rfl) h5 (of_decide_eq_true h6) ?_
          obtain ⟨h12, h⟩ := gdN h
          refine zz_getr C ddA_step_86 fl_A_307 rfl h7 (of_decide_eq_true h12) ?_
          refine zz_iload_n C 2 ddA_step_89 rfl rfl ?_
          obtain ⟨h13, h⟩ := gdN h
          refine zz_iaload C ddA_step_90 h13 ?_
          obtain rfl := Option.some.inj h
          exact zz_iret C E ddA_step_91
        replace h := iteF h hs30_2
        have ths30_0 := lv_neT (a := 0) hs30_0 (by decide)
        have ths30_1 := lv_neT (a := 1) hs30_1 (by decide)
        have ths30_2 := lv_neT (a := 2) hs30_2 (by decide)
        refine zz_tableOut (tgt := 92) C ddA_step_30 (by omega) rfl ?_
        refine zz_ldcw C ddA_step_92 wd_925 rfl ?_
        obtain rfl := Option.some.inj h
        exact zz_iret C E ddA_step_95
      · replace h := iteF h hc
        refine zz_loc (L1 := []) [] rfl ?_
        exact zBA_step_25 hG C N hD hd E h
theorem ddU_worst_0 : decode cU_worst 0 = .ok (.iconst (-1), 1) := by decide +kernel
theorem ddU_worst_1 : decode cU_worst 1 = .ok (.istore_n 1, 1) := by decide +kernel
theorem ddU_worst_2 : decode cU_worst 2 = .ok (.iconst 0, 1) := by decide +kernel
theorem ddU_worst_3 : decode cU_worst 3 = .ok (.istore_n 2, 1) := by decide +kernel
theorem ddU_worst_4 : decode cU_worst 4 = .ok (.iconst 1, 1) := by decide +kernel
theorem ddU_worst_5 : decode cU_worst 5 = .ok (.istore_n 3, 1) := by decide +kernel
theorem ddU_worst_6 : decode cU_worst 6 = .ok (.iconst 1, 1) := by decide +kernel
theorem ddU_worst_7 : decode cU_worst 7 = .ok (.istore 4, 2) := by decide +kernel
theorem ddU_worst_9 : decode cU_worst 9 = .ok (.iload 4, 2) := by decide +kernel
theorem ddU_worst_11 : decode cU_worst 11 = .ok (.bipush 40, 2) := by decide +kernel
theorem ddU_worst_13 : decode cU_worst 13 = .ok (.if_icmp .gt 73, 3) := by decide +kernel
theorem ddU_worst_16 : decode cU_worst 16 = .ok (.aload_n 0, 1) := by decide +kernel
theorem ddU_worst_17 : decode cU_worst 17 = .ok (.iload 4, 2) := by decide +kernel
theorem ddU_worst_19 : decode cU_worst 19 = .ok (.invokevirtual 93, 3) := by decide +kernel
theorem ddU_worst_22 : decode cU_worst 22 = .ok (.istore 5, 2) := by decide +kernel
theorem ddU_worst_24 : decode cU_worst 24 = .ok (.iload 5, 2) := by decide +kernel
theorem ddU_worst_26 : decode cU_worst 26 = .ok (.iconst (-1), 1) := by decide +kernel
theorem ddU_worst_27 : decode cU_worst 27 = .ok (.if_icmp .ne 6, 3) := by decide +kernel
theorem ddU_worst_30 : decode cU_worst 30 = .ok (.goto 56, 3) := by decide +kernel
theorem ddU_worst_33 : decode cU_worst 33 = .ok (.aload_n 0, 1) := by decide +kernel
theorem ddU_worst_34 : decode cU_worst 34 = .ok (.getfield 15, 3) := by decide +kernel
theorem ddU_worst_37 : decode cU_worst 37 = .ok (.iload 5, 2) := by decide +kernel
theorem ddU_worst_39 : decode cU_worst 39 = .ok (.iaload, 1) := by decide +kernel
theorem ddU_worst_40 : decode cU_worst 40 = .ok (.iload 4, 2) := by decide +kernel
theorem ddU_worst_42 : decode cU_worst 42 = .ok (.isub, 1) := by decide +kernel
theorem ddU_worst_43 : decode cU_worst 43 = .ok (.istore 6, 2) := by decide +kernel
theorem ddU_worst_45 : decode cU_worst 45 = .ok (.iload_n 1, 1) := by decide +kernel
theorem ddU_worst_46 : decode cU_worst 46 = .ok (.iconst (-1), 1) := by decide +kernel
theorem ddU_worst_47 : decode cU_worst 47 = .ok (.if_icmp .eq 19, 3) := by decide +kernel
theorem ddU_worst_50 : decode cU_worst 50 = .ok (.iload 6, 2) := by decide +kernel
theorem ddU_worst_52 : decode cU_worst 52 = .ok (.iload_n 3, 1) := by decide +kernel
theorem ddU_worst_53 : decode cU_worst 53 = .ok (.imul, 1) := by decide +kernel
theorem ddU_worst_54 : decode cU_worst 54 = .ok (.iload_n 2, 1) := by decide +kernel
theorem ddU_worst_55 : decode cU_worst 55 = .ok (.aload_n 0, 1) := by decide +kernel
theorem ddU_worst_56 : decode cU_worst 56 = .ok (.getfield 15, 3) := by decide +kernel
theorem ddU_worst_59 : decode cU_worst 59 = .ok (.iload 5, 2) := by decide +kernel
theorem ddU_worst_61 : decode cU_worst 61 = .ok (.iaload, 1) := by decide +kernel
theorem ddU_worst_62 : decode cU_worst 62 = .ok (.imul, 1) := by decide +kernel
theorem ddU_worst_63 : decode cU_worst 63 = .ok (.if_icmp .le 17, 3) := by decide +kernel
theorem ddU_worst_66 : decode cU_worst 66 = .ok (.iload 4, 2) := by decide +kernel
theorem ddU_worst_68 : decode cU_worst 68 = .ok (.istore_n 1, 1) := by decide +kernel
theorem ddU_worst_69 : decode cU_worst 69 = .ok (.iload 6, 2) := by decide +kernel
theorem ddU_worst_71 : decode cU_worst 71 = .ok (.istore_n 2, 1) := by decide +kernel
theorem ddU_worst_72 : decode cU_worst 72 = .ok (.aload_n 0, 1) := by decide +kernel
theorem ddU_worst_73 : decode cU_worst 73 = .ok (.getfield 15, 3) := by decide +kernel
theorem ddU_worst_76 : decode cU_worst 76 = .ok (.iload 5, 2) := by decide +kernel
theorem ddU_worst_78 : decode cU_worst 78 = .ok (.iaload, 1) := by decide +kernel
theorem ddU_worst_79 : decode cU_worst 79 = .ok (.istore_n 3, 1) := by decide +kernel
theorem ddU_worst_80 : decode cU_worst 80 = .ok (.iinc 4 1, 3) := by decide +kernel
theorem ddU_worst_83 : decode cU_worst 83 = .ok (.goto (-74), 3) := by decide +kernel
theorem ddU_worst_86 : decode cU_worst 86 = .ok (.iload_n 1, 1) := by decide +kernel
theorem ddU_worst_87 : decode cU_worst 87 = .ok (.ireturn, 1) := by decide +kernel
set_option maxHeartbeats 2000000 in
theorem zBU_worst_86 {G : GXM} {X : CxM} (hG : GokM G) (C : CoM G X cU_worst "HomeFreed$Rules") (N : mLM X = 7) {d : Nat} (hD : dpM X = d) (hd : 1 ≤ d)  {q : Int32 × Mem} (E : EnM G X (some .int) (some (.int q.1)) q.2 0 0) {v1 : Int32} {M : Mem} (h : BU_worst_86 v1 M = some q) : ZM G X 86 [(1, .int v1)] [] M 0 0 := by
  unfold BU_worst_86 at h
  refine zz_iload_n C 0 ddU_worst_86 rfl rfl ?_
  obtain rfl := Option.some.inj h
  exact zz_iret C E ddU_worst_87
set_option maxHeartbeats 2000000 in
theorem zBU_worst_80 {G : GXM} {X : CxM} (hG : GokM G) (C : CoM G X cU_worst "HomeFreed$Rules") (N : mLM X = 7) {d : Nat} (hD : dpM X = d) (hd : 1 ≤ d) {v0 : Nat} {K : Nat → Int32 → Int32 → Int32 → Int32 → Mem → Option ((Int32 × Mem) ⊕ (Int32 × Mem))} {q : (Int32 × Mem) ⊕ (Int32 × Mem)} (hK : ∀ (v1 : Int32) (v2 : Int32) (v3 : Int32) (v4 : Int32) (M : Mem), K v0 v1 v2 v3 v4 M = some q → ZM G X 9 [(0, .ref v0), (1, .int v1), (2, .int v2), (3, .int v3), (4, .int v4)] [] M 0 0) (hx0 : ∀ y : Int32 × Mem, q = (.inl y) → ZM G X 30 [(1, .int y.1)] [] y.2 0 0) (hx1 : ∀ y : Int32 × Mem, q = (.inr y) → ZM G X 86 [(1, .int y.1)] [] y.2 0 0) {v1 : Int32} {v2 : Int32} {v3 : Int32} {v4 : Int32} {M : Mem} (h : BU_worst_80 K v0 v1 v2 v3 v4 M = some q) : ZM G X 80 [(0, .ref v0), (1, .int v1), (2, .int v2), (3, .int v3), (4, .int v4)] [] M 0 0 := by
  unfold BU_worst_80 at h
  refine zz_iinc (v := v4 + 1) (L1 := [(4, .int (v4 + 1)), (0, .ref v0), (1, .int v1), (2, .int v2), (3, .int v3)]) C 4 ddU_worst_80 rfl rfl N (by decide) rfl ?_
  refine zz_goto (tgt := 9) C ddU_worst_83 rfl ?_
  refine zz_loc (L1 := [(0, .ref v0), (1, .int v1), (2, .int v2), (3, .int v3), (4, .int (v4 + 1))]) [1, 2, 3, 4, 0] rfl ?_
  exact hK _ _ _ _ _ h
set_option maxHeartbeats 2000000 in
theorem zBU_worst_66 {G : GXM} {X : CxM} (hG : GokM G) (C : CoM G X cU_worst "HomeFreed$Rules") (N : mLM X = 7) {d : Nat} (hD : dpM X = d) (hd : 1 ≤ d) {v0 : Nat} {K : Nat → Int32 → Int32 → Int32 → Int32 → Mem → Option ((Int32 × Mem) ⊕ (Int32 × Mem))} {q : (Int32 × Mem) ⊕ (Int32 × Mem)} (hK : ∀ (v1 : Int32) (v2 : Int32) (v3 : Int32) (v4 : Int32) (M : Mem), K v0 v1 v2 v3 v4 M = some q → ZM G X 9 [(0, .ref v0), (1, .int v1), (2, .int v2), (3, .int v3), (4, .int v4)] [] M 0 0) (hx0 : ∀ y : Int32 × Mem, q = (.inl y) → ZM G X 30 [(1, .int y.1)] [] y.2 0 0) (hx1 : ∀ y : Int32 × Mem, q = (.inr y) → ZM G X 86 [(1, .int y.1)] [] y.2 0 0) {v4 : Int32} {v5 : Int32} {v6 : Int32} {M : Mem} (h : BU_worst_66 K v0 v4 v5 v6 M = some q) : ZM G X 66 [(0, .ref v0), (4, .int v4), (5, .int v5), (6, .int v6)] [] M 0 0 := by
  unfold BU_worst_66 at h
  refine zz_iload C 1 ddU_worst_66 rfl ?_
  refine zz_istore_n (L1 := [(1, .int v4), (0, .ref v0), (4, .int v4), (5, .int v5), (6, .int v6)]) C ddU_worst_68 rfl N (by decide) rfl ?_
  refine zz_iload C 4 ddU_worst_69 rfl ?_
  refine zz_istore_n (L1 := [(2, .int v6), (1, .int v4), (0, .ref v0), (4, .int v4), (5, .int v5), (6, .int v6)]) C ddU_worst_71 rfl N (by decide) rfl ?_
  refine zz_aload_n C 2 ddU_worst_72 rfl rfl ?_
  obtain ⟨h1, h⟩ := gdN h
  obtain ⟨h2, h⟩ := gdN h
  refine zz_getr C ddU_worst_73 fl_U_15 rfl h1 (of_decide_eq_true h2) ?_
  refine zz_iload C 4 ddU_worst_76 rfl ?_
  obtain ⟨h3, h⟩ := gdN h
  refine zz_iaload C ddU_worst_78 h3 ?_
  refine zz_istore_n (L1 := [(3, .int (giM M (grM M v0 1) (Int32.toNatClampNeg v5))), (2, .int v6), (1, .int v4), (0, .ref v0), (4, .int v4), (5, .int v5), (6, .int v6)]) C ddU_worst_79 rfl N (by decide) rfl ?_
  refine zz_loc (L1 := [(0, .ref v0), (1, .int v4), (2, .int v6), (3, .int (giM M (grM M v0 1) (Int32.toNatClampNeg v5))), (4, .int v4)]) [3, 2, 1, 0, 4] rfl ?_
  exact zBU_worst_80 hG C N hD hd hK hx0 hx1 h
set_option maxHeartbeats 2000000 in
theorem zBU_worst_9 {G : GXM} {X : CxM} (hG : GokM G) (C : CoM G X cU_worst "HomeFreed$Rules") (N : mLM X = 7) {d : Nat} (hD : dpM X = d) (hd : 1 ≤ d) {v0 : Nat} {K : Nat → Int32 → Int32 → Int32 → Int32 → Mem → Option ((Int32 × Mem) ⊕ (Int32 × Mem))} {q : (Int32 × Mem) ⊕ (Int32 × Mem)} (hK : ∀ (v1 : Int32) (v2 : Int32) (v3 : Int32) (v4 : Int32) (M : Mem), K v0 v1 v2 v3 v4 M = some q → ZM G X 9 [(0, .ref v0), (1, .int v1), (2, .int v2), (3, .int v3), (4, .int v4)] [] M 0 0) (hx0 : ∀ y : Int32 × Mem, q = (.inl y) → ZM G X 30 [(1, .int y.1)] [] y.2 0 0) (hx1 : ∀ y : Int32 × Mem, q = (.inr y) → ZM G X 86 [(1, .int y.1)] [] y.2 0 0) {v1 : Int32} {v2 : Int32} {v3 : Int32} {v4 : Int32} {M : Mem} (h : BU_worst_9 K v0 v1 v2 v3 v4 M = some q) : ZM G X 9 [(0, .ref v0), (1, .int v1), (2, .int v2), (3, .int v3), (4, .int v4)] [] M 0 0 := by
  unfold BU_worst_9 at h
  refine zz_iload C 4 ddU_worst_9 rfl ?_
  refine zz_bipush (v := 40) C ddU_worst_11 (by decide) ?_
  refine zz_icmp_gt (tgt := 86) C ddU_worst_13 rfl (fun hc => ?_) (fun hc => ?_)
  · replace h := iteT h hc
    refine zz_loc (L1 := [(1, .int v1)]) [1] rfl ?_
    exact hx1 _ (Option.some.inj h).symm
  · replace h := iteF h hc
    refine zz_aload_n C 0 ddU_worst_16 rfl rfl ?_
    refine zz_iload C 4 ddU_worst_17 rfl ?_
    obtain ⟨h2, h⟩ := gdN h
    obtain ⟨q1, hq1, h⟩ := bindN h
    refine zz_callV0 (As := [.int v4]) C ddU_worst_19 wd_934 my_U_kindFor mv_U_kindFor ⟨_, rfl, rfl⟩ (xU_kindFor hG (d - 1) (by omega) hq1) (by omega) h2 rfl rfl (Nat.le_of_ble_eq_true rfl) ?_
    refine zz_istore (L1 := [(5, .int q1.1), (0, .ref v0), (1, .int v1), (2, .int v2), (3, .int v3), (4, .int v4)]) C ddU_worst_22 N (by decide) rfl ?_
    refine zz_iload C 0 ddU_worst_24 rfl ?_
    refine zz_iconst (v := (-1)) C ddU_worst_26 (by decide) ?_
    refine zz_icmp_ne (tgt := 33) C ddU_worst_27 rfl (fun hc => ?_) (fun hc => ?_)
    · replace h := iteF h hc
      refine zz_aload_n C 1 ddU_worst_33 rfl rfl ?_
      obtain ⟨h3, h⟩ := gdN h
      obtain ⟨h4, h⟩ := gdN h
      refine zz_getr C ddU_worst_34 fl_U_15 rfl h3 (of_decide_eq_true h4) ?_
      refine zz_iload C 0 ddU_worst_37 rfl ?_
      obtain ⟨h5, h⟩ := gdN h
      refine zz_iaload C ddU_worst_39 h5 ?_
      refine zz_iload C 5 ddU_worst_40 rfl ?_
      refine zz_isub C ddU_worst_42 ?_
      refine zz_istore (L1 := [(6, .int ((giM q1.2 (grM q1.2 v0 1) (Int32.toNatClampNeg q1.1)) - v4)), (5, .int q1.1), (0, .ref v0), (1, .int v1), (2, .int v2), (3, .int v3), (4, .int v4)]) C ddU_worst_43 N (by decide) rfl ?_
      refine zz_iload_n C 3 ddU_worst_45 rfl rfl ?_
      refine zz_iconst (v := (-1)) C ddU_worst_46 (by decide) ?_
      refine zz_icmp_eq (tgt := 66) C ddU_worst_47 rfl (fun hc => ?_) (fun hc => ?_)
      · replace h := iteT h hc
        refine zz_loc (L1 := [(0, .ref v0), (4, .int v4), (5, .int q1.1), (6, .int ((giM q1.2 (grM q1.2 v0 1) (Int32.toNatClampNeg q1.1)) - v4))]) [2, 6, 1, 0] rfl ?_
        exact zBU_worst_66 hG C N hD hd hK hx0 hx1 h
      · replace h := iteF h hc
        refine zz_iload C 0 ddU_worst_50 rfl ?_
        refine zz_iload_n C 5 ddU_worst_52 rfl rfl ?_
        refine zz_imul C ddU_worst_53 ?_
        refine zz_iload_n C 4 ddU_worst_54 rfl rfl ?_
        refine zz_aload_n C 2 ddU_worst_55 rfl rfl ?_
        refine zz_getr C ddU_worst_56 fl_U_15 rfl h3 (of_decide_eq_true h4) ?_
        refine zz_iload C 1 ddU_worst_59 rfl ?_
        refine zz_iaload C ddU_worst_61 h5 ?_
        refine zz_imul C ddU_worst_62 ?_
        refine zz_icmp_le (tgt := 80) C ddU_worst_63 rfl (fun hc => ?_) (fun hc => ?_)
        · replace h := iteT h hc
          refine zz_loc (L1 := [(0, .ref v0), (1, .int v1), (2, .int v2), (3, .int v3), (4, .int v4)]) [2, 3, 4, 5, 6] rfl ?_
          exact zBU_worst_80 hG C N hD hd hK hx0 hx1 h
        · replace h := iteF h hc
          refine zz_loc (L1 := [(0, .ref v0), (4, .int v4), (5, .int q1.1), (6, .int ((giM q1.2 (grM q1.2 v0 1) (Int32.toNatClampNeg q1.1)) - v4))]) [2, 6, 1, 0] rfl ?_
          exact zBU_worst_66 hG C N hD hd hK hx0 hx1 h
    · replace h := iteT h hc
      refine zz_loc (L1 := [(1, .int v1)]) [2] rfl ?_
      exact hx0 _ (Option.some.inj h).symm
set_option maxHeartbeats 2000000 in
theorem zLU_worst_9 {G : GXM} {X : CxM} (hG : GokM G) (C : CoM G X cU_worst "HomeFreed$Rules") (N : mLM X = 7) {d : Nat} (hD : dpM X = d) (hd : 1 ≤ d) {v0 : Nat} {q : (Int32 × Mem) ⊕ (Int32 × Mem)} : ∀ (f : Nat) (v1 : Int32) (v2 : Int32) (v3 : Int32) (v4 : Int32) (M : Mem), LU_worst_9 f v0 v1 v2 v3 v4 M = some q → (hx0 : ∀ y : Int32 × Mem, q = (.inl y) → ZM G X 30 [(1, .int y.1)] [] y.2 0 0) → (hx1 : ∀ y : Int32 × Mem, q = (.inr y) → ZM G X 86 [(1, .int y.1)] [] y.2 0 0) → ZM G X 9 [(0, .ref v0), (1, .int v1), (2, .int v2), (3, .int v3), (4, .int v4)] [] M 0 0 := by
  intro f
  induction f with
  | zero => intro v1 v2 v3 v4 M h; cases h
  | succ f ih =>
    intro v1 v2 v3 v4 M h hx0 hx1
    exact zBU_worst_9 hG C N hD hd (K := LU_worst_9 f) (q := q) (fun v1 v2 v3 v4 M h => ih v1 v2 v3 v4 M h hx0 hx1) hx0 hx1 h
set_option maxHeartbeats 2000000 in
theorem xU_worst {G : GXM} {l : Launch} (hG : GokM G) (d : Nat) (hd : 1 ≤ d) {v0 : Nat} {M : Mem} {q : Int32 × Mem} (h : fU_worst v0 M = some q) : ExM G l d 0 0 yU_worst cU_worst 7 (some .int) [.ref v0] M (some (.int q.1)) q.2 := by
  refine ex_of hG (by decide +kernel) (Nat.le_of_ble_eq_true rfl) ?_
  intro X hl C E N hD hn
  show ZM G X 0 [(0, .ref v0)] [] M 0 0
  unfold fU_worst at h
  refine zz_iconst (v := (-1)) C ddU_worst_0 (by decide) ?_
  refine zz_istore_n (L1 := [(1, .int ((-1))), (0, .ref v0)]) C ddU_worst_1 rfl N (by decide) rfl ?_
  refine zz_iconst (v := 0) C ddU_worst_2 (by decide) ?_
  refine zz_istore_n (L1 := [(2, .int 0), (1, .int ((-1))), (0, .ref v0)]) C ddU_worst_3 rfl N (by decide) rfl ?_
  refine zz_iconst (v := 1) C ddU_worst_4 (by decide) ?_
  refine zz_istore_n (L1 := [(3, .int 1), (2, .int 0), (1, .int ((-1))), (0, .ref v0)]) C ddU_worst_5 rfl N (by decide) rfl ?_
  refine zz_iconst (v := 1) C ddU_worst_6 (by decide) ?_
  refine zz_istore (L1 := [(4, .int 1), (3, .int 1), (2, .int 0), (1, .int ((-1))), (0, .ref v0)]) C ddU_worst_7 N (by decide) rfl ?_
  refine zz_loc (L1 := [(0, .ref v0), (1, .int ((-1))), (2, .int 0), (3, .int 1), (4, .int 1)]) [4, 3, 2, 1, 0] rfl ?_
  obtain ⟨q1, hq1, h⟩ := bindN h
  refine zLU_worst_9 hG C N hD hd 1000000 _ _ _ _ _ hq1 ?_ ?_
  · intro y2 eq1; replace eq1 := eq1.symm; subst eq1
    refine zz_goto (tgt := 86) C ddU_worst_30 rfl ?_
    exact zBU_worst_86 hG C N hD hd E h
  · intro y3 eq1; replace eq1 := eq1.symm; subst eq1
    exact zBU_worst_86 hG C N hD hd E h
