theorem ddM_tick_0 : decode cM_tick 0 = .ok (.aload_n 0, 1) := by decide +kernel
theorem ddM_tick_1 : decode cM_tick 1 = .ok (.aload_n 0, 1) := by decide +kernel
theorem ddM_tick_2 : decode cM_tick 2 = .ok (.iload_n 1, 1) := by decide +kernel
theorem ddM_tick_3 : decode cM_tick 3 = .ok (.invokevirtual 163, 3) := by decide +kernel
theorem ddM_tick_6 : decode cM_tick 6 = .ok (.ifCond .ne 7, 3) := by decide +kernel
theorem ddM_tick_9 : decode cM_tick 9 = .ok (.iconst 0, 1) := by decide +kernel
theorem ddM_tick_10 : decode cM_tick 10 = .ok (.goto 16, 3) := by decide +kernel
theorem ddM_tick_13 : decode cM_tick 13 = .ok (.aload_n 0, 1) := by decide +kernel
theorem ddM_tick_14 : decode cM_tick 14 = .ok (.iload_n 1, 1) := by decide +kernel
theorem ddM_tick_15 : decode cM_tick 15 = .ok (.invokevirtual 260, 3) := by decide +kernel
theorem ddM_tick_18 : decode cM_tick 18 = .ok (.ifCond .ne 7, 3) := by decide +kernel
theorem ddM_tick_21 : decode cM_tick 21 = .ok (.iconst 2, 1) := by decide +kernel
theorem ddM_tick_22 : decode cM_tick 22 = .ok (.goto 4, 3) := by decide +kernel
theorem ddM_tick_25 : decode cM_tick 25 = .ok (.iconst (-1), 1) := by decide +kernel
theorem ddM_tick_26 : decode cM_tick 26 = .ok (.invokevirtual 315, 3) := by decide +kernel
theorem ddM_tick_29 : decode cM_tick 29 = .ok (.ifCond .eq 5, 3) := by decide +kernel
theorem ddM_tick_32 : decode cM_tick 32 = .ok (.iconst (-1), 1) := by decide +kernel
theorem ddM_tick_33 : decode cM_tick 33 = .ok (.ireturn, 1) := by decide +kernel
theorem ddM_tick_34 : decode cM_tick 34 = .ok (.aload_n 0, 1) := by decide +kernel
theorem ddM_tick_35 : decode cM_tick 35 = .ok (.invokevirtual 318, 3) := by decide +kernel
theorem ddM_tick_38 : decode cM_tick 38 = .ok (.aload_n 0, 1) := by decide +kernel
theorem ddM_tick_39 : decode cM_tick 39 = .ok (.iload_n 1, 1) := by decide +kernel
theorem ddM_tick_40 : decode cM_tick 40 = .ok (.invokevirtual 235, 3) := by decide +kernel
theorem ddM_tick_43 : decode cM_tick 43 = .ok (.aload_n 0, 1) := by decide +kernel
theorem ddM_tick_44 : decode cM_tick 44 = .ok (.iload_n 1, 1) := by decide +kernel
theorem ddM_tick_45 : decode cM_tick 45 = .ok (.invokevirtual 300, 3) := by decide +kernel
theorem ddM_tick_48 : decode cM_tick 48 = .ok (.ireturn, 1) := by decide +kernel
set_option maxHeartbeats 2000000 in
theorem zBM_tick_26 {G : GXM} {X : CxM} (hG : GokM G) (C : CoM G X cM_tick "HomeFreedModel") (N : mLM X = 2) {d : Nat} (hD : dpM X = d) (hd : 7 ≤ d)  {q : Int32 × Mem} (E : EnM G X (some .int) (some (.int q.1)) q.2 0 0) {v0 : Nat} {v1 : Int32} {w0 : Nat} {w1 : Int32} {M : Mem} (h : BM_tick_26 v0 v1 w0 w1 M = some q) : ZM G X 26 [(0, .ref v0), (1, .int v1)] [.int w1, .ref w0] M 0 0 := by
  unfold BM_tick_26 at h
  obtain ⟨h2, h⟩ := gdN h
  obtain ⟨q1, hq1, h⟩ := bindN h
  refine zz_callV0 (As := [.int w1]) C ddM_tick_26 wd_1475 my_M_isRefused mv_M_isRefused ⟨_, rfl, rfl⟩ (xM_isRefused hG (d - 1) (by omega) hq1) (by omega) h2 rfl rfl (Nat.le_of_ble_eq_true rfl) ?_
  refine zz_if_eq (tgt := 34) C ddM_tick_29 rfl (fun hc => ?_) (fun hc => ?_)
  · replace h := iteT h hc
    refine zz_aload_n C 0 ddM_tick_34 rfl rfl ?_
    obtain ⟨h4, h⟩ := gdN h
    obtain ⟨q3, hq3, h⟩ := bindN h
    refine zz_callV0 (As := []) C ddM_tick_35 wd_1479 my_M_keep mv_M_keep ⟨_, rfl, rfl⟩ (xM_keep hG (d - 1) (by omega) hq3) (by omega) h4 rfl rfl (Nat.le_of_ble_eq_true rfl) ?_
    refine zz_aload_n C 0 ddM_tick_38 rfl rfl ?_
    refine zz_iload_n C 1 ddM_tick_39 rfl rfl ?_
    obtain ⟨h6, h⟩ := gdN h
    obtain ⟨q5, hq5, h⟩ := bindN h
    refine zz_callV0 (As := [.int v1]) C ddM_tick_40 wd_1527 my_M_tickNow mv_M_tickNow ⟨_, rfl, rfl⟩ (xM_tickNow hG (d - 1) (by omega) hq5) (by omega) h6 rfl rfl (Nat.le_of_ble_eq_true rfl) ?_
    refine zz_aload_n C 0 ddM_tick_43 rfl rfl ?_
    refine zz_iload_n C 1 ddM_tick_44 rfl rfl ?_
    obtain ⟨h8, h⟩ := gdN h
    obtain ⟨q7, hq7, h⟩ := bindN h
    refine zz_callV0 (As := [.int v1]) C ddM_tick_45 wd_1413 my_M_ownedBy mv_M_ownedBy ⟨_, rfl, rfl⟩ (xM_ownedBy hG (d - 1) (by omega) hq7) (by omega) h8 rfl rfl (Nat.le_of_ble_eq_true rfl) ?_
    obtain rfl := Option.some.inj h
    exact zz_iret C E ddM_tick_48
  · replace h := iteF h hc
    refine zz_iconst (v := (-1)) C ddM_tick_32 (by decide) ?_
    obtain rfl := Option.some.inj h
    exact zz_iret C E ddM_tick_33
set_option maxHeartbeats 2000000 in
theorem xM_tick {G : GXM} {l : Launch} (hG : GokM G) (d : Nat) (hd : 7 ≤ d) {v0 : Nat} {v1 : Int32} {M : Mem} {q : Int32 × Mem} (h : fM_tick v0 v1 M = some q) : ExM G l d 0 0 yM_tick cM_tick 2 (some .int) [.ref v0, .int v1] M (some (.int q.1)) q.2 := by
  refine ex_of hG (by decide +kernel) (Nat.le_of_ble_eq_true rfl) ?_
  intro X hl C E N hD hn
  show ZM G X 0 [(0, .ref v0), (1, .int v1)] [] M 0 0
  unfold fM_tick at h
  refine zz_aload_n C 0 ddM_tick_0 rfl rfl ?_
  refine zz_aload_n C 0 ddM_tick_1 rfl rfl ?_
  refine zz_iload_n C 1 ddM_tick_2 rfl rfl ?_
  obtain ⟨h2, h⟩ := gdN h
  obtain ⟨q1, hq1, h⟩ := bindN h
  refine zz_callV0 (As := [.int v1]) C ddM_tick_3 wd_1409 my_M_isThread mv_M_isThread ⟨_, rfl, rfl⟩ (xM_isThread hG (d - 1) (by omega) hq1) (by omega) h2 rfl rfl (Nat.le_of_ble_eq_true rfl) ?_
  refine zz_if_ne (tgt := 13) C ddM_tick_6 rfl (fun hc => ?_) (fun hc => ?_)
  · replace h := iteF h hc
    refine zz_aload_n C 0 ddM_tick_13 rfl rfl ?_
    refine zz_iload_n C 1 ddM_tick_14 rfl rfl ?_
    obtain ⟨h4, h⟩ := gdN h
    obtain ⟨q3, hq3, h⟩ := bindN h
    refine zz_callV0 (As := [.int v1]) C ddM_tick_15 wd_1463 my_M_doesLive mv_M_doesLive ⟨_, rfl, rfl⟩ (xM_doesLive hG (d - 1) (by omega) hq3) (by omega) h4 rfl rfl (Nat.le_of_ble_eq_true rfl) ?_
    refine zz_if_ne (tgt := 25) C ddM_tick_18 rfl (fun hc => ?_) (fun hc => ?_)
    · replace h := iteF h hc
      refine zz_iconst (v := (-1)) C ddM_tick_25 (by decide) ?_
      exact zBM_tick_26 hG C N hD hd E h
    · replace h := iteT h hc
      refine zz_iconst (v := 2) C ddM_tick_21 (by decide) ?_
      refine zz_goto (tgt := 26) C ddM_tick_22 rfl ?_
      exact zBM_tick_26 hG C N hD hd E h
  · replace h := iteT h hc
    refine zz_iconst (v := 0) C ddM_tick_9 (by decide) ?_
    refine zz_goto (tgt := 26) C ddM_tick_10 rfl ?_
    exact zBM_tick_26 hG C N hD hd E h
theorem ddM_send_0 : decode cM_send 0 = .ok (.aload_n 0, 1) := by decide +kernel
theorem ddM_send_1 : decode cM_send 1 = .ok (.aload_n 0, 1) := by decide +kernel
theorem ddM_send_2 : decode cM_send 2 = .ok (.iload_n 1, 1) := by decide +kernel
theorem ddM_send_3 : decode cM_send 3 = .ok (.invokevirtual 163, 3) := by decide +kernel
theorem ddM_send_6 : decode cM_send 6 = .ok (.ifCond .ne 7, 3) := by decide +kernel
theorem ddM_send_9 : decode cM_send 9 = .ok (.iconst 0, 1) := by decide +kernel
theorem ddM_send_10 : decode cM_send 10 = .ok (.goto 16, 3) := by decide +kernel
theorem ddM_send_13 : decode cM_send 13 = .ok (.aload_n 0, 1) := by decide +kernel
theorem ddM_send_14 : decode cM_send 14 = .ok (.iload_n 1, 1) := by decide +kernel
theorem ddM_send_15 : decode cM_send 15 = .ok (.invokevirtual 260, 3) := by decide +kernel
theorem ddM_send_18 : decode cM_send 18 = .ok (.ifCond .ne 7, 3) := by decide +kernel
theorem ddM_send_21 : decode cM_send 21 = .ok (.iconst 2, 1) := by decide +kernel
theorem ddM_send_22 : decode cM_send 22 = .ok (.goto 4, 3) := by decide +kernel
theorem ddM_send_25 : decode cM_send 25 = .ok (.iconst (-1), 1) := by decide +kernel
theorem ddM_send_26 : decode cM_send 26 = .ok (.invokevirtual 315, 3) := by decide +kernel
theorem ddM_send_29 : decode cM_send 29 = .ok (.ifCond .eq 5, 3) := by decide +kernel
theorem ddM_send_32 : decode cM_send 32 = .ok (.iconst (-1), 1) := by decide +kernel
theorem ddM_send_33 : decode cM_send 33 = .ok (.ireturn, 1) := by decide +kernel
theorem ddM_send_34 : decode cM_send 34 = .ok (.aload_n 0, 1) := by decide +kernel
theorem ddM_send_35 : decode cM_send 35 = .ok (.invokevirtual 318, 3) := by decide +kernel
theorem ddM_send_38 : decode cM_send 38 = .ok (.aload_n 0, 1) := by decide +kernel
theorem ddM_send_39 : decode cM_send 39 = .ok (.iload_n 1, 1) := by decide +kernel
theorem ddM_send_40 : decode cM_send 40 = .ok (.invokevirtual 250, 3) := by decide +kernel
theorem ddM_send_43 : decode cM_send 43 = .ok (.ireturn, 1) := by decide +kernel
set_option maxHeartbeats 2000000 in
theorem zBM_send_26 {G : GXM} {X : CxM} (hG : GokM G) (C : CoM G X cM_send "HomeFreedModel") (N : mLM X = 2) {d : Nat} (hD : dpM X = d) (hd : 6 ≤ d)  {q : Int32 × Mem} (E : EnM G X (some .int) (some (.int q.1)) q.2 0 0) {v0 : Nat} {v1 : Int32} {w0 : Nat} {w1 : Int32} {M : Mem} (h : BM_send_26 v0 v1 w0 w1 M = some q) : ZM G X 26 [(0, .ref v0), (1, .int v1)] [.int w1, .ref w0] M 0 0 := by
  unfold BM_send_26 at h
  obtain ⟨h2, h⟩ := gdN h
  obtain ⟨q1, hq1, h⟩ := bindN h
  refine zz_callV0 (As := [.int w1]) C ddM_send_26 wd_1475 my_M_isRefused mv_M_isRefused ⟨_, rfl, rfl⟩ (xM_isRefused hG (d - 1) (by omega) hq1) (by omega) h2 rfl rfl (Nat.le_of_ble_eq_true rfl) ?_
  refine zz_if_eq (tgt := 34) C ddM_send_29 rfl (fun hc => ?_) (fun hc => ?_)
  · replace h := iteT h hc
    refine zz_aload_n C 0 ddM_send_34 rfl rfl ?_
    obtain ⟨h4, h⟩ := gdN h
    obtain ⟨q3, hq3, h⟩ := bindN h
    refine zz_callV0 (As := []) C ddM_send_35 wd_1479 my_M_keep mv_M_keep ⟨_, rfl, rfl⟩ (xM_keep hG (d - 1) (by omega) hq3) (by omega) h4 rfl rfl (Nat.le_of_ble_eq_true rfl) ?_
    refine zz_aload_n C 0 ddM_send_38 rfl rfl ?_
    refine zz_iload_n C 1 ddM_send_39 rfl rfl ?_
    obtain ⟨h6, h⟩ := gdN h
    obtain ⟨q5, hq5, h⟩ := bindN h
    refine zz_callV0 (As := [.int v1]) C ddM_send_40 wd_1531 my_M_sendNow mv_M_sendNow ⟨_, rfl, rfl⟩ (xM_sendNow hG (d - 1) (by omega) hq5) (by omega) h6 rfl rfl (Nat.le_of_ble_eq_true rfl) ?_
    obtain rfl := Option.some.inj h
    exact zz_iret C E ddM_send_43
  · replace h := iteF h hc
    refine zz_iconst (v := (-1)) C ddM_send_32 (by decide) ?_
    obtain rfl := Option.some.inj h
    exact zz_iret C E ddM_send_33
set_option maxHeartbeats 2000000 in
theorem xM_send {G : GXM} {l : Launch} (hG : GokM G) (d : Nat) (hd : 6 ≤ d) {v0 : Nat} {v1 : Int32} {M : Mem} {q : Int32 × Mem} (h : fM_send v0 v1 M = some q) : ExM G l d 0 0 yM_send cM_send 2 (some .int) [.ref v0, .int v1] M (some (.int q.1)) q.2 := by
  refine ex_of hG (by decide +kernel) (Nat.le_of_ble_eq_true rfl) ?_
  intro X hl C E N hD hn
  show ZM G X 0 [(0, .ref v0), (1, .int v1)] [] M 0 0
  unfold fM_send at h
  refine zz_aload_n C 0 ddM_send_0 rfl rfl ?_
  refine zz_aload_n C 0 ddM_send_1 rfl rfl ?_
  refine zz_iload_n C 1 ddM_send_2 rfl rfl ?_
  obtain ⟨h2, h⟩ := gdN h
  obtain ⟨q1, hq1, h⟩ := bindN h
  refine zz_callV0 (As := [.int v1]) C ddM_send_3 wd_1409 my_M_isThread mv_M_isThread ⟨_, rfl, rfl⟩ (xM_isThread hG (d - 1) (by omega) hq1) (by omega) h2 rfl rfl (Nat.le_of_ble_eq_true rfl) ?_
  refine zz_if_ne (tgt := 13) C ddM_send_6 rfl (fun hc => ?_) (fun hc => ?_)
  · replace h := iteF h hc
    refine zz_aload_n C 0 ddM_send_13 rfl rfl ?_
    refine zz_iload_n C 1 ddM_send_14 rfl rfl ?_
    obtain ⟨h4, h⟩ := gdN h
    obtain ⟨q3, hq3, h⟩ := bindN h
    refine zz_callV0 (As := [.int v1]) C ddM_send_15 wd_1463 my_M_doesLive mv_M_doesLive ⟨_, rfl, rfl⟩ (xM_doesLive hG (d - 1) (by omega) hq3) (by omega) h4 rfl rfl (Nat.le_of_ble_eq_true rfl) ?_
    refine zz_if_ne (tgt := 25) C ddM_send_18 rfl (fun hc => ?_) (fun hc => ?_)
    · replace h := iteF h hc
      refine zz_iconst (v := (-1)) C ddM_send_25 (by decide) ?_
      exact zBM_send_26 hG C N hD hd E h
    · replace h := iteT h hc
      refine zz_iconst (v := 2) C ddM_send_21 (by decide) ?_
      refine zz_goto (tgt := 26) C ddM_send_22 rfl ?_
      exact zBM_send_26 hG C N hD hd E h
  · replace h := iteT h hc
    refine zz_iconst (v := 0) C ddM_send_9 (by decide) ?_
    refine zz_goto (tgt := 26) C ddM_send_10 rfl ?_
    exact zBM_send_26 hG C N hD hd E h
theorem ddM_turnNow_0 : decode cM_turnNow 0 = .ok (.aload_n 0, 1) := by decide +kernel
theorem ddM_turnNow_1 : decode cM_turnNow 1 = .ok (.getfield 31, 3) := by decide +kernel
theorem ddM_turnNow_4 : decode cM_turnNow 4 = .ok (.sipush 3704, 3) := by decide +kernel
theorem ddM_turnNow_7 : decode cM_turnNow 7 = .ok (.iload_n 1, 1) := by decide +kernel
theorem ddM_turnNow_8 : decode cM_turnNow 8 = .ok (.iadd, 1) := by decide +kernel
theorem ddM_turnNow_9 : decode cM_turnNow 9 = .ok (.iconst 1, 1) := by decide +kernel
theorem ddM_turnNow_10 : decode cM_turnNow 10 = .ok (.aload_n 0, 1) := by decide +kernel
theorem ddM_turnNow_11 : decode cM_turnNow 11 = .ok (.getfield 31, 3) := by decide +kernel
theorem ddM_turnNow_14 : decode cM_turnNow 14 = .ok (.sipush 3704, 3) := by decide +kernel
theorem ddM_turnNow_17 : decode cM_turnNow 17 = .ok (.iload_n 1, 1) := by decide +kernel
theorem ddM_turnNow_18 : decode cM_turnNow 18 = .ok (.iadd, 1) := by decide +kernel
theorem ddM_turnNow_19 : decode cM_turnNow 19 = .ok (.iaload, 1) := by decide +kernel
theorem ddM_turnNow_20 : decode cM_turnNow 20 = .ok (.isub, 1) := by decide +kernel
theorem ddM_turnNow_21 : decode cM_turnNow 21 = .ok (.iastore, 1) := by decide +kernel
theorem ddM_turnNow_22 : decode cM_turnNow 22 = .ok (.aload_n 0, 1) := by decide +kernel
theorem ddM_turnNow_23 : decode cM_turnNow 23 = .ok (.getfield 31, 3) := by decide +kernel
theorem ddM_turnNow_26 : decode cM_turnNow 26 = .ok (.sipush 3704, 3) := by decide +kernel
theorem ddM_turnNow_29 : decode cM_turnNow 29 = .ok (.iload_n 1, 1) := by decide +kernel
theorem ddM_turnNow_30 : decode cM_turnNow 30 = .ok (.iadd, 1) := by decide +kernel
theorem ddM_turnNow_31 : decode cM_turnNow 31 = .ok (.iaload, 1) := by decide +kernel
theorem ddM_turnNow_32 : decode cM_turnNow 32 = .ok (.iconst 1, 1) := by decide +kernel
theorem ddM_turnNow_33 : decode cM_turnNow 33 = .ok (.if_icmp .ne 4, 3) := by decide +kernel
theorem ddM_turnNow_36 : decode cM_turnNow 36 = .ok (.return_, 1) := by decide +kernel
theorem ddM_turnNow_37 : decode cM_turnNow 37 = .ok (.aload_n 0, 1) := by decide +kernel
theorem ddM_turnNow_38 : decode cM_turnNow 38 = .ok (.iload_n 1, 1) := by decide +kernel
theorem ddM_turnNow_39 : decode cM_turnNow 39 = .ok (.invokevirtual 250, 3) := by decide +kernel
theorem ddM_turnNow_42 : decode cM_turnNow 42 = .ok (.pop, 1) := by decide +kernel
theorem ddM_turnNow_43 : decode cM_turnNow 43 = .ok (.iconst 0, 1) := by decide +kernel
theorem ddM_turnNow_44 : decode cM_turnNow 44 = .ok (.istore_n 2, 1) := by decide +kernel
theorem ddM_turnNow_45 : decode cM_turnNow 45 = .ok (.iload_n 2, 1) := by decide +kernel
theorem ddM_turnNow_46 : decode cM_turnNow 46 = .ok (.aload_n 0, 1) := by decide +kernel
theorem ddM_turnNow_47 : decode cM_turnNow 47 = .ok (.getfield 19, 3) := by decide +kernel
theorem ddM_turnNow_50 : decode cM_turnNow 50 = .ok (.iconst 1, 1) := by decide +kernel
theorem ddM_turnNow_51 : decode cM_turnNow 51 = .ok (.iaload, 1) := by decide +kernel
theorem ddM_turnNow_52 : decode cM_turnNow 52 = .ok (.if_icmp .ge 55, 3) := by decide +kernel
theorem ddM_turnNow_55 : decode cM_turnNow 55 = .ok (.aload_n 0, 1) := by decide +kernel
theorem ddM_turnNow_56 : decode cM_turnNow 56 = .ok (.iload_n 2, 1) := by decide +kernel
theorem ddM_turnNow_57 : decode cM_turnNow 57 = .ok (.iload_n 1, 1) := by decide +kernel
theorem ddM_turnNow_58 : decode cM_turnNow 58 = .ok (.invokevirtual 253, 3) := by decide +kernel
theorem ddM_turnNow_61 : decode cM_turnNow 61 = .ok (.ifCond .eq 19, 3) := by decide +kernel
theorem ddM_turnNow_64 : decode cM_turnNow 64 = .ok (.aload_n 0, 1) := by decide +kernel
theorem ddM_turnNow_65 : decode cM_turnNow 65 = .ok (.iload_n 2, 1) := by decide +kernel
theorem ddM_turnNow_66 : decode cM_turnNow 66 = .ok (.invokevirtual 201, 3) := by decide +kernel
theorem ddM_turnNow_69 : decode cM_turnNow 69 = .ok (.ifCond .ne 11, 3) := by decide +kernel
theorem ddM_turnNow_72 : decode cM_turnNow 72 = .ok (.aload_n 0, 1) := by decide +kernel
theorem ddM_turnNow_73 : decode cM_turnNow 73 = .ok (.iload_n 2, 1) := by decide +kernel
theorem ddM_turnNow_74 : decode cM_turnNow 74 = .ok (.invokevirtual 204, 3) := by decide +kernel
theorem ddM_turnNow_77 : decode cM_turnNow 77 = .ok (.goto 24, 3) := by decide +kernel
theorem ddM_turnNow_80 : decode cM_turnNow 80 = .ok (.aload_n 0, 1) := by decide +kernel
theorem ddM_turnNow_81 : decode cM_turnNow 81 = .ok (.iload_n 2, 1) := by decide +kernel
theorem ddM_turnNow_82 : decode cM_turnNow 82 = .ok (.iload_n 1, 1) := by decide +kernel
theorem ddM_turnNow_83 : decode cM_turnNow 83 = .ok (.invokevirtual 253, 3) := by decide +kernel
theorem ddM_turnNow_86 : decode cM_turnNow 86 = .ok (.ifCond .eq 15, 3) := by decide +kernel
theorem ddM_turnNow_89 : decode cM_turnNow 89 = .ok (.aload_n 0, 1) := by decide +kernel
theorem ddM_turnNow_90 : decode cM_turnNow 90 = .ok (.iload_n 2, 1) := by decide +kernel
theorem ddM_turnNow_91 : decode cM_turnNow 91 = .ok (.invokevirtual 198, 3) := by decide +kernel
theorem ddM_turnNow_94 : decode cM_turnNow 94 = .ok (.aload_n 0, 1) := by decide +kernel
theorem ddM_turnNow_95 : decode cM_turnNow 95 = .ok (.iload_n 2, 1) := by decide +kernel
theorem ddM_turnNow_96 : decode cM_turnNow 96 = .ok (.iconst 0, 1) := by decide +kernel
theorem ddM_turnNow_97 : decode cM_turnNow 97 = .ok (.iconst 3, 1) := by decide +kernel
theorem ddM_turnNow_98 : decode cM_turnNow 98 = .ok (.invokevirtual 185, 3) := by decide +kernel
theorem ddM_turnNow_101 : decode cM_turnNow 101 = .ok (.iinc 2 1, 3) := by decide +kernel
theorem ddM_turnNow_104 : decode cM_turnNow 104 = .ok (.goto (-59), 3) := by decide +kernel
theorem ddM_turnNow_107 : decode cM_turnNow 107 = .ok (.return_, 1) := by decide +kernel
set_option maxHeartbeats 2000000 in
theorem zBM_turnNow_101 {G : GXM} {X : CxM} (hG : GokM G) (C : CoM G X cM_turnNow "HomeFreedModel") (N : mLM X = 3) {d : Nat} (hD : dpM X = d) (hd : 6 ≤ d) {v0 : Nat} {v1 : Int32} {K : Nat → Int32 → Int32 → Mem → Option ((Mem))} {q : (Mem)} (hK : ∀ (v2 : Int32) (M : Mem), K v0 v1 v2 M = some q → ZM G X 45 [(0, .ref v0), (1, .int v1), (2, .int v2)] [] M 0 0) (hr : ∀ r : Mem, q =  r → EnM G X none none r 0 0) {v2 : Int32} {M : Mem} (h : BM_turnNow_101 K v0 v1 v2 M = some q) : ZM G X 101 [(0, .ref v0), (1, .int v1), (2, .int v2)] [] M 0 0 := by
  unfold BM_turnNow_101 at h
  refine zz_iinc (v := v2 + 1) (L1 := [(2, .int (v2 + 1)), (0, .ref v0), (1, .int v1)]) C 2 ddM_turnNow_101 rfl rfl N (by decide) rfl ?_
  refine zz_goto (tgt := 45) C ddM_turnNow_104 rfl ?_
  refine zz_loc (L1 := [(0, .ref v0), (1, .int v1), (2, .int (v2 + 1))]) [1, 2, 0] rfl ?_
  exact hK _ _ h
set_option maxHeartbeats 2000000 in
theorem zBM_turnNow_80 {G : GXM} {X : CxM} (hG : GokM G) (C : CoM G X cM_turnNow "HomeFreedModel") (N : mLM X = 3) {d : Nat} (hD : dpM X = d) (hd : 6 ≤ d) {v0 : Nat} {v1 : Int32} {K : Nat → Int32 → Int32 → Mem → Option ((Mem))} {q : (Mem)} (hK : ∀ (v2 : Int32) (M : Mem), K v0 v1 v2 M = some q → ZM G X 45 [(0, .ref v0), (1, .int v1), (2, .int v2)] [] M 0 0) (hr : ∀ r : Mem, q =  r → EnM G X none none r 0 0) {v2 : Int32} {M : Mem} (h : BM_turnNow_80 K v0 v1 v2 M = some q) : ZM G X 80 [(0, .ref v0), (1, .int v1), (2, .int v2)] [] M 0 0 := by
  unfold BM_turnNow_80 at h
  refine zz_aload_n C 0 ddM_turnNow_80 rfl rfl ?_
  refine zz_iload_n C 2 ddM_turnNow_81 rfl rfl ?_
  refine zz_iload_n C 1 ddM_turnNow_82 rfl rfl ?_
  obtain ⟨h2, h⟩ := gdN h
  obtain ⟨q1, hq1, h⟩ := bindN h
  refine zz_callV0 (As := [.int v2, .int v1]) C ddM_turnNow_83 wd_1417 my_M_isOf mv_M_isOf ⟨_, rfl, rfl⟩ (xM_isOf hG (d - 1) (by omega) hq1) (by omega) h2 rfl rfl (Nat.le_of_ble_eq_true rfl) ?_
  refine zz_if_eq (tgt := 101) C ddM_turnNow_86 rfl (fun hc => ?_) (fun hc => ?_)
  · replace h := iteT h hc
    exact zBM_turnNow_101 hG C N hD hd hK hr h
  · replace h := iteF h hc
    refine zz_aload_n C 0 ddM_turnNow_89 rfl rfl ?_
    refine zz_iload_n C 2 ddM_turnNow_90 rfl rfl ?_
    obtain ⟨h4, h⟩ := gdN h
    obtain ⟨q3, hq3, h⟩ := bindN h
    refine zz_callV0 (As := [.int v2]) C ddM_turnNow_91 wd_1543 my_M_leaveQueue mv_M_leaveQueue ⟨_, rfl, rfl⟩ (xM_leaveQueue hG (d - 1) (by omega) hq3) (by omega) h4 rfl rfl (Nat.le_of_ble_eq_true rfl) ?_
    refine zz_aload_n C 0 ddM_turnNow_94 rfl rfl ?_
    refine zz_iload_n C 2 ddM_turnNow_95 rfl rfl ?_
    refine zz_iconst (v := 0) C ddM_turnNow_96 (by decide) ?_
    refine zz_iconst (v := 3) C ddM_turnNow_97 (by decide) ?_
    obtain ⟨h6, h⟩ := gdN h
    obtain ⟨q5, hq5, h⟩ := bindN h
    refine zz_callV0 (As := [.int v2, .int 0, .int 3]) C ddM_turnNow_98 wd_1511 my_M_set mv_M_set ⟨_, rfl, rfl⟩ (xM_set hG (d - 1) (by omega) hq5) (by omega) h6 rfl rfl (Nat.le_of_ble_eq_true rfl) ?_
    exact zBM_turnNow_101 hG C N hD hd hK hr h
set_option maxHeartbeats 2000000 in
theorem zBM_turnNow_45 {G : GXM} {X : CxM} (hG : GokM G) (C : CoM G X cM_turnNow "HomeFreedModel") (N : mLM X = 3) {d : Nat} (hD : dpM X = d) (hd : 6 ≤ d) {v0 : Nat} {v1 : Int32} {K : Nat → Int32 → Int32 → Mem → Option ((Mem))} {q : (Mem)} (hK : ∀ (v2 : Int32) (M : Mem), K v0 v1 v2 M = some q → ZM G X 45 [(0, .ref v0), (1, .int v1), (2, .int v2)] [] M 0 0) (hr : ∀ r : Mem, q =  r → EnM G X none none r 0 0) {v2 : Int32} {M : Mem} (h : BM_turnNow_45 K v0 v1 v2 M = some q) : ZM G X 45 [(0, .ref v0), (1, .int v1), (2, .int v2)] [] M 0 0 := by
  unfold BM_turnNow_45 at h
  refine zz_iload_n C 2 ddM_turnNow_45 rfl rfl ?_
  refine zz_aload_n C 0 ddM_turnNow_46 rfl rfl ?_
  obtain ⟨h1, h⟩ := gdN h
  obtain ⟨h2, h⟩ := gdN h
  refine zz_getr C ddM_turnNow_47 fl_M_19 rfl h1 (of_decide_eq_true h2) ?_
  refine zz_iconst (v := 1) C ddM_turnNow_50 (by decide) ?_
  obtain ⟨h3, h⟩ := gdN h
  refine zz_iaload C ddM_turnNow_51 h3 ?_
  refine zz_icmp_ge (tgt := 107) C ddM_turnNow_52 rfl (fun hc => ?_) (fun hc => ?_)
  · replace h := iteT h hc
    exact zz_vret C (hr _ (Option.some.inj h).symm) ddM_turnNow_107
  · replace h := iteF h hc
    refine zz_aload_n C 0 ddM_turnNow_55 rfl rfl ?_
    refine zz_iload_n C 2 ddM_turnNow_56 rfl rfl ?_
    refine zz_iload_n C 1 ddM_turnNow_57 rfl rfl ?_
    obtain ⟨q4, hq4, h⟩ := bindN h
    refine zz_callV0 (As := [.int v2, .int v1]) C ddM_turnNow_58 wd_1417 my_M_isOf mv_M_isOf ⟨_, rfl, rfl⟩ (xM_isOf hG (d - 1) (by omega) hq4) (by omega) h1 rfl rfl (Nat.le_of_ble_eq_true rfl) ?_
    refine zz_if_eq (tgt := 80) C ddM_turnNow_61 rfl (fun hc => ?_) (fun hc => ?_)
    · replace h := iteT h hc
      exact zBM_turnNow_80 hG C N hD hd hK hr h
    · replace h := iteF h hc
      refine zz_aload_n C 0 ddM_turnNow_64 rfl rfl ?_
      refine zz_iload_n C 2 ddM_turnNow_65 rfl rfl ?_
      obtain ⟨h6, h⟩ := gdN h
      obtain ⟨q5, hq5, h⟩ := bindN h
      refine zz_callV0 (As := [.int v2]) C ddM_turnNow_66 wd_1386 my_M_usedOf mv_M_usedOf ⟨_, rfl, rfl⟩ (xM_usedOf hG (d - 1) (by omega) hq5) (by omega) h6 rfl rfl (Nat.le_of_ble_eq_true rfl) ?_
      refine zz_if_ne (tgt := 80) C ddM_turnNow_69 rfl (fun hc => ?_) (fun hc => ?_)
      · replace h := iteF h hc
        exact zBM_turnNow_80 hG C N hD hd hK hr h
      · replace h := iteT h hc
        refine zz_aload_n C 0 ddM_turnNow_72 rfl rfl ?_
        refine zz_iload_n C 2 ddM_turnNow_73 rfl rfl ?_
        obtain ⟨h8, h⟩ := gdN h
        obtain ⟨q7, hq7, h⟩ := bindN h
        refine zz_callV0 (As := [.int v2]) C ddM_turnNow_74 wd_1539 my_M_makeEmpty mv_M_makeEmpty ⟨_, rfl, rfl⟩ (xM_makeEmpty hG (d - 1) (by omega) hq7) (by omega) h8 rfl rfl (Nat.le_of_ble_eq_true rfl) ?_
        refine zz_goto (tgt := 101) C ddM_turnNow_77 rfl ?_
        exact zBM_turnNow_101 hG C N hD hd hK hr h
set_option maxHeartbeats 2000000 in
theorem zLM_turnNow_45 {G : GXM} {X : CxM} (hG : GokM G) (C : CoM G X cM_turnNow "HomeFreedModel") (N : mLM X = 3) {d : Nat} (hD : dpM X = d) (hd : 6 ≤ d) {v0 : Nat} {v1 : Int32} {q : (Mem)} : ∀ (f : Nat) (v2 : Int32) (M : Mem), LM_turnNow_45 f v0 v1 v2 M = some q → (hr : ∀ r : Mem, q =  r → EnM G X none none r 0 0) → ZM G X 45 [(0, .ref v0), (1, .int v1), (2, .int v2)] [] M 0 0 := by
  intro f
  induction f with
  | zero => intro v2 M h; cases h
  | succ f ih =>
    intro v2 M h hr
    exact zBM_turnNow_45 hG C N hD hd (K := LM_turnNow_45 f) (q := q) (fun v2 M h => ih v2 M h hr) hr h
set_option maxHeartbeats 2000000 in
theorem xM_turnNow {G : GXM} {l : Launch} (hG : GokM G) (d : Nat) (hd : 6 ≤ d) {v0 : Nat} {v1 : Int32} {M : Mem} {q : Mem} (h : fM_turnNow v0 v1 M = some q) : ExM G l d 0 0 yM_turnNow cM_turnNow 3 none [.ref v0, .int v1] M none q := by
  refine ex_of hG (by decide +kernel) (Nat.le_of_ble_eq_true rfl) ?_
  intro X hl C E N hD hn
  show ZM G X 0 [(0, .ref v0), (1, .int v1)] [] M 0 0
  unfold fM_turnNow at h
  refine zz_aload_n C 0 ddM_turnNow_0 rfl rfl ?_
  obtain ⟨h1, h⟩ := gdN h
  obtain ⟨h2, h⟩ := gdN h
  refine zz_getr C ddM_turnNow_1 fl_M_31 rfl h1 (of_decide_eq_true h2) ?_
  refine zz_sipush (v := 3704) C ddM_turnNow_4 (by decide) ?_
  refine zz_iload_n C 1 ddM_turnNow_7 rfl rfl ?_
  refine zz_iadd C ddM_turnNow_8 ?_
  refine zz_iconst (v := 1) C ddM_turnNow_9 (by decide) ?_
  refine zz_aload_n C 0 ddM_turnNow_10 rfl rfl ?_
  refine zz_getr C ddM_turnNow_11 fl_M_31 rfl h1 (of_decide_eq_true h2) ?_
  refine zz_sipush (v := 3704) C ddM_turnNow_14 (by decide) ?_
  refine zz_iload_n C 1 ddM_turnNow_17 rfl rfl ?_
  refine zz_iadd C ddM_turnNow_18 ?_
  obtain ⟨h3, h⟩ := gdN h
  refine zz_iaload C ddM_turnNow_19 h3 ?_
  refine zz_isub C ddM_turnNow_20 ?_
  obtain ⟨h4, h⟩ := gdN h
  refine zz_iastore C ddM_turnNow_21 h4 ?_
  refine zz_aload_n C 0 ddM_turnNow_22 rfl rfl ?_
  refine zz_getr C ddM_turnNow_23 fl_M_31 rfl h1 (of_decide_eq_true h2) ?_
  refine zz_sipush (v := 3704) C ddM_turnNow_26 (by decide) ?_
  refine zz_iload_n C 1 ddM_turnNow_29 rfl rfl ?_
  refine zz_iadd C ddM_turnNow_30 ?_
  refine zz_iaload C ddM_turnNow_31 h3 ?_
  refine zz_iconst (v := 1) C ddM_turnNow_32 (by decide) ?_
  refine zz_icmp_ne (tgt := 37) C ddM_turnNow_33 rfl (fun hc => ?_) (fun hc => ?_)
  · replace h := iteF h hc
    refine zz_aload_n C 0 ddM_turnNow_37 rfl rfl ?_
    refine zz_iload_n C 1 ddM_turnNow_38 rfl rfl ?_
    obtain ⟨q5, hq5, h⟩ := bindN h
    refine zz_callV0 (As := [.int v1]) C ddM_turnNow_39 wd_1531 my_M_sendNow mv_M_sendNow ⟨_, rfl, rfl⟩ (xM_sendNow hG (d - 1) (by omega) hq5) (by omega) h1 rfl rfl (Nat.le_of_ble_eq_true rfl) ?_
    refine zz_pop C ddM_turnNow_42 rfl ?_
    refine zz_iconst (v := 0) C ddM_turnNow_43 (by decide) ?_
    refine zz_istore_n (L1 := [(2, .int 0), (0, .ref v0), (1, .int v1)]) C ddM_turnNow_44 rfl N (by decide) rfl ?_
    refine zz_loc (L1 := [(0, .ref v0), (1, .int v1), (2, .int 0)]) [1, 2, 0] rfl ?_
    obtain ⟨q6, hq6, h⟩ := bindN h
    refine zLM_turnNow_45 hG C N hD hd 1000000 _ _ hq6 ?_
    · intro r7 eq6; replace eq6 := eq6.symm; subst eq6
      obtain rfl := Option.some.inj h
      exact E
  · replace h := iteT h hc
    obtain rfl := Option.some.inj h
    exact zz_vret C E ddM_turnNow_36
theorem ddM_turn_0 : decode cM_turn 0 = .ok (.aload_n 0, 1) := by decide +kernel
theorem ddM_turn_1 : decode cM_turn 1 = .ok (.aload_n 0, 1) := by decide +kernel
theorem ddM_turn_2 : decode cM_turn 2 = .ok (.iload_n 1, 1) := by decide +kernel
theorem ddM_turn_3 : decode cM_turn 3 = .ok (.invokevirtual 163, 3) := by decide +kernel
theorem ddM_turn_6 : decode cM_turn 6 = .ok (.ifCond .ne 7, 3) := by decide +kernel
theorem ddM_turn_9 : decode cM_turn 9 = .ok (.iconst 0, 1) := by decide +kernel
theorem ddM_turn_10 : decode cM_turn 10 = .ok (.goto 4, 3) := by decide +kernel
theorem ddM_turn_13 : decode cM_turn 13 = .ok (.iconst (-1), 1) := by decide +kernel
theorem ddM_turn_14 : decode cM_turn 14 = .ok (.invokevirtual 315, 3) := by decide +kernel
theorem ddM_turn_17 : decode cM_turn 17 = .ok (.ifCond .eq 5, 3) := by decide +kernel
theorem ddM_turn_20 : decode cM_turn 20 = .ok (.iconst (-1), 1) := by decide +kernel
theorem ddM_turn_21 : decode cM_turn 21 = .ok (.ireturn, 1) := by decide +kernel
theorem ddM_turn_22 : decode cM_turn 22 = .ok (.aload_n 0, 1) := by decide +kernel
theorem ddM_turn_23 : decode cM_turn 23 = .ok (.invokevirtual 318, 3) := by decide +kernel
theorem ddM_turn_26 : decode cM_turn 26 = .ok (.aload_n 0, 1) := by decide +kernel
theorem ddM_turn_27 : decode cM_turn 27 = .ok (.iload_n 1, 1) := by decide +kernel
theorem ddM_turn_28 : decode cM_turn 28 = .ok (.invokevirtual 285, 3) := by decide +kernel
theorem ddM_turn_31 : decode cM_turn 31 = .ok (.aload_n 0, 1) := by decide +kernel
theorem ddM_turn_32 : decode cM_turn 32 = .ok (.getfield 31, 3) := by decide +kernel
theorem ddM_turn_35 : decode cM_turn 35 = .ok (.sipush 3704, 3) := by decide +kernel
theorem ddM_turn_38 : decode cM_turn 38 = .ok (.iload_n 1, 1) := by decide +kernel
theorem ddM_turn_39 : decode cM_turn 39 = .ok (.iadd, 1) := by decide +kernel
theorem ddM_turn_40 : decode cM_turn 40 = .ok (.iaload, 1) := by decide +kernel
theorem ddM_turn_41 : decode cM_turn 41 = .ok (.ireturn, 1) := by decide +kernel
set_option maxHeartbeats 2000000 in
theorem zBM_turn_14 {G : GXM} {X : CxM} (hG : GokM G) (C : CoM G X cM_turn "HomeFreedModel") (N : mLM X = 2) {d : Nat} (hD : dpM X = d) (hd : 7 ≤ d)  {q : Int32 × Mem} (E : EnM G X (some .int) (some (.int q.1)) q.2 0 0) {v0 : Nat} {v1 : Int32} {w0 : Nat} {w1 : Int32} {M : Mem} (h : BM_turn_14 v0 v1 w0 w1 M = some q) : ZM G X 14 [(0, .ref v0), (1, .int v1)] [.int w1, .ref w0] M 0 0 := by
  unfold BM_turn_14 at h
  obtain ⟨h2, h⟩ := gdN h
  obtain ⟨q1, hq1, h⟩ := bindN h
  refine zz_callV0 (As := [.int w1]) C ddM_turn_14 wd_1475 my_M_isRefused mv_M_isRefused ⟨_, rfl, rfl⟩ (xM_isRefused hG (d - 1) (by omega) hq1) (by omega) h2 rfl rfl (Nat.le_of_ble_eq_true rfl) ?_
  refine zz_if_eq (tgt := 22) C ddM_turn_17 rfl (fun hc => ?_) (fun hc => ?_)
  · replace h := iteT h hc
    refine zz_aload_n C 0 ddM_turn_22 rfl rfl ?_
    obtain ⟨h4, h⟩ := gdN h
    obtain ⟨q3, hq3, h⟩ := bindN h
    refine zz_callV0 (As := []) C ddM_turn_23 wd_1479 my_M_keep mv_M_keep ⟨_, rfl, rfl⟩ (xM_keep hG (d - 1) (by omega) hq3) (by omega) h4 rfl rfl (Nat.le_of_ble_eq_true rfl) ?_
    refine zz_aload_n C 0 ddM_turn_26 rfl rfl ?_
    refine zz_iload_n C 1 ddM_turn_27 rfl rfl ?_
    obtain ⟨h6, h⟩ := gdN h
    obtain ⟨q5, hq5, h⟩ := bindN h
    refine zz_callV0 (As := [.int v1]) C ddM_turn_28 wd_1579 my_M_turnNow mv_M_turnNow ⟨_, rfl, rfl⟩ (xM_turnNow hG (d - 1) (by omega) hq5) (by omega) h6 rfl rfl (Nat.le_of_ble_eq_true rfl) ?_
    refine zz_aload_n C 0 ddM_turn_31 rfl rfl ?_
    obtain ⟨h7, h⟩ := gdN h
    obtain ⟨h8, h⟩ := gdN h
    refine zz_getr C ddM_turn_32 fl_M_31 rfl h7 (of_decide_eq_true h8) ?_
    refine zz_sipush (v := 3704) C ddM_turn_35 (by decide) ?_
    refine zz_iload_n C 1 ddM_turn_38 rfl rfl ?_
    refine zz_iadd C ddM_turn_39 ?_
    obtain ⟨h9, h⟩ := gdN h
    refine zz_iaload C ddM_turn_40 h9 ?_
    obtain rfl := Option.some.inj h
    exact zz_iret C E ddM_turn_41
  · replace h := iteF h hc
    refine zz_iconst (v := (-1)) C ddM_turn_20 (by decide) ?_
    obtain rfl := Option.some.inj h
    exact zz_iret C E ddM_turn_21
set_option maxHeartbeats 2000000 in
theorem xM_turn {G : GXM} {l : Launch} (hG : GokM G) (d : Nat) (hd : 7 ≤ d) {v0 : Nat} {v1 : Int32} {M : Mem} {q : Int32 × Mem} (h : fM_turn v0 v1 M = some q) : ExM G l d 0 0 yM_turn cM_turn 2 (some .int) [.ref v0, .int v1] M (some (.int q.1)) q.2 := by
  refine ex_of hG (by decide +kernel) (Nat.le_of_ble_eq_true rfl) ?_
  intro X hl C E N hD hn
  show ZM G X 0 [(0, .ref v0), (1, .int v1)] [] M 0 0
  unfold fM_turn at h
  refine zz_aload_n C 0 ddM_turn_0 rfl rfl ?_
  refine zz_aload_n C 0 ddM_turn_1 rfl rfl ?_
  refine zz_iload_n C 1 ddM_turn_2 rfl rfl ?_
  obtain ⟨h2, h⟩ := gdN h
  obtain ⟨q1, hq1, h⟩ := bindN h
  refine zz_callV0 (As := [.int v1]) C ddM_turn_3 wd_1409 my_M_isThread mv_M_isThread ⟨_, rfl, rfl⟩ (xM_isThread hG (d - 1) (by omega) hq1) (by omega) h2 rfl rfl (Nat.le_of_ble_eq_true rfl) ?_
  refine zz_if_ne (tgt := 13) C ddM_turn_6 rfl (fun hc => ?_) (fun hc => ?_)
  · replace h := iteF h hc
    refine zz_iconst (v := (-1)) C ddM_turn_13 (by decide) ?_
    exact zBM_turn_14 hG C N hD hd E h
  · replace h := iteT h hc
    refine zz_iconst (v := 0) C ddM_turn_9 (by decide) ?_
    refine zz_goto (tgt := 14) C ddM_turn_10 rfl ?_
    exact zBM_turn_14 hG C N hD hd E h
theorem ddM_isScript_0 : decode cM_isScript 0 = .ok (.aload_n 0, 1) := by decide +kernel
theorem ddM_isScript_1 : decode cM_isScript 1 = .ok (.invokevirtual 160, 3) := by decide +kernel
theorem ddM_isScript_4 : decode cM_isScript 4 = .ok (.ifCond .eq 21, 3) := by decide +kernel
theorem ddM_isScript_7 : decode cM_isScript 7 = .ok (.iload_n 1, 1) := by decide +kernel
theorem ddM_isScript_8 : decode cM_isScript 8 = .ok (.iconst 0, 1) := by decide +kernel
theorem ddM_isScript_9 : decode cM_isScript 9 = .ok (.aload_n 0, 1) := by decide +kernel
theorem ddM_isScript_10 : decode cM_isScript 10 = .ok (.getfield 157, 3) := by decide +kernel
theorem ddM_isScript_13 : decode cM_isScript 13 = .ok (.iconst 1, 1) := by decide +kernel
theorem ddM_isScript_14 : decode cM_isScript 14 = .ok (.isub, 1) := by decide +kernel
theorem ddM_isScript_15 : decode cM_isScript 15 = .ok (.invokestatic 75, 3) := by decide +kernel
theorem ddM_isScript_18 : decode cM_isScript 18 = .ok (.ifCond .eq 7, 3) := by decide +kernel
theorem ddM_isScript_21 : decode cM_isScript 21 = .ok (.iconst 1, 1) := by decide +kernel
theorem ddM_isScript_22 : decode cM_isScript 22 = .ok (.goto 4, 3) := by decide +kernel
theorem ddM_isScript_25 : decode cM_isScript 25 = .ok (.iconst 0, 1) := by decide +kernel
theorem ddM_isScript_26 : decode cM_isScript 26 = .ok (.ireturn, 1) := by decide +kernel
set_option maxHeartbeats 2000000 in
theorem zBM_isScript_26 {G : GXM} {X : CxM} (hG : GokM G) (C : CoM G X cM_isScript "HomeFreedModel") (N : mLM X = 2) {d : Nat} (hD : dpM X = d) (hd : 1 ≤ d)  {q : Int32 × Mem} (E : EnM G X (some .boolean) (some (.int q.1)) q.2 0 0) {w0 : Int32} {M : Mem} (h : BM_isScript_26 w0 M = some q) : ZM G X 26 [] [.int w0] M 0 0 := by
  unfold BM_isScript_26 at h
  obtain ⟨h1, h⟩ := gdN h
  obtain rfl := Option.some.inj h
  exact zz_zret C (of_decide_eq_true h1) E ddM_isScript_26
set_option maxHeartbeats 2000000 in
theorem zBM_isScript_25 {G : GXM} {X : CxM} (hG : GokM G) (C : CoM G X cM_isScript "HomeFreedModel") (N : mLM X = 2) {d : Nat} (hD : dpM X = d) (hd : 1 ≤ d)  {q : Int32 × Mem} (E : EnM G X (some .boolean) (some (.int q.1)) q.2 0 0) {M : Mem} (h : BM_isScript_25 M = some q) : ZM G X 25 [] [] M 0 0 := by
  unfold BM_isScript_25 at h
  refine zz_iconst (v := 0) C ddM_isScript_25 (by decide) ?_
  exact zBM_isScript_26 hG C N hD hd E h
set_option maxHeartbeats 2000000 in
theorem xM_isScript {G : GXM} {l : Launch} (hG : GokM G) (d : Nat) (hd : 1 ≤ d) {v0 : Nat} {v1 : Int32} {M : Mem} {q : Int32 × Mem} (h : fM_isScript v0 v1 M = some q) : ExM G l d 0 0 yM_isScript cM_isScript 2 (some .boolean) [.ref v0, .int v1] M (some (.int q.1)) q.2 := by
  refine ex_of hG (by decide +kernel) (Nat.le_of_ble_eq_true rfl) ?_
  intro X hl C E N hD hn
  show ZM G X 0 [(0, .ref v0), (1, .int v1)] [] M 0 0
  unfold fM_isScript at h
  refine zz_aload_n C 0 ddM_isScript_0 rfl rfl ?_
  obtain ⟨h2, h⟩ := gdN h
  obtain ⟨q1, hq1, h⟩ := bindN h
  refine zz_callV0 (As := []) C ddM_isScript_1 wd_1362 my_M_isArena mv_M_isArena ⟨_, rfl, rfl⟩ (xM_isArena hG (d - 1) (by omega) hq1) (by omega) h2 rfl rfl (Nat.le_of_ble_eq_true rfl) ?_
  refine zz_if_eq (tgt := 25) C ddM_isScript_4 rfl (fun hc => ?_) (fun hc => ?_)
  · replace h := iteT h hc
    refine zz_loc (L1 := []) [] rfl ?_
    exact zBM_isScript_25 hG C N hD hd E h
  · replace h := iteF h hc
    refine zz_iload_n C 1 ddM_isScript_7 rfl rfl ?_
    refine zz_iconst (v := 0) C ddM_isScript_8 (by decide) ?_
    refine zz_aload_n C 0 ddM_isScript_9 rfl rfl ?_
    obtain ⟨h3, h⟩ := gdN h
    refine zz_geti C ddM_isScript_10 fl_M_157 rfl h3 ?_
    refine zz_iconst (v := 1) C ddM_isScript_13 (by decide) ?_
    refine zz_isub C ddM_isScript_14 ?_
    obtain ⟨q4, hq4, h⟩ := bindN h
    refine zz_callS0 (As := [.int v1, .int 0, .int ((giM q1.2 v0 13) - 1)]) C ddM_isScript_15 wd_1289 my_M_in mv_M_in (xM_in hG (d - 1) (by omega) hq4) (by omega) rfl rfl (Nat.le_of_ble_eq_true rfl) ?_
    refine zz_if_eq (tgt := 25) C ddM_isScript_18 rfl (fun hc => ?_) (fun hc => ?_)
    · replace h := iteT h hc
      refine zz_loc (L1 := []) [] rfl ?_
      exact zBM_isScript_25 hG C N hD hd E h
    · replace h := iteF h hc
      refine zz_iconst (v := 1) C ddM_isScript_21 (by decide) ?_
      refine zz_goto (tgt := 26) C ddM_isScript_22 rfl ?_
      refine zz_loc (L1 := []) [] rfl ?_
      exact zBM_isScript_26 hG C N hD hd E h
theorem ddM_stepOf_0 : decode cM_stepOf 0 = .ok (.aload_n 0, 1) := by decide +kernel
theorem ddM_stepOf_1 : decode cM_stepOf 1 = .ok (.getfield 25, 3) := by decide +kernel
theorem ddM_stepOf_4 : decode cM_stepOf 4 = .ok (.iconst 3, 1) := by decide +kernel
theorem ddM_stepOf_5 : decode cM_stepOf 5 = .ok (.bipush 24, 2) := by decide +kernel
theorem ddM_stepOf_7 : decode cM_stepOf 7 = .ok (.iload_n 1, 1) := by decide +kernel
theorem ddM_stepOf_8 : decode cM_stepOf 8 = .ok (.imul, 1) := by decide +kernel
theorem ddM_stepOf_9 : decode cM_stepOf 9 = .ok (.iload_n 2, 1) := by decide +kernel
theorem ddM_stepOf_10 : decode cM_stepOf 10 = .ok (.iadd, 1) := by decide +kernel
theorem ddM_stepOf_11 : decode cM_stepOf 11 = .ok (.imul, 1) := by decide +kernel
theorem ddM_stepOf_12 : decode cM_stepOf 12 = .ok (.iload_n 3, 1) := by decide +kernel
theorem ddM_stepOf_13 : decode cM_stepOf 13 = .ok (.iadd, 1) := by decide +kernel
theorem ddM_stepOf_14 : decode cM_stepOf 14 = .ok (.iaload, 1) := by decide +kernel
theorem ddM_stepOf_15 : decode cM_stepOf 15 = .ok (.ireturn, 1) := by decide +kernel
set_option maxHeartbeats 2000000 in
theorem xM_stepOf {G : GXM} {l : Launch} (hG : GokM G) (d : Nat) (hd : 0 ≤ d) {v0 : Nat} {v1 : Int32} {v2 : Int32} {v3 : Int32} {M : Mem} {q : Int32 × Mem} (h : fM_stepOf v0 v1 v2 v3 M = some q) : ExM G l d 0 0 yM_stepOf cM_stepOf 4 (some .int) [.ref v0, .int v1, .int v2, .int v3] M (some (.int q.1)) q.2 := by
  refine ex_of hG (by decide +kernel) (Nat.le_of_ble_eq_true rfl) ?_
  intro X hl C E N hD hn
  show ZM G X 0 [(0, .ref v0), (1, .int v1), (2, .int v2), (3, .int v3)] [] M 0 0
  unfold fM_stepOf at h
  refine zz_aload_n C 0 ddM_stepOf_0 rfl rfl ?_
  obtain ⟨h1, h⟩ := gdN h
  obtain ⟨h2, h⟩ := gdN h
  refine zz_getr C ddM_stepOf_1 fl_M_25 rfl h1 (of_decide_eq_true h2) ?_
  refine zz_iconst (v := 3) C ddM_stepOf_4 (by decide) ?_
  refine zz_bipush (v := 24) C ddM_stepOf_5 (by decide) ?_
  refine zz_iload_n C 1 ddM_stepOf_7 rfl rfl ?_
  refine zz_imul C ddM_stepOf_8 ?_
  refine zz_iload_n C 2 ddM_stepOf_9 rfl rfl ?_
  refine zz_iadd C ddM_stepOf_10 ?_
  refine zz_imul C ddM_stepOf_11 ?_
  refine zz_iload_n C 3 ddM_stepOf_12 rfl rfl ?_
  refine zz_iadd C ddM_stepOf_13 ?_
  obtain ⟨h3, h⟩ := gdN h
  refine zz_iaload C ddM_stepOf_14 h3 ?_
  obtain rfl := Option.some.inj h
  exact zz_iret C E ddM_stepOf_15
theorem ddM_canStep_0 : decode cM_canStep 0 = .ok (.aload_n 0, 1) := by decide +kernel
theorem ddM_canStep_1 : decode cM_canStep 1 = .ok (.iload_n 1, 1) := by decide +kernel
theorem ddM_canStep_2 : decode cM_canStep 2 = .ok (.iload_n 2, 1) := by decide +kernel
theorem ddM_canStep_3 : decode cM_canStep 3 = .ok (.iconst 1, 1) := by decide +kernel
theorem ddM_canStep_4 : decode cM_canStep 4 = .ok (.invokevirtual 256, 3) := by decide +kernel
theorem ddM_canStep_7 : decode cM_canStep 7 = .ok (.istore 4, 2) := by decide +kernel
theorem ddM_canStep_9 : decode cM_canStep 9 = .ok (.aload_n 0, 1) := by decide +kernel
theorem ddM_canStep_10 : decode cM_canStep 10 = .ok (.iload_n 1, 1) := by decide +kernel
theorem ddM_canStep_11 : decode cM_canStep 11 = .ok (.iload_n 2, 1) := by decide +kernel
theorem ddM_canStep_12 : decode cM_canStep 12 = .ok (.iconst 2, 1) := by decide +kernel
theorem ddM_canStep_13 : decode cM_canStep 13 = .ok (.invokevirtual 256, 3) := by decide +kernel
theorem ddM_canStep_16 : decode cM_canStep 16 = .ok (.istore 5, 2) := by decide +kernel
theorem ddM_canStep_18 : decode cM_canStep 18 = .ok (.aload_n 0, 1) := by decide +kernel
theorem ddM_canStep_19 : decode cM_canStep 19 = .ok (.iload_n 1, 1) := by decide +kernel
theorem ddM_canStep_20 : decode cM_canStep 20 = .ok (.iload_n 2, 1) := by decide +kernel
theorem ddM_canStep_21 : decode cM_canStep 21 = .ok (.iconst 0, 1) := by decide +kernel
theorem ddM_canStep_22 : decode cM_canStep 22 = .ok (.invokevirtual 256, 3) := by decide +kernel
theorem ddM_canStep_25 : decode cM_canStep 25 = .ok (.tableswitch 130 0 4 #[35, 75, 116, 123, 123], 35) := by decide +kernel
theorem ddM_canStep_60 : decode cM_canStep 60 = .ok (.aload_n 0, 1) := by decide +kernel
theorem ddM_canStep_61 : decode cM_canStep 61 = .ok (.iload 4, 2) := by decide +kernel
theorem ddM_canStep_63 : decode cM_canStep 63 = .ok (.invokevirtual 260, 3) := by decide +kernel
theorem ddM_canStep_66 : decode cM_canStep 66 = .ok (.ifCond .eq 32, 3) := by decide +kernel
theorem ddM_canStep_69 : decode cM_canStep 69 = .ok (.aload_n 0, 1) := by decide +kernel
theorem ddM_canStep_70 : decode cM_canStep 70 = .ok (.iload 5, 2) := by decide +kernel
theorem ddM_canStep_72 : decode cM_canStep 72 = .ok (.invokevirtual 263, 3) := by decide +kernel
theorem ddM_canStep_75 : decode cM_canStep 75 = .ok (.iconst (-1), 1) := by decide +kernel
theorem ddM_canStep_76 : decode cM_canStep 76 = .ok (.if_icmp .eq 22, 3) := by decide +kernel
theorem ddM_canStep_79 : decode cM_canStep 79 = .ok (.aload_n 0, 1) := by decide +kernel
theorem ddM_canStep_80 : decode cM_canStep 80 = .ok (.iload 4, 2) := by decide +kernel
theorem ddM_canStep_82 : decode cM_canStep 82 = .ok (.aload_n 0, 1) := by decide +kernel
theorem ddM_canStep_83 : decode cM_canStep 83 = .ok (.iload 5, 2) := by decide +kernel
theorem ddM_canStep_85 : decode cM_canStep 85 = .ok (.invokevirtual 263, 3) := by decide +kernel
theorem ddM_canStep_88 : decode cM_canStep 88 = .ok (.invokevirtual 229, 3) := by decide +kernel
theorem ddM_canStep_91 : decode cM_canStep 91 = .ok (.ifCond .eq 7, 3) := by decide +kernel
theorem ddM_canStep_94 : decode cM_canStep 94 = .ok (.iconst 1, 1) := by decide +kernel
theorem ddM_canStep_95 : decode cM_canStep 95 = .ok (.goto 4, 3) := by decide +kernel
theorem ddM_canStep_98 : decode cM_canStep 98 = .ok (.iconst 0, 1) := by decide +kernel
theorem ddM_canStep_99 : decode cM_canStep 99 = .ok (.ireturn, 1) := by decide +kernel
theorem ddM_canStep_100 : decode cM_canStep 100 = .ok (.aload_n 0, 1) := by decide +kernel
theorem ddM_canStep_101 : decode cM_canStep 101 = .ok (.iload 4, 2) := by decide +kernel
theorem ddM_canStep_103 : decode cM_canStep 103 = .ok (.invokevirtual 260, 3) := by decide +kernel
theorem ddM_canStep_106 : decode cM_canStep 106 = .ok (.ifCond .eq 33, 3) := by decide +kernel
theorem ddM_canStep_109 : decode cM_canStep 109 = .ok (.iload 5, 2) := by decide +kernel
theorem ddM_canStep_111 : decode cM_canStep 111 = .ok (.aload_n 0, 1) := by decide +kernel
theorem ddM_canStep_112 : decode cM_canStep 112 = .ok (.getfield 50, 3) := by decide +kernel
theorem ddM_canStep_115 : decode cM_canStep 115 = .ok (.iload_n 3, 1) := by decide +kernel
theorem ddM_canStep_116 : decode cM_canStep 116 = .ok (.iaload, 1) := by decide +kernel
theorem ddM_canStep_117 : decode cM_canStep 117 = .ok (.if_icmp .ge 22, 3) := by decide +kernel
theorem ddM_canStep_120 : decode cM_canStep 120 = .ok (.aload_n 0, 1) := by decide +kernel
theorem ddM_canStep_121 : decode cM_canStep 121 = .ok (.getfield 46, 3) := by decide +kernel
theorem ddM_canStep_124 : decode cM_canStep 124 = .ok (.bipush 24, 2) := by decide +kernel
theorem ddM_canStep_126 : decode cM_canStep 126 = .ok (.iload_n 3, 1) := by decide +kernel
theorem ddM_canStep_127 : decode cM_canStep 127 = .ok (.imul, 1) := by decide +kernel
theorem ddM_canStep_128 : decode cM_canStep 128 = .ok (.iload 5, 2) := by decide +kernel
theorem ddM_canStep_130 : decode cM_canStep 130 = .ok (.iadd, 1) := by decide +kernel
theorem ddM_canStep_131 : decode cM_canStep 131 = .ok (.baload, 1) := by decide +kernel
theorem ddM_canStep_132 : decode cM_canStep 132 = .ok (.ifCond .eq 7, 3) := by decide +kernel
theorem ddM_canStep_135 : decode cM_canStep 135 = .ok (.iconst 1, 1) := by decide +kernel
theorem ddM_canStep_136 : decode cM_canStep 136 = .ok (.goto 4, 3) := by decide +kernel
theorem ddM_canStep_139 : decode cM_canStep 139 = .ok (.iconst 0, 1) := by decide +kernel
theorem ddM_canStep_140 : decode cM_canStep 140 = .ok (.ireturn, 1) := by decide +kernel
theorem ddM_canStep_141 : decode cM_canStep 141 = .ok (.aload_n 0, 1) := by decide +kernel
theorem ddM_canStep_142 : decode cM_canStep 142 = .ok (.iload 4, 2) := by decide +kernel
theorem ddM_canStep_144 : decode cM_canStep 144 = .ok (.invokevirtual 163, 3) := by decide +kernel
theorem ddM_canStep_147 : decode cM_canStep 147 = .ok (.ireturn, 1) := by decide +kernel
theorem ddM_canStep_148 : decode cM_canStep 148 = .ok (.aload_n 0, 1) := by decide +kernel
theorem ddM_canStep_149 : decode cM_canStep 149 = .ok (.iload 4, 2) := by decide +kernel
theorem ddM_canStep_151 : decode cM_canStep 151 = .ok (.invokevirtual 260, 3) := by decide +kernel
theorem ddM_canStep_154 : decode cM_canStep 154 = .ok (.ireturn, 1) := by decide +kernel
theorem ddM_canStep_155 : decode cM_canStep 155 = .ok (.iconst 1, 1) := by decide +kernel
theorem ddM_canStep_156 : decode cM_canStep 156 = .ok (.ireturn, 1) := by decide +kernel
set_option maxHeartbeats 2000000 in
theorem zBM_canStep_140 {G : GXM} {X : CxM} (hG : GokM G) (C : CoM G X cM_canStep "HomeFreedModel") (N : mLM X = 6) {d : Nat} (hD : dpM X = d) (hd : 4 ≤ d)  {q : Int32 × Mem} (E : EnM G X (some .boolean) (some (.int q.1)) q.2 0 0) {w0 : Int32} {M : Mem} (h : BM_canStep_140 w0 M = some q) : ZM G X 140 [] [.int w0] M 0 0 := by
  unfold BM_canStep_140 at h
  obtain ⟨h1, h⟩ := gdN h
  obtain rfl := Option.some.inj h
  exact zz_zret C (of_decide_eq_true h1) E ddM_canStep_140
set_option maxHeartbeats 2000000 in
theorem zBM_canStep_139 {G : GXM} {X : CxM} (hG : GokM G) (C : CoM G X cM_canStep "HomeFreedModel") (N : mLM X = 6) {d : Nat} (hD : dpM X = d) (hd : 4 ≤ d)  {q : Int32 × Mem} (E : EnM G X (some .boolean) (some (.int q.1)) q.2 0 0) {M : Mem} (h : BM_canStep_139 M = some q) : ZM G X 139 [] [] M 0 0 := by
  unfold BM_canStep_139 at h
  refine zz_iconst (v := 0) C ddM_canStep_139 (by decide) ?_
  exact zBM_canStep_140 hG C N hD hd E h
set_option maxHeartbeats 2000000 in
theorem zBM_canStep_99 {G : GXM} {X : CxM} (hG : GokM G) (C : CoM G X cM_canStep "HomeFreedModel") (N : mLM X = 6) {d : Nat} (hD : dpM X = d) (hd : 4 ≤ d)  {q : Int32 × Mem} (E : EnM G X (some .boolean) (some (.int q.1)) q.2 0 0) {w0 : Int32} {M : Mem} (h : BM_canStep_99 w0 M = some q) : ZM G X 99 [] [.int w0] M 0 0 := by
  unfold BM_canStep_99 at h
  obtain ⟨h1, h⟩ := gdN h
  obtain rfl := Option.some.inj h
  exact zz_zret C (of_decide_eq_true h1) E ddM_canStep_99
set_option maxHeartbeats 2000000 in
theorem zBM_canStep_98 {G : GXM} {X : CxM} (hG : GokM G) (C : CoM G X cM_canStep "HomeFreedModel") (N : mLM X = 6) {d : Nat} (hD : dpM X = d) (hd : 4 ≤ d)  {q : Int32 × Mem} (E : EnM G X (some .boolean) (some (.int q.1)) q.2 0 0) {M : Mem} (h : BM_canStep_98 M = some q) : ZM G X 98 [] [] M 0 0 := by
  unfold BM_canStep_98 at h
  refine zz_iconst (v := 0) C ddM_canStep_98 (by decide) ?_
  exact zBM_canStep_99 hG C N hD hd E h
set_option maxHeartbeats 2000000 in
theorem xM_canStep {G : GXM} {l : Launch} (hG : GokM G) (d : Nat) (hd : 4 ≤ d) {v0 : Nat} {v1 : Int32} {v2 : Int32} {v3 : Int32} {M : Mem} {q : Int32 × Mem} (h : fM_canStep v0 v1 v2 v3 M = some q) : ExM G l d 0 0 yM_canStep cM_canStep 6 (some .boolean) [.ref v0, .int v1, .int v2, .int v3] M (some (.int q.1)) q.2 := by
  refine ex_of hG (by decide +kernel) (Nat.le_of_ble_eq_true rfl) ?_
  intro X hl C E N hD hn
  show ZM G X 0 [(0, .ref v0), (1, .int v1), (2, .int v2), (3, .int v3)] [] M 0 0
  unfold fM_canStep at h
  refine zz_aload_n C 0 ddM_canStep_0 rfl rfl ?_
  refine zz_iload_n C 1 ddM_canStep_1 rfl rfl ?_
  refine zz_iload_n C 2 ddM_canStep_2 rfl rfl ?_
  refine zz_iconst (v := 1) C ddM_canStep_3 (by decide) ?_
  obtain ⟨h2, h⟩ := gdN h
  obtain ⟨q1, hq1, h⟩ := bindN h
  refine zz_callV0 (As := [.int v1, .int v2, .int 1]) C ddM_canStep_4 wd_1599 my_M_stepOf mv_M_stepOf ⟨_, rfl, rfl⟩ (xM_stepOf hG (d - 1) (by omega) hq1) (by omega) h2 rfl rfl (Nat.le_of_ble_eq_true rfl) ?_
  refine zz_istore (L1 := [(4, .int q1.1), (0, .ref v0), (1, .int v1), (2, .int v2), (3, .int v3)]) C ddM_canStep_7 N (by decide) rfl ?_
  refine zz_aload_n C 1 ddM_canStep_9 rfl rfl ?_
  refine zz_iload_n C 2 ddM_canStep_10 rfl rfl ?_
  refine zz_iload_n C 3 ddM_canStep_11 rfl rfl ?_
  refine zz_iconst (v := 2) C ddM_canStep_12 (by decide) ?_
  obtain ⟨h4, h⟩ := gdN h
  obtain ⟨q3, hq3, h⟩ := bindN h
  refine zz_callV0 (As := [.int v1, .int v2, .int 2]) C ddM_canStep_13 wd_1599 my_M_stepOf mv_M_stepOf ⟨_, rfl, rfl⟩ (xM_stepOf hG (d - 1) (by omega) hq3) (by omega) h4 rfl rfl (Nat.le_of_ble_eq_true rfl) ?_
  refine zz_istore (L1 := [(5, .int q3.1), (4, .int q1.1), (0, .ref v0), (1, .int v1), (2, .int v2), (3, .int v3)]) C ddM_canStep_16 N (by decide) rfl ?_
  refine zz_aload_n C 2 ddM_canStep_18 rfl rfl ?_
  refine zz_iload_n C 3 ddM_canStep_19 rfl rfl ?_
  refine zz_iload_n C 4 ddM_canStep_20 rfl rfl ?_
  refine zz_iconst (v := 0) C ddM_canStep_21 (by decide) ?_
  obtain ⟨h6, h⟩ := gdN h
  obtain ⟨q5, hq5, h⟩ := bindN h
  refine zz_callV0 (As := [.int v1, .int v2, .int 0]) C ddM_canStep_22 wd_1599 my_M_stepOf mv_M_stepOf ⟨_, rfl, rfl⟩ (xM_stepOf hG (d - 1) (by omega) hq5) (by omega) h6 rfl rfl (Nat.le_of_ble_eq_true rfl) ?_
  by_cases hs25_0 : q5.1 = 0
  · replace h := iteT h hs25_0
    rw [hs25_0]
    refine zz_tableIn (tgt := 60) C ddM_canStep_25 (by decide) (by decide) rfl rfl ?_
    refine zz_aload_n C 2 ddM_canStep_60 rfl rfl ?_
    refine zz_iload C 1 ddM_canStep_61 rfl ?_
    obtain ⟨h8, h⟩ := gdN h
    obtain ⟨q7, hq7, h⟩ := bindN h
    refine zz_callV0 (As := [.int q1.1]) C ddM_canStep_63 wd_1463 my_M_doesLive mv_M_doesLive ⟨_, rfl, rfl⟩ (xM_doesLive hG (d - 1) (by omega) hq7) (by omega) h8 rfl rfl (Nat.le_of_ble_eq_true rfl) ?_
    refine zz_if_eq (tgt := 98) C ddM_canStep_66 rfl (fun hc => ?_) (fun hc => ?_)
    · replace h := iteT h hc
      refine zz_loc (L1 := []) [] rfl ?_
      exact zBM_canStep_98 hG C N hD hd E h
    · replace h := iteF h hc
      refine zz_aload_n C 2 ddM_canStep_69 rfl rfl ?_
      refine zz_iload C 0 ddM_canStep_70 rfl ?_
      obtain ⟨h10, h⟩ := gdN h
      obtain ⟨q9, hq9, h⟩ := bindN h
      refine zz_callV0 (As := [.int q3.1]) C ddM_canStep_72 wd_1459 my_M_classFor mv_M_classFor ⟨_, rfl, rfl⟩ (xM_classFor hG (d - 1) (by omega) hq9) (by omega) h10 rfl rfl (Nat.le_of_ble_eq_true rfl) ?_
      refine zz_iconst (v := (-1)) C ddM_canStep_75 (by decide) ?_
      refine zz_icmp_eq (tgt := 98) C ddM_canStep_76 rfl (fun hc => ?_) (fun hc => ?_)
      · replace h := iteT h hc
        refine zz_loc (L1 := []) [] rfl ?_
        exact zBM_canStep_98 hG C N hD hd E h
      · replace h := iteF h hc
        refine zz_aload_n C 2 ddM_canStep_79 rfl rfl ?_
        refine zz_iload C 1 ddM_canStep_80 rfl ?_
        refine zz_aload_n C 2 ddM_canStep_82 rfl rfl ?_
        refine zz_iload C 0 ddM_canStep_83 rfl ?_
        obtain ⟨h12, h⟩ := gdN h
        obtain ⟨q11, hq11, h⟩ := bindN h
        refine zz_callV0 (As := [.int q3.1]) C ddM_canStep_85 wd_1459 my_M_classFor mv_M_classFor ⟨_, rfl, rfl⟩ (xM_classFor hG (d - 1) (by omega) hq11) (by omega) h12 rfl rfl (Nat.le_of_ble_eq_true rfl) ?_
        obtain ⟨h14, h⟩ := gdN h
        obtain ⟨q13, hq13, h⟩ := bindN h
        refine zz_callV0 (As := [.int q1.1, .int q11.1]) C ddM_canStep_88 wd_1467 my_M_canGet mv_M_canGet ⟨_, rfl, rfl⟩ (xM_canGet hG (d - 1) (by omega) hq13) (by omega) h14 rfl rfl (Nat.le_of_ble_eq_true rfl) ?_
        refine zz_if_eq (tgt := 98) C ddM_canStep_91 rfl (fun hc => ?_) (fun hc => ?_)
        · replace h := iteT h hc
          refine zz_loc (L1 := []) [] rfl ?_
          exact zBM_canStep_98 hG C N hD hd E h
        · replace h := iteF h hc
          refine zz_iconst (v := 1) C ddM_canStep_94 (by decide) ?_
          refine zz_goto (tgt := 99) C ddM_canStep_95 rfl ?_
          refine zz_loc (L1 := []) [] rfl ?_
          exact zBM_canStep_99 hG C N hD hd E h
  replace h := iteF h hs25_0
  by_cases hs25_1 : q5.1 = 1
  · replace h := iteT h hs25_1
    rw [hs25_1]
    refine zz_tableIn (tgt := 100) C ddM_canStep_25 (by decide) (by decide) rfl rfl ?_
    refine zz_aload_n C 2 ddM_canStep_100 rfl rfl ?_
    refine zz_iload C 1 ddM_canStep_101 rfl ?_
    obtain ⟨h16, h⟩ := gdN h
    obtain ⟨q15, hq15, h⟩ := bindN h
    refine zz_callV0 (As := [.int q1.1]) C ddM_canStep_103 wd_1463 my_M_doesLive mv_M_doesLive ⟨_, rfl, rfl⟩ (xM_doesLive hG (d - 1) (by omega) hq15) (by omega) h16 rfl rfl (Nat.le_of_ble_eq_true rfl) ?_
    refine zz_if_eq (tgt := 139) C ddM_canStep_106 rfl (fun hc => ?_) (fun hc => ?_)
    · replace h := iteT h hc
      refine zz_loc (L1 := []) [] rfl ?_
      exact zBM_canStep_139 hG C N hD hd E h
    · replace h := iteF h hc
      refine zz_iload C 0 ddM_canStep_109 rfl ?_
      refine zz_aload_n C 2 ddM_canStep_111 rfl rfl ?_
      obtain ⟨h17, h⟩ := gdN h
      obtain ⟨h18, h⟩ := gdN h
      refine zz_getr C ddM_canStep_112 fl_M_50 rfl h17 (of_decide_eq_true h18) ?_
      refine zz_iload_n C 5 ddM_canStep_115 rfl rfl ?_
      obtain ⟨h19, h⟩ := gdN h
      refine zz_iaload C ddM_canStep_116 h19 ?_
      refine zz_icmp_ge (tgt := 139) C ddM_canStep_117 rfl (fun hc => ?_) (fun hc => ?_)
      · replace h := iteT h hc
        refine zz_loc (L1 := []) [] rfl ?_
        exact zBM_canStep_139 hG C N hD hd E h
      · replace h := iteF h hc
        refine zz_aload_n C 2 ddM_canStep_120 rfl rfl ?_
        obtain ⟨h20, h⟩ := gdN h
        refine zz_getr C ddM_canStep_121 fl_M_46 rfl h17 (of_decide_eq_true h20) ?_
        refine zz_bipush (v := 24) C ddM_canStep_124 (by decide) ?_
        refine zz_iload_n C 5 ddM_canStep_126 rfl rfl ?_
        refine zz_imul C ddM_canStep_127 ?_
        refine zz_iload C 0 ddM_canStep_128 rfl ?_
        refine zz_iadd C ddM_canStep_130 ?_
        obtain ⟨h21, h⟩ := gdN h
        refine zz_baload C ddM_canStep_131 h21 ?_
        refine zz_if_eq (tgt := 139) C ddM_canStep_132 rfl (fun hc => ?_) (fun hc => ?_)
        · replace h := iteT h hc
          refine zz_loc (L1 := []) [] rfl ?_
          exact zBM_canStep_139 hG C N hD hd E h
        · replace h := iteF h hc
          refine zz_iconst (v := 1) C ddM_canStep_135 (by decide) ?_
          refine zz_goto (tgt := 140) C ddM_canStep_136 rfl ?_
          refine zz_loc (L1 := []) [] rfl ?_
          exact zBM_canStep_140 hG C N hD hd E h
  replace h := iteF h hs25_1
  by_cases hs25_2 : q5.1 = 2
  · replace h := iteT h hs25_2
    rw [hs25_2]
    refine zz_tableIn (tgt := 141) C ddM_canStep_25 (by decide) (by decide) rfl rfl ?_
    refine zz_aload_n C 2 ddM_canStep_141 rfl rfl ?_
    refine zz_iload C 1 ddM_canStep_142 rfl ?_
    obtain ⟨h23, h⟩ := gdN h
    obtain ⟨q22, hq22, h⟩ := bindN h
    refine zz_callV0 (As := [.int q1.1]) C ddM_canStep_144 wd_1409 my_M_isThread mv_M_isThread ⟨_, rfl, rfl⟩ (xM_isThread hG (d - 1) (by omega) hq22) (by omega) h23 rfl rfl (Nat.le_of_ble_eq_true rfl) ?_
    obtain ⟨h24, h⟩ := gdN h
    obtain rfl := Option.some.inj h
    exact zz_zret C (of_decide_eq_true h24) E ddM_canStep_147
  replace h := iteF h hs25_2
  by_cases hs25_3 : q5.1 = 3
  · replace h := iteT h hs25_3
    rw [hs25_3]
    refine zz_tableIn (tgt := 148) C ddM_canStep_25 (by decide) (by decide) rfl rfl ?_
    refine zz_aload_n C 2 ddM_canStep_148 rfl rfl ?_
    refine zz_iload C 1 ddM_canStep_149 rfl ?_
    obtain ⟨h26, h⟩ := gdN h
    obtain ⟨q25, hq25, h⟩ := bindN h
    refine zz_callV0 (As := [.int q1.1]) C ddM_canStep_151 wd_1463 my_M_doesLive mv_M_doesLive ⟨_, rfl, rfl⟩ (xM_doesLive hG (d - 1) (by omega) hq25) (by omega) h26 rfl rfl (Nat.le_of_ble_eq_true rfl) ?_
    obtain ⟨h27, h⟩ := gdN h
    obtain rfl := Option.some.inj h
    exact zz_zret C (of_decide_eq_true h27) E ddM_canStep_154
  replace h := iteF h hs25_3
  by_cases hs25_4 : q5.1 = 4
  · replace h := iteT h hs25_4
    rw [hs25_4]
    refine zz_tableIn (tgt := 148) C ddM_canStep_25 (by decide) (by decide) rfl rfl ?_
    refine zz_aload_n C 2 ddM_canStep_148 rfl rfl ?_
    refine zz_iload C 1 ddM_canStep_149 rfl ?_
    obtain ⟨h29, h⟩ := gdN h
    obtain ⟨q28, hq28, h⟩ := bindN h
    refine zz_callV0 (As := [.int q1.1]) C ddM_canStep_151 wd_1463 my_M_doesLive mv_M_doesLive ⟨_, rfl, rfl⟩ (xM_doesLive hG (d - 1) (by omega) hq28) (by omega) h29 rfl rfl (Nat.le_of_ble_eq_true rfl) ?_
    obtain ⟨h30, h⟩ := gdN h
    obtain rfl := Option.some.inj h
    exact zz_zret C (of_decide_eq_true h30) E ddM_canStep_154
  replace h := iteF h hs25_4
  have ths25_0 := lv_neT (a := 0) hs25_0 (by decide)
  have ths25_1 := lv_neT (a := 1) hs25_1 (by decide)
  have ths25_2 := lv_neT (a := 2) hs25_2 (by decide)
  have ths25_3 := lv_neT (a := 3) hs25_3 (by decide)
  have ths25_4 := lv_neT (a := 4) hs25_4 (by decide)
  refine zz_tableOut (tgt := 155) C ddM_canStep_25 (by omega) rfl ?_
  refine zz_iconst (v := 1) C ddM_canStep_155 (by decide) ?_
  obtain rfl := Option.some.inj h
  exact zz_zret C (by decide) E ddM_canStep_156
theorem ddM_stepGet_0 : decode cM_stepGet 0 = .ok (.bipush 24, 2) := by decide +kernel
theorem ddM_stepGet_2 : decode cM_stepGet 2 = .ok (.iload_n 3, 1) := by decide +kernel
theorem ddM_stepGet_3 : decode cM_stepGet 3 = .ok (.imul, 1) := by decide +kernel
theorem ddM_stepGet_4 : decode cM_stepGet 4 = .ok (.aload_n 0, 1) := by decide +kernel
theorem ddM_stepGet_5 : decode cM_stepGet 5 = .ok (.getfield 50, 3) := by decide +kernel
theorem ddM_stepGet_8 : decode cM_stepGet 8 = .ok (.iload_n 3, 1) := by decide +kernel
theorem ddM_stepGet_9 : decode cM_stepGet 9 = .ok (.iaload, 1) := by decide +kernel
theorem ddM_stepGet_10 : decode cM_stepGet 10 = .ok (.iadd, 1) := by decide +kernel
theorem ddM_stepGet_11 : decode cM_stepGet 11 = .ok (.istore 5, 2) := by decide +kernel
theorem ddM_stepGet_13 : decode cM_stepGet 13 = .ok (.aload_n 0, 1) := by decide +kernel
theorem ddM_stepGet_14 : decode cM_stepGet 14 = .ok (.getfield 37, 3) := by decide +kernel
theorem ddM_stepGet_17 : decode cM_stepGet 17 = .ok (.iload 5, 2) := by decide +kernel
theorem ddM_stepGet_19 : decode cM_stepGet 19 = .ok (.aload_n 0, 1) := by decide +kernel
theorem ddM_stepGet_20 : decode cM_stepGet 20 = .ok (.iload_n 1, 1) := by decide +kernel
theorem ddM_stepGet_21 : decode cM_stepGet 21 = .ok (.aload_n 0, 1) := by decide +kernel
theorem ddM_stepGet_22 : decode cM_stepGet 22 = .ok (.iload_n 2, 1) := by decide +kernel
theorem ddM_stepGet_23 : decode cM_stepGet 23 = .ok (.invokevirtual 263, 3) := by decide +kernel
theorem ddM_stepGet_26 : decode cM_stepGet 26 = .ok (.invokevirtual 275, 3) := by decide +kernel
theorem ddM_stepGet_29 : decode cM_stepGet 29 = .ok (.iastore, 1) := by decide +kernel
theorem ddM_stepGet_30 : decode cM_stepGet 30 = .ok (.aload_n 0, 1) := by decide +kernel
theorem ddM_stepGet_31 : decode cM_stepGet 31 = .ok (.getfield 40, 3) := by decide +kernel
theorem ddM_stepGet_34 : decode cM_stepGet 34 = .ok (.iload 5, 2) := by decide +kernel
theorem ddM_stepGet_36 : decode cM_stepGet 36 = .ok (.iload_n 1, 1) := by decide +kernel
theorem ddM_stepGet_37 : decode cM_stepGet 37 = .ok (.iastore, 1) := by decide +kernel
theorem ddM_stepGet_38 : decode cM_stepGet 38 = .ok (.aload_n 0, 1) := by decide +kernel
theorem ddM_stepGet_39 : decode cM_stepGet 39 = .ok (.getfield 43, 3) := by decide +kernel
theorem ddM_stepGet_42 : decode cM_stepGet 42 = .ok (.iload 5, 2) := by decide +kernel
theorem ddM_stepGet_44 : decode cM_stepGet 44 = .ok (.aload_n 0, 1) := by decide +kernel
theorem ddM_stepGet_45 : decode cM_stepGet 45 = .ok (.getfield 266, 3) := by decide +kernel
theorem ddM_stepGet_48 : decode cM_stepGet 48 = .ok (.ifCond .le 10, 3) := by decide +kernel
theorem ddM_stepGet_51 : decode cM_stepGet 51 = .ok (.aload_n 0, 1) := by decide +kernel
theorem ddM_stepGet_52 : decode cM_stepGet 52 = .ok (.getfield 266, 3) := by decide +kernel
theorem ddM_stepGet_55 : decode cM_stepGet 55 = .ok (.goto 4, 3) := by decide +kernel
theorem ddM_stepGet_58 : decode cM_stepGet 58 = .ok (.iconst (-1), 1) := by decide +kernel
theorem ddM_stepGet_59 : decode cM_stepGet 59 = .ok (.iastore, 1) := by decide +kernel
theorem ddM_stepGet_60 : decode cM_stepGet 60 = .ok (.aload_n 0, 1) := by decide +kernel
theorem ddM_stepGet_61 : decode cM_stepGet 61 = .ok (.getfield 46, 3) := by decide +kernel
theorem ddM_stepGet_64 : decode cM_stepGet 64 = .ok (.iload 5, 2) := by decide +kernel
theorem ddM_stepGet_66 : decode cM_stepGet 66 = .ok (.iconst 1, 1) := by decide +kernel
theorem ddM_stepGet_67 : decode cM_stepGet 67 = .ok (.bastore, 1) := by decide +kernel
theorem ddM_stepGet_68 : decode cM_stepGet 68 = .ok (.aload_n 0, 1) := by decide +kernel
theorem ddM_stepGet_69 : decode cM_stepGet 69 = .ok (.getfield 50, 3) := by decide +kernel
theorem ddM_stepGet_72 : decode cM_stepGet 72 = .ok (.iload_n 3, 1) := by decide +kernel
theorem ddM_stepGet_73 : decode cM_stepGet 73 = .ok (.dup2, 1) := by decide +kernel
theorem ddM_stepGet_74 : decode cM_stepGet 74 = .ok (.iaload, 1) := by decide +kernel
theorem ddM_stepGet_75 : decode cM_stepGet 75 = .ok (.iconst 1, 1) := by decide +kernel
theorem ddM_stepGet_76 : decode cM_stepGet 76 = .ok (.iadd, 1) := by decide +kernel
theorem ddM_stepGet_77 : decode cM_stepGet 77 = .ok (.iastore, 1) := by decide +kernel
theorem ddM_stepGet_78 : decode cM_stepGet 78 = .ok (.iload 4, 2) := by decide +kernel
theorem ddM_stepGet_80 : decode cM_stepGet 80 = .ok (.ifCond .eq 15, 3) := by decide +kernel
theorem ddM_stepGet_83 : decode cM_stepGet 83 = .ok (.aload_n 0, 1) := by decide +kernel
theorem ddM_stepGet_84 : decode cM_stepGet 84 = .ok (.aload_n 0, 1) := by decide +kernel
theorem ddM_stepGet_85 : decode cM_stepGet 85 = .ok (.getfield 37, 3) := by decide +kernel
theorem ddM_stepGet_88 : decode cM_stepGet 88 = .ok (.iload 5, 2) := by decide +kernel
theorem ddM_stepGet_90 : decode cM_stepGet 90 = .ok (.iaload, 1) := by decide +kernel
theorem ddM_stepGet_91 : decode cM_stepGet 91 = .ok (.iload_n 1, 1) := by decide +kernel
theorem ddM_stepGet_92 : decode cM_stepGet 92 = .ok (.invokevirtual 278, 3) := by decide +kernel
theorem ddM_stepGet_95 : decode cM_stepGet 95 = .ok (.return_, 1) := by decide +kernel
set_option maxHeartbeats 2000000 in
theorem zBM_stepGet_95 {G : GXM} {X : CxM} (hG : GokM G) (C : CoM G X cM_stepGet "HomeFreedModel") (N : mLM X = 6) {d : Nat} (hD : dpM X = d) (hd : 8 ≤ d)  {q : Mem} (E : EnM G X none none q 0 0) {M : Mem} (h : BM_stepGet_95 M = some q) : ZM G X 95 [] [] M 0 0 := by
  unfold BM_stepGet_95 at h
  obtain rfl := Option.some.inj h
  exact zz_vret C E ddM_stepGet_95
set_option maxHeartbeats 2000000 in
theorem zBM_stepGet_59 {G : GXM} {X : CxM} (hG : GokM G) (C : CoM G X cM_stepGet "HomeFreedModel") (N : mLM X = 6) {d : Nat} (hD : dpM X = d) (hd : 8 ≤ d)  {q : Mem} (E : EnM G X none none q 0 0) {v0 : Nat} {v1 : Int32} {v3 : Int32} {v4 : Int32} {v5 : Int32} {w0 : Nat} {w1 : Int32} {w2 : Int32} {M : Mem} (h : BM_stepGet_59 v0 v1 v3 v4 v5 w0 w1 w2 M = some q) : ZM G X 59 [(0, .ref v0), (1, .int v1), (3, .int v3), (4, .int v4), (5, .int v5)] [.int w2, .int w1, .ref w0] M 0 0 := by
  unfold BM_stepGet_59 at h
  obtain ⟨h1, h⟩ := gdN h
  refine zz_iastore C ddM_stepGet_59 h1 ?_
  refine zz_aload_n C 0 ddM_stepGet_60 rfl rfl ?_
  obtain ⟨h2, h⟩ := gdN h
  obtain ⟨h3, h⟩ := gdN h
  refine zz_getr C ddM_stepGet_61 fl_M_46 rfl h2 (of_decide_eq_true h3) ?_
  refine zz_iload C 4 ddM_stepGet_64 rfl ?_
  refine zz_iconst (v := 1) C ddM_stepGet_66 (by decide) ?_
  obtain ⟨h4, h⟩ := gdN h
  refine zz_bastore C ddM_stepGet_67 h4 (by decide) ?_
  refine zz_aload_n C 0 ddM_stepGet_68 rfl rfl ?_
  obtain ⟨h5, h⟩ := gdN h
  refine zz_getr C ddM_stepGet_69 fl_M_50 rfl h2 (of_decide_eq_true h5) ?_
  refine zz_iload_n C 2 ddM_stepGet_72 rfl rfl ?_
  refine zz_dup2 C ddM_stepGet_73 rfl rfl ?_
  obtain ⟨h6, h⟩ := gdN h
  refine zz_iaload C ddM_stepGet_74 h6 ?_
  refine zz_iconst (v := 1) C ddM_stepGet_75 (by decide) ?_
  refine zz_iadd C ddM_stepGet_76 ?_
  obtain ⟨h7, h⟩ := gdN h
  refine zz_iastore C ddM_stepGet_77 h7 ?_
  refine zz_iload C 3 ddM_stepGet_78 rfl ?_
  refine zz_if_eq (tgt := 95) C ddM_stepGet_80 rfl (fun hc => ?_) (fun hc => ?_)
  · replace h := iteT h hc
    refine zz_loc (L1 := []) [] rfl ?_
    exact zBM_stepGet_95 hG C N hD hd E h
  · replace h := iteF h hc
    refine zz_aload_n C 0 ddM_stepGet_83 rfl rfl ?_
    refine zz_aload_n C 0 ddM_stepGet_84 rfl rfl ?_
    obtain ⟨h8, h⟩ := gdN h
    refine zz_getr C ddM_stepGet_85 fl_M_37 rfl h2 (of_decide_eq_true h8) ?_
    refine zz_iload C 4 ddM_stepGet_88 rfl ?_
    obtain ⟨h9, h⟩ := gdN h
    refine zz_iaload C ddM_stepGet_90 h9 ?_
    refine zz_iload_n C 1 ddM_stepGet_91 rfl rfl ?_
    obtain ⟨q10, hq10, h⟩ := bindN h
    refine zz_callV0 (As := [.int (giM (siM (siM (siM M w0 (Int32.toNatClampNeg w1) w2) (grM M v0 21) (Int32.toNatClampNeg v5) 1) (grM M v0 22) (Int32.toNatClampNeg v3) ((giM (siM (siM M w0 (Int32.toNatClampNeg w1) w2) (grM M v0 21) (Int32.toNatClampNeg v5) 1) (grM M v0 22) (Int32.toNatClampNeg v3)) + 1)) (grM M v0 18) (Int32.toNatClampNeg v5)), .int v1]) C ddM_stepGet_92 wd_1555 my_M_note mv_M_note ⟨_, rfl, rfl⟩ (xM_note hG (d - 1) (by omega) hq10) (by omega) h2 rfl rfl (Nat.le_of_ble_eq_true rfl) ?_
    refine zz_loc (L1 := []) [] rfl ?_
    exact zBM_stepGet_95 hG C N hD hd E h
set_option maxHeartbeats 2000000 in
theorem xM_stepGet {G : GXM} {l : Launch} (hG : GokM G) (d : Nat) (hd : 8 ≤ d) {v0 : Nat} {v1 : Int32} {v2 : Int32} {v3 : Int32} {v4 : Int32} {M : Mem} {q : Mem} (h : fM_stepGet v0 v1 v2 v3 v4 M = some q) : ExM G l d 0 0 yM_stepGet cM_stepGet 6 none [.ref v0, .int v1, .int v2, .int v3, .int v4] M none q := by
  refine ex_of hG (by decide +kernel) (Nat.le_of_ble_eq_true rfl) ?_
  intro X hl C E N hD hn
  show ZM G X 0 [(0, .ref v0), (1, .int v1), (2, .int v2), (3, .int v3), (4, .int v4)] [] M 0 0
  unfold fM_stepGet at h
  refine zz_bipush (v := 24) C ddM_stepGet_0 (by decide) ?_
  refine zz_iload_n C 3 ddM_stepGet_2 rfl rfl ?_
  refine zz_imul C ddM_stepGet_3 ?_
  refine zz_aload_n C 0 ddM_stepGet_4 rfl rfl ?_
  obtain ⟨h1, h⟩ := gdN h
  obtain ⟨h2, h⟩ := gdN h
  refine zz_getr C ddM_stepGet_5 fl_M_50 rfl h1 (of_decide_eq_true h2) ?_
  refine zz_iload_n C 3 ddM_stepGet_8 rfl rfl ?_
  obtain ⟨h3, h⟩ := gdN h
  refine zz_iaload C ddM_stepGet_9 h3 ?_
  refine zz_iadd C ddM_stepGet_10 ?_
  refine zz_istore (L1 := [(5, .int ((24 * v3) + (giM M (grM M v0 22) (Int32.toNatClampNeg v3)))), (0, .ref v0), (1, .int v1), (2, .int v2), (3, .int v3), (4, .int v4)]) C ddM_stepGet_11 N (by decide) rfl ?_
  refine zz_aload_n C 1 ddM_stepGet_13 rfl rfl ?_
  obtain ⟨h4, h⟩ := gdN h
  refine zz_getr C ddM_stepGet_14 fl_M_37 rfl h1 (of_decide_eq_true h4) ?_
  refine zz_iload C 0 ddM_stepGet_17 rfl ?_
  refine zz_aload_n C 1 ddM_stepGet_19 rfl rfl ?_
  refine zz_iload_n C 2 ddM_stepGet_20 rfl rfl ?_
  refine zz_aload_n C 1 ddM_stepGet_21 rfl rfl ?_
  refine zz_iload_n C 3 ddM_stepGet_22 rfl rfl ?_
  obtain ⟨q5, hq5, h⟩ := bindN h
  refine zz_callV0 (As := [.int v2]) C ddM_stepGet_23 wd_1459 my_M_classFor mv_M_classFor ⟨_, rfl, rfl⟩ (xM_classFor hG (d - 1) (by omega) hq5) (by omega) h1 rfl rfl (Nat.le_of_ble_eq_true rfl) ?_
  obtain ⟨h7, h⟩ := gdN h
  obtain ⟨q6, hq6, h⟩ := bindN h
  refine zz_callV0 (As := [.int v1, .int q5.1]) C ddM_stepGet_26 wd_1483 my_M_getNow mv_M_getNow ⟨_, rfl, rfl⟩ (xM_getNow hG (d - 1) (by omega) hq6) (by omega) h7 rfl rfl (Nat.le_of_ble_eq_true rfl) ?_
  obtain ⟨h8, h⟩ := gdN h
  refine zz_iastore C ddM_stepGet_29 h8 ?_
  refine zz_aload_n C 1 ddM_stepGet_30 rfl rfl ?_
  obtain ⟨h9, h⟩ := gdN h
  obtain ⟨h10, h⟩ := gdN h
  refine zz_getr C ddM_stepGet_31 fl_M_40 rfl h9 (of_decide_eq_true h10) ?_
  refine zz_iload C 0 ddM_stepGet_34 rfl ?_
  refine zz_iload_n C 2 ddM_stepGet_36 rfl rfl ?_
  obtain ⟨h11, h⟩ := gdN h
  refine zz_iastore C ddM_stepGet_37 h11 ?_
  refine zz_aload_n C 1 ddM_stepGet_38 rfl rfl ?_
  obtain ⟨h12, h⟩ := gdN h
  refine zz_getr C ddM_stepGet_39 fl_M_43 rfl h9 (of_decide_eq_true h12) ?_
  refine zz_iload C 0 ddM_stepGet_42 rfl ?_
  refine zz_aload_n C 1 ddM_stepGet_44 rfl rfl ?_
  refine zz_geti C ddM_stepGet_45 fl_M_266 rfl h9 ?_
  refine zz_if_le (tgt := 58) C ddM_stepGet_48 rfl (fun hc => ?_) (fun hc => ?_)
  · replace h := iteT h hc
    refine zz_iconst (v := (-1)) C ddM_stepGet_58 (by decide) ?_
    refine zz_loc (L1 := [(0, .ref v0), (1, .int v1), (3, .int v3), (4, .int v4), (5, .int ((24 * v3) + (giM M (grM M v0 22) (Int32.toNatClampNeg v3))))]) [1, 2, 4, 5, 0] rfl ?_
    exact zBM_stepGet_59 hG C N hD hd E h
  · replace h := iteF h hc
    refine zz_aload_n C 1 ddM_stepGet_51 rfl rfl ?_
    refine zz_geti C ddM_stepGet_52 fl_M_266 rfl h9 ?_
    refine zz_goto (tgt := 59) C ddM_stepGet_55 rfl ?_
    refine zz_loc (L1 := [(0, .ref v0), (1, .int v1), (3, .int v3), (4, .int v4), (5, .int ((24 * v3) + (giM M (grM M v0 22) (Int32.toNatClampNeg v3))))]) [1, 2, 4, 5, 0] rfl ?_
    exact zBM_stepGet_59 hG C N hD hd E h
theorem ddM_lowestLiving_0 : decode cM_lowestLiving 0 = .ok (.iconst 0, 1) := by decide +kernel
theorem ddM_lowestLiving_1 : decode cM_lowestLiving 1 = .ok (.istore_n 1, 1) := by decide +kernel
theorem ddM_lowestLiving_2 : decode cM_lowestLiving 2 = .ok (.iload_n 1, 1) := by decide +kernel
theorem ddM_lowestLiving_3 : decode cM_lowestLiving 3 = .ok (.aload_n 0, 1) := by decide +kernel
theorem ddM_lowestLiving_4 : decode cM_lowestLiving 4 = .ok (.getfield 19, 3) := by decide +kernel
theorem ddM_lowestLiving_7 : decode cM_lowestLiving 7 = .ok (.iconst 0, 1) := by decide +kernel
theorem ddM_lowestLiving_8 : decode cM_lowestLiving 8 = .ok (.iaload, 1) := by decide +kernel
theorem ddM_lowestLiving_9 : decode cM_lowestLiving 9 = .ok (.if_icmp .ge 25, 3) := by decide +kernel
theorem ddM_lowestLiving_12 : decode cM_lowestLiving 12 = .ok (.aload_n 0, 1) := by decide +kernel
theorem ddM_lowestLiving_13 : decode cM_lowestLiving 13 = .ok (.getfield 31, 3) := by decide +kernel
theorem ddM_lowestLiving_16 : decode cM_lowestLiving 16 = .ok (.sipush 3704, 3) := by decide +kernel
theorem ddM_lowestLiving_19 : decode cM_lowestLiving 19 = .ok (.iload_n 1, 1) := by decide +kernel
theorem ddM_lowestLiving_20 : decode cM_lowestLiving 20 = .ok (.iadd, 1) := by decide +kernel
theorem ddM_lowestLiving_21 : decode cM_lowestLiving 21 = .ok (.iaload, 1) := by decide +kernel
theorem ddM_lowestLiving_22 : decode cM_lowestLiving 22 = .ok (.iconst 1, 1) := by decide +kernel
theorem ddM_lowestLiving_23 : decode cM_lowestLiving 23 = .ok (.if_icmp .ne 5, 3) := by decide +kernel
theorem ddM_lowestLiving_26 : decode cM_lowestLiving 26 = .ok (.iload_n 1, 1) := by decide +kernel
theorem ddM_lowestLiving_27 : decode cM_lowestLiving 27 = .ok (.ireturn, 1) := by decide +kernel
theorem ddM_lowestLiving_28 : decode cM_lowestLiving 28 = .ok (.iinc 1 1, 3) := by decide +kernel
theorem ddM_lowestLiving_31 : decode cM_lowestLiving 31 = .ok (.goto (-29), 3) := by decide +kernel
theorem ddM_lowestLiving_34 : decode cM_lowestLiving 34 = .ok (.iconst (-1), 1) := by decide +kernel
theorem ddM_lowestLiving_35 : decode cM_lowestLiving 35 = .ok (.ireturn, 1) := by decide +kernel
set_option maxHeartbeats 2000000 in
theorem zBM_lowestLiving_2 {G : GXM} {X : CxM} (hG : GokM G) (C : CoM G X cM_lowestLiving "HomeFreedModel") (N : mLM X = 2) {d : Nat} (hD : dpM X = d) (hd : 0 ≤ d) {v0 : Nat} {K : Nat → Int32 → Mem → Option ((Int32 × Mem))} {q : (Int32 × Mem)} (hK : ∀ (v1 : Int32) (M : Mem), K v0 v1 M = some q → ZM G X 2 [(0, .ref v0), (1, .int v1)] [] M 0 0) (hr : ∀ r : Int32 × Mem, q =  r → EnM G X (some .int) (some (.int r.1)) r.2 0 0) {v1 : Int32} {M : Mem} (h : BM_lowestLiving_2 K v0 v1 M = some q) : ZM G X 2 [(0, .ref v0), (1, .int v1)] [] M 0 0 := by
  unfold BM_lowestLiving_2 at h
  refine zz_iload_n C 1 ddM_lowestLiving_2 rfl rfl ?_
  refine zz_aload_n C 0 ddM_lowestLiving_3 rfl rfl ?_
  obtain ⟨h1, h⟩ := gdN h
  obtain ⟨h2, h⟩ := gdN h
  refine zz_getr C ddM_lowestLiving_4 fl_M_19 rfl h1 (of_decide_eq_true h2) ?_
  refine zz_iconst (v := 0) C ddM_lowestLiving_7 (by decide) ?_
  obtain ⟨h3, h⟩ := gdN h
  refine zz_iaload C ddM_lowestLiving_8 h3 ?_
  refine zz_icmp_ge (tgt := 34) C ddM_lowestLiving_9 rfl (fun hc => ?_) (fun hc => ?_)
  · replace h := iteT h hc
    refine zz_iconst (v := (-1)) C ddM_lowestLiving_34 (by decide) ?_
    exact zz_iret C (hr _ (Option.some.inj h).symm) ddM_lowestLiving_35
  · replace h := iteF h hc
    refine zz_aload_n C 0 ddM_lowestLiving_12 rfl rfl ?_
    obtain ⟨h4, h⟩ := gdN h
    refine zz_getr C ddM_lowestLiving_13 fl_M_31 rfl h1 (of_decide_eq_true h4) ?_
    refine zz_sipush (v := 3704) C ddM_lowestLiving_16 (by decide) ?_
    refine zz_iload_n C 1 ddM_lowestLiving_19 rfl rfl ?_
    refine zz_iadd C ddM_lowestLiving_20 ?_
    obtain ⟨h5, h⟩ := gdN h
    refine zz_iaload C ddM_lowestLiving_21 h5 ?_
    refine zz_iconst (v := 1) C ddM_lowestLiving_22 (by decide) ?_
    refine zz_icmp_ne (tgt := 28) C ddM_lowestLiving_23 rfl (fun hc => ?_) (fun hc => ?_)
    · replace h := iteF h hc
      refine zz_iinc (v := v1 + 1) (L1 := [(1, .int (v1 + 1)), (0, .ref v0)]) C 1 ddM_lowestLiving_28 rfl rfl N (by decide) rfl ?_
      refine zz_goto (tgt := 2) C ddM_lowestLiving_31 rfl ?_
      refine zz_loc (L1 := [(0, .ref v0), (1, .int (v1 + 1))]) [1, 0] rfl ?_
      exact hK _ _ h
    · replace h := iteT h hc
      refine zz_iload_n C 1 ddM_lowestLiving_26 rfl rfl ?_
      exact zz_iret C (hr _ (Option.some.inj h).symm) ddM_lowestLiving_27
set_option maxHeartbeats 2000000 in
theorem zLM_lowestLiving_2 {G : GXM} {X : CxM} (hG : GokM G) (C : CoM G X cM_lowestLiving "HomeFreedModel") (N : mLM X = 2) {d : Nat} (hD : dpM X = d) (hd : 0 ≤ d) {v0 : Nat} {q : (Int32 × Mem)} : ∀ (f : Nat) (v1 : Int32) (M : Mem), LM_lowestLiving_2 f v0 v1 M = some q → (hr : ∀ r : Int32 × Mem, q =  r → EnM G X (some .int) (some (.int r.1)) r.2 0 0) → ZM G X 2 [(0, .ref v0), (1, .int v1)] [] M 0 0 := by
  intro f
  induction f with
  | zero => intro v1 M h; cases h
  | succ f ih =>
    intro v1 M h hr
    exact zBM_lowestLiving_2 hG C N hD hd (K := LM_lowestLiving_2 f) (q := q) (fun v1 M h => ih v1 M h hr) hr h
set_option maxHeartbeats 2000000 in
theorem xM_lowestLiving {G : GXM} {l : Launch} (hG : GokM G) (d : Nat) (hd : 0 ≤ d) {v0 : Nat} {M : Mem} {q : Int32 × Mem} (h : fM_lowestLiving v0 M = some q) : ExM G l d 0 0 yM_lowestLiving cM_lowestLiving 2 (some .int) [.ref v0] M (some (.int q.1)) q.2 := by
  refine ex_of hG (by decide +kernel) (Nat.le_of_ble_eq_true rfl) ?_
  intro X hl C E N hD hn
  show ZM G X 0 [(0, .ref v0)] [] M 0 0
  unfold fM_lowestLiving at h
  refine zz_iconst (v := 0) C ddM_lowestLiving_0 (by decide) ?_
  refine zz_istore_n (L1 := [(1, .int 0), (0, .ref v0)]) C ddM_lowestLiving_1 rfl N (by decide) rfl ?_
  refine zz_loc (L1 := [(0, .ref v0), (1, .int 0)]) [1, 0] rfl ?_
  obtain ⟨q1, hq1, h⟩ := bindN h
  refine zLM_lowestLiving_2 hG C N hD hd 1000000 _ _ hq1 ?_
  · intro r2 eq1; replace eq1 := eq1.symm; subst eq1
    obtain rfl := Option.some.inj h
    exact E
theorem ddM_endScope_0 : decode cM_endScope 0 = .ok (.aload_n 0, 1) := by decide +kernel
theorem ddM_endScope_1 : decode cM_endScope 1 = .ok (.getfield 50, 3) := by decide +kernel
theorem ddM_endScope_4 : decode cM_endScope 4 = .ok (.iconst 0, 1) := by decide +kernel
theorem ddM_endScope_5 : decode cM_endScope 5 = .ok (.iaload, 1) := by decide +kernel
theorem ddM_endScope_6 : decode cM_endScope 6 = .ok (.iconst 1, 1) := by decide +kernel
theorem ddM_endScope_7 : decode cM_endScope 7 = .ok (.isub, 1) := by decide +kernel
theorem ddM_endScope_8 : decode cM_endScope 8 = .ok (.istore_n 1, 1) := by decide +kernel
theorem ddM_endScope_9 : decode cM_endScope 9 = .ok (.iload_n 1, 1) := by decide +kernel
theorem ddM_endScope_10 : decode cM_endScope 10 = .ok (.ifCond .lt 89, 3) := by decide +kernel
theorem ddM_endScope_13 : decode cM_endScope 13 = .ok (.aload_n 0, 1) := by decide +kernel
theorem ddM_endScope_14 : decode cM_endScope 14 = .ok (.getfield 43, 3) := by decide +kernel
theorem ddM_endScope_17 : decode cM_endScope 17 = .ok (.iload_n 1, 1) := by decide +kernel
theorem ddM_endScope_18 : decode cM_endScope 18 = .ok (.iaload, 1) := by decide +kernel
theorem ddM_endScope_19 : decode cM_endScope 19 = .ok (.aload_n 0, 1) := by decide +kernel
theorem ddM_endScope_20 : decode cM_endScope 20 = .ok (.getfield 266, 3) := by decide +kernel
theorem ddM_endScope_23 : decode cM_endScope 23 = .ok (.if_icmp .ne 70, 3) := by decide +kernel
theorem ddM_endScope_26 : decode cM_endScope 26 = .ok (.aload_n 0, 1) := by decide +kernel
theorem ddM_endScope_27 : decode cM_endScope 27 = .ok (.aload_n 0, 1) := by decide +kernel
theorem ddM_endScope_28 : decode cM_endScope 28 = .ok (.getfield 40, 3) := by decide +kernel
theorem ddM_endScope_31 : decode cM_endScope 31 = .ok (.iload_n 1, 1) := by decide +kernel
theorem ddM_endScope_32 : decode cM_endScope 32 = .ok (.iaload, 1) := by decide +kernel
theorem ddM_endScope_33 : decode cM_endScope 33 = .ok (.invokevirtual 260, 3) := by decide +kernel
theorem ddM_endScope_36 : decode cM_endScope 36 = .ok (.ifCond .eq 12, 3) := by decide +kernel
theorem ddM_endScope_39 : decode cM_endScope 39 = .ok (.aload_n 0, 1) := by decide +kernel
theorem ddM_endScope_40 : decode cM_endScope 40 = .ok (.getfield 40, 3) := by decide +kernel
theorem ddM_endScope_43 : decode cM_endScope 43 = .ok (.iload_n 1, 1) := by decide +kernel
theorem ddM_endScope_44 : decode cM_endScope 44 = .ok (.iaload, 1) := by decide +kernel
theorem ddM_endScope_45 : decode cM_endScope 45 = .ok (.goto 7, 3) := by decide +kernel
theorem ddM_endScope_48 : decode cM_endScope 48 = .ok (.aload_n 0, 1) := by decide +kernel
theorem ddM_endScope_49 : decode cM_endScope 49 = .ok (.invokevirtual 269, 3) := by decide +kernel
theorem ddM_endScope_52 : decode cM_endScope 52 = .ok (.istore_n 2, 1) := by decide +kernel
theorem ddM_endScope_53 : decode cM_endScope 53 = .ok (.aload_n 0, 1) := by decide +kernel
theorem ddM_endScope_54 : decode cM_endScope 54 = .ok (.getfield 46, 3) := by decide +kernel
theorem ddM_endScope_57 : decode cM_endScope 57 = .ok (.iload_n 1, 1) := by decide +kernel
theorem ddM_endScope_58 : decode cM_endScope 58 = .ok (.baload, 1) := by decide +kernel
theorem ddM_endScope_59 : decode cM_endScope 59 = .ok (.ifCond .eq 27, 3) := by decide +kernel
theorem ddM_endScope_62 : decode cM_endScope 62 = .ok (.iload_n 2, 1) := by decide +kernel
theorem ddM_endScope_63 : decode cM_endScope 63 = .ok (.iconst (-1), 1) := by decide +kernel
theorem ddM_endScope_64 : decode cM_endScope 64 = .ok (.if_icmp .eq 22, 3) := by decide +kernel
theorem ddM_endScope_67 : decode cM_endScope 67 = .ok (.aload_n 0, 1) := by decide +kernel
theorem ddM_endScope_68 : decode cM_endScope 68 = .ok (.iload_n 2, 1) := by decide +kernel
theorem ddM_endScope_69 : decode cM_endScope 69 = .ok (.aload_n 0, 1) := by decide +kernel
theorem ddM_endScope_70 : decode cM_endScope 70 = .ok (.getfield 37, 3) := by decide +kernel
theorem ddM_endScope_73 : decode cM_endScope 73 = .ok (.iload_n 1, 1) := by decide +kernel
theorem ddM_endScope_74 : decode cM_endScope 74 = .ok (.iaload, 1) := by decide +kernel
theorem ddM_endScope_75 : decode cM_endScope 75 = .ok (.invokevirtual 272, 3) := by decide +kernel
theorem ddM_endScope_78 : decode cM_endScope 78 = .ok (.pop, 1) := by decide +kernel
theorem ddM_endScope_79 : decode cM_endScope 79 = .ok (.aload_n 0, 1) := by decide +kernel
theorem ddM_endScope_80 : decode cM_endScope 80 = .ok (.getfield 46, 3) := by decide +kernel
theorem ddM_endScope_83 : decode cM_endScope 83 = .ok (.iload_n 1, 1) := by decide +kernel
theorem ddM_endScope_84 : decode cM_endScope 84 = .ok (.iconst 0, 1) := by decide +kernel
theorem ddM_endScope_85 : decode cM_endScope 85 = .ok (.bastore, 1) := by decide +kernel
theorem ddM_endScope_86 : decode cM_endScope 86 = .ok (.aload_n 0, 1) := by decide +kernel
theorem ddM_endScope_87 : decode cM_endScope 87 = .ok (.getfield 43, 3) := by decide +kernel
theorem ddM_endScope_90 : decode cM_endScope 90 = .ok (.iload_n 1, 1) := by decide +kernel
theorem ddM_endScope_91 : decode cM_endScope 91 = .ok (.iconst (-1), 1) := by decide +kernel
theorem ddM_endScope_92 : decode cM_endScope 92 = .ok (.iastore, 1) := by decide +kernel
theorem ddM_endScope_93 : decode cM_endScope 93 = .ok (.iinc 1 (-1), 3) := by decide +kernel
theorem ddM_endScope_96 : decode cM_endScope 96 = .ok (.goto (-87), 3) := by decide +kernel
theorem ddM_endScope_99 : decode cM_endScope 99 = .ok (.aload_n 0, 1) := by decide +kernel
theorem ddM_endScope_100 : decode cM_endScope 100 = .ok (.dup, 1) := by decide +kernel
theorem ddM_endScope_101 : decode cM_endScope 101 = .ok (.getfield 266, 3) := by decide +kernel
theorem ddM_endScope_104 : decode cM_endScope 104 = .ok (.iconst 1, 1) := by decide +kernel
theorem ddM_endScope_105 : decode cM_endScope 105 = .ok (.isub, 1) := by decide +kernel
theorem ddM_endScope_106 : decode cM_endScope 106 = .ok (.putfield 266, 3) := by decide +kernel
theorem ddM_endScope_109 : decode cM_endScope 109 = .ok (.return_, 1) := by decide +kernel
set_option maxHeartbeats 2000000 in
theorem zBM_endScope_93 {G : GXM} {X : CxM} (hG : GokM G) (C : CoM G X cM_endScope "HomeFreedModel") (N : mLM X = 3) {d : Nat} (hD : dpM X = d) (hd : 6 ≤ d) {v0 : Nat} {K : Nat → Int32 → Mem → Option ((Mem))} {q : (Mem)} (hK : ∀ (v1 : Int32) (M : Mem), K v0 v1 M = some q → ZM G X 9 [(0, .ref v0), (1, .int v1)] [] M 0 0) (hr : ∀ r : Mem, q =  r → EnM G X none none r 0 0) {v1 : Int32} {M : Mem} (h : BM_endScope_93 K v0 v1 M = some q) : ZM G X 93 [(0, .ref v0), (1, .int v1)] [] M 0 0 := by
  unfold BM_endScope_93 at h
  refine zz_iinc (v := v1 + (-1)) (L1 := [(1, .int (v1 + (-1))), (0, .ref v0)]) C 1 ddM_endScope_93 rfl rfl N (by decide) rfl ?_
  refine zz_goto (tgt := 9) C ddM_endScope_96 rfl ?_
  refine zz_loc (L1 := [(0, .ref v0), (1, .int (v1 + (-1)))]) [1, 0] rfl ?_
  exact hK _ _ h
set_option maxHeartbeats 2000000 in
theorem zBM_endScope_86 {G : GXM} {X : CxM} (hG : GokM G) (C : CoM G X cM_endScope "HomeFreedModel") (N : mLM X = 3) {d : Nat} (hD : dpM X = d) (hd : 6 ≤ d) {v0 : Nat} {K : Nat → Int32 → Mem → Option ((Mem))} {q : (Mem)} (hK : ∀ (v1 : Int32) (M : Mem), K v0 v1 M = some q → ZM G X 9 [(0, .ref v0), (1, .int v1)] [] M 0 0) (hr : ∀ r : Mem, q =  r → EnM G X none none r 0 0) {v1 : Int32} {M : Mem} (h : BM_endScope_86 K v0 v1 M = some q) : ZM G X 86 [(0, .ref v0), (1, .int v1)] [] M 0 0 := by
  unfold BM_endScope_86 at h
  refine zz_aload_n C 0 ddM_endScope_86 rfl rfl ?_
  obtain ⟨h1, h⟩ := gdN h
  obtain ⟨h2, h⟩ := gdN h
  refine zz_getr C ddM_endScope_87 fl_M_43 rfl h1 (of_decide_eq_true h2) ?_
  refine zz_iload_n C 1 ddM_endScope_90 rfl rfl ?_
  refine zz_iconst (v := (-1)) C ddM_endScope_91 (by decide) ?_
  obtain ⟨h3, h⟩ := gdN h
  refine zz_iastore C ddM_endScope_92 h3 ?_
  exact zBM_endScope_93 hG C N hD hd hK hr h
set_option maxHeartbeats 2000000 in
theorem zBM_endScope_52 {G : GXM} {X : CxM} (hG : GokM G) (C : CoM G X cM_endScope "HomeFreedModel") (N : mLM X = 3) {d : Nat} (hD : dpM X = d) (hd : 6 ≤ d) {v0 : Nat} {K : Nat → Int32 → Mem → Option ((Mem))} {q : (Mem)} (hK : ∀ (v1 : Int32) (M : Mem), K v0 v1 M = some q → ZM G X 9 [(0, .ref v0), (1, .int v1)] [] M 0 0) (hr : ∀ r : Mem, q =  r → EnM G X none none r 0 0) {v1 : Int32} {w0 : Int32} {M : Mem} (h : BM_endScope_52 K v0 v1 w0 M = some q) : ZM G X 52 [(0, .ref v0), (1, .int v1)] [.int w0] M 0 0 := by
  unfold BM_endScope_52 at h
  refine zz_istore_n (L1 := [(2, .int w0), (0, .ref v0), (1, .int v1)]) C ddM_endScope_52 rfl N (by decide) rfl ?_
  refine zz_aload_n C 1 ddM_endScope_53 rfl rfl ?_
  obtain ⟨h1, h⟩ := gdN h
  obtain ⟨h2, h⟩ := gdN h
  refine zz_getr C ddM_endScope_54 fl_M_46 rfl h1 (of_decide_eq_true h2) ?_
  refine zz_iload_n C 2 ddM_endScope_57 rfl rfl ?_
  obtain ⟨h3, h⟩ := gdN h
  refine zz_baload C ddM_endScope_58 h3 ?_
  refine zz_if_eq (tgt := 86) C ddM_endScope_59 rfl (fun hc => ?_) (fun hc => ?_)
  · replace h := iteT h hc
    refine zz_loc (L1 := [(0, .ref v0), (1, .int v1)]) [1, 2] rfl ?_
    exact zBM_endScope_86 hG C N hD hd hK hr h
  · replace h := iteF h hc
    refine zz_iload_n C 0 ddM_endScope_62 rfl rfl ?_
    refine zz_iconst (v := (-1)) C ddM_endScope_63 (by decide) ?_
    refine zz_icmp_eq (tgt := 86) C ddM_endScope_64 rfl (fun hc => ?_) (fun hc => ?_)
    · replace h := iteT h hc
      refine zz_loc (L1 := [(0, .ref v0), (1, .int v1)]) [1, 2] rfl ?_
      exact zBM_endScope_86 hG C N hD hd hK hr h
    · replace h := iteF h hc
      refine zz_aload_n C 1 ddM_endScope_67 rfl rfl ?_
      refine zz_iload_n C 0 ddM_endScope_68 rfl rfl ?_
      refine zz_aload_n C 1 ddM_endScope_69 rfl rfl ?_
      obtain ⟨h4, h⟩ := gdN h
      refine zz_getr C ddM_endScope_70 fl_M_37 rfl h1 (of_decide_eq_true h4) ?_
      refine zz_iload_n C 2 ddM_endScope_73 rfl rfl ?_
      obtain ⟨h5, h⟩ := gdN h
      refine zz_iaload C ddM_endScope_74 h5 ?_
      obtain ⟨q6, hq6, h⟩ := bindN h
      refine zz_callV0 (As := [.int w0, .int (giM M (grM M v0 18) (Int32.toNatClampNeg v1))]) C ddM_endScope_75 wd_1563 my_M_freeNow mv_M_freeNow ⟨_, rfl, rfl⟩ (xM_freeNow hG (d - 1) (by omega) hq6) (by omega) h1 rfl rfl (Nat.le_of_ble_eq_true rfl) ?_
      refine zz_pop C ddM_endScope_78 rfl ?_
      refine zz_aload_n C 1 ddM_endScope_79 rfl rfl ?_
      obtain ⟨h7, h⟩ := gdN h
      obtain ⟨h8, h⟩ := gdN h
      refine zz_getr C ddM_endScope_80 fl_M_46 rfl h7 (of_decide_eq_true h8) ?_
      refine zz_iload_n C 2 ddM_endScope_83 rfl rfl ?_
      refine zz_iconst (v := 0) C ddM_endScope_84 (by decide) ?_
      obtain ⟨h9, h⟩ := gdN h
      refine zz_bastore C ddM_endScope_85 h9 (by decide) ?_
      refine zz_loc (L1 := [(0, .ref v0), (1, .int v1)]) [1, 2] rfl ?_
      exact zBM_endScope_86 hG C N hD hd hK hr h
set_option maxHeartbeats 2000000 in
theorem zBM_endScope_9 {G : GXM} {X : CxM} (hG : GokM G) (C : CoM G X cM_endScope "HomeFreedModel") (N : mLM X = 3) {d : Nat} (hD : dpM X = d) (hd : 6 ≤ d) {v0 : Nat} {K : Nat → Int32 → Mem → Option ((Mem))} {q : (Mem)} (hK : ∀ (v1 : Int32) (M : Mem), K v0 v1 M = some q → ZM G X 9 [(0, .ref v0), (1, .int v1)] [] M 0 0) (hr : ∀ r : Mem, q =  r → EnM G X none none r 0 0) {v1 : Int32} {M : Mem} (h : BM_endScope_9 K v0 v1 M = some q) : ZM G X 9 [(0, .ref v0), (1, .int v1)] [] M 0 0 := by
  unfold BM_endScope_9 at h
  refine zz_iload_n C 1 ddM_endScope_9 rfl rfl ?_
  refine zz_if_lt (tgt := 99) C ddM_endScope_10 rfl (fun hc => ?_) (fun hc => ?_)
  · replace h := iteT h hc
    refine zz_aload_n C 0 ddM_endScope_99 rfl rfl ?_
    refine zz_dup C ddM_endScope_100 rfl ?_
    obtain ⟨h1, h⟩ := gdN h
    refine zz_geti C ddM_endScope_101 fl_M_266 rfl h1 ?_
    refine zz_iconst (v := 1) C ddM_endScope_104 (by decide) ?_
    refine zz_isub C ddM_endScope_105 ?_
    refine zz_puti C ddM_endScope_106 fl_M_266 rfl rfl rfl h1 ?_
    exact zz_vret C (hr _ (Option.some.inj h).symm) ddM_endScope_109
  · replace h := iteF h hc
    refine zz_aload_n C 0 ddM_endScope_13 rfl rfl ?_
    obtain ⟨h2, h⟩ := gdN h
    obtain ⟨h3, h⟩ := gdN h
    refine zz_getr C ddM_endScope_14 fl_M_43 rfl h2 (of_decide_eq_true h3) ?_
    refine zz_iload_n C 1 ddM_endScope_17 rfl rfl ?_
    obtain ⟨h4, h⟩ := gdN h
    refine zz_iaload C ddM_endScope_18 h4 ?_
    refine zz_aload_n C 0 ddM_endScope_19 rfl rfl ?_
    refine zz_geti C ddM_endScope_20 fl_M_266 rfl h2 ?_
    refine zz_icmp_ne (tgt := 93) C ddM_endScope_23 rfl (fun hc => ?_) (fun hc => ?_)
    · replace h := iteF h hc
      exact zBM_endScope_93 hG C N hD hd hK hr h
    · replace h := iteT h hc
      refine zz_aload_n C 0 ddM_endScope_26 rfl rfl ?_
      refine zz_aload_n C 0 ddM_endScope_27 rfl rfl ?_
      obtain ⟨h5, h⟩ := gdN h
      refine zz_getr C ddM_endScope_28 fl_M_40 rfl h2 (of_decide_eq_true h5) ?_
      refine zz_iload_n C 1 ddM_endScope_31 rfl rfl ?_
      obtain ⟨h6, h⟩ := gdN h
      refine zz_iaload C ddM_endScope_32 h6 ?_
      obtain ⟨q7, hq7, h⟩ := bindN h
      refine zz_callV0 (As := [.int (giM M (grM M v0 19) (Int32.toNatClampNeg v1))]) C ddM_endScope_33 wd_1463 my_M_doesLive mv_M_doesLive ⟨_, rfl, rfl⟩ (xM_doesLive hG (d - 1) (by omega) hq7) (by omega) h2 rfl rfl (Nat.le_of_ble_eq_true rfl) ?_
      refine zz_if_eq (tgt := 48) C ddM_endScope_36 rfl (fun hc => ?_) (fun hc => ?_)
      · replace h := iteT h hc
        refine zz_aload_n C 0 ddM_endScope_48 rfl rfl ?_
        obtain ⟨h9, h⟩ := gdN h
        obtain ⟨q8, hq8, h⟩ := bindN h
        refine zz_callV0 (As := []) C ddM_endScope_49 wd_1615 my_M_lowestLiving mv_M_lowestLiving ⟨_, rfl, rfl⟩ (xM_lowestLiving hG (d - 1) (by omega) hq8) (by omega) h9 rfl rfl (Nat.le_of_ble_eq_true rfl) ?_
        exact zBM_endScope_52 hG C N hD hd hK hr h
      · replace h := iteF h hc
        refine zz_aload_n C 0 ddM_endScope_39 rfl rfl ?_
        obtain ⟨h10, h⟩ := gdN h
        obtain ⟨h11, h⟩ := gdN h
        refine zz_getr C ddM_endScope_40 fl_M_40 rfl h10 (of_decide_eq_true h11) ?_
        refine zz_iload_n C 1 ddM_endScope_43 rfl rfl ?_
        obtain ⟨h12, h⟩ := gdN h
        refine zz_iaload C ddM_endScope_44 h12 ?_
        refine zz_goto (tgt := 52) C ddM_endScope_45 rfl ?_
        exact zBM_endScope_52 hG C N hD hd hK hr h
set_option maxHeartbeats 2000000 in
theorem zLM_endScope_9 {G : GXM} {X : CxM} (hG : GokM G) (C : CoM G X cM_endScope "HomeFreedModel") (N : mLM X = 3) {d : Nat} (hD : dpM X = d) (hd : 6 ≤ d) {v0 : Nat} {q : (Mem)} : ∀ (f : Nat) (v1 : Int32) (M : Mem), LM_endScope_9 f v0 v1 M = some q → (hr : ∀ r : Mem, q =  r → EnM G X none none r 0 0) → ZM G X 9 [(0, .ref v0), (1, .int v1)] [] M 0 0 := by
  intro f
  induction f with
  | zero => intro v1 M h; cases h
  | succ f ih =>
    intro v1 M h hr
    exact zBM_endScope_9 hG C N hD hd (K := LM_endScope_9 f) (q := q) (fun v1 M h => ih v1 M h hr) hr h
set_option maxHeartbeats 2000000 in
theorem xM_endScope {G : GXM} {l : Launch} (hG : GokM G) (d : Nat) (hd : 6 ≤ d) {v0 : Nat} {M : Mem} {q : Mem} (h : fM_endScope v0 M = some q) : ExM G l d 0 0 yM_endScope cM_endScope 3 none [.ref v0] M none q := by
  refine ex_of hG (by decide +kernel) (Nat.le_of_ble_eq_true rfl) ?_
  intro X hl C E N hD hn
  show ZM G X 0 [(0, .ref v0)] [] M 0 0
  unfold fM_endScope at h
  refine zz_aload_n C 0 ddM_endScope_0 rfl rfl ?_
  obtain ⟨h1, h⟩ := gdN h
  obtain ⟨h2, h⟩ := gdN h
  refine zz_getr C ddM_endScope_1 fl_M_50 rfl h1 (of_decide_eq_true h2) ?_
  refine zz_iconst (v := 0) C ddM_endScope_4 (by decide) ?_
  obtain ⟨h3, h⟩ := gdN h
  refine zz_iaload C ddM_endScope_5 h3 ?_
  refine zz_iconst (v := 1) C ddM_endScope_6 (by decide) ?_
  refine zz_isub C ddM_endScope_7 ?_
  refine zz_istore_n (L1 := [(1, .int ((giM M (grM M v0 22) (Int32.toNatClampNeg 0)) - 1)), (0, .ref v0)]) C ddM_endScope_8 rfl N (by decide) rfl ?_
  refine zz_loc (L1 := [(0, .ref v0), (1, .int ((giM M (grM M v0 22) (Int32.toNatClampNeg 0)) - 1))]) [1, 0] rfl ?_
  obtain ⟨q4, hq4, h⟩ := bindN h
  refine zLM_endScope_9 hG C N hD hd 1000000 _ _ hq4 ?_
  · intro r5 eq4; replace eq4 := eq4.symm; subst eq4
    obtain rfl := Option.some.inj h
    exact E
theorem ddM_doStep_0 : decode cM_doStep 0 = .ok (.aload_n 0, 1) := by decide +kernel
theorem ddM_doStep_1 : decode cM_doStep 1 = .ok (.iload_n 1, 1) := by decide +kernel
theorem ddM_doStep_2 : decode cM_doStep 2 = .ok (.iload_n 2, 1) := by decide +kernel
theorem ddM_doStep_3 : decode cM_doStep 3 = .ok (.iconst 1, 1) := by decide +kernel
theorem ddM_doStep_4 : decode cM_doStep 4 = .ok (.invokevirtual 256, 3) := by decide +kernel
theorem ddM_doStep_7 : decode cM_doStep 7 = .ok (.istore 5, 2) := by decide +kernel
theorem ddM_doStep_9 : decode cM_doStep 9 = .ok (.aload_n 0, 1) := by decide +kernel
theorem ddM_doStep_10 : decode cM_doStep 10 = .ok (.iload_n 1, 1) := by decide +kernel
theorem ddM_doStep_11 : decode cM_doStep 11 = .ok (.iload_n 2, 1) := by decide +kernel
theorem ddM_doStep_12 : decode cM_doStep 12 = .ok (.iconst 2, 1) := by decide +kernel
theorem ddM_doStep_13 : decode cM_doStep 13 = .ok (.invokevirtual 256, 3) := by decide +kernel
theorem ddM_doStep_16 : decode cM_doStep 16 = .ok (.istore 6, 2) := by decide +kernel
theorem ddM_doStep_18 : decode cM_doStep 18 = .ok (.aload_n 0, 1) := by decide +kernel
theorem ddM_doStep_19 : decode cM_doStep 19 = .ok (.iload_n 1, 1) := by decide +kernel
theorem ddM_doStep_20 : decode cM_doStep 20 = .ok (.iload_n 2, 1) := by decide +kernel
theorem ddM_doStep_21 : decode cM_doStep 21 = .ok (.iconst 0, 1) := by decide +kernel
theorem ddM_doStep_22 : decode cM_doStep 22 = .ok (.invokevirtual 256, 3) := by decide +kernel
theorem ddM_doStep_25 : decode cM_doStep 25 = .ok (.tableswitch 129 0 5 #[39, 53, 88, 97, 106, 116], 39) := by decide +kernel
theorem ddM_doStep_64 : decode cM_doStep 64 = .ok (.aload_n 0, 1) := by decide +kernel
theorem ddM_doStep_65 : decode cM_doStep 65 = .ok (.iload 5, 2) := by decide +kernel
theorem ddM_doStep_67 : decode cM_doStep 67 = .ok (.iload 6, 2) := by decide +kernel
theorem ddM_doStep_69 : decode cM_doStep 69 = .ok (.iload_n 3, 1) := by decide +kernel
theorem ddM_doStep_70 : decode cM_doStep 70 = .ok (.iload 4, 2) := by decide +kernel
theorem ddM_doStep_72 : decode cM_doStep 72 = .ok (.invokevirtual 281, 3) := by decide +kernel
theorem ddM_doStep_75 : decode cM_doStep 75 = .ok (.goto 83, 3) := by decide +kernel
theorem ddM_doStep_78 : decode cM_doStep 78 = .ok (.aload_n 0, 1) := by decide +kernel
theorem ddM_doStep_79 : decode cM_doStep 79 = .ok (.iload 5, 2) := by decide +kernel
theorem ddM_doStep_81 : decode cM_doStep 81 = .ok (.aload_n 0, 1) := by decide +kernel
theorem ddM_doStep_82 : decode cM_doStep 82 = .ok (.getfield 37, 3) := by decide +kernel
theorem ddM_doStep_85 : decode cM_doStep 85 = .ok (.bipush 24, 2) := by decide +kernel
theorem ddM_doStep_87 : decode cM_doStep 87 = .ok (.iload_n 3, 1) := by decide +kernel
theorem ddM_doStep_88 : decode cM_doStep 88 = .ok (.imul, 1) := by decide +kernel
theorem ddM_doStep_89 : decode cM_doStep 89 = .ok (.iload 6, 2) := by decide +kernel
theorem ddM_doStep_91 : decode cM_doStep 91 = .ok (.iadd, 1) := by decide +kernel
theorem ddM_doStep_92 : decode cM_doStep 92 = .ok (.iaload, 1) := by decide +kernel
theorem ddM_doStep_93 : decode cM_doStep 93 = .ok (.invokevirtual 272, 3) := by decide +kernel
theorem ddM_doStep_96 : decode cM_doStep 96 = .ok (.pop, 1) := by decide +kernel
theorem ddM_doStep_97 : decode cM_doStep 97 = .ok (.aload_n 0, 1) := by decide +kernel
theorem ddM_doStep_98 : decode cM_doStep 98 = .ok (.getfield 46, 3) := by decide +kernel
theorem ddM_doStep_101 : decode cM_doStep 101 = .ok (.bipush 24, 2) := by decide +kernel
theorem ddM_doStep_103 : decode cM_doStep 103 = .ok (.iload_n 3, 1) := by decide +kernel
theorem ddM_doStep_104 : decode cM_doStep 104 = .ok (.imul, 1) := by decide +kernel
theorem ddM_doStep_105 : decode cM_doStep 105 = .ok (.iload 6, 2) := by decide +kernel
theorem ddM_doStep_107 : decode cM_doStep 107 = .ok (.iadd, 1) := by decide +kernel
theorem ddM_doStep_108 : decode cM_doStep 108 = .ok (.iconst 0, 1) := by decide +kernel
theorem ddM_doStep_109 : decode cM_doStep 109 = .ok (.bastore, 1) := by decide +kernel
theorem ddM_doStep_110 : decode cM_doStep 110 = .ok (.goto 48, 3) := by decide +kernel
theorem ddM_doStep_113 : decode cM_doStep 113 = .ok (.aload_n 0, 1) := by decide +kernel
theorem ddM_doStep_114 : decode cM_doStep 114 = .ok (.iload 5, 2) := by decide +kernel
theorem ddM_doStep_116 : decode cM_doStep 116 = .ok (.invokevirtual 285, 3) := by decide +kernel
theorem ddM_doStep_119 : decode cM_doStep 119 = .ok (.goto 39, 3) := by decide +kernel
theorem ddM_doStep_122 : decode cM_doStep 122 = .ok (.aload_n 0, 1) := by decide +kernel
theorem ddM_doStep_123 : decode cM_doStep 123 = .ok (.iload 5, 2) := by decide +kernel
theorem ddM_doStep_125 : decode cM_doStep 125 = .ok (.invokevirtual 235, 3) := by decide +kernel
theorem ddM_doStep_128 : decode cM_doStep 128 = .ok (.goto 30, 3) := by decide +kernel
theorem ddM_doStep_131 : decode cM_doStep 131 = .ok (.aload_n 0, 1) := by decide +kernel
theorem ddM_doStep_132 : decode cM_doStep 132 = .ok (.iload 5, 2) := by decide +kernel
theorem ddM_doStep_134 : decode cM_doStep 134 = .ok (.invokevirtual 250, 3) := by decide +kernel
theorem ddM_doStep_137 : decode cM_doStep 137 = .ok (.pop, 1) := by decide +kernel
theorem ddM_doStep_138 : decode cM_doStep 138 = .ok (.goto 20, 3) := by decide +kernel
theorem ddM_doStep_141 : decode cM_doStep 141 = .ok (.aload_n 0, 1) := by decide +kernel
theorem ddM_doStep_142 : decode cM_doStep 142 = .ok (.dup, 1) := by decide +kernel
theorem ddM_doStep_143 : decode cM_doStep 143 = .ok (.getfield 266, 3) := by decide +kernel
theorem ddM_doStep_146 : decode cM_doStep 146 = .ok (.iconst 1, 1) := by decide +kernel
theorem ddM_doStep_147 : decode cM_doStep 147 = .ok (.iadd, 1) := by decide +kernel
theorem ddM_doStep_148 : decode cM_doStep 148 = .ok (.putfield 266, 3) := by decide +kernel
theorem ddM_doStep_151 : decode cM_doStep 151 = .ok (.goto 7, 3) := by decide +kernel
theorem ddM_doStep_154 : decode cM_doStep 154 = .ok (.aload_n 0, 1) := by decide +kernel
theorem ddM_doStep_155 : decode cM_doStep 155 = .ok (.invokevirtual 288, 3) := by decide +kernel
theorem ddM_doStep_158 : decode cM_doStep 158 = .ok (.return_, 1) := by decide +kernel
set_option maxHeartbeats 2000000 in
theorem zBM_doStep_158 {G : GXM} {X : CxM} (hG : GokM G) (C : CoM G X cM_doStep "HomeFreedModel") (N : mLM X = 7) {d : Nat} (hD : dpM X = d) (hd : 9 ≤ d)  {q : Mem} (E : EnM G X none none q 0 0) {M : Mem} (h : BM_doStep_158 M = some q) : ZM G X 158 [] [] M 0 0 := by
  unfold BM_doStep_158 at h
  obtain rfl := Option.some.inj h
  exact zz_vret C E ddM_doStep_158
set_option maxHeartbeats 2000000 in
theorem xM_doStep {G : GXM} {l : Launch} (hG : GokM G) (d : Nat) (hd : 9 ≤ d) {v0 : Nat} {v1 : Int32} {v2 : Int32} {v3 : Int32} {v4 : Int32} {M : Mem} {q : Mem} (h : fM_doStep v0 v1 v2 v3 v4 M = some q) : ExM G l d 0 0 yM_doStep cM_doStep 7 none [.ref v0, .int v1, .int v2, .int v3, .int v4] M none q := by
  refine ex_of hG (by decide +kernel) (Nat.le_of_ble_eq_true rfl) ?_
  intro X hl C E N hD hn
  show ZM G X 0 [(0, .ref v0), (1, .int v1), (2, .int v2), (3, .int v3), (4, .int v4)] [] M 0 0
  unfold fM_doStep at h
  refine zz_aload_n C 0 ddM_doStep_0 rfl rfl ?_
  refine zz_iload_n C 1 ddM_doStep_1 rfl rfl ?_
  refine zz_iload_n C 2 ddM_doStep_2 rfl rfl ?_
  refine zz_iconst (v := 1) C ddM_doStep_3 (by decide) ?_
  obtain ⟨h2, h⟩ := gdN h
  obtain ⟨q1, hq1, h⟩ := bindN h
  refine zz_callV0 (As := [.int v1, .int v2, .int 1]) C ddM_doStep_4 wd_1599 my_M_stepOf mv_M_stepOf ⟨_, rfl, rfl⟩ (xM_stepOf hG (d - 1) (by omega) hq1) (by omega) h2 rfl rfl (Nat.le_of_ble_eq_true rfl) ?_
  refine zz_istore (L1 := [(5, .int q1.1), (0, .ref v0), (1, .int v1), (2, .int v2), (3, .int v3), (4, .int v4)]) C ddM_doStep_7 N (by decide) rfl ?_
  refine zz_aload_n C 1 ddM_doStep_9 rfl rfl ?_
  refine zz_iload_n C 2 ddM_doStep_10 rfl rfl ?_
  refine zz_iload_n C 3 ddM_doStep_11 rfl rfl ?_
  refine zz_iconst (v := 2) C ddM_doStep_12 (by decide) ?_
  obtain ⟨h4, h⟩ := gdN h
  obtain ⟨q3, hq3, h⟩ := bindN h
  refine zz_callV0 (As := [.int v1, .int v2, .int 2]) C ddM_doStep_13 wd_1599 my_M_stepOf mv_M_stepOf ⟨_, rfl, rfl⟩ (xM_stepOf hG (d - 1) (by omega) hq3) (by omega) h4 rfl rfl (Nat.le_of_ble_eq_true rfl) ?_
  refine zz_istore (L1 := [(6, .int q3.1), (5, .int q1.1), (0, .ref v0), (1, .int v1), (2, .int v2), (3, .int v3), (4, .int v4)]) C ddM_doStep_16 N (by decide) rfl ?_
  refine zz_aload_n C 2 ddM_doStep_18 rfl rfl ?_
  refine zz_iload_n C 3 ddM_doStep_19 rfl rfl ?_
  refine zz_iload_n C 4 ddM_doStep_20 rfl rfl ?_
  refine zz_iconst (v := 0) C ddM_doStep_21 (by decide) ?_
  obtain ⟨h6, h⟩ := gdN h
  obtain ⟨q5, hq5, h⟩ := bindN h
  refine zz_callV0 (As := [.int v1, .int v2, .int 0]) C ddM_doStep_22 wd_1599 my_M_stepOf mv_M_stepOf ⟨_, rfl, rfl⟩ (xM_stepOf hG (d - 1) (by omega) hq5) (by omega) h6 rfl rfl (Nat.le_of_ble_eq_true rfl) ?_
  by_cases hs25_0 : q5.1 = 0
  · replace h := iteT h hs25_0
    rw [hs25_0]
    refine zz_tableIn (tgt := 64) C ddM_doStep_25 (by decide) (by decide) rfl rfl ?_
    refine zz_aload_n C 2 ddM_doStep_64 rfl rfl ?_
    refine zz_iload C 1 ddM_doStep_65 rfl ?_
    refine zz_iload C 0 ddM_doStep_67 rfl ?_
    refine zz_iload_n C 5 ddM_doStep_69 rfl rfl ?_
    refine zz_iload C 6 ddM_doStep_70 rfl ?_
    obtain ⟨h8, h⟩ := gdN h
    obtain ⟨q7, hq7, h⟩ := bindN h
    refine zz_callV0 (As := [.int q1.1, .int q3.1, .int v3, .int v4]) C ddM_doStep_72 wd_1607 my_M_stepGet mv_M_stepGet ⟨_, rfl, rfl⟩ (xM_stepGet hG (d - 1) (by omega) hq7) (by omega) h8 rfl rfl (Nat.le_of_ble_eq_true rfl) ?_
    refine zz_goto (tgt := 158) C ddM_doStep_75 rfl ?_
    refine zz_loc (L1 := []) [] rfl ?_
    exact zBM_doStep_158 hG C N hD hd E h
  replace h := iteF h hs25_0
  by_cases hs25_1 : q5.1 = 1
  · replace h := iteT h hs25_1
    rw [hs25_1]
    refine zz_tableIn (tgt := 78) C ddM_doStep_25 (by decide) (by decide) rfl rfl ?_
    refine zz_aload_n C 2 ddM_doStep_78 rfl rfl ?_
    refine zz_iload C 1 ddM_doStep_79 rfl ?_
    refine zz_aload_n C 2 ddM_doStep_81 rfl rfl ?_
    obtain ⟨h9, h⟩ := gdN h
    obtain ⟨h10, h⟩ := gdN h
    refine zz_getr C ddM_doStep_82 fl_M_37 rfl h9 (of_decide_eq_true h10) ?_
    refine zz_bipush (v := 24) C ddM_doStep_85 (by decide) ?_
    refine zz_iload_n C 5 ddM_doStep_87 rfl rfl ?_
    refine zz_imul C ddM_doStep_88 ?_
    refine zz_iload C 0 ddM_doStep_89 rfl ?_
    refine zz_iadd C ddM_doStep_91 ?_
    obtain ⟨h11, h⟩ := gdN h
    refine zz_iaload C ddM_doStep_92 h11 ?_
    obtain ⟨q12, hq12, h⟩ := bindN h
    refine zz_callV0 (As := [.int q1.1, .int (giM q5.2 (grM q5.2 v0 18) (Int32.toNatClampNeg ((24 * v3) + q3.1)))]) C ddM_doStep_93 wd_1563 my_M_freeNow mv_M_freeNow ⟨_, rfl, rfl⟩ (xM_freeNow hG (d - 1) (by omega) hq12) (by omega) h9 rfl rfl (Nat.le_of_ble_eq_true rfl) ?_
    refine zz_pop C ddM_doStep_96 rfl ?_
    refine zz_aload_n C 2 ddM_doStep_97 rfl rfl ?_
    obtain ⟨h13, h⟩ := gdN h
    obtain ⟨h14, h⟩ := gdN h
    refine zz_getr C ddM_doStep_98 fl_M_46 rfl h13 (of_decide_eq_true h14) ?_
    refine zz_bipush (v := 24) C ddM_doStep_101 (by decide) ?_
    refine zz_iload_n C 5 ddM_doStep_103 rfl rfl ?_
    refine zz_imul C ddM_doStep_104 ?_
    refine zz_iload C 0 ddM_doStep_105 rfl ?_
    refine zz_iadd C ddM_doStep_107 ?_
    refine zz_iconst (v := 0) C ddM_doStep_108 (by decide) ?_
    obtain ⟨h15, h⟩ := gdN h
    refine zz_bastore C ddM_doStep_109 h15 (by decide) ?_
    refine zz_goto (tgt := 158) C ddM_doStep_110 rfl ?_
    refine zz_loc (L1 := []) [] rfl ?_
    exact zBM_doStep_158 hG C N hD hd E h
  replace h := iteF h hs25_1
  by_cases hs25_2 : q5.1 = 2
  · replace h := iteT h hs25_2
    rw [hs25_2]
    refine zz_tableIn (tgt := 113) C ddM_doStep_25 (by decide) (by decide) rfl rfl ?_
    refine zz_aload_n C 2 ddM_doStep_113 rfl rfl ?_
    refine zz_iload C 1 ddM_doStep_114 rfl ?_
    obtain ⟨h17, h⟩ := gdN h
    obtain ⟨q16, hq16, h⟩ := bindN h
    refine zz_callV0 (As := [.int q1.1]) C ddM_doStep_116 wd_1579 my_M_turnNow mv_M_turnNow ⟨_, rfl, rfl⟩ (xM_turnNow hG (d - 1) (by omega) hq16) (by omega) h17 rfl rfl (Nat.le_of_ble_eq_true rfl) ?_
    refine zz_goto (tgt := 158) C ddM_doStep_119 rfl ?_
    refine zz_loc (L1 := []) [] rfl ?_
    exact zBM_doStep_158 hG C N hD hd E h
  replace h := iteF h hs25_2
  by_cases hs25_3 : q5.1 = 3
  · replace h := iteT h hs25_3
    rw [hs25_3]
    refine zz_tableIn (tgt := 122) C ddM_doStep_25 (by decide) (by decide) rfl rfl ?_
    refine zz_aload_n C 2 ddM_doStep_122 rfl rfl ?_
    refine zz_iload C 1 ddM_doStep_123 rfl ?_
    obtain ⟨h19, h⟩ := gdN h
    obtain ⟨q18, hq18, h⟩ := bindN h
    refine zz_callV0 (As := [.int q1.1]) C ddM_doStep_125 wd_1527 my_M_tickNow mv_M_tickNow ⟨_, rfl, rfl⟩ (xM_tickNow hG (d - 1) (by omega) hq18) (by omega) h19 rfl rfl (Nat.le_of_ble_eq_true rfl) ?_
    refine zz_goto (tgt := 158) C ddM_doStep_128 rfl ?_
    refine zz_loc (L1 := []) [] rfl ?_
    exact zBM_doStep_158 hG C N hD hd E h
  replace h := iteF h hs25_3
  by_cases hs25_4 : q5.1 = 4
  · replace h := iteT h hs25_4
    rw [hs25_4]
    refine zz_tableIn (tgt := 131) C ddM_doStep_25 (by decide) (by decide) rfl rfl ?_
    refine zz_aload_n C 2 ddM_doStep_131 rfl rfl ?_
    refine zz_iload C 1 ddM_doStep_132 rfl ?_
    obtain ⟨h21, h⟩ := gdN h
    obtain ⟨q20, hq20, h⟩ := bindN h
    refine zz_callV0 (As := [.int q1.1]) C ddM_doStep_134 wd_1531 my_M_sendNow mv_M_sendNow ⟨_, rfl, rfl⟩ (xM_sendNow hG (d - 1) (by omega) hq20) (by omega) h21 rfl rfl (Nat.le_of_ble_eq_true rfl) ?_
    refine zz_pop C ddM_doStep_137 rfl ?_
    refine zz_goto (tgt := 158) C ddM_doStep_138 rfl ?_
    refine zz_loc (L1 := []) [] rfl ?_
    exact zBM_doStep_158 hG C N hD hd E h
  replace h := iteF h hs25_4
  by_cases hs25_5 : q5.1 = 5
  · replace h := iteT h hs25_5
    rw [hs25_5]
    refine zz_tableIn (tgt := 141) C ddM_doStep_25 (by decide) (by decide) rfl rfl ?_
    refine zz_aload_n C 2 ddM_doStep_141 rfl rfl ?_
    refine zz_dup C ddM_doStep_142 rfl ?_
    obtain ⟨h22, h⟩ := gdN h
    refine zz_geti C ddM_doStep_143 fl_M_266 rfl h22 ?_
    refine zz_iconst (v := 1) C ddM_doStep_146 (by decide) ?_
    refine zz_iadd C ddM_doStep_147 ?_
    refine zz_puti C ddM_doStep_148 fl_M_266 rfl rfl rfl h22 ?_
    refine zz_goto (tgt := 158) C ddM_doStep_151 rfl ?_
    refine zz_loc (L1 := []) [] rfl ?_
    exact zBM_doStep_158 hG C N hD hd E h
  replace h := iteF h hs25_5
  have ths25_0 := lv_neT (a := 0) hs25_0 (by decide)
  have ths25_1 := lv_neT (a := 1) hs25_1 (by decide)
  have ths25_2 := lv_neT (a := 2) hs25_2 (by decide)
  have ths25_3 := lv_neT (a := 3) hs25_3 (by decide)
  have ths25_4 := lv_neT (a := 4) hs25_4 (by decide)
  have ths25_5 := lv_neT (a := 5) hs25_5 (by decide)
  refine zz_tableOut (tgt := 154) C ddM_doStep_25 (by omega) rfl ?_
  refine zz_aload_n C 2 ddM_doStep_154 rfl rfl ?_
  obtain ⟨h24, h⟩ := gdN h
  obtain ⟨q23, hq23, h⟩ := bindN h
  refine zz_callV0 (As := []) C ddM_doStep_155 wd_1611 my_M_endScope mv_M_endScope ⟨_, rfl, rfl⟩ (xM_endScope hG (d - 1) (by omega) hq23) (by omega) h24 rfl rfl (Nat.le_of_ble_eq_true rfl) ?_
  refine zz_loc (L1 := []) [] rfl ?_
  exact zBM_doStep_158 hG C N hD hd E h
theorem ddM_runScript_0 : decode cM_runScript 0 = .ok (.aload_n 0, 1) := by decide +kernel
theorem ddM_runScript_1 : decode cM_runScript 1 = .ok (.getfield 50, 3) := by decide +kernel
theorem ddM_runScript_4 : decode cM_runScript 4 = .ok (.iconst 0, 1) := by decide +kernel
theorem ddM_runScript_5 : decode cM_runScript 5 = .ok (.iconst 0, 1) := by decide +kernel
theorem ddM_runScript_6 : decode cM_runScript 6 = .ok (.iastore, 1) := by decide +kernel
theorem ddM_runScript_7 : decode cM_runScript 7 = .ok (.aload_n 0, 1) := by decide +kernel
theorem ddM_runScript_8 : decode cM_runScript 8 = .ok (.iconst 0, 1) := by decide +kernel
theorem ddM_runScript_9 : decode cM_runScript 9 = .ok (.putfield 266, 3) := by decide +kernel
theorem ddM_runScript_12 : decode cM_runScript 12 = .ok (.iconst 0, 1) := by decide +kernel
theorem ddM_runScript_13 : decode cM_runScript 13 = .ok (.istore_n 3, 1) := by decide +kernel
theorem ddM_runScript_14 : decode cM_runScript 14 = .ok (.iload_n 3, 1) := by decide +kernel
theorem ddM_runScript_15 : decode cM_runScript 15 = .ok (.aload_n 0, 1) := by decide +kernel
theorem ddM_runScript_16 : decode cM_runScript 16 = .ok (.getfield 28, 3) := by decide +kernel
theorem ddM_runScript_19 : decode cM_runScript 19 = .ok (.iload_n 1, 1) := by decide +kernel
theorem ddM_runScript_20 : decode cM_runScript 20 = .ok (.iaload, 1) := by decide +kernel
theorem ddM_runScript_21 : decode cM_runScript 21 = .ok (.if_icmp .ge 27, 3) := by decide +kernel
theorem ddM_runScript_24 : decode cM_runScript 24 = .ok (.aload_n 0, 1) := by decide +kernel
theorem ddM_runScript_25 : decode cM_runScript 25 = .ok (.iload_n 1, 1) := by decide +kernel
theorem ddM_runScript_26 : decode cM_runScript 26 = .ok (.iload_n 3, 1) := by decide +kernel
theorem ddM_runScript_27 : decode cM_runScript 27 = .ok (.iconst 0, 1) := by decide +kernel
theorem ddM_runScript_28 : decode cM_runScript 28 = .ok (.invokevirtual 291, 3) := by decide +kernel
theorem ddM_runScript_31 : decode cM_runScript 31 = .ok (.ifCond .eq 17, 3) := by decide +kernel
theorem ddM_runScript_34 : decode cM_runScript 34 = .ok (.aload_n 0, 1) := by decide +kernel
theorem ddM_runScript_35 : decode cM_runScript 35 = .ok (.iload_n 1, 1) := by decide +kernel
theorem ddM_runScript_36 : decode cM_runScript 36 = .ok (.iload_n 3, 1) := by decide +kernel
theorem ddM_runScript_37 : decode cM_runScript 37 = .ok (.iconst 0, 1) := by decide +kernel
theorem ddM_runScript_38 : decode cM_runScript 38 = .ok (.iload_n 2, 1) := by decide +kernel
theorem ddM_runScript_39 : decode cM_runScript 39 = .ok (.invokevirtual 294, 3) := by decide +kernel
theorem ddM_runScript_42 : decode cM_runScript 42 = .ok (.iinc 3 1, 3) := by decide +kernel
theorem ddM_runScript_45 : decode cM_runScript 45 = .ok (.goto (-31), 3) := by decide +kernel
theorem ddM_runScript_48 : decode cM_runScript 48 = .ok (.aload_n 0, 1) := by decide +kernel
theorem ddM_runScript_49 : decode cM_runScript 49 = .ok (.getfield 266, 3) := by decide +kernel
theorem ddM_runScript_52 : decode cM_runScript 52 = .ok (.ifCond .le 10, 3) := by decide +kernel
theorem ddM_runScript_55 : decode cM_runScript 55 = .ok (.aload_n 0, 1) := by decide +kernel
theorem ddM_runScript_56 : decode cM_runScript 56 = .ok (.invokevirtual 288, 3) := by decide +kernel
theorem ddM_runScript_59 : decode cM_runScript 59 = .ok (.goto (-11), 3) := by decide +kernel
theorem ddM_runScript_62 : decode cM_runScript 62 = .ok (.iload_n 3, 1) := by decide +kernel
theorem ddM_runScript_63 : decode cM_runScript 63 = .ok (.ireturn, 1) := by decide +kernel
set_option maxHeartbeats 2000000 in
theorem zBM_runScript_48 {G : GXM} {X : CxM} (hG : GokM G) (C : CoM G X cM_runScript "HomeFreedModel") (N : mLM X = 4) {d : Nat} (hD : dpM X = d) (hd : 10 ≤ d) {v0 : Nat} {v3 : Int32} {K : Nat → Int32 → Mem → Option ((Int32 × Mem))} {q : (Int32 × Mem)} (hK : ∀  (M : Mem), K v0 v3 M = some q → ZM G X 48 [(0, .ref v0), (3, .int v3)] [] M 0 0) (hr : ∀ r : Int32 × Mem, q =  r → EnM G X (some .int) (some (.int r.1)) r.2 0 0) {M : Mem} (h : BM_runScript_48 K v0 v3 M = some q) : ZM G X 48 [(0, .ref v0), (3, .int v3)] [] M 0 0 := by
  unfold BM_runScript_48 at h
  refine zz_aload_n C 0 ddM_runScript_48 rfl rfl ?_
  obtain ⟨h1, h⟩ := gdN h
  refine zz_geti C ddM_runScript_49 fl_M_266 rfl h1 ?_
  refine zz_if_le (tgt := 62) C ddM_runScript_52 rfl (fun hc => ?_) (fun hc => ?_)
  · replace h := iteT h hc
    refine zz_iload_n C 1 ddM_runScript_62 rfl rfl ?_
    exact zz_iret C (hr _ (Option.some.inj h).symm) ddM_runScript_63
  · replace h := iteF h hc
    refine zz_aload_n C 0 ddM_runScript_55 rfl rfl ?_
    obtain ⟨q2, hq2, h⟩ := bindN h
    refine zz_callV0 (As := []) C ddM_runScript_56 wd_1611 my_M_endScope mv_M_endScope ⟨_, rfl, rfl⟩ (xM_endScope hG (d - 1) (by omega) hq2) (by omega) h1 rfl rfl (Nat.le_of_ble_eq_true rfl) ?_
    refine zz_goto (tgt := 48) C ddM_runScript_59 rfl ?_
    exact hK  _ h
set_option maxHeartbeats 2000000 in
theorem zLM_runScript_48 {G : GXM} {X : CxM} (hG : GokM G) (C : CoM G X cM_runScript "HomeFreedModel") (N : mLM X = 4) {d : Nat} (hD : dpM X = d) (hd : 10 ≤ d) {v0 : Nat} {v3 : Int32} {q : (Int32 × Mem)} : ∀ (f : Nat)  (M : Mem), LM_runScript_48 f v0 v3 M = some q → (hr : ∀ r : Int32 × Mem, q =  r → EnM G X (some .int) (some (.int r.1)) r.2 0 0) → ZM G X 48 [(0, .ref v0), (3, .int v3)] [] M 0 0 := by
  intro f
  induction f with
  | zero => intro  M h; cases h
  | succ f ih =>
    intro  M h hr
    exact zBM_runScript_48 hG C N hD hd (K := LM_runScript_48 f) (q := q) (fun  M h => ih  M h hr) hr h
set_option maxHeartbeats 2000000 in
theorem zBM_runScript_14 {G : GXM} {X : CxM} (hG : GokM G) (C : CoM G X cM_runScript "HomeFreedModel") (N : mLM X = 4) {d : Nat} (hD : dpM X = d) (hd : 10 ≤ d) {v0 : Nat} {v1 : Int32} {v2 : Int32} {K : Nat → Int32 → Int32 → Int32 → Mem → Option ((Int32 × Mem))} {q : (Int32 × Mem)} (hK : ∀ (v3 : Int32) (M : Mem), K v0 v1 v2 v3 M = some q → ZM G X 14 [(0, .ref v0), (1, .int v1), (2, .int v2), (3, .int v3)] [] M 0 0) (hx0 : ∀ y : Int32 × Mem, q = y → ZM G X 48 [(0, .ref v0), (3, .int y.1)] [] y.2 0 0) {v3 : Int32} {M : Mem} (h : BM_runScript_14 K v0 v1 v2 v3 M = some q) : ZM G X 14 [(0, .ref v0), (1, .int v1), (2, .int v2), (3, .int v3)] [] M 0 0 := by
  unfold BM_runScript_14 at h
  refine zz_iload_n C 3 ddM_runScript_14 rfl rfl ?_
  refine zz_aload_n C 0 ddM_runScript_15 rfl rfl ?_
  obtain ⟨h1, h⟩ := gdN h
  obtain ⟨h2, h⟩ := gdN h
  refine zz_getr C ddM_runScript_16 fl_M_28 rfl h1 (of_decide_eq_true h2) ?_
  refine zz_iload_n C 1 ddM_runScript_19 rfl rfl ?_
  obtain ⟨h3, h⟩ := gdN h
  refine zz_iaload C ddM_runScript_20 h3 ?_
  refine zz_icmp_ge (tgt := 48) C ddM_runScript_21 rfl (fun hc => ?_) (fun hc => ?_)
  · replace h := iteT h hc
    refine zz_loc (L1 := [(0, .ref v0), (3, .int v3)]) [0, 3] rfl ?_
    exact hx0 _ (Option.some.inj h).symm
  · replace h := iteF h hc
    refine zz_aload_n C 0 ddM_runScript_24 rfl rfl ?_
    refine zz_iload_n C 1 ddM_runScript_25 rfl rfl ?_
    refine zz_iload_n C 3 ddM_runScript_26 rfl rfl ?_
    refine zz_iconst (v := 0) C ddM_runScript_27 (by decide) ?_
    obtain ⟨q4, hq4, h⟩ := bindN h
    refine zz_callV0 (As := [.int v1, .int v3, .int 0]) C ddM_runScript_28 wd_1595 my_M_canStep mv_M_canStep ⟨_, rfl, rfl⟩ (xM_canStep hG (d - 1) (by omega) hq4) (by omega) h1 rfl rfl (Nat.le_of_ble_eq_true rfl) ?_
    refine zz_if_eq (tgt := 48) C ddM_runScript_31 rfl (fun hc => ?_) (fun hc => ?_)
    · replace h := iteT h hc
      refine zz_loc (L1 := [(0, .ref v0), (3, .int v3)]) [0, 3] rfl ?_
      exact hx0 _ (Option.some.inj h).symm
    · replace h := iteF h hc
      refine zz_aload_n C 0 ddM_runScript_34 rfl rfl ?_
      refine zz_iload_n C 1 ddM_runScript_35 rfl rfl ?_
      refine zz_iload_n C 3 ddM_runScript_36 rfl rfl ?_
      refine zz_iconst (v := 0) C ddM_runScript_37 (by decide) ?_
      refine zz_iload_n C 2 ddM_runScript_38 rfl rfl ?_
      obtain ⟨h6, h⟩ := gdN h
      obtain ⟨q5, hq5, h⟩ := bindN h
      refine zz_callV0 (As := [.int v1, .int v3, .int 0, .int v2]) C ddM_runScript_39 wd_1603 my_M_doStep mv_M_doStep ⟨_, rfl, rfl⟩ (xM_doStep hG (d - 1) (by omega) hq5) (by omega) h6 rfl rfl (Nat.le_of_ble_eq_true rfl) ?_
      refine zz_iinc (v := v3 + 1) (L1 := [(3, .int (v3 + 1)), (0, .ref v0), (1, .int v1), (2, .int v2)]) C 3 ddM_runScript_42 rfl rfl N (by decide) rfl ?_
      refine zz_goto (tgt := 14) C ddM_runScript_45 rfl ?_
      refine zz_loc (L1 := [(0, .ref v0), (1, .int v1), (2, .int v2), (3, .int (v3 + 1))]) [1, 2, 3, 0] rfl ?_
      exact hK _ _ h
set_option maxHeartbeats 2000000 in
theorem zLM_runScript_14 {G : GXM} {X : CxM} (hG : GokM G) (C : CoM G X cM_runScript "HomeFreedModel") (N : mLM X = 4) {d : Nat} (hD : dpM X = d) (hd : 10 ≤ d) {v0 : Nat} {v1 : Int32} {v2 : Int32} {q : (Int32 × Mem)} : ∀ (f : Nat) (v3 : Int32) (M : Mem), LM_runScript_14 f v0 v1 v2 v3 M = some q → (hx0 : ∀ y : Int32 × Mem, q = y → ZM G X 48 [(0, .ref v0), (3, .int y.1)] [] y.2 0 0) → ZM G X 14 [(0, .ref v0), (1, .int v1), (2, .int v2), (3, .int v3)] [] M 0 0 := by
  intro f
  induction f with
  | zero => intro v3 M h; cases h
  | succ f ih =>
    intro v3 M h hx0
    exact zBM_runScript_14 hG C N hD hd (K := LM_runScript_14 f) (q := q) (fun v3 M h => ih v3 M h hx0) hx0 h
set_option maxHeartbeats 2000000 in
theorem xM_runScript {G : GXM} {l : Launch} (hG : GokM G) (d : Nat) (hd : 10 ≤ d) {v0 : Nat} {v1 : Int32} {v2 : Int32} {M : Mem} {q : Int32 × Mem} (h : fM_runScript v0 v1 v2 M = some q) : ExM G l d 0 0 yM_runScript cM_runScript 4 (some .int) [.ref v0, .int v1, .int v2] M (some (.int q.1)) q.2 := by
  refine ex_of hG (by decide +kernel) (Nat.le_of_ble_eq_true rfl) ?_
  intro X hl C E N hD hn
  show ZM G X 0 [(0, .ref v0), (1, .int v1), (2, .int v2)] [] M 0 0
  unfold fM_runScript at h
  refine zz_aload_n C 0 ddM_runScript_0 rfl rfl ?_
  obtain ⟨h1, h⟩ := gdN h
  obtain ⟨h2, h⟩ := gdN h
  refine zz_getr C ddM_runScript_1 fl_M_50 rfl h1 (of_decide_eq_true h2) ?_
  refine zz_iconst (v := 0) C ddM_runScript_4 (by decide) ?_
  refine zz_iconst (v := 0) C ddM_runScript_5 (by decide) ?_
  obtain ⟨h3, h⟩ := gdN h
  refine zz_iastore C ddM_runScript_6 h3 ?_
  refine zz_aload_n C 0 ddM_runScript_7 rfl rfl ?_
  refine zz_iconst (v := 0) C ddM_runScript_8 (by decide) ?_
  refine zz_puti C ddM_runScript_9 fl_M_266 rfl rfl rfl h1 ?_
  refine zz_iconst (v := 0) C ddM_runScript_12 (by decide) ?_
  refine zz_istore_n (L1 := [(3, .int 0), (0, .ref v0), (1, .int v1), (2, .int v2)]) C ddM_runScript_13 rfl N (by decide) rfl ?_
  refine zz_loc (L1 := [(0, .ref v0), (1, .int v1), (2, .int v2), (3, .int 0)]) [1, 2, 3, 0] rfl ?_
  obtain ⟨q4, hq4, h⟩ := bindN h
  refine zLM_runScript_14 hG C N hD hd 1000000 _ _ hq4 ?_
  · intro y5 eq4; replace eq4 := eq4.symm; subst eq4
    obtain ⟨q6, hq6, h⟩ := bindN h
    refine zLM_runScript_48 hG C N hD hd 1000000  _ hq6 ?_
    · intro r7 eq6; replace eq6 := eq6.symm; subst eq6
      obtain rfl := Option.some.inj h
      exact E
theorem ddM_perform_0 : decode cM_perform 0 = .ok (.aload_n 0, 1) := by decide +kernel
theorem ddM_perform_1 : decode cM_perform 1 = .ok (.aload_n 0, 1) := by decide +kernel
theorem ddM_perform_2 : decode cM_perform 2 = .ok (.iload_n 1, 1) := by decide +kernel
theorem ddM_perform_3 : decode cM_perform 3 = .ok (.invokevirtual 321, 3) := by decide +kernel
theorem ddM_perform_6 : decode cM_perform 6 = .ok (.ifCond .ne 7, 3) := by decide +kernel
theorem ddM_perform_9 : decode cM_perform 9 = .ok (.iconst 0, 1) := by decide +kernel
theorem ddM_perform_10 : decode cM_perform 10 = .ok (.goto 4, 3) := by decide +kernel
theorem ddM_perform_13 : decode cM_perform 13 = .ok (.iconst (-1), 1) := by decide +kernel
theorem ddM_perform_14 : decode cM_perform 14 = .ok (.invokevirtual 315, 3) := by decide +kernel
theorem ddM_perform_17 : decode cM_perform 17 = .ok (.ifCond .eq 5, 3) := by decide +kernel
theorem ddM_perform_20 : decode cM_perform 20 = .ok (.iconst (-1), 1) := by decide +kernel
theorem ddM_perform_21 : decode cM_perform 21 = .ok (.ireturn, 1) := by decide +kernel
theorem ddM_perform_22 : decode cM_perform 22 = .ok (.aload_n 0, 1) := by decide +kernel
theorem ddM_perform_23 : decode cM_perform 23 = .ok (.invokevirtual 318, 3) := by decide +kernel
theorem ddM_perform_26 : decode cM_perform 26 = .ok (.aload_n 0, 1) := by decide +kernel
theorem ddM_perform_27 : decode cM_perform 27 = .ok (.iload_n 1, 1) := by decide +kernel
theorem ddM_perform_28 : decode cM_perform 28 = .ok (.iconst 1, 1) := by decide +kernel
theorem ddM_perform_29 : decode cM_perform 29 = .ok (.invokevirtual 324, 3) := by decide +kernel
theorem ddM_perform_32 : decode cM_perform 32 = .ok (.ireturn, 1) := by decide +kernel
set_option maxHeartbeats 2000000 in
theorem zBM_perform_14 {G : GXM} {X : CxM} (hG : GokM G) (C : CoM G X cM_perform "HomeFreedModel") (N : mLM X = 2) {d : Nat} (hD : dpM X = d) (hd : 11 ≤ d)  {q : Int32 × Mem} (E : EnM G X (some .int) (some (.int q.1)) q.2 0 0) {v0 : Nat} {v1 : Int32} {w0 : Nat} {w1 : Int32} {M : Mem} (h : BM_perform_14 v0 v1 w0 w1 M = some q) : ZM G X 14 [(0, .ref v0), (1, .int v1)] [.int w1, .ref w0] M 0 0 := by
  unfold BM_perform_14 at h
  obtain ⟨h2, h⟩ := gdN h
  obtain ⟨q1, hq1, h⟩ := bindN h
  refine zz_callV0 (As := [.int w1]) C ddM_perform_14 wd_1475 my_M_isRefused mv_M_isRefused ⟨_, rfl, rfl⟩ (xM_isRefused hG (d - 1) (by omega) hq1) (by omega) h2 rfl rfl (Nat.le_of_ble_eq_true rfl) ?_
  refine zz_if_eq (tgt := 22) C ddM_perform_17 rfl (fun hc => ?_) (fun hc => ?_)
  · replace h := iteT h hc
    refine zz_aload_n C 0 ddM_perform_22 rfl rfl ?_
    obtain ⟨h4, h⟩ := gdN h
    obtain ⟨q3, hq3, h⟩ := bindN h
    refine zz_callV0 (As := []) C ddM_perform_23 wd_1479 my_M_keep mv_M_keep ⟨_, rfl, rfl⟩ (xM_keep hG (d - 1) (by omega) hq3) (by omega) h4 rfl rfl (Nat.le_of_ble_eq_true rfl) ?_
    refine zz_aload_n C 0 ddM_perform_26 rfl rfl ?_
    refine zz_iload_n C 1 ddM_perform_27 rfl rfl ?_
    refine zz_iconst (v := 1) C ddM_perform_28 (by decide) ?_
    obtain ⟨h6, h⟩ := gdN h
    obtain ⟨q5, hq5, h⟩ := bindN h
    refine zz_callV0 (As := [.int v1, .int 1]) C ddM_perform_29 wd_1591 my_M_runScript mv_M_runScript ⟨_, rfl, rfl⟩ (xM_runScript hG (d - 1) (by omega) hq5) (by omega) h6 rfl rfl (Nat.le_of_ble_eq_true rfl) ?_
    obtain rfl := Option.some.inj h
    exact zz_iret C E ddM_perform_32
  · replace h := iteF h hc
    refine zz_iconst (v := (-1)) C ddM_perform_20 (by decide) ?_
    obtain rfl := Option.some.inj h
    exact zz_iret C E ddM_perform_21
set_option maxHeartbeats 2000000 in
theorem xM_perform {G : GXM} {l : Launch} (hG : GokM G) (d : Nat) (hd : 11 ≤ d) {v0 : Nat} {v1 : Int32} {M : Mem} {q : Int32 × Mem} (h : fM_perform v0 v1 M = some q) : ExM G l d 0 0 yM_perform cM_perform 2 (some .int) [.ref v0, .int v1] M (some (.int q.1)) q.2 := by
  refine ex_of hG (by decide +kernel) (Nat.le_of_ble_eq_true rfl) ?_
  intro X hl C E N hD hn
  show ZM G X 0 [(0, .ref v0), (1, .int v1)] [] M 0 0
  unfold fM_perform at h
  refine zz_aload_n C 0 ddM_perform_0 rfl rfl ?_
  refine zz_aload_n C 0 ddM_perform_1 rfl rfl ?_
  refine zz_iload_n C 1 ddM_perform_2 rfl rfl ?_
  obtain ⟨h2, h⟩ := gdN h
  obtain ⟨q1, hq1, h⟩ := bindN h
  refine zz_callV0 (As := [.int v1]) C ddM_perform_3 wd_1587 my_M_isScript mv_M_isScript ⟨_, rfl, rfl⟩ (xM_isScript hG (d - 1) (by omega) hq1) (by omega) h2 rfl rfl (Nat.le_of_ble_eq_true rfl) ?_
  refine zz_if_ne (tgt := 13) C ddM_perform_6 rfl (fun hc => ?_) (fun hc => ?_)
  · replace h := iteF h hc
    refine zz_iconst (v := (-1)) C ddM_perform_13 (by decide) ?_
    exact zBM_perform_14 hG C N hD hd E h
  · replace h := iteT h hc
    refine zz_iconst (v := 0) C ddM_perform_9 (by decide) ?_
    refine zz_goto (tgt := 14) C ddM_perform_10 rfl ?_
    exact zBM_perform_14 hG C N hD hd E h
theorem ddM_draw_0 : decode cM_draw 0 = .ok (.aload_n 0, 1) := by decide +kernel
theorem ddM_draw_1 : decode cM_draw 1 = .ok (.aload_n 0, 1) := by decide +kernel
theorem ddM_draw_2 : decode cM_draw 2 = .ok (.getfield 327, 3) := by decide +kernel
theorem ddM_draw_5 : decode cM_draw 5 = .ok (.ldc2_w 331, 3) := by decide +kernel
theorem ddM_draw_8 : decode cM_draw 8 = .ok (.lmul, 1) := by decide +kernel
theorem ddM_draw_9 : decode cM_draw 9 = .ok (.ldc2_w 333, 3) := by decide +kernel
theorem ddM_draw_12 : decode cM_draw 12 = .ok (.ladd, 1) := by decide +kernel
theorem ddM_draw_13 : decode cM_draw 13 = .ok (.putfield 327, 3) := by decide +kernel
theorem ddM_draw_16 : decode cM_draw 16 = .ok (.aload_n 0, 1) := by decide +kernel
theorem ddM_draw_17 : decode cM_draw 17 = .ok (.getfield 327, 3) := by decide +kernel
theorem ddM_draw_20 : decode cM_draw 20 = .ok (.bipush 33, 2) := by decide +kernel
theorem ddM_draw_22 : decode cM_draw 22 = .ok (.lushr, 1) := by decide +kernel
theorem ddM_draw_23 : decode cM_draw 23 = .ok (.iload_n 1, 1) := by decide +kernel
theorem ddM_draw_24 : decode cM_draw 24 = .ok (.i2l, 1) := by decide +kernel
theorem ddM_draw_25 : decode cM_draw 25 = .ok (.lrem, 1) := by decide +kernel
theorem ddM_draw_26 : decode cM_draw 26 = .ok (.l2i, 1) := by decide +kernel
theorem ddM_draw_27 : decode cM_draw 27 = .ok (.ireturn, 1) := by decide +kernel
set_option maxHeartbeats 2000000 in
theorem xM_draw {G : GXM} {l : Launch} (hG : GokM G) (d : Nat) (hd : 0 ≤ d) {v0 : Nat} {v1 : Int32} {M : Mem} {q : Int32 × Mem} (h : fM_draw v0 v1 M = some q) : ExM G l d 0 0 yM_draw cM_draw 2 (some .int) [.ref v0, .int v1] M (some (.int q.1)) q.2 := by
  refine ex_of hG (by decide +kernel) (Nat.le_of_ble_eq_true rfl) ?_
  intro X hl C E N hD hn
  show ZM G X 0 [(0, .ref v0), (1, .int v1)] [] M 0 0
  unfold fM_draw at h
  refine zz_aload_n C 0 ddM_draw_0 rfl rfl ?_
  refine zz_aload_n C 0 ddM_draw_1 rfl rfl ?_
  obtain ⟨h1, h⟩ := gdN h
  refine zz_getl C ddM_draw_2 fl_M_327 rfl h1 ?_
  refine zz_ldc2 C ddM_draw_5 wd_1631 rfl ?_
  refine zz_lmul C ddM_draw_8 ?_
  refine zz_ldc2 C ddM_draw_9 wd_1632 rfl ?_
  refine zz_ladd C ddM_draw_12 ?_
  refine zz_putl C ddM_draw_13 fl_M_327 rfl rfl rfl h1 ?_
  refine zz_aload_n C 0 ddM_draw_16 rfl rfl ?_
  refine zz_getl C ddM_draw_17 fl_M_327 rfl h1 ?_
  refine zz_bipush (v := 33) C ddM_draw_20 (by decide) ?_
  refine zz_lushr C ddM_draw_22 ?_
  refine zz_iload_n C 1 ddM_draw_23 rfl rfl ?_
  refine zz_i2l C ddM_draw_24 ?_
  obtain ⟨h2, h⟩ := gdN h
  refine zz_lrem C ddM_draw_25 (of_decide_eq_true h2) ?_
  refine zz_l2i C ddM_draw_26 ?_
  obtain rfl := Option.some.inj h
  exact zz_iret C E ddM_draw_27
theorem ddM_heldMany_0 : decode cM_heldMany 0 = .ok (.iconst 0, 1) := by decide +kernel
theorem ddM_heldMany_1 : decode cM_heldMany 1 = .ok (.istore_n 1, 1) := by decide +kernel
theorem ddM_heldMany_2 : decode cM_heldMany 2 = .ok (.iconst 0, 1) := by decide +kernel
theorem ddM_heldMany_3 : decode cM_heldMany 3 = .ok (.istore_n 2, 1) := by decide +kernel
theorem ddM_heldMany_4 : decode cM_heldMany 4 = .ok (.iload_n 2, 1) := by decide +kernel
theorem ddM_heldMany_5 : decode cM_heldMany 5 = .ok (.aload_n 0, 1) := by decide +kernel
theorem ddM_heldMany_6 : decode cM_heldMany 6 = .ok (.getfield 19, 3) := by decide +kernel
theorem ddM_heldMany_9 : decode cM_heldMany 9 = .ok (.iconst 1, 1) := by decide +kernel
theorem ddM_heldMany_10 : decode cM_heldMany 10 = .ok (.iaload, 1) := by decide +kernel
theorem ddM_heldMany_11 : decode cM_heldMany 11 = .ok (.if_icmp .ge 38, 3) := by decide +kernel
theorem ddM_heldMany_14 : decode cM_heldMany 14 = .ok (.iconst 0, 1) := by decide +kernel
theorem ddM_heldMany_15 : decode cM_heldMany 15 = .ok (.istore_n 3, 1) := by decide +kernel
theorem ddM_heldMany_16 : decode cM_heldMany 16 = .ok (.iload_n 3, 1) := by decide +kernel
theorem ddM_heldMany_17 : decode cM_heldMany 17 = .ok (.aload_n 0, 1) := by decide +kernel
theorem ddM_heldMany_18 : decode cM_heldMany 18 = .ok (.iload_n 2, 1) := by decide +kernel
theorem ddM_heldMany_19 : decode cM_heldMany 19 = .ok (.invokevirtual 176, 3) := by decide +kernel
theorem ddM_heldMany_22 : decode cM_heldMany 22 = .ok (.if_icmp .ge 21, 3) := by decide +kernel
theorem ddM_heldMany_25 : decode cM_heldMany 25 = .ok (.iload_n 1, 1) := by decide +kernel
theorem ddM_heldMany_26 : decode cM_heldMany 26 = .ok (.aload_n 0, 1) := by decide +kernel
theorem ddM_heldMany_27 : decode cM_heldMany 27 = .ok (.iload_n 2, 1) := by decide +kernel
theorem ddM_heldMany_28 : decode cM_heldMany 28 = .ok (.bipush 126, 2) := by decide +kernel
theorem ddM_heldMany_30 : decode cM_heldMany 30 = .ok (.iload_n 3, 1) := by decide +kernel
theorem ddM_heldMany_31 : decode cM_heldMany 31 = .ok (.iadd, 1) := by decide +kernel
theorem ddM_heldMany_32 : decode cM_heldMany 32 = .ok (.invokevirtual 170, 3) := by decide +kernel
theorem ddM_heldMany_35 : decode cM_heldMany 35 = .ok (.iadd, 1) := by decide +kernel
theorem ddM_heldMany_36 : decode cM_heldMany 36 = .ok (.istore_n 1, 1) := by decide +kernel
theorem ddM_heldMany_37 : decode cM_heldMany 37 = .ok (.iinc 3 1, 3) := by decide +kernel
theorem ddM_heldMany_40 : decode cM_heldMany 40 = .ok (.goto (-24), 3) := by decide +kernel
theorem ddM_heldMany_43 : decode cM_heldMany 43 = .ok (.iinc 2 1, 3) := by decide +kernel
theorem ddM_heldMany_46 : decode cM_heldMany 46 = .ok (.goto (-42), 3) := by decide +kernel
theorem ddM_heldMany_49 : decode cM_heldMany 49 = .ok (.iload_n 1, 1) := by decide +kernel
theorem ddM_heldMany_50 : decode cM_heldMany 50 = .ok (.ireturn, 1) := by decide +kernel
set_option maxHeartbeats 2000000 in
theorem zBM_heldMany_16 {G : GXM} {X : CxM} (hG : GokM G) (C : CoM G X cM_heldMany "HomeFreedModel") (N : mLM X = 4) {d : Nat} (hD : dpM X = d) (hd : 2 ≤ d) {v0 : Nat} {v2 : Int32} {K : Nat → Int32 → Int32 → Int32 → Mem → Option ((Int32 × Mem))} {q : (Int32 × Mem)} (hK : ∀ (v1 : Int32) (v3 : Int32) (M : Mem), K v0 v1 v2 v3 M = some q → ZM G X 16 [(0, .ref v0), (1, .int v1), (2, .int v2), (3, .int v3)] [] M 0 0) (hx0 : ∀ y : Int32 × Mem, q = y → ZM G X 43 [(0, .ref v0), (1, .int y.1), (2, .int v2)] [] y.2 0 0) {v1 : Int32} {v3 : Int32} {M : Mem} (h : BM_heldMany_16 K v0 v1 v2 v3 M = some q) : ZM G X 16 [(0, .ref v0), (1, .int v1), (2, .int v2), (3, .int v3)] [] M 0 0 := by
  unfold BM_heldMany_16 at h
  refine zz_iload_n C 3 ddM_heldMany_16 rfl rfl ?_
  refine zz_aload_n C 0 ddM_heldMany_17 rfl rfl ?_
  refine zz_iload_n C 2 ddM_heldMany_18 rfl rfl ?_
  obtain ⟨h2, h⟩ := gdN h
  obtain ⟨q1, hq1, h⟩ := bindN h
  refine zz_callV0 (As := [.int v2]) C ddM_heldMany_19 wd_1390 my_M_blocksOf mv_M_blocksOf ⟨_, rfl, rfl⟩ (xM_blocksOf hG (d - 1) (by omega) hq1) (by omega) h2 rfl rfl (Nat.le_of_ble_eq_true rfl) ?_
  refine zz_icmp_ge (tgt := 43) C ddM_heldMany_22 rfl (fun hc => ?_) (fun hc => ?_)
  · replace h := iteT h hc
    refine zz_loc (L1 := [(0, .ref v0), (1, .int v1), (2, .int v2)]) [0, 1, 2] rfl ?_
    exact hx0 _ (Option.some.inj h).symm
  · replace h := iteF h hc
    refine zz_iload_n C 1 ddM_heldMany_25 rfl rfl ?_
    refine zz_aload_n C 0 ddM_heldMany_26 rfl rfl ?_
    refine zz_iload_n C 2 ddM_heldMany_27 rfl rfl ?_
    refine zz_bipush (v := 126) C ddM_heldMany_28 (by decide) ?_
    refine zz_iload_n C 3 ddM_heldMany_30 rfl rfl ?_
    refine zz_iadd C ddM_heldMany_31 ?_
    obtain ⟨h4, h⟩ := gdN h
    obtain ⟨q3, hq3, h⟩ := bindN h
    refine zz_callV0 (As := [.int v2, .int (126 + v3)]) C ddM_heldMany_32 wd_1378 my_M_of mv_M_of ⟨_, rfl, rfl⟩ (xM_of hG (d - 1) (by omega) hq3) (by omega) h4 rfl rfl (Nat.le_of_ble_eq_true rfl) ?_
    refine zz_iadd C ddM_heldMany_35 ?_
    refine zz_istore_n (L1 := [(1, .int (v1 + q3.1)), (0, .ref v0), (2, .int v2), (3, .int v3)]) C ddM_heldMany_36 rfl N (by decide) rfl ?_
    refine zz_iinc (v := v3 + 1) (L1 := [(3, .int (v3 + 1)), (1, .int (v1 + q3.1)), (0, .ref v0), (2, .int v2)]) C 3 ddM_heldMany_37 rfl rfl N (by decide) rfl ?_
    refine zz_goto (tgt := 16) C ddM_heldMany_40 rfl ?_
    refine zz_loc (L1 := [(0, .ref v0), (1, .int (v1 + q3.1)), (2, .int v2), (3, .int (v3 + 1))]) [2, 1, 3, 0] rfl ?_
    exact hK _ _ _ h
set_option maxHeartbeats 2000000 in
theorem zLM_heldMany_16 {G : GXM} {X : CxM} (hG : GokM G) (C : CoM G X cM_heldMany "HomeFreedModel") (N : mLM X = 4) {d : Nat} (hD : dpM X = d) (hd : 2 ≤ d) {v0 : Nat} {v2 : Int32} {q : (Int32 × Mem)} : ∀ (f : Nat) (v1 : Int32) (v3 : Int32) (M : Mem), LM_heldMany_16 f v0 v1 v2 v3 M = some q → (hx0 : ∀ y : Int32 × Mem, q = y → ZM G X 43 [(0, .ref v0), (1, .int y.1), (2, .int v2)] [] y.2 0 0) → ZM G X 16 [(0, .ref v0), (1, .int v1), (2, .int v2), (3, .int v3)] [] M 0 0 := by
  intro f
  induction f with
  | zero => intro v1 v3 M h; cases h
  | succ f ih =>
    intro v1 v3 M h hx0
    exact zBM_heldMany_16 hG C N hD hd (K := LM_heldMany_16 f) (q := q) (fun v1 v3 M h => ih v1 v3 M h hx0) hx0 h
set_option maxHeartbeats 2000000 in
theorem zBM_heldMany_4 {G : GXM} {X : CxM} (hG : GokM G) (C : CoM G X cM_heldMany "HomeFreedModel") (N : mLM X = 4) {d : Nat} (hD : dpM X = d) (hd : 2 ≤ d) {v0 : Nat} {K : Nat → Int32 → Int32 → Mem → Option ((Int32 × Mem))} {q : (Int32 × Mem)} (hK : ∀ (v1 : Int32) (v2 : Int32) (M : Mem), K v0 v1 v2 M = some q → ZM G X 4 [(0, .ref v0), (1, .int v1), (2, .int v2)] [] M 0 0) (hr : ∀ r : Int32 × Mem, q =  r → EnM G X (some .int) (some (.int r.1)) r.2 0 0) {v1 : Int32} {v2 : Int32} {M : Mem} (h : BM_heldMany_4 K v0 v1 v2 M = some q) : ZM G X 4 [(0, .ref v0), (1, .int v1), (2, .int v2)] [] M 0 0 := by
  unfold BM_heldMany_4 at h
  refine zz_iload_n C 2 ddM_heldMany_4 rfl rfl ?_
  refine zz_aload_n C 0 ddM_heldMany_5 rfl rfl ?_
  obtain ⟨h1, h⟩ := gdN h
  obtain ⟨h2, h⟩ := gdN h
  refine zz_getr C ddM_heldMany_6 fl_M_19 rfl h1 (of_decide_eq_true h2) ?_
  refine zz_iconst (v := 1) C ddM_heldMany_9 (by decide) ?_
  obtain ⟨h3, h⟩ := gdN h
  refine zz_iaload C ddM_heldMany_10 h3 ?_
  refine zz_icmp_ge (tgt := 49) C ddM_heldMany_11 rfl (fun hc => ?_) (fun hc => ?_)
  · replace h := iteT h hc
    refine zz_iload_n C 1 ddM_heldMany_49 rfl rfl ?_
    exact zz_iret C (hr _ (Option.some.inj h).symm) ddM_heldMany_50
  · replace h := iteF h hc
    refine zz_iconst (v := 0) C ddM_heldMany_14 (by decide) ?_
    refine zz_istore_n (L1 := [(3, .int 0), (0, .ref v0), (1, .int v1), (2, .int v2)]) C ddM_heldMany_15 rfl N (by decide) rfl ?_
    refine zz_loc (L1 := [(0, .ref v0), (1, .int v1), (2, .int v2), (3, .int 0)]) [1, 2, 3, 0] rfl ?_
    obtain ⟨q4, hq4, h⟩ := bindN h
    refine zLM_heldMany_16 hG C N hD hd 1000000 _ _ _ hq4 ?_
    · intro y5 eq4; replace eq4 := eq4.symm; subst eq4
      refine zz_iinc (v := v2 + 1) (L1 := [(2, .int (v2 + 1)), (0, .ref v0), (1, .int y5.1)]) C 2 ddM_heldMany_43 rfl rfl N (by decide) rfl ?_
      refine zz_goto (tgt := 4) C ddM_heldMany_46 rfl ?_
      refine zz_loc (L1 := [(0, .ref v0), (1, .int y5.1), (2, .int (v2 + 1))]) [1, 2, 0] rfl ?_
      exact hK _ _ _ h
set_option maxHeartbeats 2000000 in
theorem zLM_heldMany_4 {G : GXM} {X : CxM} (hG : GokM G) (C : CoM G X cM_heldMany "HomeFreedModel") (N : mLM X = 4) {d : Nat} (hD : dpM X = d) (hd : 2 ≤ d) {v0 : Nat} {q : (Int32 × Mem)} : ∀ (f : Nat) (v1 : Int32) (v2 : Int32) (M : Mem), LM_heldMany_4 f v0 v1 v2 M = some q → (hr : ∀ r : Int32 × Mem, q =  r → EnM G X (some .int) (some (.int r.1)) r.2 0 0) → ZM G X 4 [(0, .ref v0), (1, .int v1), (2, .int v2)] [] M 0 0 := by
  intro f
  induction f with
  | zero => intro v1 v2 M h; cases h
  | succ f ih =>
    intro v1 v2 M h hr
    exact zBM_heldMany_4 hG C N hD hd (K := LM_heldMany_4 f) (q := q) (fun v1 v2 M h => ih v1 v2 M h hr) hr h
set_option maxHeartbeats 2000000 in
theorem xM_heldMany {G : GXM} {l : Launch} (hG : GokM G) (d : Nat) (hd : 2 ≤ d) {v0 : Nat} {M : Mem} {q : Int32 × Mem} (h : fM_heldMany v0 M = some q) : ExM G l d 0 0 yM_heldMany cM_heldMany 4 (some .int) [.ref v0] M (some (.int q.1)) q.2 := by
  refine ex_of hG (by decide +kernel) (Nat.le_of_ble_eq_true rfl) ?_
  intro X hl C E N hD hn
  show ZM G X 0 [(0, .ref v0)] [] M 0 0
  unfold fM_heldMany at h
  refine zz_iconst (v := 0) C ddM_heldMany_0 (by decide) ?_
  refine zz_istore_n (L1 := [(1, .int 0), (0, .ref v0)]) C ddM_heldMany_1 rfl N (by decide) rfl ?_
  refine zz_iconst (v := 0) C ddM_heldMany_2 (by decide) ?_
  refine zz_istore_n (L1 := [(2, .int 0), (1, .int 0), (0, .ref v0)]) C ddM_heldMany_3 rfl N (by decide) rfl ?_
  refine zz_loc (L1 := [(0, .ref v0), (1, .int 0), (2, .int 0)]) [2, 1, 0] rfl ?_
  obtain ⟨q1, hq1, h⟩ := bindN h
  refine zLM_heldMany_4 hG C N hD hd 1000000 _ _ _ hq1 ?_
  · intro r2 eq1; replace eq1 := eq1.symm; subst eq1
    obtain rfl := Option.some.inj h
    exact E
theorem ddM_heldAt_0 : decode cM_heldAt 0 = .ok (.iconst 0, 1) := by decide +kernel
theorem ddM_heldAt_1 : decode cM_heldAt 1 = .ok (.istore_n 2, 1) := by decide +kernel
theorem ddM_heldAt_2 : decode cM_heldAt 2 = .ok (.iconst 0, 1) := by decide +kernel
theorem ddM_heldAt_3 : decode cM_heldAt 3 = .ok (.istore_n 3, 1) := by decide +kernel
theorem ddM_heldAt_4 : decode cM_heldAt 4 = .ok (.iload_n 3, 1) := by decide +kernel
theorem ddM_heldAt_5 : decode cM_heldAt 5 = .ok (.aload_n 0, 1) := by decide +kernel
theorem ddM_heldAt_6 : decode cM_heldAt 6 = .ok (.getfield 19, 3) := by decide +kernel
theorem ddM_heldAt_9 : decode cM_heldAt 9 = .ok (.iconst 1, 1) := by decide +kernel
theorem ddM_heldAt_10 : decode cM_heldAt 10 = .ok (.iaload, 1) := by decide +kernel
theorem ddM_heldAt_11 : decode cM_heldAt 11 = .ok (.if_icmp .ge 58, 3) := by decide +kernel
theorem ddM_heldAt_14 : decode cM_heldAt 14 = .ok (.iconst 0, 1) := by decide +kernel
theorem ddM_heldAt_15 : decode cM_heldAt 15 = .ok (.istore 4, 2) := by decide +kernel
theorem ddM_heldAt_17 : decode cM_heldAt 17 = .ok (.iload 4, 2) := by decide +kernel
theorem ddM_heldAt_19 : decode cM_heldAt 19 = .ok (.aload_n 0, 1) := by decide +kernel
theorem ddM_heldAt_20 : decode cM_heldAt 20 = .ok (.iload_n 3, 1) := by decide +kernel
theorem ddM_heldAt_21 : decode cM_heldAt 21 = .ok (.invokevirtual 176, 3) := by decide +kernel
theorem ddM_heldAt_24 : decode cM_heldAt 24 = .ok (.if_icmp .ge 39, 3) := by decide +kernel
theorem ddM_heldAt_27 : decode cM_heldAt 27 = .ok (.aload_n 0, 1) := by decide +kernel
theorem ddM_heldAt_28 : decode cM_heldAt 28 = .ok (.iload_n 3, 1) := by decide +kernel
theorem ddM_heldAt_29 : decode cM_heldAt 29 = .ok (.bipush 126, 2) := by decide +kernel
theorem ddM_heldAt_31 : decode cM_heldAt 31 = .ok (.iload 4, 2) := by decide +kernel
theorem ddM_heldAt_33 : decode cM_heldAt 33 = .ok (.iadd, 1) := by decide +kernel
theorem ddM_heldAt_34 : decode cM_heldAt 34 = .ok (.invokevirtual 170, 3) := by decide +kernel
theorem ddM_heldAt_37 : decode cM_heldAt 37 = .ok (.iconst 1, 1) := by decide +kernel
theorem ddM_heldAt_38 : decode cM_heldAt 38 = .ok (.if_icmp .ne 19, 3) := by decide +kernel
theorem ddM_heldAt_41 : decode cM_heldAt 41 = .ok (.iload_n 2, 1) := by decide +kernel
theorem ddM_heldAt_42 : decode cM_heldAt 42 = .ok (.iload_n 1, 1) := by decide +kernel
theorem ddM_heldAt_43 : decode cM_heldAt 43 = .ok (.if_icmp .ne 11, 3) := by decide +kernel
theorem ddM_heldAt_46 : decode cM_heldAt 46 = .ok (.bipush 100, 2) := by decide +kernel
theorem ddM_heldAt_48 : decode cM_heldAt 48 = .ok (.iload_n 3, 1) := by decide +kernel
theorem ddM_heldAt_49 : decode cM_heldAt 49 = .ok (.imul, 1) := by decide +kernel
theorem ddM_heldAt_50 : decode cM_heldAt 50 = .ok (.iload 4, 2) := by decide +kernel
theorem ddM_heldAt_52 : decode cM_heldAt 52 = .ok (.iadd, 1) := by decide +kernel
theorem ddM_heldAt_53 : decode cM_heldAt 53 = .ok (.ireturn, 1) := by decide +kernel
theorem ddM_heldAt_54 : decode cM_heldAt 54 = .ok (.iinc 2 1, 3) := by decide +kernel
theorem ddM_heldAt_57 : decode cM_heldAt 57 = .ok (.iinc 4 1, 3) := by decide +kernel
theorem ddM_heldAt_60 : decode cM_heldAt 60 = .ok (.goto (-43), 3) := by decide +kernel
theorem ddM_heldAt_63 : decode cM_heldAt 63 = .ok (.iinc 3 1, 3) := by decide +kernel
theorem ddM_heldAt_66 : decode cM_heldAt 66 = .ok (.goto (-62), 3) := by decide +kernel
theorem ddM_heldAt_69 : decode cM_heldAt 69 = .ok (.iconst (-1), 1) := by decide +kernel
theorem ddM_heldAt_70 : decode cM_heldAt 70 = .ok (.ireturn, 1) := by decide +kernel
set_option maxHeartbeats 2000000 in
theorem zBM_heldAt_57 {G : GXM} {X : CxM} (hG : GokM G) (C : CoM G X cM_heldAt "HomeFreedModel") (N : mLM X = 5) {d : Nat} (hD : dpM X = d) (hd : 2 ≤ d) {v0 : Nat} {v1 : Int32} {v3 : Int32} {K : Nat → Int32 → Int32 → Int32 → Int32 → Mem → Option ((Int32 × Mem) ⊕ (Int32 × Mem))} {q : (Int32 × Mem) ⊕ (Int32 × Mem)} (hK : ∀ (v2 : Int32) (v4 : Int32) (M : Mem), K v0 v1 v2 v3 v4 M = some q → ZM G X 17 [(0, .ref v0), (1, .int v1), (2, .int v2), (3, .int v3), (4, .int v4)] [] M 0 0) (hr : ∀ r : Int32 × Mem, q = .inl r → EnM G X (some .int) (some (.int r.1)) r.2 0 0) (hx0 : ∀ y : Int32 × Mem, q = (.inr y) → ZM G X 63 [(0, .ref v0), (1, .int v1), (2, .int y.1), (3, .int v3)] [] y.2 0 0) {v2 : Int32} {v4 : Int32} {M : Mem} (h : BM_heldAt_57 K v0 v1 v2 v3 v4 M = some q) : ZM G X 57 [(0, .ref v0), (1, .int v1), (2, .int v2), (3, .int v3), (4, .int v4)] [] M 0 0 := by
  unfold BM_heldAt_57 at h
  refine zz_iinc (v := v4 + 1) (L1 := [(4, .int (v4 + 1)), (0, .ref v0), (1, .int v1), (2, .int v2), (3, .int v3)]) C 4 ddM_heldAt_57 rfl rfl N (by decide) rfl ?_
  refine zz_goto (tgt := 17) C ddM_heldAt_60 rfl ?_
  refine zz_loc (L1 := [(0, .ref v0), (1, .int v1), (2, .int v2), (3, .int v3), (4, .int (v4 + 1))]) [1, 2, 3, 4, 0] rfl ?_
  exact hK _ _ _ h
set_option maxHeartbeats 2000000 in
theorem zBM_heldAt_17 {G : GXM} {X : CxM} (hG : GokM G) (C : CoM G X cM_heldAt "HomeFreedModel") (N : mLM X = 5) {d : Nat} (hD : dpM X = d) (hd : 2 ≤ d) {v0 : Nat} {v1 : Int32} {v3 : Int32} {K : Nat → Int32 → Int32 → Int32 → Int32 → Mem → Option ((Int32 × Mem) ⊕ (Int32 × Mem))} {q : (Int32 × Mem) ⊕ (Int32 × Mem)} (hK : ∀ (v2 : Int32) (v4 : Int32) (M : Mem), K v0 v1 v2 v3 v4 M = some q → ZM G X 17 [(0, .ref v0), (1, .int v1), (2, .int v2), (3, .int v3), (4, .int v4)] [] M 0 0) (hr : ∀ r : Int32 × Mem, q = .inl r → EnM G X (some .int) (some (.int r.1)) r.2 0 0) (hx0 : ∀ y : Int32 × Mem, q = (.inr y) → ZM G X 63 [(0, .ref v0), (1, .int v1), (2, .int y.1), (3, .int v3)] [] y.2 0 0) {v2 : Int32} {v4 : Int32} {M : Mem} (h : BM_heldAt_17 K v0 v1 v2 v3 v4 M = some q) : ZM G X 17 [(0, .ref v0), (1, .int v1), (2, .int v2), (3, .int v3), (4, .int v4)] [] M 0 0 := by
  unfold BM_heldAt_17 at h
  refine zz_iload C 4 ddM_heldAt_17 rfl ?_
  refine zz_aload_n C 0 ddM_heldAt_19 rfl rfl ?_
  refine zz_iload_n C 3 ddM_heldAt_20 rfl rfl ?_
  obtain ⟨h2, h⟩ := gdN h
  obtain ⟨q1, hq1, h⟩ := bindN h
  refine zz_callV0 (As := [.int v3]) C ddM_heldAt_21 wd_1390 my_M_blocksOf mv_M_blocksOf ⟨_, rfl, rfl⟩ (xM_blocksOf hG (d - 1) (by omega) hq1) (by omega) h2 rfl rfl (Nat.le_of_ble_eq_true rfl) ?_
  refine zz_icmp_ge (tgt := 63) C ddM_heldAt_24 rfl (fun hc => ?_) (fun hc => ?_)
  · replace h := iteT h hc
    refine zz_loc (L1 := [(0, .ref v0), (1, .int v1), (2, .int v2), (3, .int v3)]) [0, 1, 2, 3] rfl ?_
    exact hx0 _ (Option.some.inj h).symm
  · replace h := iteF h hc
    refine zz_aload_n C 0 ddM_heldAt_27 rfl rfl ?_
    refine zz_iload_n C 3 ddM_heldAt_28 rfl rfl ?_
    refine zz_bipush (v := 126) C ddM_heldAt_29 (by decide) ?_
    refine zz_iload C 4 ddM_heldAt_31 rfl ?_
    refine zz_iadd C ddM_heldAt_33 ?_
    obtain ⟨h4, h⟩ := gdN h
    obtain ⟨q3, hq3, h⟩ := bindN h
    refine zz_callV0 (As := [.int v3, .int (126 + v4)]) C ddM_heldAt_34 wd_1378 my_M_of mv_M_of ⟨_, rfl, rfl⟩ (xM_of hG (d - 1) (by omega) hq3) (by omega) h4 rfl rfl (Nat.le_of_ble_eq_true rfl) ?_
    refine zz_iconst (v := 1) C ddM_heldAt_37 (by decide) ?_
    refine zz_icmp_ne (tgt := 57) C ddM_heldAt_38 rfl (fun hc => ?_) (fun hc => ?_)
    · replace h := iteF h hc
      exact zBM_heldAt_57 hG C N hD hd hK hr hx0 h
    · replace h := iteT h hc
      refine zz_iload_n C 2 ddM_heldAt_41 rfl rfl ?_
      refine zz_iload_n C 1 ddM_heldAt_42 rfl rfl ?_
      refine zz_icmp_ne (tgt := 54) C ddM_heldAt_43 rfl (fun hc => ?_) (fun hc => ?_)
      · replace h := iteF h hc
        refine zz_iinc (v := v2 + 1) (L1 := [(2, .int (v2 + 1)), (0, .ref v0), (1, .int v1), (3, .int v3), (4, .int v4)]) C 2 ddM_heldAt_54 rfl rfl N (by decide) rfl ?_
        refine zz_loc (L1 := [(0, .ref v0), (1, .int v1), (2, .int (v2 + 1)), (3, .int v3), (4, .int v4)]) [1, 2, 0, 3, 4] rfl ?_
        exact zBM_heldAt_57 hG C N hD hd hK hr hx0 h
      · replace h := iteT h hc
        refine zz_bipush (v := 100) C ddM_heldAt_46 (by decide) ?_
        refine zz_iload_n C 3 ddM_heldAt_48 rfl rfl ?_
        refine zz_imul C ddM_heldAt_49 ?_
        refine zz_iload C 4 ddM_heldAt_50 rfl ?_
        refine zz_iadd C ddM_heldAt_52 ?_
        exact zz_iret C (hr _ (Option.some.inj h).symm) ddM_heldAt_53
set_option maxHeartbeats 2000000 in
theorem zLM_heldAt_17 {G : GXM} {X : CxM} (hG : GokM G) (C : CoM G X cM_heldAt "HomeFreedModel") (N : mLM X = 5) {d : Nat} (hD : dpM X = d) (hd : 2 ≤ d) {v0 : Nat} {v1 : Int32} {v3 : Int32} {q : (Int32 × Mem) ⊕ (Int32 × Mem)} : ∀ (f : Nat) (v2 : Int32) (v4 : Int32) (M : Mem), LM_heldAt_17 f v0 v1 v2 v3 v4 M = some q → (hr : ∀ r : Int32 × Mem, q = .inl r → EnM G X (some .int) (some (.int r.1)) r.2 0 0) → (hx0 : ∀ y : Int32 × Mem, q = (.inr y) → ZM G X 63 [(0, .ref v0), (1, .int v1), (2, .int y.1), (3, .int v3)] [] y.2 0 0) → ZM G X 17 [(0, .ref v0), (1, .int v1), (2, .int v2), (3, .int v3), (4, .int v4)] [] M 0 0 := by
  intro f
  induction f with
  | zero => intro v2 v4 M h; cases h
  | succ f ih =>
    intro v2 v4 M h hr hx0
    exact zBM_heldAt_17 hG C N hD hd (K := LM_heldAt_17 f) (q := q) (fun v2 v4 M h => ih v2 v4 M h hr hx0) hr hx0 h
set_option maxHeartbeats 2000000 in
theorem zBM_heldAt_4 {G : GXM} {X : CxM} (hG : GokM G) (C : CoM G X cM_heldAt "HomeFreedModel") (N : mLM X = 5) {d : Nat} (hD : dpM X = d) (hd : 2 ≤ d) {v0 : Nat} {v1 : Int32} {K : Nat → Int32 → Int32 → Int32 → Mem → Option ((Int32 × Mem))} {q : (Int32 × Mem)} (hK : ∀ (v2 : Int32) (v3 : Int32) (M : Mem), K v0 v1 v2 v3 M = some q → ZM G X 4 [(0, .ref v0), (1, .int v1), (2, .int v2), (3, .int v3)] [] M 0 0) (hr : ∀ r : Int32 × Mem, q =  r → EnM G X (some .int) (some (.int r.1)) r.2 0 0) {v2 : Int32} {v3 : Int32} {M : Mem} (h : BM_heldAt_4 K v0 v1 v2 v3 M = some q) : ZM G X 4 [(0, .ref v0), (1, .int v1), (2, .int v2), (3, .int v3)] [] M 0 0 := by
  unfold BM_heldAt_4 at h
  refine zz_iload_n C 3 ddM_heldAt_4 rfl rfl ?_
  refine zz_aload_n C 0 ddM_heldAt_5 rfl rfl ?_
  obtain ⟨h1, h⟩ := gdN h
  obtain ⟨h2, h⟩ := gdN h
  refine zz_getr C ddM_heldAt_6 fl_M_19 rfl h1 (of_decide_eq_true h2) ?_
  refine zz_iconst (v := 1) C ddM_heldAt_9 (by decide) ?_
  obtain ⟨h3, h⟩ := gdN h
  refine zz_iaload C ddM_heldAt_10 h3 ?_
  refine zz_icmp_ge (tgt := 69) C ddM_heldAt_11 rfl (fun hc => ?_) (fun hc => ?_)
  · replace h := iteT h hc
    refine zz_iconst (v := (-1)) C ddM_heldAt_69 (by decide) ?_
    exact zz_iret C (hr _ (Option.some.inj h).symm) ddM_heldAt_70
  · replace h := iteF h hc
    refine zz_iconst (v := 0) C ddM_heldAt_14 (by decide) ?_
    refine zz_istore (L1 := [(4, .int 0), (0, .ref v0), (1, .int v1), (2, .int v2), (3, .int v3)]) C ddM_heldAt_15 N (by decide) rfl ?_
    refine zz_loc (L1 := [(0, .ref v0), (1, .int v1), (2, .int v2), (3, .int v3), (4, .int 0)]) [1, 2, 3, 4, 0] rfl ?_
    obtain ⟨q4, hq4, h⟩ := bindN h
    refine zLM_heldAt_17 hG C N hD hd 1000000 _ _ _ hq4 ?_ ?_
    · intro r5 eq4; replace eq4 := eq4.symm; subst eq4
      exact hr _ (Option.some.inj h).symm
    · intro y6 eq4; replace eq4 := eq4.symm; subst eq4
      refine zz_iinc (v := v3 + 1) (L1 := [(3, .int (v3 + 1)), (0, .ref v0), (1, .int v1), (2, .int y6.1)]) C 3 ddM_heldAt_63 rfl rfl N (by decide) rfl ?_
      refine zz_goto (tgt := 4) C ddM_heldAt_66 rfl ?_
      refine zz_loc (L1 := [(0, .ref v0), (1, .int v1), (2, .int y6.1), (3, .int (v3 + 1))]) [1, 2, 3, 0] rfl ?_
      exact hK _ _ _ h
set_option maxHeartbeats 2000000 in
theorem zLM_heldAt_4 {G : GXM} {X : CxM} (hG : GokM G) (C : CoM G X cM_heldAt "HomeFreedModel") (N : mLM X = 5) {d : Nat} (hD : dpM X = d) (hd : 2 ≤ d) {v0 : Nat} {v1 : Int32} {q : (Int32 × Mem)} : ∀ (f : Nat) (v2 : Int32) (v3 : Int32) (M : Mem), LM_heldAt_4 f v0 v1 v2 v3 M = some q → (hr : ∀ r : Int32 × Mem, q =  r → EnM G X (some .int) (some (.int r.1)) r.2 0 0) → ZM G X 4 [(0, .ref v0), (1, .int v1), (2, .int v2), (3, .int v3)] [] M 0 0 := by
  intro f
  induction f with
  | zero => intro v2 v3 M h; cases h
  | succ f ih =>
    intro v2 v3 M h hr
    exact zBM_heldAt_4 hG C N hD hd (K := LM_heldAt_4 f) (q := q) (fun v2 v3 M h => ih v2 v3 M h hr) hr h
set_option maxHeartbeats 2000000 in
theorem xM_heldAt {G : GXM} {l : Launch} (hG : GokM G) (d : Nat) (hd : 2 ≤ d) {v0 : Nat} {v1 : Int32} {M : Mem} {q : Int32 × Mem} (h : fM_heldAt v0 v1 M = some q) : ExM G l d 0 0 yM_heldAt cM_heldAt 5 (some .int) [.ref v0, .int v1] M (some (.int q.1)) q.2 := by
  refine ex_of hG (by decide +kernel) (Nat.le_of_ble_eq_true rfl) ?_
  intro X hl C E N hD hn
  show ZM G X 0 [(0, .ref v0), (1, .int v1)] [] M 0 0
  unfold fM_heldAt at h
  refine zz_iconst (v := 0) C ddM_heldAt_0 (by decide) ?_
  refine zz_istore_n (L1 := [(2, .int 0), (0, .ref v0), (1, .int v1)]) C ddM_heldAt_1 rfl N (by decide) rfl ?_
  refine zz_iconst (v := 0) C ddM_heldAt_2 (by decide) ?_
  refine zz_istore_n (L1 := [(3, .int 0), (2, .int 0), (0, .ref v0), (1, .int v1)]) C ddM_heldAt_3 rfl N (by decide) rfl ?_
  refine zz_loc (L1 := [(0, .ref v0), (1, .int v1), (2, .int 0), (3, .int 0)]) [2, 3, 1, 0] rfl ?_
  obtain ⟨q1, hq1, h⟩ := bindN h
  refine zLM_heldAt_4 hG C N hD hd 1000000 _ _ _ hq1 ?_
  · intro r2 eq1; replace eq1 := eq1.symm; subst eq1
    obtain rfl := Option.some.inj h
    exact E
theorem ddM_drawOnce_0 : decode cM_drawOnce 0 = .ok (.aload_n 0, 1) := by decide +kernel
theorem ddM_drawOnce_1 : decode cM_drawOnce 1 = .ok (.aload_n 0, 1) := by decide +kernel
theorem ddM_drawOnce_2 : decode cM_drawOnce 2 = .ok (.getfield 19, 3) := by decide +kernel
theorem ddM_drawOnce_5 : decode cM_drawOnce 5 = .ok (.iconst 0, 1) := by decide +kernel
theorem ddM_drawOnce_6 : decode cM_drawOnce 6 = .ok (.iaload, 1) := by decide +kernel
theorem ddM_drawOnce_7 : decode cM_drawOnce 7 = .ok (.invokevirtual 335, 3) := by decide +kernel
theorem ddM_drawOnce_10 : decode cM_drawOnce 10 = .ok (.istore_n 1, 1) := by decide +kernel
theorem ddM_drawOnce_11 : decode cM_drawOnce 11 = .ok (.aload_n 0, 1) := by decide +kernel
theorem ddM_drawOnce_12 : decode cM_drawOnce 12 = .ok (.iconst 3, 1) := by decide +kernel
theorem ddM_drawOnce_13 : decode cM_drawOnce 13 = .ok (.invokevirtual 335, 3) := by decide +kernel
theorem ddM_drawOnce_16 : decode cM_drawOnce 16 = .ok (.iconst 2, 1) := by decide +kernel
theorem ddM_drawOnce_17 : decode cM_drawOnce 17 = .ok (.if_icmp .ge 58, 3) := by decide +kernel
theorem ddM_drawOnce_20 : decode cM_drawOnce 20 = .ok (.aload_n 0, 1) := by decide +kernel
theorem ddM_drawOnce_21 : decode cM_drawOnce 21 = .ok (.aload_n 0, 1) := by decide +kernel
theorem ddM_drawOnce_22 : decode cM_drawOnce 22 = .ok (.aload_n 0, 1) := by decide +kernel
theorem ddM_drawOnce_23 : decode cM_drawOnce 23 = .ok (.getfield 19, 3) := by decide +kernel
theorem ddM_drawOnce_26 : decode cM_drawOnce 26 = .ok (.iconst 2, 1) := by decide +kernel
theorem ddM_drawOnce_27 : decode cM_drawOnce 27 = .ok (.iaload, 1) := by decide +kernel
theorem ddM_drawOnce_28 : decode cM_drawOnce 28 = .ok (.invokevirtual 335, 3) := by decide +kernel
theorem ddM_drawOnce_31 : decode cM_drawOnce 31 = .ok (.iconst 1, 1) := by decide +kernel
theorem ddM_drawOnce_32 : decode cM_drawOnce 32 = .ok (.iadd, 1) := by decide +kernel
theorem ddM_drawOnce_33 : decode cM_drawOnce 33 = .ok (.invokevirtual 263, 3) := by decide +kernel
theorem ddM_drawOnce_36 : decode cM_drawOnce 36 = .ok (.istore_n 2, 1) := by decide +kernel
theorem ddM_drawOnce_37 : decode cM_drawOnce 37 = .ok (.aload_n 0, 1) := by decide +kernel
theorem ddM_drawOnce_38 : decode cM_drawOnce 38 = .ok (.iload_n 1, 1) := by decide +kernel
theorem ddM_drawOnce_39 : decode cM_drawOnce 39 = .ok (.invokevirtual 260, 3) := by decide +kernel
theorem ddM_drawOnce_42 : decode cM_drawOnce 42 = .ok (.ifCond .eq 30, 3) := by decide +kernel
theorem ddM_drawOnce_45 : decode cM_drawOnce 45 = .ok (.iload_n 2, 1) := by decide +kernel
theorem ddM_drawOnce_46 : decode cM_drawOnce 46 = .ok (.iconst (-1), 1) := by decide +kernel
theorem ddM_drawOnce_47 : decode cM_drawOnce 47 = .ok (.if_icmp .eq 25, 3) := by decide +kernel
theorem ddM_drawOnce_50 : decode cM_drawOnce 50 = .ok (.aload_n 0, 1) := by decide +kernel
theorem ddM_drawOnce_51 : decode cM_drawOnce 51 = .ok (.iload_n 1, 1) := by decide +kernel
theorem ddM_drawOnce_52 : decode cM_drawOnce 52 = .ok (.iload_n 2, 1) := by decide +kernel
theorem ddM_drawOnce_53 : decode cM_drawOnce 53 = .ok (.invokevirtual 229, 3) := by decide +kernel
theorem ddM_drawOnce_56 : decode cM_drawOnce 56 = .ok (.ifCond .eq 16, 3) := by decide +kernel
theorem ddM_drawOnce_59 : decode cM_drawOnce 59 = .ok (.aload_n 0, 1) := by decide +kernel
theorem ddM_drawOnce_60 : decode cM_drawOnce 60 = .ok (.iload_n 1, 1) := by decide +kernel
theorem ddM_drawOnce_61 : decode cM_drawOnce 61 = .ok (.iload_n 2, 1) := by decide +kernel
theorem ddM_drawOnce_62 : decode cM_drawOnce 62 = .ok (.invokevirtual 275, 3) := by decide +kernel
theorem ddM_drawOnce_65 : decode cM_drawOnce 65 = .ok (.istore_n 3, 1) := by decide +kernel
theorem ddM_drawOnce_66 : decode cM_drawOnce 66 = .ok (.aload_n 0, 1) := by decide +kernel
theorem ddM_drawOnce_67 : decode cM_drawOnce 67 = .ok (.iload_n 3, 1) := by decide +kernel
theorem ddM_drawOnce_68 : decode cM_drawOnce 68 = .ok (.iload_n 1, 1) := by decide +kernel
theorem ddM_drawOnce_69 : decode cM_drawOnce 69 = .ok (.invokevirtual 278, 3) := by decide +kernel
theorem ddM_drawOnce_72 : decode cM_drawOnce 72 = .ok (.goto 38, 3) := by decide +kernel
theorem ddM_drawOnce_75 : decode cM_drawOnce 75 = .ok (.aload_n 0, 1) := by decide +kernel
theorem ddM_drawOnce_76 : decode cM_drawOnce 76 = .ok (.invokevirtual 338, 3) := by decide +kernel
theorem ddM_drawOnce_79 : decode cM_drawOnce 79 = .ok (.ifCond .le 31, 3) := by decide +kernel
theorem ddM_drawOnce_82 : decode cM_drawOnce 82 = .ok (.aload_n 0, 1) := by decide +kernel
theorem ddM_drawOnce_83 : decode cM_drawOnce 83 = .ok (.aload_n 0, 1) := by decide +kernel
theorem ddM_drawOnce_84 : decode cM_drawOnce 84 = .ok (.aload_n 0, 1) := by decide +kernel
theorem ddM_drawOnce_85 : decode cM_drawOnce 85 = .ok (.invokevirtual 338, 3) := by decide +kernel
theorem ddM_drawOnce_88 : decode cM_drawOnce 88 = .ok (.invokevirtual 335, 3) := by decide +kernel
theorem ddM_drawOnce_91 : decode cM_drawOnce 91 = .ok (.invokevirtual 341, 3) := by decide +kernel
theorem ddM_drawOnce_94 : decode cM_drawOnce 94 = .ok (.istore_n 2, 1) := by decide +kernel
theorem ddM_drawOnce_95 : decode cM_drawOnce 95 = .ok (.aload_n 0, 1) := by decide +kernel
theorem ddM_drawOnce_96 : decode cM_drawOnce 96 = .ok (.iload_n 1, 1) := by decide +kernel
theorem ddM_drawOnce_97 : decode cM_drawOnce 97 = .ok (.invokevirtual 260, 3) := by decide +kernel
theorem ddM_drawOnce_100 : decode cM_drawOnce 100 = .ok (.ifCond .eq 10, 3) := by decide +kernel
theorem ddM_drawOnce_103 : decode cM_drawOnce 103 = .ok (.aload_n 0, 1) := by decide +kernel
theorem ddM_drawOnce_104 : decode cM_drawOnce 104 = .ok (.iload_n 1, 1) := by decide +kernel
theorem ddM_drawOnce_105 : decode cM_drawOnce 105 = .ok (.iload_n 2, 1) := by decide +kernel
theorem ddM_drawOnce_106 : decode cM_drawOnce 106 = .ok (.invokevirtual 272, 3) := by decide +kernel
theorem ddM_drawOnce_109 : decode cM_drawOnce 109 = .ok (.pop, 1) := by decide +kernel
theorem ddM_drawOnce_110 : decode cM_drawOnce 110 = .ok (.return_, 1) := by decide +kernel
set_option maxHeartbeats 2000000 in
theorem zBM_drawOnce_110 {G : GXM} {X : CxM} (hG : GokM G) (C : CoM G X cM_drawOnce "HomeFreedModel") (N : mLM X = 4) {d : Nat} (hD : dpM X = d) (hd : 8 ≤ d)  {q : Mem} (E : EnM G X none none q 0 0) {M : Mem} (h : BM_drawOnce_110 M = some q) : ZM G X 110 [] [] M 0 0 := by
  unfold BM_drawOnce_110 at h
  obtain rfl := Option.some.inj h
  exact zz_vret C E ddM_drawOnce_110
set_option maxHeartbeats 2000000 in
theorem zBM_drawOnce_72 {G : GXM} {X : CxM} (hG : GokM G) (C : CoM G X cM_drawOnce "HomeFreedModel") (N : mLM X = 4) {d : Nat} (hD : dpM X = d) (hd : 8 ≤ d)  {q : Mem} (E : EnM G X none none q 0 0) {M : Mem} (h : BM_drawOnce_72 M = some q) : ZM G X 72 [] [] M 0 0 := by
  unfold BM_drawOnce_72 at h
  refine zz_goto (tgt := 110) C ddM_drawOnce_72 rfl ?_
  exact zBM_drawOnce_110 hG C N hD hd E h
set_option maxHeartbeats 2000000 in
theorem xM_drawOnce {G : GXM} {l : Launch} (hG : GokM G) (d : Nat) (hd : 8 ≤ d) {v0 : Nat} {M : Mem} {q : Mem} (h : fM_drawOnce v0 M = some q) : ExM G l d 0 0 yM_drawOnce cM_drawOnce 4 none [.ref v0] M none q := by
  refine ex_of hG (by decide +kernel) (Nat.le_of_ble_eq_true rfl) ?_
  intro X hl C E N hD hn
  show ZM G X 0 [(0, .ref v0)] [] M 0 0
  unfold fM_drawOnce at h
  refine zz_aload_n C 0 ddM_drawOnce_0 rfl rfl ?_
  refine zz_aload_n C 0 ddM_drawOnce_1 rfl rfl ?_
  obtain ⟨h1, h⟩ := gdN h
  obtain ⟨h2, h⟩ := gdN h
  refine zz_getr C ddM_drawOnce_2 fl_M_19 rfl h1 (of_decide_eq_true h2) ?_
  refine zz_iconst (v := 0) C ddM_drawOnce_5 (by decide) ?_
  obtain ⟨h3, h⟩ := gdN h
  refine zz_iaload C ddM_drawOnce_6 h3 ?_
  obtain ⟨q4, hq4, h⟩ := bindN h
  refine zz_callV0 (As := [.int (giM M (grM M v0 8) (Int32.toNatClampNeg 0))]) C ddM_drawOnce_7 wd_1627 my_M_draw mv_M_draw ⟨_, rfl, rfl⟩ (xM_draw hG (d - 1) (by omega) hq4) (by omega) h1 rfl rfl (Nat.le_of_ble_eq_true rfl) ?_
  refine zz_istore_n (L1 := [(1, .int q4.1), (0, .ref v0)]) C ddM_drawOnce_10 rfl N (by decide) rfl ?_
  refine zz_aload_n C 1 ddM_drawOnce_11 rfl rfl ?_
  refine zz_iconst (v := 3) C ddM_drawOnce_12 (by decide) ?_
  obtain ⟨h6, h⟩ := gdN h
  obtain ⟨q5, hq5, h⟩ := bindN h
  refine zz_callV0 (As := [.int 3]) C ddM_drawOnce_13 wd_1627 my_M_draw mv_M_draw ⟨_, rfl, rfl⟩ (xM_draw hG (d - 1) (by omega) hq5) (by omega) h6 rfl rfl (Nat.le_of_ble_eq_true rfl) ?_
  refine zz_iconst (v := 2) C ddM_drawOnce_16 (by decide) ?_
  refine zz_icmp_ge (tgt := 75) C ddM_drawOnce_17 rfl (fun hc => ?_) (fun hc => ?_)
  · replace h := iteT h hc
    refine zz_aload_n C 1 ddM_drawOnce_75 rfl rfl ?_
    obtain ⟨h8, h⟩ := gdN h
    obtain ⟨q7, hq7, h⟩ := bindN h
    refine zz_callV0 (As := []) C ddM_drawOnce_76 wd_1633 my_M_heldMany mv_M_heldMany ⟨_, rfl, rfl⟩ (xM_heldMany hG (d - 1) (by omega) hq7) (by omega) h8 rfl rfl (Nat.le_of_ble_eq_true rfl) ?_
    refine zz_if_le (tgt := 110) C ddM_drawOnce_79 rfl (fun hc => ?_) (fun hc => ?_)
    · replace h := iteT h hc
      refine zz_loc (L1 := []) [] rfl ?_
      exact zBM_drawOnce_110 hG C N hD hd E h
    · replace h := iteF h hc
      refine zz_aload_n C 1 ddM_drawOnce_82 rfl rfl ?_
      refine zz_aload_n C 1 ddM_drawOnce_83 rfl rfl ?_
      refine zz_aload_n C 1 ddM_drawOnce_84 rfl rfl ?_
      obtain ⟨h10, h⟩ := gdN h
      obtain ⟨q9, hq9, h⟩ := bindN h
      refine zz_callV0 (As := []) C ddM_drawOnce_85 wd_1633 my_M_heldMany mv_M_heldMany ⟨_, rfl, rfl⟩ (xM_heldMany hG (d - 1) (by omega) hq9) (by omega) h10 rfl rfl (Nat.le_of_ble_eq_true rfl) ?_
      obtain ⟨h12, h⟩ := gdN h
      obtain ⟨q11, hq11, h⟩ := bindN h
      refine zz_callV0 (As := [.int q9.1]) C ddM_drawOnce_88 wd_1627 my_M_draw mv_M_draw ⟨_, rfl, rfl⟩ (xM_draw hG (d - 1) (by omega) hq11) (by omega) h12 rfl rfl (Nat.le_of_ble_eq_true rfl) ?_
      obtain ⟨h14, h⟩ := gdN h
      obtain ⟨q13, hq13, h⟩ := bindN h
      refine zz_callV0 (As := [.int q11.1]) C ddM_drawOnce_91 wd_1637 my_M_heldAt mv_M_heldAt ⟨_, rfl, rfl⟩ (xM_heldAt hG (d - 1) (by omega) hq13) (by omega) h14 rfl rfl (Nat.le_of_ble_eq_true rfl) ?_
      refine zz_istore_n (L1 := [(2, .int q13.1), (1, .int q4.1), (0, .ref v0)]) C ddM_drawOnce_94 rfl N (by decide) rfl ?_
      refine zz_aload_n C 2 ddM_drawOnce_95 rfl rfl ?_
      refine zz_iload_n C 1 ddM_drawOnce_96 rfl rfl ?_
      obtain ⟨h16, h⟩ := gdN h
      obtain ⟨q15, hq15, h⟩ := bindN h
      refine zz_callV0 (As := [.int q4.1]) C ddM_drawOnce_97 wd_1463 my_M_doesLive mv_M_doesLive ⟨_, rfl, rfl⟩ (xM_doesLive hG (d - 1) (by omega) hq15) (by omega) h16 rfl rfl (Nat.le_of_ble_eq_true rfl) ?_
      refine zz_if_eq (tgt := 110) C ddM_drawOnce_100 rfl (fun hc => ?_) (fun hc => ?_)
      · replace h := iteT h hc
        refine zz_loc (L1 := []) [] rfl ?_
        exact zBM_drawOnce_110 hG C N hD hd E h
      · replace h := iteF h hc
        refine zz_aload_n C 2 ddM_drawOnce_103 rfl rfl ?_
        refine zz_iload_n C 1 ddM_drawOnce_104 rfl rfl ?_
        refine zz_iload_n C 0 ddM_drawOnce_105 rfl rfl ?_
        obtain ⟨h18, h⟩ := gdN h
        obtain ⟨q17, hq17, h⟩ := bindN h
        refine zz_callV0 (As := [.int q4.1, .int q13.1]) C ddM_drawOnce_106 wd_1563 my_M_freeNow mv_M_freeNow ⟨_, rfl, rfl⟩ (xM_freeNow hG (d - 1) (by omega) hq17) (by omega) h18 rfl rfl (Nat.le_of_ble_eq_true rfl) ?_
        refine zz_pop C ddM_drawOnce_109 rfl ?_
        refine zz_loc (L1 := []) [] rfl ?_
        exact zBM_drawOnce_110 hG C N hD hd E h
  · replace h := iteF h hc
    refine zz_aload_n C 1 ddM_drawOnce_20 rfl rfl ?_
    refine zz_aload_n C 1 ddM_drawOnce_21 rfl rfl ?_
    refine zz_aload_n C 1 ddM_drawOnce_22 rfl rfl ?_
    obtain ⟨h19, h⟩ := gdN h
    obtain ⟨h20, h⟩ := gdN h
    refine zz_getr C ddM_drawOnce_23 fl_M_19 rfl h19 (of_decide_eq_true h20) ?_
    refine zz_iconst (v := 2) C ddM_drawOnce_26 (by decide) ?_
    obtain ⟨h21, h⟩ := gdN h
    refine zz_iaload C ddM_drawOnce_27 h21 ?_
    obtain ⟨q22, hq22, h⟩ := bindN h
    refine zz_callV0 (As := [.int (giM q5.2 (grM q5.2 v0 8) (Int32.toNatClampNeg 2))]) C ddM_drawOnce_28 wd_1627 my_M_draw mv_M_draw ⟨_, rfl, rfl⟩ (xM_draw hG (d - 1) (by omega) hq22) (by omega) h19 rfl rfl (Nat.le_of_ble_eq_true rfl) ?_
    refine zz_iconst (v := 1) C ddM_drawOnce_31 (by decide) ?_
    refine zz_iadd C ddM_drawOnce_32 ?_
    obtain ⟨h24, h⟩ := gdN h
    obtain ⟨q23, hq23, h⟩ := bindN h
    refine zz_callV0 (As := [.int (q22.1 + 1)]) C ddM_drawOnce_33 wd_1459 my_M_classFor mv_M_classFor ⟨_, rfl, rfl⟩ (xM_classFor hG (d - 1) (by omega) hq23) (by omega) h24 rfl rfl (Nat.le_of_ble_eq_true rfl) ?_
    refine zz_istore_n (L1 := [(2, .int q23.1), (1, .int q4.1), (0, .ref v0)]) C ddM_drawOnce_36 rfl N (by decide) rfl ?_
    refine zz_aload_n C 2 ddM_drawOnce_37 rfl rfl ?_
    refine zz_iload_n C 1 ddM_drawOnce_38 rfl rfl ?_
    obtain ⟨h26, h⟩ := gdN h
    obtain ⟨q25, hq25, h⟩ := bindN h
    refine zz_callV0 (As := [.int q4.1]) C ddM_drawOnce_39 wd_1463 my_M_doesLive mv_M_doesLive ⟨_, rfl, rfl⟩ (xM_doesLive hG (d - 1) (by omega) hq25) (by omega) h26 rfl rfl (Nat.le_of_ble_eq_true rfl) ?_
    refine zz_if_eq (tgt := 72) C ddM_drawOnce_42 rfl (fun hc => ?_) (fun hc => ?_)
    · replace h := iteT h hc
      refine zz_loc (L1 := []) [] rfl ?_
      exact zBM_drawOnce_72 hG C N hD hd E h
    · replace h := iteF h hc
      refine zz_iload_n C 0 ddM_drawOnce_45 rfl rfl ?_
      refine zz_iconst (v := (-1)) C ddM_drawOnce_46 (by decide) ?_
      refine zz_icmp_eq (tgt := 72) C ddM_drawOnce_47 rfl (fun hc => ?_) (fun hc => ?_)
      · replace h := iteT h hc
        refine zz_loc (L1 := []) [] rfl ?_
        exact zBM_drawOnce_72 hG C N hD hd E h
      · replace h := iteF h hc
        refine zz_aload_n C 2 ddM_drawOnce_50 rfl rfl ?_
        refine zz_iload_n C 1 ddM_drawOnce_51 rfl rfl ?_
        refine zz_iload_n C 0 ddM_drawOnce_52 rfl rfl ?_
        obtain ⟨h28, h⟩ := gdN h
        obtain ⟨q27, hq27, h⟩ := bindN h
        refine zz_callV0 (As := [.int q4.1, .int q23.1]) C ddM_drawOnce_53 wd_1467 my_M_canGet mv_M_canGet ⟨_, rfl, rfl⟩ (xM_canGet hG (d - 1) (by omega) hq27) (by omega) h28 rfl rfl (Nat.le_of_ble_eq_true rfl) ?_
        refine zz_if_eq (tgt := 72) C ddM_drawOnce_56 rfl (fun hc => ?_) (fun hc => ?_)
        · replace h := iteT h hc
          refine zz_loc (L1 := []) [] rfl ?_
          exact zBM_drawOnce_72 hG C N hD hd E h
        · replace h := iteF h hc
          refine zz_aload_n C 2 ddM_drawOnce_59 rfl rfl ?_
          refine zz_iload_n C 1 ddM_drawOnce_60 rfl rfl ?_
          refine zz_iload_n C 0 ddM_drawOnce_61 rfl rfl ?_
          obtain ⟨h30, h⟩ := gdN h
          obtain ⟨q29, hq29, h⟩ := bindN h
          refine zz_callV0 (As := [.int q4.1, .int q23.1]) C ddM_drawOnce_62 wd_1483 my_M_getNow mv_M_getNow ⟨_, rfl, rfl⟩ (xM_getNow hG (d - 1) (by omega) hq29) (by omega) h30 rfl rfl (Nat.le_of_ble_eq_true rfl) ?_
          refine zz_istore_n (L1 := [(3, .int q29.1), (2, .int q23.1), (1, .int q4.1), (0, .ref v0)]) C ddM_drawOnce_65 rfl N (by decide) rfl ?_
          refine zz_aload_n C 3 ddM_drawOnce_66 rfl rfl ?_
          refine zz_iload_n C 0 ddM_drawOnce_67 rfl rfl ?_
          refine zz_iload_n C 2 ddM_drawOnce_68 rfl rfl ?_
          obtain ⟨h32, h⟩ := gdN h
          obtain ⟨q31, hq31, h⟩ := bindN h
          refine zz_callV0 (As := [.int q29.1, .int q4.1]) C ddM_drawOnce_69 wd_1555 my_M_note mv_M_note ⟨_, rfl, rfl⟩ (xM_note hG (d - 1) (by omega) hq31) (by omega) h32 rfl rfl (Nat.le_of_ble_eq_true rfl) ?_
          refine zz_loc (L1 := []) [] rfl ?_
          exact zBM_drawOnce_72 hG C N hD hd E h
theorem ddM_years_0 : decode cM_years 0 = .ok (.aload_n 0, 1) := by decide +kernel
theorem ddM_years_1 : decode cM_years 1 = .ok (.invokevirtual 160, 3) := by decide +kernel
theorem ddM_years_4 : decode cM_years 4 = .ok (.ifCond .eq 13, 3) := by decide +kernel
theorem ddM_years_7 : decode cM_years 7 = .ok (.iload_n 1, 1) := by decide +kernel
theorem ddM_years_8 : decode cM_years 8 = .ok (.iconst 1, 1) := by decide +kernel
theorem ddM_years_9 : decode cM_years 9 = .ok (.bipush 40, 2) := by decide +kernel
theorem ddM_years_11 : decode cM_years 11 = .ok (.invokestatic 75, 3) := by decide +kernel
theorem ddM_years_14 : decode cM_years 14 = .ok (.ifCond .ne 5, 3) := by decide +kernel
theorem ddM_years_17 : decode cM_years 17 = .ok (.iconst (-1), 1) := by decide +kernel
theorem ddM_years_18 : decode cM_years 18 = .ok (.ireturn, 1) := by decide +kernel
theorem ddM_years_19 : decode cM_years 19 = .ok (.aload_n 0, 1) := by decide +kernel
theorem ddM_years_20 : decode cM_years 20 = .ok (.lload_n 2, 1) := by decide +kernel
theorem ddM_years_21 : decode cM_years 21 = .ok (.putfield 327, 3) := by decide +kernel
theorem ddM_years_24 : decode cM_years 24 = .ok (.iconst 0, 1) := by decide +kernel
theorem ddM_years_25 : decode cM_years 25 = .ok (.istore 4, 2) := by decide +kernel
theorem ddM_years_27 : decode cM_years 27 = .ok (.iload 4, 2) := by decide +kernel
theorem ddM_years_29 : decode cM_years 29 = .ok (.iload_n 1, 1) := by decide +kernel
theorem ddM_years_30 : decode cM_years 30 = .ok (.if_icmp .ge 17, 3) := by decide +kernel
theorem ddM_years_33 : decode cM_years 33 = .ok (.aload_n 0, 1) := by decide +kernel
theorem ddM_years_34 : decode cM_years 34 = .ok (.invokevirtual 318, 3) := by decide +kernel
theorem ddM_years_37 : decode cM_years 37 = .ok (.aload_n 0, 1) := by decide +kernel
theorem ddM_years_38 : decode cM_years 38 = .ok (.invokevirtual 344, 3) := by decide +kernel
theorem ddM_years_41 : decode cM_years 41 = .ok (.iinc 4 1, 3) := by decide +kernel
theorem ddM_years_44 : decode cM_years 44 = .ok (.goto (-17), 3) := by decide +kernel
theorem ddM_years_47 : decode cM_years 47 = .ok (.aload_n 0, 1) := by decide +kernel
theorem ddM_years_48 : decode cM_years 48 = .ok (.invokevirtual 338, 3) := by decide +kernel
theorem ddM_years_51 : decode cM_years 51 = .ok (.ireturn, 1) := by decide +kernel
set_option maxHeartbeats 2000000 in
theorem zBM_years_27 {G : GXM} {X : CxM} (hG : GokM G) (C : CoM G X cM_years "HomeFreedModel") (N : mLM X = 5) {d : Nat} (hD : dpM X = d) (hd : 9 ≤ d) {v0 : Nat} {v1 : Int32} {K : Nat → Int32 → Int32 → Mem → Option ((Int32 × Mem))} {q : (Int32 × Mem)} (hK : ∀ (v4 : Int32) (M : Mem), K v0 v1 v4 M = some q → ZM G X 27 [(0, .ref v0), (1, .int v1), (4, .int v4)] [] M 0 0) (hr : ∀ r : Int32 × Mem, q =  r → EnM G X (some .int) (some (.int r.1)) r.2 0 0) {v4 : Int32} {M : Mem} (h : BM_years_27 K v0 v1 v4 M = some q) : ZM G X 27 [(0, .ref v0), (1, .int v1), (4, .int v4)] [] M 0 0 := by
  unfold BM_years_27 at h
  refine zz_iload C 2 ddM_years_27 rfl ?_
  refine zz_iload_n C 1 ddM_years_29 rfl rfl ?_
  refine zz_icmp_ge (tgt := 47) C ddM_years_30 rfl (fun hc => ?_) (fun hc => ?_)
  · replace h := iteT h hc
    refine zz_aload_n C 0 ddM_years_47 rfl rfl ?_
    obtain ⟨h2, h⟩ := gdN h
    obtain ⟨q1, hq1, h⟩ := bindN h
    refine zz_callV0 (As := []) C ddM_years_48 wd_1633 my_M_heldMany mv_M_heldMany ⟨_, rfl, rfl⟩ (xM_heldMany hG (d - 1) (by omega) hq1) (by omega) h2 rfl rfl (Nat.le_of_ble_eq_true rfl) ?_
    exact zz_iret C (hr _ (Option.some.inj h).symm) ddM_years_51
  · replace h := iteF h hc
    refine zz_aload_n C 0 ddM_years_33 rfl rfl ?_
    obtain ⟨h4, h⟩ := gdN h
    obtain ⟨q3, hq3, h⟩ := bindN h
    refine zz_callV0 (As := []) C ddM_years_34 wd_1479 my_M_keep mv_M_keep ⟨_, rfl, rfl⟩ (xM_keep hG (d - 1) (by omega) hq3) (by omega) h4 rfl rfl (Nat.le_of_ble_eq_true rfl) ?_
    refine zz_aload_n C 0 ddM_years_37 rfl rfl ?_
    obtain ⟨h6, h⟩ := gdN h
    obtain ⟨q5, hq5, h⟩ := bindN h
    refine zz_callV0 (As := []) C ddM_years_38 wd_1623 my_M_drawOnce mv_M_drawOnce ⟨_, rfl, rfl⟩ (xM_drawOnce hG (d - 1) (by omega) hq5) (by omega) h6 rfl rfl (Nat.le_of_ble_eq_true rfl) ?_
    refine zz_iinc (v := v4 + 1) (L1 := [(4, .int (v4 + 1)), (0, .ref v0), (1, .int v1)]) C 2 ddM_years_41 rfl rfl N (by decide) rfl ?_
    refine zz_goto (tgt := 27) C ddM_years_44 rfl ?_
    refine zz_loc (L1 := [(0, .ref v0), (1, .int v1), (4, .int (v4 + 1))]) [1, 2, 0] rfl ?_
    exact hK _ _ h
set_option maxHeartbeats 2000000 in
theorem zLM_years_27 {G : GXM} {X : CxM} (hG : GokM G) (C : CoM G X cM_years "HomeFreedModel") (N : mLM X = 5) {d : Nat} (hD : dpM X = d) (hd : 9 ≤ d) {v0 : Nat} {v1 : Int32} {q : (Int32 × Mem)} : ∀ (f : Nat) (v4 : Int32) (M : Mem), LM_years_27 f v0 v1 v4 M = some q → (hr : ∀ r : Int32 × Mem, q =  r → EnM G X (some .int) (some (.int r.1)) r.2 0 0) → ZM G X 27 [(0, .ref v0), (1, .int v1), (4, .int v4)] [] M 0 0 := by
  intro f
  induction f with
  | zero => intro v4 M h; cases h
  | succ f ih =>
    intro v4 M h hr
    exact zBM_years_27 hG C N hD hd (K := LM_years_27 f) (q := q) (fun v4 M h => ih v4 M h hr) hr h
set_option maxHeartbeats 2000000 in
theorem zBM_years_17 {G : GXM} {X : CxM} (hG : GokM G) (C : CoM G X cM_years "HomeFreedModel") (N : mLM X = 5) {d : Nat} (hD : dpM X = d) (hd : 9 ≤ d)  {q : Int32 × Mem} (E : EnM G X (some .int) (some (.int q.1)) q.2 0 0) {M : Mem} (h : BM_years_17 M = some q) : ZM G X 17 [] [] M 0 0 := by
  unfold BM_years_17 at h
  refine zz_iconst (v := (-1)) C ddM_years_17 (by decide) ?_
  obtain rfl := Option.some.inj h
  exact zz_iret C E ddM_years_18
set_option maxHeartbeats 2000000 in
theorem xM_years {G : GXM} {l : Launch} (hG : GokM G) (d : Nat) (hd : 9 ≤ d) {v0 : Nat} {v1 : Int32} {v2 : Int64} {M : Mem} {q : Int32 × Mem} (h : fM_years v0 v1 v2 M = some q) : ExM G l d 0 0 yM_years cM_years 5 (some .int) [.ref v0, .int v1, .long v2] M (some (.int q.1)) q.2 := by
  refine ex_of hG (by decide +kernel) (Nat.le_of_ble_eq_true rfl) ?_
  intro X hl C E N hD hn
  show ZM G X 0 [(0, .ref v0), (1, .int v1), (2, .long v2)] [] M 0 0
  unfold fM_years at h
  refine zz_aload_n C 0 ddM_years_0 rfl rfl ?_
  obtain ⟨h2, h⟩ := gdN h
  obtain ⟨q1, hq1, h⟩ := bindN h
  refine zz_callV0 (As := []) C ddM_years_1 wd_1362 my_M_isArena mv_M_isArena ⟨_, rfl, rfl⟩ (xM_isArena hG (d - 1) (by omega) hq1) (by omega) h2 rfl rfl (Nat.le_of_ble_eq_true rfl) ?_
  refine zz_if_eq (tgt := 17) C ddM_years_4 rfl (fun hc => ?_) (fun hc => ?_)
  · replace h := iteT h hc
    refine zz_loc (L1 := []) [] rfl ?_
    exact zBM_years_17 hG C N hD hd E h
  · replace h := iteF h hc
    refine zz_iload_n C 1 ddM_years_7 rfl rfl ?_
    refine zz_iconst (v := 1) C ddM_years_8 (by decide) ?_
    refine zz_bipush (v := 40) C ddM_years_9 (by decide) ?_
    obtain ⟨q3, hq3, h⟩ := bindN h
    refine zz_callS0 (As := [.int v1, .int 1, .int 40]) C ddM_years_11 wd_1289 my_M_in mv_M_in (xM_in hG (d - 1) (by omega) hq3) (by omega) rfl rfl (Nat.le_of_ble_eq_true rfl) ?_
    refine zz_if_ne (tgt := 19) C ddM_years_14 rfl (fun hc => ?_) (fun hc => ?_)
    · replace h := iteF h hc
      refine zz_aload_n C 0 ddM_years_19 rfl rfl ?_
      refine zz_lload_n C 2 ddM_years_20 rfl rfl ?_
      obtain ⟨h4, h⟩ := gdN h
      refine zz_putl C ddM_years_21 fl_M_327 rfl rfl rfl h4 ?_
      refine zz_iconst (v := 0) C ddM_years_24 (by decide) ?_
      refine zz_istore (L1 := [(4, .int 0), (0, .ref v0), (1, .int v1), (2, .long v2)]) C ddM_years_25 N (by decide) rfl ?_
      refine zz_loc (L1 := [(0, .ref v0), (1, .int v1), (4, .int 0)]) [1, 2, 0] rfl ?_
      obtain ⟨q5, hq5, h⟩ := bindN h
      refine zLM_years_27 hG C N hD hd 1000000 _ _ hq5 ?_
      · intro r6 eq5; replace eq5 := eq5.symm; subst eq5
        obtain rfl := Option.some.inj h
        exact E
    · replace h := iteT h hc
      refine zz_loc (L1 := []) [] rfl ?_
      exact zBM_years_17 hG C N hD hd E h
theorem ddM_status_0 : decode cM_status 0 = .ok (.iload_n 1, 1) := by decide +kernel
theorem ddM_status_1 : decode cM_status 1 = .ok (.iconst 0, 1) := by decide +kernel
theorem ddM_status_2 : decode cM_status 2 = .ok (.iconst 3, 1) := by decide +kernel
theorem ddM_status_3 : decode cM_status 3 = .ok (.invokestatic 75, 3) := by decide +kernel
theorem ddM_status_6 : decode cM_status 6 = .ok (.ifCond .eq 12, 3) := by decide +kernel
theorem ddM_status_9 : decode cM_status 9 = .ok (.aload_n 0, 1) := by decide +kernel
theorem ddM_status_10 : decode cM_status 10 = .ok (.getfield 34, 3) := by decide +kernel
theorem ddM_status_13 : decode cM_status 13 = .ok (.iload_n 1, 1) := by decide +kernel
theorem ddM_status_14 : decode cM_status 14 = .ok (.iaload, 1) := by decide +kernel
theorem ddM_status_15 : decode cM_status 15 = .ok (.goto 4, 3) := by decide +kernel
theorem ddM_status_18 : decode cM_status 18 = .ok (.iconst (-1), 1) := by decide +kernel
theorem ddM_status_19 : decode cM_status 19 = .ok (.ireturn, 1) := by decide +kernel
set_option maxHeartbeats 2000000 in
theorem zBM_status_19 {G : GXM} {X : CxM} (hG : GokM G) (C : CoM G X cM_status "HomeFreedModel") (N : mLM X = 2) {d : Nat} (hD : dpM X = d) (hd : 1 ≤ d)  {q : Int32 × Mem} (E : EnM G X (some .int) (some (.int q.1)) q.2 0 0) {w0 : Int32} {M : Mem} (h : BM_status_19 w0 M = some q) : ZM G X 19 [] [.int w0] M 0 0 := by
  unfold BM_status_19 at h
  obtain rfl := Option.some.inj h
  exact zz_iret C E ddM_status_19
set_option maxHeartbeats 2000000 in
theorem xM_status {G : GXM} {l : Launch} (hG : GokM G) (d : Nat) (hd : 1 ≤ d) {v0 : Nat} {v1 : Int32} {M : Mem} {q : Int32 × Mem} (h : fM_status v0 v1 M = some q) : ExM G l d 0 0 yM_status cM_status 2 (some .int) [.ref v0, .int v1] M (some (.int q.1)) q.2 := by
  refine ex_of hG (by decide +kernel) (Nat.le_of_ble_eq_true rfl) ?_
  intro X hl C E N hD hn
  show ZM G X 0 [(0, .ref v0), (1, .int v1)] [] M 0 0
  unfold fM_status at h
  refine zz_iload_n C 1 ddM_status_0 rfl rfl ?_
  refine zz_iconst (v := 0) C ddM_status_1 (by decide) ?_
  refine zz_iconst (v := 3) C ddM_status_2 (by decide) ?_
  obtain ⟨q1, hq1, h⟩ := bindN h
  refine zz_callS0 (As := [.int v1, .int 0, .int 3]) C ddM_status_3 wd_1289 my_M_in mv_M_in (xM_in hG (d - 1) (by omega) hq1) (by omega) rfl rfl (Nat.le_of_ble_eq_true rfl) ?_
  refine zz_if_eq (tgt := 18) C ddM_status_6 rfl (fun hc => ?_) (fun hc => ?_)
  · replace h := iteT h hc
    refine zz_iconst (v := (-1)) C ddM_status_18 (by decide) ?_
    refine zz_loc (L1 := []) [] rfl ?_
    exact zBM_status_19 hG C N hD hd E h
  · replace h := iteF h hc
    refine zz_aload_n C 0 ddM_status_9 rfl rfl ?_
    obtain ⟨h2, h⟩ := gdN h
    obtain ⟨h3, h⟩ := gdN h
    refine zz_getr C ddM_status_10 fl_M_34 rfl h2 (of_decide_eq_true h3) ?_
    refine zz_iload_n C 1 ddM_status_13 rfl rfl ?_
    obtain ⟨h4, h⟩ := gdN h
    refine zz_iaload C ddM_status_14 h4 ?_
    refine zz_goto (tgt := 19) C ddM_status_15 rfl ?_
    refine zz_loc (L1 := []) [] rfl ?_
    exact zBM_status_19 hG C N hD hd E h
theorem ddM_undo_0 : decode cM_undo 0 = .ok (.aload_n 0, 1) := by decide +kernel
theorem ddM_undo_1 : decode cM_undo 1 = .ok (.getfield 147, 3) := by decide +kernel
theorem ddM_undo_4 : decode cM_undo 4 = .ok (.ifCond .ne 5, 3) := by decide +kernel
theorem ddM_undo_7 : decode cM_undo 7 = .ok (.iconst (-1), 1) := by decide +kernel
theorem ddM_undo_8 : decode cM_undo 8 = .ok (.ireturn, 1) := by decide +kernel
theorem ddM_undo_9 : decode cM_undo 9 = .ok (.aload_n 0, 1) := by decide +kernel
theorem ddM_undo_10 : decode cM_undo 10 = .ok (.dup, 1) := by decide +kernel
theorem ddM_undo_11 : decode cM_undo 11 = .ok (.getfield 147, 3) := by decide +kernel
theorem ddM_undo_14 : decode cM_undo 14 = .ok (.iconst 1, 1) := by decide +kernel
theorem ddM_undo_15 : decode cM_undo 15 = .ok (.isub, 1) := by decide +kernel
theorem ddM_undo_16 : decode cM_undo 16 = .ok (.putfield 147, 3) := by decide +kernel
theorem ddM_undo_19 : decode cM_undo 19 = .ok (.iconst 0, 1) := by decide +kernel
theorem ddM_undo_20 : decode cM_undo 20 = .ok (.istore_n 1, 1) := by decide +kernel
theorem ddM_undo_21 : decode cM_undo 21 = .ok (.iload_n 1, 1) := by decide +kernel
theorem ddM_undo_22 : decode cM_undo 22 = .ok (.sipush 3893, 3) := by decide +kernel
theorem ddM_undo_25 : decode cM_undo 25 = .ok (.if_icmp .ge 30, 3) := by decide +kernel
theorem ddM_undo_28 : decode cM_undo 28 = .ok (.aload_n 0, 1) := by decide +kernel
theorem ddM_undo_29 : decode cM_undo 29 = .ok (.getfield 31, 3) := by decide +kernel
theorem ddM_undo_32 : decode cM_undo 32 = .ok (.iload_n 1, 1) := by decide +kernel
theorem ddM_undo_33 : decode cM_undo 33 = .ok (.aload_n 0, 1) := by decide +kernel
theorem ddM_undo_34 : decode cM_undo 34 = .ok (.getfield 54, 3) := by decide +kernel
theorem ddM_undo_37 : decode cM_undo 37 = .ok (.sipush 3893, 3) := by decide +kernel
theorem ddM_undo_40 : decode cM_undo 40 = .ok (.aload_n 0, 1) := by decide +kernel
theorem ddM_undo_41 : decode cM_undo 41 = .ok (.getfield 147, 3) := by decide +kernel
theorem ddM_undo_44 : decode cM_undo 44 = .ok (.imul, 1) := by decide +kernel
theorem ddM_undo_45 : decode cM_undo 45 = .ok (.iload_n 1, 1) := by decide +kernel
theorem ddM_undo_46 : decode cM_undo 46 = .ok (.iadd, 1) := by decide +kernel
theorem ddM_undo_47 : decode cM_undo 47 = .ok (.iaload, 1) := by decide +kernel
theorem ddM_undo_48 : decode cM_undo 48 = .ok (.iastore, 1) := by decide +kernel
theorem ddM_undo_49 : decode cM_undo 49 = .ok (.iinc 1 1, 3) := by decide +kernel
theorem ddM_undo_52 : decode cM_undo 52 = .ok (.goto (-31), 3) := by decide +kernel
theorem ddM_undo_55 : decode cM_undo 55 = .ok (.aload_n 0, 1) := by decide +kernel
theorem ddM_undo_56 : decode cM_undo 56 = .ok (.getfield 147, 3) := by decide +kernel
theorem ddM_undo_59 : decode cM_undo 59 = .ok (.ireturn, 1) := by decide +kernel
set_option maxHeartbeats 2000000 in
theorem zBM_undo_21 {G : GXM} {X : CxM} (hG : GokM G) (C : CoM G X cM_undo "HomeFreedModel") (N : mLM X = 2) {d : Nat} (hD : dpM X = d) (hd : 0 ≤ d) {v0 : Nat} {K : Nat → Int32 → Mem → Option ((Int32 × Mem))} {q : (Int32 × Mem)} (hK : ∀ (v1 : Int32) (M : Mem), K v0 v1 M = some q → ZM G X 21 [(0, .ref v0), (1, .int v1)] [] M 0 0) (hr : ∀ r : Int32 × Mem, q =  r → EnM G X (some .int) (some (.int r.1)) r.2 0 0) {v1 : Int32} {M : Mem} (h : BM_undo_21 K v0 v1 M = some q) : ZM G X 21 [(0, .ref v0), (1, .int v1)] [] M 0 0 := by
  unfold BM_undo_21 at h
  refine zz_iload_n C 1 ddM_undo_21 rfl rfl ?_
  refine zz_sipush (v := 3893) C ddM_undo_22 (by decide) ?_
  refine zz_icmp_ge (tgt := 55) C ddM_undo_25 rfl (fun hc => ?_) (fun hc => ?_)
  · replace h := iteT h hc
    refine zz_aload_n C 0 ddM_undo_55 rfl rfl ?_
    obtain ⟨h1, h⟩ := gdN h
    refine zz_geti C ddM_undo_56 fl_M_147 rfl h1 ?_
    exact zz_iret C (hr _ (Option.some.inj h).symm) ddM_undo_59
  · replace h := iteF h hc
    refine zz_aload_n C 0 ddM_undo_28 rfl rfl ?_
    obtain ⟨h2, h⟩ := gdN h
    obtain ⟨h3, h⟩ := gdN h
    refine zz_getr C ddM_undo_29 fl_M_31 rfl h2 (of_decide_eq_true h3) ?_
    refine zz_iload_n C 1 ddM_undo_32 rfl rfl ?_
    refine zz_aload_n C 0 ddM_undo_33 rfl rfl ?_
    obtain ⟨h4, h⟩ := gdN h
    refine zz_getr C ddM_undo_34 fl_M_54 rfl h2 (of_decide_eq_true h4) ?_
    refine zz_sipush (v := 3893) C ddM_undo_37 (by decide) ?_
    refine zz_aload_n C 0 ddM_undo_40 rfl rfl ?_
    refine zz_geti C ddM_undo_41 fl_M_147 rfl h2 ?_
    refine zz_imul C ddM_undo_44 ?_
    refine zz_iload_n C 1 ddM_undo_45 rfl rfl ?_
    refine zz_iadd C ddM_undo_46 ?_
    obtain ⟨h5, h⟩ := gdN h
    refine zz_iaload C ddM_undo_47 h5 ?_
    obtain ⟨h6, h⟩ := gdN h
    refine zz_iastore C ddM_undo_48 h6 ?_
    refine zz_iinc (v := v1 + 1) (L1 := [(1, .int (v1 + 1)), (0, .ref v0)]) C 1 ddM_undo_49 rfl rfl N (by decide) rfl ?_
    refine zz_goto (tgt := 21) C ddM_undo_52 rfl ?_
    refine zz_loc (L1 := [(0, .ref v0), (1, .int (v1 + 1))]) [1, 0] rfl ?_
    exact hK _ _ h
set_option maxHeartbeats 2000000 in
theorem zLM_undo_21 {G : GXM} {X : CxM} (hG : GokM G) (C : CoM G X cM_undo "HomeFreedModel") (N : mLM X = 2) {d : Nat} (hD : dpM X = d) (hd : 0 ≤ d) {v0 : Nat} {q : (Int32 × Mem)} : ∀ (f : Nat) (v1 : Int32) (M : Mem), LM_undo_21 f v0 v1 M = some q → (hr : ∀ r : Int32 × Mem, q =  r → EnM G X (some .int) (some (.int r.1)) r.2 0 0) → ZM G X 21 [(0, .ref v0), (1, .int v1)] [] M 0 0 := by
  intro f
  induction f with
  | zero => intro v1 M h; cases h
  | succ f ih =>
    intro v1 M h hr
    exact zBM_undo_21 hG C N hD hd (K := LM_undo_21 f) (q := q) (fun v1 M h => ih v1 M h hr) hr h
set_option maxHeartbeats 2000000 in
theorem xM_undo {G : GXM} {l : Launch} (hG : GokM G) (d : Nat) (hd : 0 ≤ d) {v0 : Nat} {M : Mem} {q : Int32 × Mem} (h : fM_undo v0 M = some q) : ExM G l d 0 0 yM_undo cM_undo 2 (some .int) [.ref v0] M (some (.int q.1)) q.2 := by
  refine ex_of hG (by decide +kernel) (Nat.le_of_ble_eq_true rfl) ?_
  intro X hl C E N hD hn
  show ZM G X 0 [(0, .ref v0)] [] M 0 0
  unfold fM_undo at h
  refine zz_aload_n C 0 ddM_undo_0 rfl rfl ?_
  obtain ⟨h1, h⟩ := gdN h
  refine zz_geti C ddM_undo_1 fl_M_147 rfl h1 ?_
  refine zz_if_ne (tgt := 9) C ddM_undo_4 rfl (fun hc => ?_) (fun hc => ?_)
  · replace h := iteF h hc
    refine zz_aload_n C 0 ddM_undo_9 rfl rfl ?_
    refine zz_dup C ddM_undo_10 rfl ?_
    refine zz_geti C ddM_undo_11 fl_M_147 rfl h1 ?_
    refine zz_iconst (v := 1) C ddM_undo_14 (by decide) ?_
    refine zz_isub C ddM_undo_15 ?_
    refine zz_puti C ddM_undo_16 fl_M_147 rfl rfl rfl h1 ?_
    refine zz_iconst (v := 0) C ddM_undo_19 (by decide) ?_
    refine zz_istore_n (L1 := [(1, .int 0), (0, .ref v0)]) C ddM_undo_20 rfl N (by decide) rfl ?_
    refine zz_loc (L1 := [(0, .ref v0), (1, .int 0)]) [1, 0] rfl ?_
    obtain ⟨q2, hq2, h⟩ := bindN h
    refine zLM_undo_21 hG C N hD hd 1000000 _ _ hq2 ?_
    · intro r3 eq2; replace eq2 := eq2.symm; subst eq2
      obtain rfl := Option.some.inj h
      exact E
  · replace h := iteT h hc
    refine zz_iconst (v := (-1)) C ddM_undo_7 (by decide) ?_
    obtain rfl := Option.some.inj h
    exact zz_iret C E ddM_undo_8
theorem ddM_log_0 : decode cM_log 0 = .ok (.iload_n 1, 1) := by decide +kernel
theorem ddM_log_1 : decode cM_log 1 = .ok (.iconst 0, 1) := by decide +kernel
theorem ddM_log_2 : decode cM_log 2 = .ok (.aload_n 0, 1) := by decide +kernel
theorem ddM_log_3 : decode cM_log 3 = .ok (.getfield 31, 3) := by decide +kernel
theorem ddM_log_6 : decode cM_log 6 = .ok (.sipush 3712, 3) := by decide +kernel
theorem ddM_log_9 : decode cM_log 9 = .ok (.iaload, 1) := by decide +kernel
theorem ddM_log_10 : decode cM_log 10 = .ok (.iconst 1, 1) := by decide +kernel
theorem ddM_log_11 : decode cM_log 11 = .ok (.isub, 1) := by decide +kernel
theorem ddM_log_12 : decode cM_log 12 = .ok (.invokestatic 75, 3) := by decide +kernel
theorem ddM_log_15 : decode cM_log 15 = .ok (.ifCond .eq 40, 3) := by decide +kernel
theorem ddM_log_18 : decode cM_log 18 = .ok (.iload_n 2, 1) := by decide +kernel
theorem ddM_log_19 : decode cM_log 19 = .ok (.iconst 0, 1) := by decide +kernel
theorem ddM_log_20 : decode cM_log 20 = .ok (.iconst 2, 1) := by decide +kernel
theorem ddM_log_21 : decode cM_log 21 = .ok (.invokestatic 75, 3) := by decide +kernel
theorem ddM_log_24 : decode cM_log 24 = .ok (.ifCond .eq 31, 3) := by decide +kernel
theorem ddM_log_27 : decode cM_log 27 = .ok (.aload_n 0, 1) := by decide +kernel
theorem ddM_log_28 : decode cM_log 28 = .ok (.getfield 31, 3) := by decide +kernel
theorem ddM_log_31 : decode cM_log 31 = .ok (.sipush 3713, 3) := by decide +kernel
theorem ddM_log_34 : decode cM_log 34 = .ok (.iconst 3, 1) := by decide +kernel
theorem ddM_log_35 : decode cM_log 35 = .ok (.aload_n 0, 1) := by decide +kernel
theorem ddM_log_36 : decode cM_log 36 = .ok (.getfield 31, 3) := by decide +kernel
theorem ddM_log_39 : decode cM_log 39 = .ok (.sipush 3712, 3) := by decide +kernel
theorem ddM_log_42 : decode cM_log 42 = .ok (.iaload, 1) := by decide +kernel
theorem ddM_log_43 : decode cM_log 43 = .ok (.iconst 1, 1) := by decide +kernel
theorem ddM_log_44 : decode cM_log 44 = .ok (.isub, 1) := by decide +kernel
theorem ddM_log_45 : decode cM_log 45 = .ok (.iload_n 1, 1) := by decide +kernel
theorem ddM_log_46 : decode cM_log 46 = .ok (.isub, 1) := by decide +kernel
theorem ddM_log_47 : decode cM_log 47 = .ok (.imul, 1) := by decide +kernel
theorem ddM_log_48 : decode cM_log 48 = .ok (.iadd, 1) := by decide +kernel
theorem ddM_log_49 : decode cM_log 49 = .ok (.iload_n 2, 1) := by decide +kernel
theorem ddM_log_50 : decode cM_log 50 = .ok (.iadd, 1) := by decide +kernel
theorem ddM_log_51 : decode cM_log 51 = .ok (.iaload, 1) := by decide +kernel
theorem ddM_log_52 : decode cM_log 52 = .ok (.goto 4, 3) := by decide +kernel
theorem ddM_log_55 : decode cM_log 55 = .ok (.iconst (-1), 1) := by decide +kernel
theorem ddM_log_56 : decode cM_log 56 = .ok (.ireturn, 1) := by decide +kernel
set_option maxHeartbeats 2000000 in
theorem zBM_log_56 {G : GXM} {X : CxM} (hG : GokM G) (C : CoM G X cM_log "HomeFreedModel") (N : mLM X = 3) {d : Nat} (hD : dpM X = d) (hd : 1 ≤ d)  {q : Int32 × Mem} (E : EnM G X (some .int) (some (.int q.1)) q.2 0 0) {w0 : Int32} {M : Mem} (h : BM_log_56 w0 M = some q) : ZM G X 56 [] [.int w0] M 0 0 := by
  unfold BM_log_56 at h
  obtain rfl := Option.some.inj h
  exact zz_iret C E ddM_log_56
set_option maxHeartbeats 2000000 in
theorem zBM_log_55 {G : GXM} {X : CxM} (hG : GokM G) (C : CoM G X cM_log "HomeFreedModel") (N : mLM X = 3) {d : Nat} (hD : dpM X = d) (hd : 1 ≤ d)  {q : Int32 × Mem} (E : EnM G X (some .int) (some (.int q.1)) q.2 0 0) {M : Mem} (h : BM_log_55 M = some q) : ZM G X 55 [] [] M 0 0 := by
  unfold BM_log_55 at h
  refine zz_iconst (v := (-1)) C ddM_log_55 (by decide) ?_
  exact zBM_log_56 hG C N hD hd E h
set_option maxHeartbeats 2000000 in
theorem xM_log {G : GXM} {l : Launch} (hG : GokM G) (d : Nat) (hd : 1 ≤ d) {v0 : Nat} {v1 : Int32} {v2 : Int32} {M : Mem} {q : Int32 × Mem} (h : fM_log v0 v1 v2 M = some q) : ExM G l d 0 0 yM_log cM_log 3 (some .int) [.ref v0, .int v1, .int v2] M (some (.int q.1)) q.2 := by
  refine ex_of hG (by decide +kernel) (Nat.le_of_ble_eq_true rfl) ?_
  intro X hl C E N hD hn
  show ZM G X 0 [(0, .ref v0), (1, .int v1), (2, .int v2)] [] M 0 0
  unfold fM_log at h
  refine zz_iload_n C 1 ddM_log_0 rfl rfl ?_
  refine zz_iconst (v := 0) C ddM_log_1 (by decide) ?_
  refine zz_aload_n C 0 ddM_log_2 rfl rfl ?_
  obtain ⟨h1, h⟩ := gdN h
  obtain ⟨h2, h⟩ := gdN h
  refine zz_getr C ddM_log_3 fl_M_31 rfl h1 (of_decide_eq_true h2) ?_
  refine zz_sipush (v := 3712) C ddM_log_6 (by decide) ?_
  obtain ⟨h3, h⟩ := gdN h
  refine zz_iaload C ddM_log_9 h3 ?_
  refine zz_iconst (v := 1) C ddM_log_10 (by decide) ?_
  refine zz_isub C ddM_log_11 ?_
  obtain ⟨q4, hq4, h⟩ := bindN h
  refine zz_callS0 (As := [.int v1, .int 0, .int ((giM M (grM M v0 15) (Int32.toNatClampNeg 3712)) - 1)]) C ddM_log_12 wd_1289 my_M_in mv_M_in (xM_in hG (d - 1) (by omega) hq4) (by omega) rfl rfl (Nat.le_of_ble_eq_true rfl) ?_
  refine zz_if_eq (tgt := 55) C ddM_log_15 rfl (fun hc => ?_) (fun hc => ?_)
  · replace h := iteT h hc
    refine zz_loc (L1 := []) [] rfl ?_
    exact zBM_log_55 hG C N hD hd E h
  · replace h := iteF h hc
    refine zz_iload_n C 2 ddM_log_18 rfl rfl ?_
    refine zz_iconst (v := 0) C ddM_log_19 (by decide) ?_
    refine zz_iconst (v := 2) C ddM_log_20 (by decide) ?_
    obtain ⟨q5, hq5, h⟩ := bindN h
    refine zz_callS0 (As := [.int v2, .int 0, .int 2]) C ddM_log_21 wd_1289 my_M_in mv_M_in (xM_in hG (d - 1) (by omega) hq5) (by omega) rfl rfl (Nat.le_of_ble_eq_true rfl) ?_
    refine zz_if_eq (tgt := 55) C ddM_log_24 rfl (fun hc => ?_) (fun hc => ?_)
    · replace h := iteT h hc
      refine zz_loc (L1 := []) [] rfl ?_
      exact zBM_log_55 hG C N hD hd E h
    · replace h := iteF h hc
      refine zz_aload_n C 0 ddM_log_27 rfl rfl ?_
      obtain ⟨h6, h⟩ := gdN h
      obtain ⟨h7, h⟩ := gdN h
      refine zz_getr C ddM_log_28 fl_M_31 rfl h6 (of_decide_eq_true h7) ?_
      refine zz_sipush (v := 3713) C ddM_log_31 (by decide) ?_
      refine zz_iconst (v := 3) C ddM_log_34 (by decide) ?_
      refine zz_aload_n C 0 ddM_log_35 rfl rfl ?_
      refine zz_getr C ddM_log_36 fl_M_31 rfl h6 (of_decide_eq_true h7) ?_
      refine zz_sipush (v := 3712) C ddM_log_39 (by decide) ?_
      obtain ⟨h8, h⟩ := gdN h
      refine zz_iaload C ddM_log_42 h8 ?_
      refine zz_iconst (v := 1) C ddM_log_43 (by decide) ?_
      refine zz_isub C ddM_log_44 ?_
      refine zz_iload_n C 1 ddM_log_45 rfl rfl ?_
      refine zz_isub C ddM_log_46 ?_
      refine zz_imul C ddM_log_47 ?_
      refine zz_iadd C ddM_log_48 ?_
      refine zz_iload_n C 2 ddM_log_49 rfl rfl ?_
      refine zz_iadd C ddM_log_50 ?_
      obtain ⟨h9, h⟩ := gdN h
      refine zz_iaload C ddM_log_51 h9 ?_
      refine zz_goto (tgt := 56) C ddM_log_52 rfl ?_
      refine zz_loc (L1 := []) [] rfl ?_
      exact zBM_log_56 hG C N hD hd E h
theorem ddM_step_0 : decode cM_step 0 = .ok (.iload_n 1, 1) := by decide +kernel
theorem ddM_step_1 : decode cM_step 1 = .ok (.iconst 0, 1) := by decide +kernel
theorem ddM_step_2 : decode cM_step 2 = .ok (.aload_n 0, 1) := by decide +kernel
theorem ddM_step_3 : decode cM_step 3 = .ok (.getfield 157, 3) := by decide +kernel
theorem ddM_step_6 : decode cM_step 6 = .ok (.iconst 1, 1) := by decide +kernel
theorem ddM_step_7 : decode cM_step 7 = .ok (.isub, 1) := by decide +kernel
theorem ddM_step_8 : decode cM_step 8 = .ok (.invokestatic 75, 3) := by decide +kernel
theorem ddM_step_11 : decode cM_step 11 = .ok (.ifCond .eq 38, 3) := by decide +kernel
theorem ddM_step_14 : decode cM_step 14 = .ok (.iload_n 2, 1) := by decide +kernel
theorem ddM_step_15 : decode cM_step 15 = .ok (.iconst 0, 1) := by decide +kernel
theorem ddM_step_16 : decode cM_step 16 = .ok (.aload_n 0, 1) := by decide +kernel
theorem ddM_step_17 : decode cM_step 17 = .ok (.getfield 28, 3) := by decide +kernel
theorem ddM_step_20 : decode cM_step 20 = .ok (.iload_n 1, 1) := by decide +kernel
theorem ddM_step_21 : decode cM_step 21 = .ok (.iaload, 1) := by decide +kernel
theorem ddM_step_22 : decode cM_step 22 = .ok (.iconst 1, 1) := by decide +kernel
theorem ddM_step_23 : decode cM_step 23 = .ok (.isub, 1) := by decide +kernel
theorem ddM_step_24 : decode cM_step 24 = .ok (.invokestatic 75, 3) := by decide +kernel
theorem ddM_step_27 : decode cM_step 27 = .ok (.ifCond .eq 22, 3) := by decide +kernel
theorem ddM_step_30 : decode cM_step 30 = .ok (.iload_n 3, 1) := by decide +kernel
theorem ddM_step_31 : decode cM_step 31 = .ok (.iconst 0, 1) := by decide +kernel
theorem ddM_step_32 : decode cM_step 32 = .ok (.iconst 2, 1) := by decide +kernel
theorem ddM_step_33 : decode cM_step 33 = .ok (.invokestatic 75, 3) := by decide +kernel
theorem ddM_step_36 : decode cM_step 36 = .ok (.ifCond .eq 13, 3) := by decide +kernel
theorem ddM_step_39 : decode cM_step 39 = .ok (.aload_n 0, 1) := by decide +kernel
theorem ddM_step_40 : decode cM_step 40 = .ok (.iload_n 1, 1) := by decide +kernel
theorem ddM_step_41 : decode cM_step 41 = .ok (.iload_n 2, 1) := by decide +kernel
theorem ddM_step_42 : decode cM_step 42 = .ok (.iload_n 3, 1) := by decide +kernel
theorem ddM_step_43 : decode cM_step 43 = .ok (.invokevirtual 256, 3) := by decide +kernel
theorem ddM_step_46 : decode cM_step 46 = .ok (.goto 6, 3) := by decide +kernel
theorem ddM_step_49 : decode cM_step 49 = .ok (.ldc_w 347, 3) := by decide +kernel
theorem ddM_step_52 : decode cM_step 52 = .ok (.ireturn, 1) := by decide +kernel
set_option maxHeartbeats 2000000 in
theorem zBM_step_52 {G : GXM} {X : CxM} (hG : GokM G) (C : CoM G X cM_step "HomeFreedModel") (N : mLM X = 4) {d : Nat} (hD : dpM X = d) (hd : 1 ≤ d)  {q : Int32 × Mem} (E : EnM G X (some .int) (some (.int q.1)) q.2 0 0) {w0 : Int32} {M : Mem} (h : BM_step_52 w0 M = some q) : ZM G X 52 [] [.int w0] M 0 0 := by
  unfold BM_step_52 at h
  obtain rfl := Option.some.inj h
  exact zz_iret C E ddM_step_52
set_option maxHeartbeats 2000000 in
theorem zBM_step_49 {G : GXM} {X : CxM} (hG : GokM G) (C : CoM G X cM_step "HomeFreedModel") (N : mLM X = 4) {d : Nat} (hD : dpM X = d) (hd : 1 ≤ d)  {q : Int32 × Mem} (E : EnM G X (some .int) (some (.int q.1)) q.2 0 0) {M : Mem} (h : BM_step_49 M = some q) : ZM G X 49 [] [] M 0 0 := by
  unfold BM_step_49 at h
  refine zz_ldcw C ddM_step_49 wd_1657 rfl ?_
  exact zBM_step_52 hG C N hD hd E h
set_option maxHeartbeats 2000000 in
theorem xM_step {G : GXM} {l : Launch} (hG : GokM G) (d : Nat) (hd : 1 ≤ d) {v0 : Nat} {v1 : Int32} {v2 : Int32} {v3 : Int32} {M : Mem} {q : Int32 × Mem} (h : fM_step v0 v1 v2 v3 M = some q) : ExM G l d 0 0 yM_step cM_step 4 (some .int) [.ref v0, .int v1, .int v2, .int v3] M (some (.int q.1)) q.2 := by
  refine ex_of hG (by decide +kernel) (Nat.le_of_ble_eq_true rfl) ?_
  intro X hl C E N hD hn
  show ZM G X 0 [(0, .ref v0), (1, .int v1), (2, .int v2), (3, .int v3)] [] M 0 0
  unfold fM_step at h
  refine zz_iload_n C 1 ddM_step_0 rfl rfl ?_
  refine zz_iconst (v := 0) C ddM_step_1 (by decide) ?_
  refine zz_aload_n C 0 ddM_step_2 rfl rfl ?_
  obtain ⟨h1, h⟩ := gdN h
  refine zz_geti C ddM_step_3 fl_M_157 rfl h1 ?_
  refine zz_iconst (v := 1) C ddM_step_6 (by decide) ?_
  refine zz_isub C ddM_step_7 ?_
  obtain ⟨q2, hq2, h⟩ := bindN h
  refine zz_callS0 (As := [.int v1, .int 0, .int ((giM M v0 13) - 1)]) C ddM_step_8 wd_1289 my_M_in mv_M_in (xM_in hG (d - 1) (by omega) hq2) (by omega) rfl rfl (Nat.le_of_ble_eq_true rfl) ?_
  refine zz_if_eq (tgt := 49) C ddM_step_11 rfl (fun hc => ?_) (fun hc => ?_)
  · replace h := iteT h hc
    refine zz_loc (L1 := []) [] rfl ?_
    exact zBM_step_49 hG C N hD hd E h
  · replace h := iteF h hc
    refine zz_iload_n C 2 ddM_step_14 rfl rfl ?_
    refine zz_iconst (v := 0) C ddM_step_15 (by decide) ?_
    refine zz_aload_n C 0 ddM_step_16 rfl rfl ?_
    obtain ⟨h3, h⟩ := gdN h
    obtain ⟨h4, h⟩ := gdN h
    refine zz_getr C ddM_step_17 fl_M_28 rfl h3 (of_decide_eq_true h4) ?_
    refine zz_iload_n C 1 ddM_step_20 rfl rfl ?_
    obtain ⟨h5, h⟩ := gdN h
    refine zz_iaload C ddM_step_21 h5 ?_
    refine zz_iconst (v := 1) C ddM_step_22 (by decide) ?_
    refine zz_isub C ddM_step_23 ?_
    obtain ⟨q6, hq6, h⟩ := bindN h
    refine zz_callS0 (As := [.int v2, .int 0, .int ((giM q2.2 (grM q2.2 v0 12) (Int32.toNatClampNeg v1)) - 1)]) C ddM_step_24 wd_1289 my_M_in mv_M_in (xM_in hG (d - 1) (by omega) hq6) (by omega) rfl rfl (Nat.le_of_ble_eq_true rfl) ?_
    refine zz_if_eq (tgt := 49) C ddM_step_27 rfl (fun hc => ?_) (fun hc => ?_)
    · replace h := iteT h hc
      refine zz_loc (L1 := []) [] rfl ?_
      exact zBM_step_49 hG C N hD hd E h
    · replace h := iteF h hc
      refine zz_iload_n C 3 ddM_step_30 rfl rfl ?_
      refine zz_iconst (v := 0) C ddM_step_31 (by decide) ?_
      refine zz_iconst (v := 2) C ddM_step_32 (by decide) ?_
      obtain ⟨q7, hq7, h⟩ := bindN h
      refine zz_callS0 (As := [.int v3, .int 0, .int 2]) C ddM_step_33 wd_1289 my_M_in mv_M_in (xM_in hG (d - 1) (by omega) hq7) (by omega) rfl rfl (Nat.le_of_ble_eq_true rfl) ?_
      refine zz_if_eq (tgt := 49) C ddM_step_36 rfl (fun hc => ?_) (fun hc => ?_)
      · replace h := iteT h hc
        refine zz_loc (L1 := []) [] rfl ?_
        exact zBM_step_49 hG C N hD hd E h
      · replace h := iteF h hc
        refine zz_aload_n C 0 ddM_step_39 rfl rfl ?_
        refine zz_iload_n C 1 ddM_step_40 rfl rfl ?_
        refine zz_iload_n C 2 ddM_step_41 rfl rfl ?_
        refine zz_iload_n C 3 ddM_step_42 rfl rfl ?_
        obtain ⟨h9, h⟩ := gdN h
        obtain ⟨q8, hq8, h⟩ := bindN h
        refine zz_callV0 (As := [.int v1, .int v2, .int v3]) C ddM_step_43 wd_1599 my_M_stepOf mv_M_stepOf ⟨_, rfl, rfl⟩ (xM_stepOf hG (d - 1) (by omega) hq8) (by omega) h9 rfl rfl (Nat.le_of_ble_eq_true rfl) ?_
        refine zz_goto (tgt := 52) C ddM_step_46 rfl ?_
        refine zz_loc (L1 := []) [] rfl ?_
        exact zBM_step_52 hG C N hD hd E h
theorem ddM_worst_0 : decode cM_worst 0 = .ok (.iconst 1, 1) := by decide +kernel
theorem ddM_worst_1 : decode cM_worst 1 = .ok (.istore_n 1, 1) := by decide +kernel
theorem ddM_worst_2 : decode cM_worst 2 = .ok (.iconst 2, 1) := by decide +kernel
theorem ddM_worst_3 : decode cM_worst 3 = .ok (.istore_n 2, 1) := by decide +kernel
theorem ddM_worst_4 : decode cM_worst 4 = .ok (.iload_n 2, 1) := by decide +kernel
theorem ddM_worst_5 : decode cM_worst 5 = .ok (.aload_n 0, 1) := by decide +kernel
theorem ddM_worst_6 : decode cM_worst 6 = .ok (.getfield 22, 3) := by decide +kernel
theorem ddM_worst_9 : decode cM_worst 9 = .ok (.aload_n 0, 1) := by decide +kernel
theorem ddM_worst_10 : decode cM_worst 10 = .ok (.getfield 144, 3) := by decide +kernel
theorem ddM_worst_13 : decode cM_worst 13 = .ok (.iconst 1, 1) := by decide +kernel
theorem ddM_worst_14 : decode cM_worst 14 = .ok (.isub, 1) := by decide +kernel
theorem ddM_worst_15 : decode cM_worst 15 = .ok (.iaload, 1) := by decide +kernel
theorem ddM_worst_16 : decode cM_worst 16 = .ok (.if_icmp .gt 53, 3) := by decide +kernel
theorem ddM_worst_19 : decode cM_worst 19 = .ok (.aload_n 0, 1) := by decide +kernel
theorem ddM_worst_20 : decode cM_worst 20 = .ok (.getfield 22, 3) := by decide +kernel
theorem ddM_worst_23 : decode cM_worst 23 = .ok (.aload_n 0, 1) := by decide +kernel
theorem ddM_worst_24 : decode cM_worst 24 = .ok (.iload_n 2, 1) := by decide +kernel
theorem ddM_worst_25 : decode cM_worst 25 = .ok (.invokevirtual 263, 3) := by decide +kernel
theorem ddM_worst_28 : decode cM_worst 28 = .ok (.iaload, 1) := by decide +kernel
theorem ddM_worst_29 : decode cM_worst 29 = .ok (.istore_n 3, 1) := by decide +kernel
theorem ddM_worst_30 : decode cM_worst 30 = .ok (.aload_n 0, 1) := by decide +kernel
theorem ddM_worst_31 : decode cM_worst 31 = .ok (.getfield 22, 3) := by decide +kernel
theorem ddM_worst_34 : decode cM_worst 34 = .ok (.aload_n 0, 1) := by decide +kernel
theorem ddM_worst_35 : decode cM_worst 35 = .ok (.iload_n 1, 1) := by decide +kernel
theorem ddM_worst_36 : decode cM_worst 36 = .ok (.invokevirtual 263, 3) := by decide +kernel
theorem ddM_worst_39 : decode cM_worst 39 = .ok (.iaload, 1) := by decide +kernel
theorem ddM_worst_40 : decode cM_worst 40 = .ok (.istore 4, 2) := by decide +kernel
theorem ddM_worst_42 : decode cM_worst 42 = .ok (.iload_n 3, 1) := by decide +kernel
theorem ddM_worst_43 : decode cM_worst 43 = .ok (.iload_n 2, 1) := by decide +kernel
theorem ddM_worst_44 : decode cM_worst 44 = .ok (.isub, 1) := by decide +kernel
theorem ddM_worst_45 : decode cM_worst 45 = .ok (.iload 4, 2) := by decide +kernel
theorem ddM_worst_47 : decode cM_worst 47 = .ok (.imul, 1) := by decide +kernel
theorem ddM_worst_48 : decode cM_worst 48 = .ok (.iload 4, 2) := by decide +kernel
theorem ddM_worst_50 : decode cM_worst 50 = .ok (.iload_n 1, 1) := by decide +kernel
theorem ddM_worst_51 : decode cM_worst 51 = .ok (.isub, 1) := by decide +kernel
theorem ddM_worst_52 : decode cM_worst 52 = .ok (.iload_n 3, 1) := by decide +kernel
theorem ddM_worst_53 : decode cM_worst 53 = .ok (.imul, 1) := by decide +kernel
theorem ddM_worst_54 : decode cM_worst 54 = .ok (.if_icmp .le 7, 3) := by decide +kernel
theorem ddM_worst_57 : decode cM_worst 57 = .ok (.iload_n 2, 1) := by decide +kernel
theorem ddM_worst_58 : decode cM_worst 58 = .ok (.goto 4, 3) := by decide +kernel
theorem ddM_worst_61 : decode cM_worst 61 = .ok (.iload_n 1, 1) := by decide +kernel
theorem ddM_worst_62 : decode cM_worst 62 = .ok (.istore_n 1, 1) := by decide +kernel
theorem ddM_worst_63 : decode cM_worst 63 = .ok (.iinc 2 1, 3) := by decide +kernel
theorem ddM_worst_66 : decode cM_worst 66 = .ok (.goto (-62), 3) := by decide +kernel
theorem ddM_worst_69 : decode cM_worst 69 = .ok (.iload_n 1, 1) := by decide +kernel
theorem ddM_worst_70 : decode cM_worst 70 = .ok (.ireturn, 1) := by decide +kernel
set_option maxHeartbeats 2000000 in
theorem zBM_worst_62 {G : GXM} {X : CxM} (hG : GokM G) (C : CoM G X cM_worst "HomeFreedModel") (N : mLM X = 5) {d : Nat} (hD : dpM X = d) (hd : 1 ≤ d) {v0 : Nat} {K : Nat → Int32 → Int32 → Mem → Option ((Int32 × Mem))} {q : (Int32 × Mem)} (hK : ∀ (v1 : Int32) (v2 : Int32) (M : Mem), K v0 v1 v2 M = some q → ZM G X 4 [(0, .ref v0), (1, .int v1), (2, .int v2)] [] M 0 0) (hr : ∀ r : Int32 × Mem, q =  r → EnM G X (some .int) (some (.int r.1)) r.2 0 0) {v2 : Int32} {w0 : Int32} {M : Mem} (h : BM_worst_62 K v0 v2 w0 M = some q) : ZM G X 62 [(0, .ref v0), (2, .int v2)] [.int w0] M 0 0 := by
  unfold BM_worst_62 at h
  refine zz_istore_n (L1 := [(1, .int w0), (0, .ref v0), (2, .int v2)]) C ddM_worst_62 rfl N (by decide) rfl ?_
  refine zz_iinc (v := v2 + 1) (L1 := [(2, .int (v2 + 1)), (1, .int w0), (0, .ref v0)]) C 2 ddM_worst_63 rfl rfl N (by decide) rfl ?_
  refine zz_goto (tgt := 4) C ddM_worst_66 rfl ?_
  refine zz_loc (L1 := [(0, .ref v0), (1, .int w0), (2, .int (v2 + 1))]) [2, 1, 0] rfl ?_
  exact hK _ _ _ h
set_option maxHeartbeats 2000000 in
theorem zBM_worst_4 {G : GXM} {X : CxM} (hG : GokM G) (C : CoM G X cM_worst "HomeFreedModel") (N : mLM X = 5) {d : Nat} (hD : dpM X = d) (hd : 1 ≤ d) {v0 : Nat} {K : Nat → Int32 → Int32 → Mem → Option ((Int32 × Mem))} {q : (Int32 × Mem)} (hK : ∀ (v1 : Int32) (v2 : Int32) (M : Mem), K v0 v1 v2 M = some q → ZM G X 4 [(0, .ref v0), (1, .int v1), (2, .int v2)] [] M 0 0) (hr : ∀ r : Int32 × Mem, q =  r → EnM G X (some .int) (some (.int r.1)) r.2 0 0) {v1 : Int32} {v2 : Int32} {M : Mem} (h : BM_worst_4 K v0 v1 v2 M = some q) : ZM G X 4 [(0, .ref v0), (1, .int v1), (2, .int v2)] [] M 0 0 := by
  unfold BM_worst_4 at h
  refine zz_iload_n C 2 ddM_worst_4 rfl rfl ?_
  refine zz_aload_n C 0 ddM_worst_5 rfl rfl ?_
  obtain ⟨h1, h⟩ := gdN h
  obtain ⟨h2, h⟩ := gdN h
  refine zz_getr C ddM_worst_6 fl_M_22 rfl h1 (of_decide_eq_true h2) ?_
  refine zz_aload_n C 0 ddM_worst_9 rfl rfl ?_
  refine zz_geti C ddM_worst_10 fl_M_144 rfl h1 ?_
  refine zz_iconst (v := 1) C ddM_worst_13 (by decide) ?_
  refine zz_isub C ddM_worst_14 ?_
  obtain ⟨h3, h⟩ := gdN h
  refine zz_iaload C ddM_worst_15 h3 ?_
  refine zz_icmp_gt (tgt := 69) C ddM_worst_16 rfl (fun hc => ?_) (fun hc => ?_)
  · replace h := iteT h hc
    refine zz_iload_n C 1 ddM_worst_69 rfl rfl ?_
    exact zz_iret C (hr _ (Option.some.inj h).symm) ddM_worst_70
  · replace h := iteF h hc
    refine zz_aload_n C 0 ddM_worst_19 rfl rfl ?_
    refine zz_getr C ddM_worst_20 fl_M_22 rfl h1 (of_decide_eq_true h2) ?_
    refine zz_aload_n C 0 ddM_worst_23 rfl rfl ?_
    refine zz_iload_n C 2 ddM_worst_24 rfl rfl ?_
    obtain ⟨q4, hq4, h⟩ := bindN h
    refine zz_callV0 (As := [.int v2]) C ddM_worst_25 wd_1459 my_M_classFor mv_M_classFor ⟨_, rfl, rfl⟩ (xM_classFor hG (d - 1) (by omega) hq4) (by omega) h1 rfl rfl (Nat.le_of_ble_eq_true rfl) ?_
    obtain ⟨h5, h⟩ := gdN h
    refine zz_iaload C ddM_worst_28 h5 ?_
    refine zz_istore_n (L1 := [(3, .int (giM q4.2 (grM M v0 9) (Int32.toNatClampNeg q4.1))), (0, .ref v0), (1, .int v1), (2, .int v2)]) C ddM_worst_29 rfl N (by decide) rfl ?_
    refine zz_aload_n C 1 ddM_worst_30 rfl rfl ?_
    obtain ⟨h6, h⟩ := gdN h
    obtain ⟨h7, h⟩ := gdN h
    refine zz_getr C ddM_worst_31 fl_M_22 rfl h6 (of_decide_eq_true h7) ?_
    refine zz_aload_n C 1 ddM_worst_34 rfl rfl ?_
    refine zz_iload_n C 2 ddM_worst_35 rfl rfl ?_
    obtain ⟨q8, hq8, h⟩ := bindN h
    refine zz_callV0 (As := [.int v1]) C ddM_worst_36 wd_1459 my_M_classFor mv_M_classFor ⟨_, rfl, rfl⟩ (xM_classFor hG (d - 1) (by omega) hq8) (by omega) h6 rfl rfl (Nat.le_of_ble_eq_true rfl) ?_
    obtain ⟨h9, h⟩ := gdN h
    refine zz_iaload C ddM_worst_39 h9 ?_
    refine zz_istore (L1 := [(4, .int (giM q8.2 (grM q4.2 v0 9) (Int32.toNatClampNeg q8.1))), (3, .int (giM q4.2 (grM M v0 9) (Int32.toNatClampNeg q4.1))), (0, .ref v0), (1, .int v1), (2, .int v2)]) C ddM_worst_40 N (by decide) rfl ?_
    refine zz_iload_n C 1 ddM_worst_42 rfl rfl ?_
    refine zz_iload_n C 4 ddM_worst_43 rfl rfl ?_
    refine zz_isub C ddM_worst_44 ?_
    refine zz_iload C 0 ddM_worst_45 rfl ?_
    refine zz_imul C ddM_worst_47 ?_
    refine zz_iload C 0 ddM_worst_48 rfl ?_
    refine zz_iload_n C 3 ddM_worst_50 rfl rfl ?_
    refine zz_isub C ddM_worst_51 ?_
    refine zz_iload_n C 1 ddM_worst_52 rfl rfl ?_
    refine zz_imul C ddM_worst_53 ?_
    refine zz_icmp_le (tgt := 61) C ddM_worst_54 rfl (fun hc => ?_) (fun hc => ?_)
    · replace h := iteT h hc
      refine zz_iload_n C 3 ddM_worst_61 rfl rfl ?_
      refine zz_loc (L1 := [(0, .ref v0), (2, .int v2)]) [2, 4] rfl ?_
      exact zBM_worst_62 hG C N hD hd hK hr h
    · replace h := iteF h hc
      refine zz_iload_n C 4 ddM_worst_57 rfl rfl ?_
      refine zz_goto (tgt := 62) C ddM_worst_58 rfl ?_
      refine zz_loc (L1 := [(0, .ref v0), (2, .int v2)]) [2, 4] rfl ?_
      exact zBM_worst_62 hG C N hD hd hK hr h
set_option maxHeartbeats 2000000 in
theorem zLM_worst_4 {G : GXM} {X : CxM} (hG : GokM G) (C : CoM G X cM_worst "HomeFreedModel") (N : mLM X = 5) {d : Nat} (hD : dpM X = d) (hd : 1 ≤ d) {v0 : Nat} {q : (Int32 × Mem)} : ∀ (f : Nat) (v1 : Int32) (v2 : Int32) (M : Mem), LM_worst_4 f v0 v1 v2 M = some q → (hr : ∀ r : Int32 × Mem, q =  r → EnM G X (some .int) (some (.int r.1)) r.2 0 0) → ZM G X 4 [(0, .ref v0), (1, .int v1), (2, .int v2)] [] M 0 0 := by
  intro f
  induction f with
  | zero => intro v1 v2 M h; cases h
  | succ f ih =>
    intro v1 v2 M h hr
    exact zBM_worst_4 hG C N hD hd (K := LM_worst_4 f) (q := q) (fun v1 v2 M h => ih v1 v2 M h hr) hr h
set_option maxHeartbeats 2000000 in
theorem xM_worst {G : GXM} {l : Launch} (hG : GokM G) (d : Nat) (hd : 1 ≤ d) {v0 : Nat} {M : Mem} {q : Int32 × Mem} (h : fM_worst v0 M = some q) : ExM G l d 0 0 yM_worst cM_worst 5 (some .int) [.ref v0] M (some (.int q.1)) q.2 := by
  refine ex_of hG (by decide +kernel) (Nat.le_of_ble_eq_true rfl) ?_
  intro X hl C E N hD hn
  show ZM G X 0 [(0, .ref v0)] [] M 0 0
  unfold fM_worst at h
  refine zz_iconst (v := 1) C ddM_worst_0 (by decide) ?_
  refine zz_istore_n (L1 := [(1, .int 1), (0, .ref v0)]) C ddM_worst_1 rfl N (by decide) rfl ?_
  refine zz_iconst (v := 2) C ddM_worst_2 (by decide) ?_
  refine zz_istore_n (L1 := [(2, .int 2), (1, .int 1), (0, .ref v0)]) C ddM_worst_3 rfl N (by decide) rfl ?_
  refine zz_loc (L1 := [(0, .ref v0), (1, .int 1), (2, .int 2)]) [2, 1, 0] rfl ?_
  obtain ⟨q1, hq1, h⟩ := bindN h
  refine zLM_worst_4 hG C N hD hd 1000000 _ _ _ hq1 ?_
  · intro r2 eq1; replace eq1 := eq1.symm; subst eq1
    obtain rfl := Option.some.inj h
    exact E
theorem ddM_waste_0 : decode cM_waste 0 = .ok (.aload_n 0, 1) := by decide +kernel
theorem ddM_waste_1 : decode cM_waste 1 = .ok (.invokevirtual 160, 3) := by decide +kernel
theorem ddM_waste_4 : decode cM_waste 4 = .ok (.ifCond .eq 26, 3) := by decide +kernel
theorem ddM_waste_7 : decode cM_waste 7 = .ok (.iload_n 1, 1) := by decide +kernel
theorem ddM_waste_8 : decode cM_waste 8 = .ok (.iconst 0, 1) := by decide +kernel
theorem ddM_waste_9 : decode cM_waste 9 = .ok (.bipush 40, 2) := by decide +kernel
theorem ddM_waste_11 : decode cM_waste 11 = .ok (.invokestatic 75, 3) := by decide +kernel
theorem ddM_waste_14 : decode cM_waste 14 = .ok (.ifCond .eq 16, 3) := by decide +kernel
theorem ddM_waste_17 : decode cM_waste 17 = .ok (.iload_n 1, 1) := by decide +kernel
theorem ddM_waste_18 : decode cM_waste 18 = .ok (.ifCond .le 14, 3) := by decide +kernel
theorem ddM_waste_21 : decode cM_waste 21 = .ok (.aload_n 0, 1) := by decide +kernel
theorem ddM_waste_22 : decode cM_waste 22 = .ok (.iload_n 1, 1) := by decide +kernel
theorem ddM_waste_23 : decode cM_waste 23 = .ok (.invokevirtual 263, 3) := by decide +kernel
theorem ddM_waste_26 : decode cM_waste 26 = .ok (.iconst (-1), 1) := by decide +kernel
theorem ddM_waste_27 : decode cM_waste 27 = .ok (.if_icmp .ne 5, 3) := by decide +kernel
theorem ddM_waste_30 : decode cM_waste 30 = .ok (.iconst (-1), 1) := by decide +kernel
theorem ddM_waste_31 : decode cM_waste 31 = .ok (.ireturn, 1) := by decide +kernel
theorem ddM_waste_32 : decode cM_waste 32 = .ok (.iload_n 1, 1) := by decide +kernel
theorem ddM_waste_33 : decode cM_waste 33 = .ok (.ifCond .ne 10, 3) := by decide +kernel
theorem ddM_waste_36 : decode cM_waste 36 = .ok (.aload_n 0, 1) := by decide +kernel
theorem ddM_waste_37 : decode cM_waste 37 = .ok (.invokevirtual 348, 3) := by decide +kernel
theorem ddM_waste_40 : decode cM_waste 40 = .ok (.goto 15, 3) := by decide +kernel
theorem ddM_waste_43 : decode cM_waste 43 = .ok (.aload_n 0, 1) := by decide +kernel
theorem ddM_waste_44 : decode cM_waste 44 = .ok (.getfield 22, 3) := by decide +kernel
theorem ddM_waste_47 : decode cM_waste 47 = .ok (.aload_n 0, 1) := by decide +kernel
theorem ddM_waste_48 : decode cM_waste 48 = .ok (.iload_n 1, 1) := by decide +kernel
theorem ddM_waste_49 : decode cM_waste 49 = .ok (.invokevirtual 263, 3) := by decide +kernel
theorem ddM_waste_52 : decode cM_waste 52 = .ok (.iaload, 1) := by decide +kernel
theorem ddM_waste_53 : decode cM_waste 53 = .ok (.iload_n 1, 1) := by decide +kernel
theorem ddM_waste_54 : decode cM_waste 54 = .ok (.isub, 1) := by decide +kernel
theorem ddM_waste_55 : decode cM_waste 55 = .ok (.ireturn, 1) := by decide +kernel
set_option maxHeartbeats 2000000 in
theorem zBM_waste_55 {G : GXM} {X : CxM} (hG : GokM G) (C : CoM G X cM_waste "HomeFreedModel") (N : mLM X = 2) {d : Nat} (hD : dpM X = d) (hd : 2 ≤ d)  {q : Int32 × Mem} (E : EnM G X (some .int) (some (.int q.1)) q.2 0 0) {w0 : Int32} {M : Mem} (h : BM_waste_55 w0 M = some q) : ZM G X 55 [] [.int w0] M 0 0 := by
  unfold BM_waste_55 at h
  obtain rfl := Option.some.inj h
  exact zz_iret C E ddM_waste_55
set_option maxHeartbeats 2000000 in
theorem zBM_waste_32 {G : GXM} {X : CxM} (hG : GokM G) (C : CoM G X cM_waste "HomeFreedModel") (N : mLM X = 2) {d : Nat} (hD : dpM X = d) (hd : 2 ≤ d)  {q : Int32 × Mem} (E : EnM G X (some .int) (some (.int q.1)) q.2 0 0) {v0 : Nat} {v1 : Int32} {M : Mem} (h : BM_waste_32 v0 v1 M = some q) : ZM G X 32 [(0, .ref v0), (1, .int v1)] [] M 0 0 := by
  unfold BM_waste_32 at h
  refine zz_iload_n C 1 ddM_waste_32 rfl rfl ?_
  refine zz_if_ne (tgt := 43) C ddM_waste_33 rfl (fun hc => ?_) (fun hc => ?_)
  · replace h := iteF h hc
    refine zz_aload_n C 0 ddM_waste_43 rfl rfl ?_
    obtain ⟨h1, h⟩ := gdN h
    obtain ⟨h2, h⟩ := gdN h
    refine zz_getr C ddM_waste_44 fl_M_22 rfl h1 (of_decide_eq_true h2) ?_
    refine zz_aload_n C 0 ddM_waste_47 rfl rfl ?_
    refine zz_iload_n C 1 ddM_waste_48 rfl rfl ?_
    obtain ⟨q3, hq3, h⟩ := bindN h
    refine zz_callV0 (As := [.int v1]) C ddM_waste_49 wd_1459 my_M_classFor mv_M_classFor ⟨_, rfl, rfl⟩ (xM_classFor hG (d - 1) (by omega) hq3) (by omega) h1 rfl rfl (Nat.le_of_ble_eq_true rfl) ?_
    obtain ⟨h4, h⟩ := gdN h
    refine zz_iaload C ddM_waste_52 h4 ?_
    refine zz_iload_n C 1 ddM_waste_53 rfl rfl ?_
    refine zz_isub C ddM_waste_54 ?_
    refine zz_loc (L1 := []) [] rfl ?_
    exact zBM_waste_55 hG C N hD hd E h
  · replace h := iteT h hc
    refine zz_aload_n C 0 ddM_waste_36 rfl rfl ?_
    obtain ⟨h6, h⟩ := gdN h
    obtain ⟨q5, hq5, h⟩ := bindN h
    refine zz_callV0 (As := []) C ddM_waste_37 wd_1662 my_M_worst mv_M_worst ⟨_, rfl, rfl⟩ (xM_worst hG (d - 1) (by omega) hq5) (by omega) h6 rfl rfl (Nat.le_of_ble_eq_true rfl) ?_
    refine zz_goto (tgt := 55) C ddM_waste_40 rfl ?_
    refine zz_loc (L1 := []) [] rfl ?_
    exact zBM_waste_55 hG C N hD hd E h
set_option maxHeartbeats 2000000 in
theorem zBM_waste_30 {G : GXM} {X : CxM} (hG : GokM G) (C : CoM G X cM_waste "HomeFreedModel") (N : mLM X = 2) {d : Nat} (hD : dpM X = d) (hd : 2 ≤ d)  {q : Int32 × Mem} (E : EnM G X (some .int) (some (.int q.1)) q.2 0 0) {M : Mem} (h : BM_waste_30 M = some q) : ZM G X 30 [] [] M 0 0 := by
  unfold BM_waste_30 at h
  refine zz_iconst (v := (-1)) C ddM_waste_30 (by decide) ?_
  obtain rfl := Option.some.inj h
  exact zz_iret C E ddM_waste_31
set_option maxHeartbeats 2000000 in
theorem xM_waste {G : GXM} {l : Launch} (hG : GokM G) (d : Nat) (hd : 2 ≤ d) {v0 : Nat} {v1 : Int32} {M : Mem} {q : Int32 × Mem} (h : fM_waste v0 v1 M = some q) : ExM G l d 0 0 yM_waste cM_waste 2 (some .int) [.ref v0, .int v1] M (some (.int q.1)) q.2 := by
  refine ex_of hG (by decide +kernel) (Nat.le_of_ble_eq_true rfl) ?_
  intro X hl C E N hD hn
  show ZM G X 0 [(0, .ref v0), (1, .int v1)] [] M 0 0
  unfold fM_waste at h
  refine zz_aload_n C 0 ddM_waste_0 rfl rfl ?_
  obtain ⟨h2, h⟩ := gdN h
  obtain ⟨q1, hq1, h⟩ := bindN h
  refine zz_callV0 (As := []) C ddM_waste_1 wd_1362 my_M_isArena mv_M_isArena ⟨_, rfl, rfl⟩ (xM_isArena hG (d - 1) (by omega) hq1) (by omega) h2 rfl rfl (Nat.le_of_ble_eq_true rfl) ?_
  refine zz_if_eq (tgt := 30) C ddM_waste_4 rfl (fun hc => ?_) (fun hc => ?_)
  · replace h := iteT h hc
    refine zz_loc (L1 := []) [] rfl ?_
    exact zBM_waste_30 hG C N hD hd E h
  · replace h := iteF h hc
    refine zz_iload_n C 1 ddM_waste_7 rfl rfl ?_
    refine zz_iconst (v := 0) C ddM_waste_8 (by decide) ?_
    refine zz_bipush (v := 40) C ddM_waste_9 (by decide) ?_
    obtain ⟨q3, hq3, h⟩ := bindN h
    refine zz_callS0 (As := [.int v1, .int 0, .int 40]) C ddM_waste_11 wd_1289 my_M_in mv_M_in (xM_in hG (d - 1) (by omega) hq3) (by omega) rfl rfl (Nat.le_of_ble_eq_true rfl) ?_
    refine zz_if_eq (tgt := 30) C ddM_waste_14 rfl (fun hc => ?_) (fun hc => ?_)
    · replace h := iteT h hc
      refine zz_loc (L1 := []) [] rfl ?_
      exact zBM_waste_30 hG C N hD hd E h
    · replace h := iteF h hc
      refine zz_iload_n C 1 ddM_waste_17 rfl rfl ?_
      refine zz_if_le (tgt := 32) C ddM_waste_18 rfl (fun hc => ?_) (fun hc => ?_)
      · replace h := iteT h hc
        exact zBM_waste_32 hG C N hD hd E h
      · replace h := iteF h hc
        refine zz_aload_n C 0 ddM_waste_21 rfl rfl ?_
        refine zz_iload_n C 1 ddM_waste_22 rfl rfl ?_
        obtain ⟨h5, h⟩ := gdN h
        obtain ⟨q4, hq4, h⟩ := bindN h
        refine zz_callV0 (As := [.int v1]) C ddM_waste_23 wd_1459 my_M_classFor mv_M_classFor ⟨_, rfl, rfl⟩ (xM_classFor hG (d - 1) (by omega) hq4) (by omega) h5 rfl rfl (Nat.le_of_ble_eq_true rfl) ?_
        refine zz_iconst (v := (-1)) C ddM_waste_26 (by decide) ?_
        refine zz_icmp_ne (tgt := 32) C ddM_waste_27 rfl (fun hc => ?_) (fun hc => ?_)
        · replace h := iteF h hc
          exact zBM_waste_32 hG C N hD hd E h
        · replace h := iteT h hc
          refine zz_loc (L1 := []) [] rfl ?_
          exact zBM_waste_30 hG C N hD hd E h
theorem ddM_classes_0 : decode cM_classes 0 = .ok (.aload_n 0, 1) := by decide +kernel
theorem ddM_classes_1 : decode cM_classes 1 = .ok (.invokevirtual 160, 3) := by decide +kernel
theorem ddM_classes_4 : decode cM_classes 4 = .ok (.ifCond .eq 18, 3) := by decide +kernel
theorem ddM_classes_7 : decode cM_classes 7 = .ok (.iload_n 1, 1) := by decide +kernel
theorem ddM_classes_8 : decode cM_classes 8 = .ok (.iconst 0, 1) := by decide +kernel
theorem ddM_classes_9 : decode cM_classes 9 = .ok (.bipush 90, 2) := by decide +kernel
theorem ddM_classes_11 : decode cM_classes 11 = .ok (.invokestatic 75, 3) := by decide +kernel
theorem ddM_classes_14 : decode cM_classes 14 = .ok (.ifCond .eq 8, 3) := by decide +kernel
theorem ddM_classes_17 : decode cM_classes 17 = .ok (.iload_n 2, 1) := by decide +kernel
theorem ddM_classes_18 : decode cM_classes 18 = .ok (.iconst (-1), 1) := by decide +kernel
theorem ddM_classes_19 : decode cM_classes 19 = .ok (.if_icmp .ge 5, 3) := by decide +kernel
theorem ddM_classes_22 : decode cM_classes 22 = .ok (.iconst (-1), 1) := by decide +kernel
theorem ddM_classes_23 : decode cM_classes 23 = .ok (.ireturn, 1) := by decide +kernel
theorem ddM_classes_24 : decode cM_classes 24 = .ok (.iconst 1, 1) := by decide +kernel
theorem ddM_classes_25 : decode cM_classes 25 = .ok (.istore_n 3, 1) := by decide +kernel
theorem ddM_classes_26 : decode cM_classes 26 = .ok (.iconst 1, 1) := by decide +kernel
theorem ddM_classes_27 : decode cM_classes 27 = .ok (.istore 4, 2) := by decide +kernel
theorem ddM_classes_29 : decode cM_classes 29 = .ok (.iload_n 3, 1) := by decide +kernel
theorem ddM_classes_30 : decode cM_classes 30 = .ok (.aload_n 0, 1) := by decide +kernel
theorem ddM_classes_31 : decode cM_classes 31 = .ok (.getfield 19, 3) := by decide +kernel
theorem ddM_classes_34 : decode cM_classes 34 = .ok (.iconst 2, 1) := by decide +kernel
theorem ddM_classes_35 : decode cM_classes 35 = .ok (.iaload, 1) := by decide +kernel
theorem ddM_classes_36 : decode cM_classes 36 = .ok (.if_icmp .ge 72, 3) := by decide +kernel
theorem ddM_classes_39 : decode cM_classes 39 = .ok (.iload 4, 2) := by decide +kernel
theorem ddM_classes_41 : decode cM_classes 41 = .ok (.iconst 1, 1) := by decide +kernel
theorem ddM_classes_42 : decode cM_classes 42 = .ok (.isub, 1) := by decide +kernel
theorem ddM_classes_43 : decode cM_classes 43 = .ok (.iload_n 2, 1) := by decide +kernel
theorem ddM_classes_44 : decode cM_classes 44 = .ok (.if_icmp .eq 64, 3) := by decide +kernel
theorem ddM_classes_47 : decode cM_classes 47 = .ok (.iload_n 3, 1) := by decide +kernel
theorem ddM_classes_48 : decode cM_classes 48 = .ok (.iconst 1, 1) := by decide +kernel
theorem ddM_classes_49 : decode cM_classes 49 = .ok (.iadd, 1) := by decide +kernel
theorem ddM_classes_50 : decode cM_classes 50 = .ok (.istore 5, 2) := by decide +kernel
theorem ddM_classes_52 : decode cM_classes 52 = .ok (.iload_n 3, 1) := by decide +kernel
theorem ddM_classes_53 : decode cM_classes 53 = .ok (.iconst 1, 1) := by decide +kernel
theorem ddM_classes_54 : decode cM_classes 54 = .ok (.iadd, 1) := by decide +kernel
theorem ddM_classes_55 : decode cM_classes 55 = .ok (.istore 6, 2) := by decide +kernel
theorem ddM_classes_57 : decode cM_classes 57 = .ok (.iload 6, 2) := by decide +kernel
theorem ddM_classes_59 : decode cM_classes 59 = .ok (.aload_n 0, 1) := by decide +kernel
theorem ddM_classes_60 : decode cM_classes 60 = .ok (.getfield 19, 3) := by decide +kernel
theorem ddM_classes_63 : decode cM_classes 63 = .ok (.iconst 2, 1) := by decide +kernel
theorem ddM_classes_64 : decode cM_classes 64 = .ok (.iaload, 1) := by decide +kernel
theorem ddM_classes_65 : decode cM_classes 65 = .ok (.if_icmp .gt 34, 3) := by decide +kernel
theorem ddM_classes_68 : decode cM_classes 68 = .ok (.bipush 100, 2) := by decide +kernel
theorem ddM_classes_70 : decode cM_classes 70 = .ok (.iload 6, 2) := by decide +kernel
theorem ddM_classes_72 : decode cM_classes 72 = .ok (.iload_n 3, 1) := by decide +kernel
theorem ddM_classes_73 : decode cM_classes 73 = .ok (.isub, 1) := by decide +kernel
theorem ddM_classes_74 : decode cM_classes 74 = .ok (.iconst 1, 1) := by decide +kernel
theorem ddM_classes_75 : decode cM_classes 75 = .ok (.isub, 1) := by decide +kernel
theorem ddM_classes_76 : decode cM_classes 76 = .ok (.imul, 1) := by decide +kernel
theorem ddM_classes_77 : decode cM_classes 77 = .ok (.iload_n 1, 1) := by decide +kernel
theorem ddM_classes_78 : decode cM_classes 78 = .ok (.iload 6, 2) := by decide +kernel
theorem ddM_classes_80 : decode cM_classes 80 = .ok (.imul, 1) := by decide +kernel
theorem ddM_classes_81 : decode cM_classes 81 = .ok (.if_icmp .gt 8, 3) := by decide +kernel
theorem ddM_classes_84 : decode cM_classes 84 = .ok (.iload 6, 2) := by decide +kernel
theorem ddM_classes_86 : decode cM_classes 86 = .ok (.goto 5, 3) := by decide +kernel
theorem ddM_classes_89 : decode cM_classes 89 = .ok (.iload 5, 2) := by decide +kernel
theorem ddM_classes_91 : decode cM_classes 91 = .ok (.istore 5, 2) := by decide +kernel
theorem ddM_classes_93 : decode cM_classes 93 = .ok (.iinc 6 1, 3) := by decide +kernel
theorem ddM_classes_96 : decode cM_classes 96 = .ok (.goto (-39), 3) := by decide +kernel
theorem ddM_classes_99 : decode cM_classes 99 = .ok (.iload 5, 2) := by decide +kernel
theorem ddM_classes_101 : decode cM_classes 101 = .ok (.istore_n 3, 1) := by decide +kernel
theorem ddM_classes_102 : decode cM_classes 102 = .ok (.iinc 4 1, 3) := by decide +kernel
theorem ddM_classes_105 : decode cM_classes 105 = .ok (.goto (-76), 3) := by decide +kernel
theorem ddM_classes_108 : decode cM_classes 108 = .ok (.iload_n 2, 1) := by decide +kernel
theorem ddM_classes_109 : decode cM_classes 109 = .ok (.iconst (-1), 1) := by decide +kernel
theorem ddM_classes_110 : decode cM_classes 110 = .ok (.if_icmp .ne 8, 3) := by decide +kernel
theorem ddM_classes_113 : decode cM_classes 113 = .ok (.iload 4, 2) := by decide +kernel
theorem ddM_classes_115 : decode cM_classes 115 = .ok (.goto 16, 3) := by decide +kernel
theorem ddM_classes_118 : decode cM_classes 118 = .ok (.iload 4, 2) := by decide +kernel
theorem ddM_classes_120 : decode cM_classes 120 = .ok (.iconst 1, 1) := by decide +kernel
theorem ddM_classes_121 : decode cM_classes 121 = .ok (.isub, 1) := by decide +kernel
theorem ddM_classes_122 : decode cM_classes 122 = .ok (.iload_n 2, 1) := by decide +kernel
theorem ddM_classes_123 : decode cM_classes 123 = .ok (.if_icmp .ne 7, 3) := by decide +kernel
theorem ddM_classes_126 : decode cM_classes 126 = .ok (.iload_n 3, 1) := by decide +kernel
theorem ddM_classes_127 : decode cM_classes 127 = .ok (.goto 4, 3) := by decide +kernel
theorem ddM_classes_130 : decode cM_classes 130 = .ok (.iconst (-1), 1) := by decide +kernel
theorem ddM_classes_131 : decode cM_classes 131 = .ok (.ireturn, 1) := by decide +kernel
set_option maxHeartbeats 2000000 in
theorem zBM_classes_131 {G : GXM} {X : CxM} (hG : GokM G) (C : CoM G X cM_classes "HomeFreedModel") (N : mLM X = 7) {d : Nat} (hD : dpM X = d) (hd : 1 ≤ d)  {q : Int32 × Mem} (E : EnM G X (some .int) (some (.int q.1)) q.2 0 0) {w0 : Int32} {M : Mem} (h : BM_classes_131 w0 M = some q) : ZM G X 131 [] [.int w0] M 0 0 := by
  unfold BM_classes_131 at h
  obtain rfl := Option.some.inj h
  exact zz_iret C E ddM_classes_131
set_option maxHeartbeats 2000000 in
theorem zBM_classes_108 {G : GXM} {X : CxM} (hG : GokM G) (C : CoM G X cM_classes "HomeFreedModel") (N : mLM X = 7) {d : Nat} (hD : dpM X = d) (hd : 1 ≤ d)  {q : Int32 × Mem} (E : EnM G X (some .int) (some (.int q.1)) q.2 0 0) {v2 : Int32} {v3 : Int32} {v4 : Int32} {M : Mem} (h : BM_classes_108 v2 v3 v4 M = some q) : ZM G X 108 [(2, .int v2), (3, .int v3), (4, .int v4)] [] M 0 0 := by
  unfold BM_classes_108 at h
  refine zz_iload_n C 0 ddM_classes_108 rfl rfl ?_
  refine zz_iconst (v := (-1)) C ddM_classes_109 (by decide) ?_
  refine zz_icmp_ne (tgt := 118) C ddM_classes_110 rfl (fun hc => ?_) (fun hc => ?_)
  · replace h := iteF h hc
    refine zz_iload C 2 ddM_classes_118 rfl ?_
    refine zz_iconst (v := 1) C ddM_classes_120 (by decide) ?_
    refine zz_isub C ddM_classes_121 ?_
    refine zz_iload_n C 0 ddM_classes_122 rfl rfl ?_
    refine zz_icmp_ne (tgt := 130) C ddM_classes_123 rfl (fun hc => ?_) (fun hc => ?_)
    · replace h := iteF h hc
      refine zz_iconst (v := (-1)) C ddM_classes_130 (by decide) ?_
      refine zz_loc (L1 := []) [] rfl ?_
      exact zBM_classes_131 hG C N hD hd E h
    · replace h := iteT h hc
      refine zz_iload_n C 1 ddM_classes_126 rfl rfl ?_
      refine zz_goto (tgt := 131) C ddM_classes_127 rfl ?_
      refine zz_loc (L1 := []) [] rfl ?_
      exact zBM_classes_131 hG C N hD hd E h
  · replace h := iteT h hc
    refine zz_iload C 2 ddM_classes_113 rfl ?_
    refine zz_goto (tgt := 131) C ddM_classes_115 rfl ?_
    refine zz_loc (L1 := []) [] rfl ?_
    exact zBM_classes_131 hG C N hD hd E h
set_option maxHeartbeats 2000000 in
theorem zBM_classes_91 {G : GXM} {X : CxM} (hG : GokM G) (C : CoM G X cM_classes "HomeFreedModel") (N : mLM X = 7) {d : Nat} (hD : dpM X = d) (hd : 1 ≤ d) {v0 : Nat} {v1 : Int32} {v2 : Int32} {v3 : Int32} {v4 : Int32} {K : Nat → Int32 → Int32 → Int32 → Int32 → Int32 → Int32 → Mem → Option ((Int32 × Mem))} {q : (Int32 × Mem)} (hK : ∀ (v5 : Int32) (v6 : Int32) (M : Mem), K v0 v1 v2 v3 v4 v5 v6 M = some q → ZM G X 57 [(0, .ref v0), (1, .int v1), (2, .int v2), (3, .int v3), (4, .int v4), (5, .int v5), (6, .int v6)] [] M 0 0) (hx0 : ∀ y : Int32 × Mem, q = y → ZM G X 99 [(0, .ref v0), (1, .int v1), (2, .int v2), (4, .int v4), (5, .int y.1)] [] y.2 0 0) {v6 : Int32} {w0 : Int32} {M : Mem} (h : BM_classes_91 K v0 v1 v2 v3 v4 v6 w0 M = some q) : ZM G X 91 [(0, .ref v0), (1, .int v1), (2, .int v2), (3, .int v3), (4, .int v4), (6, .int v6)] [.int w0] M 0 0 := by
  unfold BM_classes_91 at h
  refine zz_istore (L1 := [(5, .int w0), (0, .ref v0), (1, .int v1), (2, .int v2), (3, .int v3), (4, .int v4), (6, .int v6)]) C ddM_classes_91 N (by decide) rfl ?_
  refine zz_iinc (v := v6 + 1) (L1 := [(6, .int (v6 + 1)), (5, .int w0), (0, .ref v0), (1, .int v1), (2, .int v2), (3, .int v3), (4, .int v4)]) C 6 ddM_classes_93 rfl rfl N (by decide) rfl ?_
  refine zz_goto (tgt := 57) C ddM_classes_96 rfl ?_
  refine zz_loc (L1 := [(0, .ref v0), (1, .int v1), (2, .int v2), (3, .int v3), (4, .int v4), (5, .int w0), (6, .int (v6 + 1))]) [2, 3, 4, 5, 6, 1, 0] rfl ?_
  exact hK _ _ _ h
set_option maxHeartbeats 2000000 in
theorem zBM_classes_57 {G : GXM} {X : CxM} (hG : GokM G) (C : CoM G X cM_classes "HomeFreedModel") (N : mLM X = 7) {d : Nat} (hD : dpM X = d) (hd : 1 ≤ d) {v0 : Nat} {v1 : Int32} {v2 : Int32} {v3 : Int32} {v4 : Int32} {K : Nat → Int32 → Int32 → Int32 → Int32 → Int32 → Int32 → Mem → Option ((Int32 × Mem))} {q : (Int32 × Mem)} (hK : ∀ (v5 : Int32) (v6 : Int32) (M : Mem), K v0 v1 v2 v3 v4 v5 v6 M = some q → ZM G X 57 [(0, .ref v0), (1, .int v1), (2, .int v2), (3, .int v3), (4, .int v4), (5, .int v5), (6, .int v6)] [] M 0 0) (hx0 : ∀ y : Int32 × Mem, q = y → ZM G X 99 [(0, .ref v0), (1, .int v1), (2, .int v2), (4, .int v4), (5, .int y.1)] [] y.2 0 0) {v5 : Int32} {v6 : Int32} {M : Mem} (h : BM_classes_57 K v0 v1 v2 v3 v4 v5 v6 M = some q) : ZM G X 57 [(0, .ref v0), (1, .int v1), (2, .int v2), (3, .int v3), (4, .int v4), (5, .int v5), (6, .int v6)] [] M 0 0 := by
  unfold BM_classes_57 at h
  refine zz_iload C 6 ddM_classes_57 rfl ?_
  refine zz_aload_n C 0 ddM_classes_59 rfl rfl ?_
  obtain ⟨h1, h⟩ := gdN h
  obtain ⟨h2, h⟩ := gdN h
  refine zz_getr C ddM_classes_60 fl_M_19 rfl h1 (of_decide_eq_true h2) ?_
  refine zz_iconst (v := 2) C ddM_classes_63 (by decide) ?_
  obtain ⟨h3, h⟩ := gdN h
  refine zz_iaload C ddM_classes_64 h3 ?_
  refine zz_icmp_gt (tgt := 99) C ddM_classes_65 rfl (fun hc => ?_) (fun hc => ?_)
  · replace h := iteT h hc
    refine zz_loc (L1 := [(0, .ref v0), (1, .int v1), (2, .int v2), (4, .int v4), (5, .int v5)]) [0, 1, 2, 4, 5] rfl ?_
    exact hx0 _ (Option.some.inj h).symm
  · replace h := iteF h hc
    refine zz_bipush (v := 100) C ddM_classes_68 (by decide) ?_
    refine zz_iload C 6 ddM_classes_70 rfl ?_
    refine zz_iload_n C 3 ddM_classes_72 rfl rfl ?_
    refine zz_isub C ddM_classes_73 ?_
    refine zz_iconst (v := 1) C ddM_classes_74 (by decide) ?_
    refine zz_isub C ddM_classes_75 ?_
    refine zz_imul C ddM_classes_76 ?_
    refine zz_iload_n C 1 ddM_classes_77 rfl rfl ?_
    refine zz_iload C 6 ddM_classes_78 rfl ?_
    refine zz_imul C ddM_classes_80 ?_
    refine zz_icmp_gt (tgt := 89) C ddM_classes_81 rfl (fun hc => ?_) (fun hc => ?_)
    · replace h := iteT h hc
      refine zz_iload C 5 ddM_classes_89 rfl ?_
      refine zz_loc (L1 := [(0, .ref v0), (1, .int v1), (2, .int v2), (3, .int v3), (4, .int v4), (6, .int v6)]) [0, 1, 2, 3, 4, 6] rfl ?_
      exact zBM_classes_91 hG C N hD hd hK hx0 h
    · replace h := iteF h hc
      refine zz_iload C 6 ddM_classes_84 rfl ?_
      refine zz_goto (tgt := 91) C ddM_classes_86 rfl ?_
      refine zz_loc (L1 := [(0, .ref v0), (1, .int v1), (2, .int v2), (3, .int v3), (4, .int v4), (6, .int v6)]) [0, 1, 2, 3, 4, 6] rfl ?_
      exact zBM_classes_91 hG C N hD hd hK hx0 h
set_option maxHeartbeats 2000000 in
theorem zLM_classes_57 {G : GXM} {X : CxM} (hG : GokM G) (C : CoM G X cM_classes "HomeFreedModel") (N : mLM X = 7) {d : Nat} (hD : dpM X = d) (hd : 1 ≤ d) {v0 : Nat} {v1 : Int32} {v2 : Int32} {v3 : Int32} {v4 : Int32} {q : (Int32 × Mem)} : ∀ (f : Nat) (v5 : Int32) (v6 : Int32) (M : Mem), LM_classes_57 f v0 v1 v2 v3 v4 v5 v6 M = some q → (hx0 : ∀ y : Int32 × Mem, q = y → ZM G X 99 [(0, .ref v0), (1, .int v1), (2, .int v2), (4, .int v4), (5, .int y.1)] [] y.2 0 0) → ZM G X 57 [(0, .ref v0), (1, .int v1), (2, .int v2), (3, .int v3), (4, .int v4), (5, .int v5), (6, .int v6)] [] M 0 0 := by
  intro f
  induction f with
  | zero => intro v5 v6 M h; cases h
  | succ f ih =>
    intro v5 v6 M h hx0
    exact zBM_classes_57 hG C N hD hd (K := LM_classes_57 f) (q := q) (fun v5 v6 M h => ih v5 v6 M h hx0) hx0 h
set_option maxHeartbeats 2000000 in
theorem zBM_classes_29 {G : GXM} {X : CxM} (hG : GokM G) (C : CoM G X cM_classes "HomeFreedModel") (N : mLM X = 7) {d : Nat} (hD : dpM X = d) (hd : 1 ≤ d) {v0 : Nat} {v1 : Int32} {v2 : Int32} {K : Nat → Int32 → Int32 → Int32 → Int32 → Mem → Option ((Int32 × Int32 × Mem))} {q : (Int32 × Int32 × Mem)} (hK : ∀ (v3 : Int32) (v4 : Int32) (M : Mem), K v0 v1 v2 v3 v4 M = some q → ZM G X 29 [(0, .ref v0), (1, .int v1), (2, .int v2), (3, .int v3), (4, .int v4)] [] M 0 0) (hx0 : ∀ y : Int32 × Int32 × Mem, q = y → ZM G X 108 [(2, .int v2), (3, .int y.1), (4, .int y.2.1)] [] y.2.2 0 0) {v3 : Int32} {v4 : Int32} {M : Mem} (h : BM_classes_29 K v0 v1 v2 v3 v4 M = some q) : ZM G X 29 [(0, .ref v0), (1, .int v1), (2, .int v2), (3, .int v3), (4, .int v4)] [] M 0 0 := by
  unfold BM_classes_29 at h
  refine zz_iload_n C 3 ddM_classes_29 rfl rfl ?_
  refine zz_aload_n C 0 ddM_classes_30 rfl rfl ?_
  obtain ⟨h1, h⟩ := gdN h
  obtain ⟨h2, h⟩ := gdN h
  refine zz_getr C ddM_classes_31 fl_M_19 rfl h1 (of_decide_eq_true h2) ?_
  refine zz_iconst (v := 2) C ddM_classes_34 (by decide) ?_
  obtain ⟨h3, h⟩ := gdN h
  refine zz_iaload C ddM_classes_35 h3 ?_
  refine zz_icmp_ge (tgt := 108) C ddM_classes_36 rfl (fun hc => ?_) (fun hc => ?_)
  · replace h := iteT h hc
    refine zz_loc (L1 := [(2, .int v2), (3, .int v3), (4, .int v4)]) [2, 3, 4] rfl ?_
    exact hx0 _ (Option.some.inj h).symm
  · replace h := iteF h hc
    refine zz_iload C 4 ddM_classes_39 rfl ?_
    refine zz_iconst (v := 1) C ddM_classes_41 (by decide) ?_
    refine zz_isub C ddM_classes_42 ?_
    refine zz_iload_n C 2 ddM_classes_43 rfl rfl ?_
    refine zz_icmp_eq (tgt := 108) C ddM_classes_44 rfl (fun hc => ?_) (fun hc => ?_)
    · replace h := iteT h hc
      refine zz_loc (L1 := [(2, .int v2), (3, .int v3), (4, .int v4)]) [2, 3, 4] rfl ?_
      exact hx0 _ (Option.some.inj h).symm
    · replace h := iteF h hc
      refine zz_iload_n C 3 ddM_classes_47 rfl rfl ?_
      refine zz_iconst (v := 1) C ddM_classes_48 (by decide) ?_
      refine zz_iadd C ddM_classes_49 ?_
      refine zz_istore (L1 := [(5, .int (v3 + 1)), (0, .ref v0), (1, .int v1), (2, .int v2), (3, .int v3), (4, .int v4)]) C ddM_classes_50 N (by decide) rfl ?_
      refine zz_iload_n C 4 ddM_classes_52 rfl rfl ?_
      refine zz_iconst (v := 1) C ddM_classes_53 (by decide) ?_
      refine zz_iadd C ddM_classes_54 ?_
      refine zz_istore (L1 := [(6, .int (v3 + 1)), (5, .int (v3 + 1)), (0, .ref v0), (1, .int v1), (2, .int v2), (3, .int v3), (4, .int v4)]) C ddM_classes_55 N (by decide) rfl ?_
      refine zz_loc (L1 := [(0, .ref v0), (1, .int v1), (2, .int v2), (3, .int v3), (4, .int v4), (5, .int (v3 + 1)), (6, .int (v3 + 1))]) [2, 3, 4, 5, 6, 1, 0] rfl ?_
      obtain ⟨q4, hq4, h⟩ := bindN h
      refine zLM_classes_57 hG C N hD hd 1000000 _ _ _ hq4 ?_
      · intro y5 eq4; replace eq4 := eq4.symm; subst eq4
        refine zz_iload C 4 ddM_classes_99 rfl ?_
        refine zz_istore_n (L1 := [(3, .int y5.1), (0, .ref v0), (1, .int v1), (2, .int v2), (4, .int v4), (5, .int y5.1)]) C ddM_classes_101 rfl N (by decide) rfl ?_
        refine zz_iinc (v := v4 + 1) (L1 := [(4, .int (v4 + 1)), (3, .int y5.1), (0, .ref v0), (1, .int v1), (2, .int v2), (5, .int y5.1)]) C 4 ddM_classes_102 rfl rfl N (by decide) rfl ?_
        refine zz_goto (tgt := 29) C ddM_classes_105 rfl ?_
        refine zz_loc (L1 := [(0, .ref v0), (1, .int v1), (2, .int v2), (3, .int y5.1), (4, .int (v4 + 1))]) [2, 3, 4, 1, 0] rfl ?_
        exact hK _ _ _ h
set_option maxHeartbeats 2000000 in
theorem zLM_classes_29 {G : GXM} {X : CxM} (hG : GokM G) (C : CoM G X cM_classes "HomeFreedModel") (N : mLM X = 7) {d : Nat} (hD : dpM X = d) (hd : 1 ≤ d) {v0 : Nat} {v1 : Int32} {v2 : Int32} {q : (Int32 × Int32 × Mem)} : ∀ (f : Nat) (v3 : Int32) (v4 : Int32) (M : Mem), LM_classes_29 f v0 v1 v2 v3 v4 M = some q → (hx0 : ∀ y : Int32 × Int32 × Mem, q = y → ZM G X 108 [(2, .int v2), (3, .int y.1), (4, .int y.2.1)] [] y.2.2 0 0) → ZM G X 29 [(0, .ref v0), (1, .int v1), (2, .int v2), (3, .int v3), (4, .int v4)] [] M 0 0 := by
  intro f
  induction f with
  | zero => intro v3 v4 M h; cases h
  | succ f ih =>
    intro v3 v4 M h hx0
    exact zBM_classes_29 hG C N hD hd (K := LM_classes_29 f) (q := q) (fun v3 v4 M h => ih v3 v4 M h hx0) hx0 h
set_option maxHeartbeats 2000000 in
theorem zBM_classes_22 {G : GXM} {X : CxM} (hG : GokM G) (C : CoM G X cM_classes "HomeFreedModel") (N : mLM X = 7) {d : Nat} (hD : dpM X = d) (hd : 1 ≤ d)  {q : Int32 × Mem} (E : EnM G X (some .int) (some (.int q.1)) q.2 0 0) {M : Mem} (h : BM_classes_22 M = some q) : ZM G X 22 [] [] M 0 0 := by
  unfold BM_classes_22 at h
  refine zz_iconst (v := (-1)) C ddM_classes_22 (by decide) ?_
  obtain rfl := Option.some.inj h
  exact zz_iret C E ddM_classes_23
set_option maxHeartbeats 2000000 in
theorem xM_classes {G : GXM} {l : Launch} (hG : GokM G) (d : Nat) (hd : 1 ≤ d) {v0 : Nat} {v1 : Int32} {v2 : Int32} {M : Mem} {q : Int32 × Mem} (h : fM_classes v0 v1 v2 M = some q) : ExM G l d 0 0 yM_classes cM_classes 7 (some .int) [.ref v0, .int v1, .int v2] M (some (.int q.1)) q.2 := by
  refine ex_of hG (by decide +kernel) (Nat.le_of_ble_eq_true rfl) ?_
  intro X hl C E N hD hn
  show ZM G X 0 [(0, .ref v0), (1, .int v1), (2, .int v2)] [] M 0 0
  unfold fM_classes at h
  refine zz_aload_n C 0 ddM_classes_0 rfl rfl ?_
  obtain ⟨h2, h⟩ := gdN h
  obtain ⟨q1, hq1, h⟩ := bindN h
  refine zz_callV0 (As := []) C ddM_classes_1 wd_1362 my_M_isArena mv_M_isArena ⟨_, rfl, rfl⟩ (xM_isArena hG (d - 1) (by omega) hq1) (by omega) h2 rfl rfl (Nat.le_of_ble_eq_true rfl) ?_
  refine zz_if_eq (tgt := 22) C ddM_classes_4 rfl (fun hc => ?_) (fun hc => ?_)
  · replace h := iteT h hc
    refine zz_loc (L1 := []) [] rfl ?_
    exact zBM_classes_22 hG C N hD hd E h
  · replace h := iteF h hc
    refine zz_iload_n C 1 ddM_classes_7 rfl rfl ?_
    refine zz_iconst (v := 0) C ddM_classes_8 (by decide) ?_
    refine zz_bipush (v := 90) C ddM_classes_9 (by decide) ?_
    obtain ⟨q3, hq3, h⟩ := bindN h
    refine zz_callS0 (As := [.int v1, .int 0, .int 90]) C ddM_classes_11 wd_1289 my_M_in mv_M_in (xM_in hG (d - 1) (by omega) hq3) (by omega) rfl rfl (Nat.le_of_ble_eq_true rfl) ?_
    refine zz_if_eq (tgt := 22) C ddM_classes_14 rfl (fun hc => ?_) (fun hc => ?_)
    · replace h := iteT h hc
      refine zz_loc (L1 := []) [] rfl ?_
      exact zBM_classes_22 hG C N hD hd E h
    · replace h := iteF h hc
      refine zz_iload_n C 2 ddM_classes_17 rfl rfl ?_
      refine zz_iconst (v := (-1)) C ddM_classes_18 (by decide) ?_
      refine zz_icmp_ge (tgt := 24) C ddM_classes_19 rfl (fun hc => ?_) (fun hc => ?_)
      · replace h := iteT h hc
        refine zz_iconst (v := 1) C ddM_classes_24 (by decide) ?_
        refine zz_istore_n (L1 := [(3, .int 1), (0, .ref v0), (1, .int v1), (2, .int v2)]) C ddM_classes_25 rfl N (by decide) rfl ?_
        refine zz_iconst (v := 1) C ddM_classes_26 (by decide) ?_
        refine zz_istore (L1 := [(4, .int 1), (3, .int 1), (0, .ref v0), (1, .int v1), (2, .int v2)]) C ddM_classes_27 N (by decide) rfl ?_
        refine zz_loc (L1 := [(0, .ref v0), (1, .int v1), (2, .int v2), (3, .int 1), (4, .int 1)]) [2, 3, 4, 1, 0] rfl ?_
        obtain ⟨q4, hq4, h⟩ := bindN h
        refine zLM_classes_29 hG C N hD hd 1000000 _ _ _ hq4 ?_
        · intro y5 eq4; replace eq4 := eq4.symm; subst eq4
          exact zBM_classes_108 hG C N hD hd E h
      · replace h := iteF h hc
        refine zz_loc (L1 := []) [] rfl ?_
        exact zBM_classes_22 hG C N hD hd E h
